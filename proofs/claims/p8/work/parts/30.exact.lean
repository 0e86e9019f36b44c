theorem zu_uu {f : Nat → Int32} {k : Nat} {x y : Int32} : upd (upd f k x) k y = upd f k y := by
  funext j; unfold upd; split <;> rfl
theorem zn_5 {i w y : Int32} (h : y.toInt = i.toInt * 5 + w.toInt) (hi : 0 ≤ i.toInt) (hw : 0 ≤ w.toInt) : Int32.toNatClampNeg y = 5 * Int32.toNatClampNeg i + Int32.toNatClampNeg w := by
  have := zn_nat hi
  have := zn_nat hw
  have := zn_nat (x := y) (by omega)
  omega
/-- kinds come behind the elder ones -/
def zkk (kz kz2 : Int32) (kf kf2 : Nat → Int32) : Prop := kz.toInt ≤ kz2.toInt ∧ ∀ k : Nat, (k : Int) < kz.toInt → kf2 k = kf k
theorem zkk_rf {kz : Int32} {kf : Nat → Int32} : zkk kz kz kf kf := ⟨Int.le_refl _, fun _ _ => rfl⟩
theorem zkk_add {kz kz2 : Int32} {kf kf2 : Nat → Int32} {x : Int32} (h0 : 0 ≤ kz.toInt) (h : kf2 = upd kf (Int32.toNatClampNeg kz) x) (hz : kz2.toInt = kz.toInt + 1) : zkk kz kz2 kf kf2 := ⟨by omega, fun k hk => by
  have := zn_nat h0
  rw [h, zu_n (by omega)]⟩
/-- a kind that is told to its end stays so -/
def zkt (kf kf2 : Nat → Int32) : Prop := ∀ k : Nat, (kf k).toInt ≠ -1 → kf2 k = kf k
theorem zkt_rf {kf : Nat → Int32} : zkt kf kf := fun _ _ => rfl
theorem zkt_up {kf kf2 : Nat → Int32} {j : Nat} {x : Int32} (h : kf2 = upd kf j x) (hj : (kf j).toInt = -1) : zkt kf kf2 := fun k hk => by
  rw [h, zu_n (show k ≠ j from fun e => hk (by rw [e]; exact hj))]
/-- names told stay, as many as there were at most grow -/
def zff (ff ff2 : Nat → Int32) : Prop := ∀ g : Nat, (ff (5 * g + 1)).toInt ≤ (ff2 (5 * g + 1)).toInt ∧ ff2 (5 * g) = ff (5 * g) ∧ (ff2 (5 * g + 1) = ff (5 * g + 1) ∨ (ff2 (5 * g + 1)).toInt ≤ 24)
theorem zff_rf {ff : Nat → Int32} : zff ff ff := fun _ => ⟨Int.le_refl _, rfl, Or.inl rfl⟩
theorem zff_tr {ff ff1 ff2 : Nat → Int32} (a : zff ff ff1) (b : zff ff1 ff2) : zff ff ff2 := fun g => ⟨Int.le_trans (a g).1 (b g).1, (b g).2.1.trans (a g).2.1, by
  rcases (b g).2.2 with q | q
  · rw [q]; exact (a g).2.2
  · exact Or.inr q⟩
theorem zff_ge {ff ff2 : Nat → Int32} {g w : Nat} {x : Int32} (h : ff2 = upd ff (5 * g + w) x) (hw : 2 ≤ w) (hw5 : w < 5) : zff ff ff2 := fun j => by
  rw [h, zu_n (by omega), zu_n (by omega)]; exact ⟨Int.le_refl _, rfl, Or.inl rfl⟩
theorem zff_1 {ff ff2 : Nat → Int32} {g : Nat} {x : Int32} (h : ff2 = upd ff (5 * g + 1) x) (hx : (ff (5 * g + 1)).toInt ≤ x.toInt) (h24 : x.toInt ≤ 24) : zff ff ff2 := fun j => by
  rw [h, zu_n (j := 5 * j) (by omega)]
  by_cases e : j = g
  · rw [e, zu_s]; exact ⟨hx, rfl, Or.inr h24⟩
  · rw [zu_n (by omega)]; exact ⟨Int.le_refl _, rfl, Or.inl rfl⟩
theorem zst_r {op a b nx op' a' b' nx' ak an ab al af kf ff : Nat → Int32} {cz ct cz' ct' az kz : Int32} : ∀ k, 4 ≤ k → k ≠ 11 → k ≠ 12 → zst op' a' b' nx' ak an ab al af kf ff cz' ct' az kz k = zst op a b nx ak an ab al af kf ff cz ct az kz k
  | 0, h, _, _ => absurd h (by decide)
  | 1, h, _, _ => absurd h (by decide)
  | 2, h, _, _ => absurd h (by decide)
  | 3, h, _, _ => absurd h (by decide)
  | 4, _, _, _ => rfl
  | 5, _, _, _ => rfl
  | 6, _, _, _ => rfl
  | 7, _, _, _ => rfl
  | 8, _, _, _ => rfl
  | 9, _, _, _ => rfl
  | 10, _, _, _ => rfl
  | 11, _, h, _ => absurd rfl h
  | 12, _, _, h => absurd rfl h
  | 13, _, _, _ => rfl
  | 14, _, _, _ => rfl
  | _ + 15, _, _, _ => rfl
theorem zap_mk {op a b nx op2 a2 b2 nx2 ak an ab al af kf ff : Nat → Int32} {cz ct cz2 ct2 az kz o x : Int32} (h1 : cz2.toInt = cz.toInt + 1) (h2 : ct2 = cz) (h3 : op2 = upd op (Int32.toNatClampNeg cz) o) (h4 : a2 = upd a (Int32.toNatClampNeg cz) x) (h5 : b2 = upd b (Int32.toNatClampNeg cz) (-1)) (h6 : nx2 = upd (upd nx (Int32.toNatClampNeg cz) (nx (Int32.toNatClampNeg ct))) (Int32.toNatClampNeg ct) cz) : zap (zst op a b nx ak an ab al af kf ff cz ct az kz) (zst op2 a2 b2 nx2 ak an ab al af kf ff cz2 ct2 az kz) o x := ⟨h1, h2, h3, h4, h5, h6, zst_r⟩
theorem zins_mk {S : Nat → Nat → Int32} {op a b nx op2 a2 b2 nx2 ak an ab al af kf ff : Nat → Int32} {cz ct cz2 ct2 az kz be : Int32} (hb : S 12 0 = be) (h1 : cz2.toInt = cz.toInt + 1) (h2 : ct2 = ct) (h3 : op2 = upd op (Int32.toNatClampNeg cz) 1) (h4 : a2 = upd a (Int32.toNatClampNeg cz) (-1)) (h5 : b2 = upd b (Int32.toNatClampNeg cz) (-1)) (h6 : nx2 = upd (upd nx (Int32.toNatClampNeg cz) (nx (Int32.toNatClampNeg be))) (Int32.toNatClampNeg be) cz) : zins S (zst op a b nx ak an ab al af kf ff cz ct az kz) (zst op2 a2 b2 nx2 ak an ab al af kf ff cz2 ct2 az kz) := ⟨h1, h2, h3, h4, h5, by rw [hb]; exact h6, zst_r⟩
theorem zfr_kn {op a b nx ak an ab al af kf ff kf2 ff2 : Nat → Int32} {cz ct az kz kz2 : Int32} {G : Nat → Nat → Int} (hz : kz.toInt ≤ kz2.toInt) (hk : ∀ k : Nat, (k : Int) < kz.toInt → (kf k).toInt ≠ -1 → kf2 k = kf k) (hf : zff ff ff2) : zfr (zst op a b nx ak an ab al af kf ff cz ct az kz) (zst op a b nx ak an ab al af kf2 ff2 cz ct az kz2) G G := ⟨Int.le_refl _, Int.le_refl _, hz, fun _ _ => ⟨rfl, rfl, rfl, fun _ _ => rfl⟩, fun _ _ => ⟨rfl, rfl, rfl, rfl, rfl, rfl⟩, hk, hf⟩
/-- calls stand within the tape -/
def zcp (op pl : Nat → Int32) (cz : Int32) : Prop := ∀ r : Nat, (r : Int) < cz.toInt → Int32.toNatClampNeg (op r) = 6 ∨ Int32.toNatClampNeg (op r) = 7 → (pl r).toInt < 2000
theorem zcp_ap {op pl op2 pl2 : Nat → Int32} {cz cz2 o wh : Int32} (h : zcp op pl cz) (e1 : op2 = upd op (Int32.toNatClampNeg cz) o) (e2 : pl2 = upd pl (Int32.toNatClampNeg cz) wh) (ez : cz2.toInt = cz.toInt + 1) (h0 : 0 ≤ cz.toInt) (ho : Int32.toNatClampNeg o = 6 ∨ Int32.toNatClampNeg o = 7 → wh.toInt < 2000) : zcp op2 pl2 cz2 := fun r hr g => by
  have hn := zn_nat h0
  rw [e2]
  rw [e1] at g
  by_cases u : r = Int32.toNatClampNeg cz
  · rw [u, zu_s] at g ⊢; exact ho g
  · rw [zu_n u] at g ⊢; exact h r (by omega) g
theorem zE_eq {S S2 : Nat → Nat → Int32} {G G2 : Nat → Nat → Int} {f : Nat} {h c h2 c2 h3 c3 : Int} {X T : List Nat} (k : zE S S2 G G2 f h c X T h2 c2) (e : h2 = h3) (e2 : c2 = c3) : zE S S2 G G2 f h c X T h3 c3 := e ▸ e2 ▸ k
/-- the tokens' places rise; what is at hand -/
def zpl (gs gp : Nat → Int32) (z : Int32) : Prop := (∀ i : Nat, (i : Int) < z.toInt → (gp i).toInt + 1 ≤ (gp (i + 1)).toInt ∧ (gs i = 261 → (gp i).toInt + 2 ≤ (gp (i + 1)).toInt)) ∧ 0 ≤ (gp 0).toInt ∧ (gp (Int32.toNatClampNeg z)).toInt ≤ 2000 ∧ gs (Int32.toNatClampNeg z) = 256
def zpt (gs gp : Nat → Int32) (z pa pl so : Int32) : Prop := zpl gs gp z ∧ pl = gp (Int32.toNatClampNeg pa) ∧ so = gs (Int32.toNatClampNeg pa)
theorem zpl_up {gs gp : Nat → Int32} {z : Int32} (h : zpl gs gp z) : ∀ (d i : Nat), (i : Int) + d ≤ z.toInt → (gp i).toInt + d ≤ (gp (i + d)).toInt
  | 0, i, _ => by simp
  | d + 1, i, hd => by
    have u := zpl_up h d i (by omega)
    have v := (h.1 (i + d) (by omega)).1
    show (gp i).toInt + ((d + 1 : Nat) : Int) ≤ (gp (i + d + 1)).toInt
    omega
/-- what is at hand lies within the tape -/
theorem zpt_rg {gs gp : Nat → Int32} {z pa pl so : Int32} (h : zpt gs gp z pa pl so) (h0 : 0 ≤ pa.toInt) (h1 : pa.toInt ≤ z.toInt) : 0 ≤ pl.toInt ∧ pl.toInt ≤ 2000 ∧ (pa.toInt < z.toInt → pl.toInt < 2000) ∧ (pa.toInt = z.toInt → so = 256) := by
  obtain ⟨hp, e1, e2⟩ := h
  have n1 := zn_nat h0
  have n2 := zn_nat (x := z) (by omega)
  have u := zpl_up hp (Int32.toNatClampNeg pa) 0 (by omega)
  have v := zpl_up hp (Int32.toNatClampNeg z - Int32.toNatClampNeg pa) (Int32.toNatClampNeg pa) (by omega)
  have e : Int32.toNatClampNeg pa + (Int32.toNatClampNeg z - Int32.toNatClampNeg pa) = Int32.toNatClampNeg z := by omega
  rw [e] at v
  rw [Nat.zero_add] at u
  have p0 := hp.2.1
  have p1 := hp.2.2.1
  rw [← e1] at u v
  refine ⟨by omega, by omega, fun g => by omega, fun g => ?_⟩
  rw [e2, show Int32.toNatClampNeg pa = Int32.toNatClampNeg z by omega]
  exact hp.2.2.2
/-- a token further -/
theorem zpt_ad {gs gp : Nat → Int32} {z pa pl so pa2 pl2 so2 : Int32} (h : zpt gs gp z pa pl so) (h0 : 0 ≤ pa.toInt) (h1 : pa.toInt ≤ z.toInt) (h2 : pa2.toInt = pa.toInt + 1 ∨ pa2.toInt = z.toInt ∧ pa.toInt = z.toInt) (e1 : pl2 = gp (Int32.toNatClampNeg pa2)) (e2 : so2 = gs (Int32.toNatClampNeg pa2)) (hz : pa2.toInt ≤ z.toInt) : zpt gs gp z pa2 pl2 so2 ∧ pl.toInt ≤ pl2.toInt ∧ (pa.toInt = z.toInt ∨ pl.toInt + 1 ≤ pl2.toInt) ∧ (so.toInt ≠ 261 ∨ pl.toInt + 2 ≤ pl2.toInt) := by
  have r := zpt_rg h h0 h1
  obtain ⟨hp, f1, f2⟩ := h
  have n1 := zn_nat h0
  have n2 := zn_nat (x := pa2) (by omega)
  refine ⟨⟨hp, e1, e2⟩, ?_⟩
  rcases Int.lt_or_eq_of_le h1 with g | g
  · have e : Int32.toNatClampNeg pa2 = Int32.toNatClampNeg pa + 1 := by omega
    have u := hp.1 (Int32.toNatClampNeg pa) (by omega)
    rw [← e, ← e1, ← f1, ← f2] at u
    refine ⟨by omega, Or.inr u.1, ?_⟩
    by_cases q : so = 261
    · exact Or.inr (u.2 q)
    · exact Or.inl (fun w => q (Int32.toInt_inj.mp w))
  · have e : pa2 = pa := Int32.toInt_inj.mp (by omega)
    rw [e] at e1
    refine ⟨by rw [e1, f1]; exact Int.le_refl _, Or.inl g, Or.inl ?_⟩
    rw [r.2.2.2 g]; decide

set_option maxHeartbeats 4000000 in
set_option maxRecDepth 100000 in
theorem c_X2_insertBehind_x (l : Launch) (dC : Nat → ClassId) (dI : Nat → Nat → Nat) (aK aV : Nat → Nat) (h0 : Nat) (cop : Nat) (ca : Nat) (cb : Nat) (cplace : Nat) (cnext : Nat) (cneeded : Nat) (ckop : ClassId) (cka : ClassId) (ckb : ClassId) (ckplace : ClassId) (cknext : ClassId) (ckneeded : ClassId) (z : Int32) (ta : Int32) (gop : Nat → Int32) (ga : Nat → Int32) (gb : Nat → Int32) (gplace : Nat → Int32) (gnext : Nat → Int32) (gneeded : Nat → Int32) (be : Int32) (o : Int32) (wh : Int32) (sz : Nat) (hz0 : 0 ≤ z.toInt) (hz1 : z.toInt < 3000) (ht0 : 0 ≤ ta.toInt) (ht1 : ta.toInt < 3000) (hgn : zx 3000 gnext) (hb0 : 0 ≤ be.toInt) (hb1 : be.toInt < 3000) : Met l yX2_insertBehind (Cond.code yX2_insertBehind cX2_insertBehind 5 (some .int) :: zw) ({ frames := 8, cells := 0, slots := 0, locals := 200 }) (va_Pc [.ref h0, .int be, .int o, .int wh] (zP dC dI aK aV sz [(ckop, .int), (cka, .int), (ckb, .int), (ckplace, .int), (cknext, .int), (ckneeded, .int)] [(h0, .inr (2, [.ref cop, .ref ca, .ref cb, .ref cplace, .ref cnext, .ref cneeded, .int z, .int ta])), (cop, .inl (ckop, 3000, .inl gop)), (ca, .inl (cka, 3000, .inl ga)), (cb, .inl (ckb, 3000, .inl gb)), (cplace, .inl (ckplace, 3000, .inl gplace)), (cnext, .inl (cknext, 3000, .inl gnext)), (cneeded, .inl (ckneeded, 3000, .inl gneeded))])) (va_Qi (fun (r : Int32) (u : Int32 × Int32 × (Nat → Int32) × (Nat → Int32) × (Nat → Int32) × (Nat → Int32) × (Nat → Int32) × (Nat → Int32)) => match u with | (z2, t2, nop, na, nb, nplace, nnext, nneeded) => (r = z) ∧ (z2.toInt = z.toInt + 1) ∧ (be.toInt = ta.toInt ∧ t2.toInt = z.toInt ∨ be.toInt ≠ ta.toInt ∧ t2.toInt = ta.toInt) ∧ (zx 3000 nnext) ∧ (nop = upd gop (Int32.toNatClampNeg z) o) ∧ (na = upd ga (Int32.toNatClampNeg z) (-1)) ∧ (nb = upd gb (Int32.toNatClampNeg z) (-1)) ∧ (nnext = upd (upd gnext (Int32.toNatClampNeg z) (gnext (Int32.toNatClampNeg be))) (Int32.toNatClampNeg be) z) ∧ (nplace = upd gplace (Int32.toNatClampNeg z) wh)) (fun u => match u with | (z2, t2, nop, na, nb, nplace, nnext, nneeded) => zQ dC dI (va_A [(h0, .inr (2, [.ref cop, .ref ca, .ref cb, .ref cplace, .ref cnext, .ref cneeded, .int z, .int ta])), (cop, .inl (ckop, 3000, .inl gop)), (ca, .inl (cka, 3000, .inl ga)), (cb, .inl (ckb, 3000, .inl gb)), (cplace, .inl (ckplace, 3000, .inl gplace)), (cnext, .inl (cknext, 3000, .inl gnext)), (cneeded, .inl (ckneeded, 3000, .inl gneeded))] sz) [(ckop, .int), (cka, .int), (ckb, .int), (ckplace, .int), (cknext, .int), (ckneeded, .int)] [(h0, .inr (2, [.ref cop, .ref ca, .ref cb, .ref cplace, .ref cnext, .ref cneeded, .int z2, .int t2])), (cop, .inl (ckop, 3000, .inl nop)), (ca, .inl (cka, 3000, .inl na)), (cb, .inl (ckb, 3000, .inl nb)), (cplace, .inl (ckplace, 3000, .inl nplace)), (cnext, .inl (cknext, 3000, .inl nnext)), (cneeded, .inl (ckneeded, 3000, .inl nneeded))]) (va_A [(h0, .inr (2, [.ref cop, .ref ca, .ref cb, .ref cplace, .ref cnext, .ref cneeded, .int z, .int ta])), (cop, .inl (ckop, 3000, .inl gop)), (ca, .inl (cka, 3000, .inl ga)), (cb, .inl (ckb, 3000, .inl gb)), (cplace, .inl (ckplace, 3000, .inl gplace)), (cnext, .inl (cknext, 3000, .inl gnext)), (cneeded, .inl (ckneeded, 3000, .inl gneeded))] sz)) 0 0 (va_A [(h0, .inr (2, [.ref cop, .ref ca, .ref cb, .ref cplace, .ref cnext, .ref cneeded, .int z, .int ta])), (cop, .inl (ckop, 3000, .inl gop)), (ca, .inl (cka, 3000, .inl ga)), (cb, .inl (ckb, 3000, .inl gb)), (cplace, .inl (ckplace, 3000, .inl gplace)), (cnext, .inl (cknext, 3000, .inl gnext)), (cneeded, .inl (ckneeded, 3000, .inl gneeded))] sz) := by
  refine Met.ofW (cc := cX2_insertBehind) (maxL := 5) (ret := (some .int)) (by decide) rfl ?_
  intro p e s m args below meth c s₁ B hml hv
  obtain ⟨rfl, hsz, hP, hK, hD0, hN, hT⟩ := hv
  have hx := B.exec
  have hb := B.bytes
  have hr := B.returns
  have hts := atoms_spec (ws := Cond.code yX2_insertBehind cX2_insertBehind 5 (some .int) :: zw) B.pre
  have hA : ∀ w ∈ zw, w.before _ s = true := fun w h => hts w (List.mem_cons_of_mem _ h)
  have hown : s.vm.findClass RX2 = some m.cls := findClass_of_methodNamed B.named
  have hlocks := B.notSynchronized
  subst hsz
  have hD := hD0.self (sz := s.heap.size)
  generalize hAe : va_A [(h0, .inr (2, [.ref cop, .ref ca, .ref cb, .ref cplace, .ref cnext, .ref cneeded, .int z, .int ta])), (cop, .inl (ckop, 3000, .inl gop)), (ca, .inl (cka, 3000, .inl ga)), (cb, .inl (ckb, 3000, .inl gb)), (cplace, .inl (ckplace, 3000, .inl gplace)), (cnext, .inl (cknext, 3000, .inl gnext)), (cneeded, .inl (ckneeded, 3000, .inl gneeded))] s.heap.size = A at hD hT ⊢
  have hAA : ∀ q : Nat, s.heap.size ≤ q → A q := fun q h => by rw [← hAe]; exact Or.inr h
  have hS : va_S A s.heap s.heap [] := va_S.rf
  have hl := lv_entry ([.ref h0, .int be, .int o, .int wh]) (n := 5) (Nat.le_of_ble_eq_true rfl)
  rw [lg_entry_eq]
  generalize (lg_sl ([.ref h0, .int be, .int o, .int wh]) ++ List.replicate (5 - (lg_sl ([.ref h0, .int be, .int o, .int wh])).length) Slot.unset).toArray = ls at hl ⊢
  have hl : lv_has ls 5 [(0, .ref h0), (1, .int be), (2, .int o), (3, .int wh)] := hl
  refine lv_aload_n hx hb dX2_insertBehind_0 rfl (lv_at hl 0 rfl) ?_
  refine va_get (D := (dC, dI)) (ci := 2) (v := .int z) (C := RX2) (T := TX2) (N := 8) hx hb hA zin_X2 hown hK hP 0 rfl rfl 6 (by decide) (hA _ wi_197) (fun _ h9 => h9) rfl dX2_insertBehind_1 ?_
  refine lv_sipush (v := 3000) hx hb dX2_insertBehind_4 (by decide) ?_
  refine lv_icmp_lt (tgt := 14) hx hb dX2_insertBehind_7 (by decide) (fun c_1 => ?_) (fun c_1 => ?_)
  · have ic_1 : z.toInt < 3000 := zi_lt c_1
    refine lv_aload_n hx hb dX2_insertBehind_14 rfl (lv_at hl 0 rfl) ?_
    refine va_get (D := (dC, dI)) (ci := 2) (v := .int z) (C := RX2) (T := TX2) (N := 8) hx hb hA zin_X2 hown hK hP 0 rfl rfl 6 (by decide) (hA _ wi_197) (fun _ h9 => h9) rfl dX2_insertBehind_15 ?_
    refine lv_istore (lv' := [(4, .int z), (0, .ref h0), (1, .int be), (2, .int o), (3, .int wh)]) hx hb dX2_insertBehind_18 hl (by decide) rfl (fun ls hl => ?_)
    refine lv_aload_n hx hb dX2_insertBehind_20 rfl (lv_at hl 1 rfl) ?_
    refine lv_dup hx hb dX2_insertBehind_21 rfl ?_
    refine va_get (D := (dC, dI)) (ci := 2) (v := .int z) (C := RX2) (T := TX2) (N := 8) hx hb hA zin_X2 hown hK hP 0 rfl rfl 6 (by decide) (hA _ wi_197) (fun _ h9 => h9) rfl dX2_insertBehind_22 ?_
    refine lv_iconst (v := 1) hx hb dX2_insertBehind_25 (by decide) ?_
    refine lv_iadd hx hb dX2_insertBehind_26 ?_
    refine lv_topi (fun x_2 ex_2 => ?_)
    have ix_2 : x_2.toInt = z.toInt + 1 := by rw [ex_2]; exact zi_addc (by decide) (by omega) (by omega)
    refine va_put (D := (dC, dI)) (ci := 2) (v := .int x_2) (ty := .int) (C := RX2) (T := TX2) (N := 8) hx hb hA zin_X2 tyX2 tyX2_ok nmX2 hown hK hP hD hS 0 rfl rfl 6 (by decide) (hA _ wi_197) (fun _ h9 => h9) rfl (by decide +kernel) rfl rfl (Nat.le_of_ble_eq_true rfl) dX2_insertBehind_27 (fun H locs hP hD hS => ?_)
    have hP : va_P (dC, dI) vwCl [(h0, .inr (2, [.ref cop, .ref ca, .ref cb, .ref cplace, .ref cnext, .ref cneeded, .int x_2, .int ta])), (cop, .inl (ckop, 3000, .inl gop)), (ca, .inl (cka, 3000, .inl ga)), (cb, .inl (ckb, 3000, .inl gb)), (cplace, .inl (ckplace, 3000, .inl gplace)), (cnext, .inl (cknext, 3000, .inl gnext)), (cneeded, .inl (ckneeded, 3000, .inl gneeded))] H := hP
    have hD : va_D A [(h0, .inr (2, [.ref cop, .ref ca, .ref cb, .ref cplace, .ref cnext, .ref cneeded, .int x_2, .int ta])), (cop, .inl (ckop, 3000, .inl gop)), (ca, .inl (cka, 3000, .inl ga)), (cb, .inl (ckb, 3000, .inl gb)), (cplace, .inl (ckplace, 3000, .inl gplace)), (cnext, .inl (cknext, 3000, .inl gnext)), (cneeded, .inl (ckneeded, 3000, .inl gneeded))] := hD
    refine lv_aload_n hx hb dX2_insertBehind_30 rfl (lv_at hl 1 rfl) ?_
    refine va_get (D := (dC, dI)) (ci := 2) (v := .ref cop) (C := RX2) (T := TX2) (N := 8) hx hb hA zin_X2 hown hK hP 0 rfl rfl 0 (by decide) (hA _ wi_176) (fun _ h9 => h9) rfl dX2_insertBehind_31 ?_
    refine lv_iload hx hb dX2_insertBehind_34 (lv_at hl 0 rfl) ?_
    refine lv_iload_n hx hb dX2_insertBehind_36 rfl (lv_at hl 3 rfl) ?_
    refine va_iast hx hb hK hP hD hS 1 0 rfl rfl (vp_in_iff.mpr ⟨by omega, by omega⟩) dX2_insertBehind_37 (fun H locs hP hD hS => ?_)
    obtain ⟨f_3, ef_3⟩ : ∃ gz9 : Nat → Int32, gz9 = upd gop (Int32.toNatClampNeg z) o := ⟨_, rfl⟩
    rw [← ef_3] at hP hD
    have hP : va_P (dC, dI) vwCl [(h0, .inr (2, [.ref cop, .ref ca, .ref cb, .ref cplace, .ref cnext, .ref cneeded, .int x_2, .int ta])), (cop, .inl (ckop, 3000, .inl f_3)), (ca, .inl (cka, 3000, .inl ga)), (cb, .inl (ckb, 3000, .inl gb)), (cplace, .inl (ckplace, 3000, .inl gplace)), (cnext, .inl (cknext, 3000, .inl gnext)), (cneeded, .inl (ckneeded, 3000, .inl gneeded))] H := hP
    have hD : va_D A [(h0, .inr (2, [.ref cop, .ref ca, .ref cb, .ref cplace, .ref cnext, .ref cneeded, .int x_2, .int ta])), (cop, .inl (ckop, 3000, .inl f_3)), (ca, .inl (cka, 3000, .inl ga)), (cb, .inl (ckb, 3000, .inl gb)), (cplace, .inl (ckplace, 3000, .inl gplace)), (cnext, .inl (cknext, 3000, .inl gnext)), (cneeded, .inl (ckneeded, 3000, .inl gneeded))] := hD
    refine lv_aload_n hx hb dX2_insertBehind_38 rfl (lv_at hl 1 rfl) ?_
    refine va_get (D := (dC, dI)) (ci := 2) (v := .ref ca) (C := RX2) (T := TX2) (N := 8) hx hb hA zin_X2 hown hK hP 0 rfl rfl 1 (by decide) (hA _ wi_180) (fun _ h9 => h9) rfl dX2_insertBehind_39 ?_
    refine lv_iload hx hb dX2_insertBehind_42 (lv_at hl 0 rfl) ?_
    refine lv_iconst (v := (-1)) hx hb dX2_insertBehind_44 (by decide) ?_
    refine va_iast hx hb hK hP hD hS 2 1 rfl rfl (vp_in_iff.mpr ⟨by omega, by omega⟩) dX2_insertBehind_45 (fun H locs hP hD hS => ?_)
    obtain ⟨f_4, ef_4⟩ : ∃ gz9 : Nat → Int32, gz9 = upd ga (Int32.toNatClampNeg z) (-1) := ⟨_, rfl⟩
    rw [← ef_4] at hP hD
    have hP : va_P (dC, dI) vwCl [(h0, .inr (2, [.ref cop, .ref ca, .ref cb, .ref cplace, .ref cnext, .ref cneeded, .int x_2, .int ta])), (cop, .inl (ckop, 3000, .inl f_3)), (ca, .inl (cka, 3000, .inl f_4)), (cb, .inl (ckb, 3000, .inl gb)), (cplace, .inl (ckplace, 3000, .inl gplace)), (cnext, .inl (cknext, 3000, .inl gnext)), (cneeded, .inl (ckneeded, 3000, .inl gneeded))] H := hP
    have hD : va_D A [(h0, .inr (2, [.ref cop, .ref ca, .ref cb, .ref cplace, .ref cnext, .ref cneeded, .int x_2, .int ta])), (cop, .inl (ckop, 3000, .inl f_3)), (ca, .inl (cka, 3000, .inl f_4)), (cb, .inl (ckb, 3000, .inl gb)), (cplace, .inl (ckplace, 3000, .inl gplace)), (cnext, .inl (cknext, 3000, .inl gnext)), (cneeded, .inl (ckneeded, 3000, .inl gneeded))] := hD
    refine lv_aload_n hx hb dX2_insertBehind_46 rfl (lv_at hl 1 rfl) ?_
    refine va_get (D := (dC, dI)) (ci := 2) (v := .ref cb) (C := RX2) (T := TX2) (N := 8) hx hb hA zin_X2 hown hK hP 0 rfl rfl 2 (by decide) (hA _ wi_184) (fun _ h9 => h9) rfl dX2_insertBehind_47 ?_
    refine lv_iload hx hb dX2_insertBehind_50 (lv_at hl 0 rfl) ?_
    refine lv_iconst (v := (-1)) hx hb dX2_insertBehind_52 (by decide) ?_
    refine va_iast hx hb hK hP hD hS 3 2 rfl rfl (vp_in_iff.mpr ⟨by omega, by omega⟩) dX2_insertBehind_53 (fun H locs hP hD hS => ?_)
    obtain ⟨f_5, ef_5⟩ : ∃ gz9 : Nat → Int32, gz9 = upd gb (Int32.toNatClampNeg z) (-1) := ⟨_, rfl⟩
    rw [← ef_5] at hP hD
    have hP : va_P (dC, dI) vwCl [(h0, .inr (2, [.ref cop, .ref ca, .ref cb, .ref cplace, .ref cnext, .ref cneeded, .int x_2, .int ta])), (cop, .inl (ckop, 3000, .inl f_3)), (ca, .inl (cka, 3000, .inl f_4)), (cb, .inl (ckb, 3000, .inl f_5)), (cplace, .inl (ckplace, 3000, .inl gplace)), (cnext, .inl (cknext, 3000, .inl gnext)), (cneeded, .inl (ckneeded, 3000, .inl gneeded))] H := hP
    have hD : va_D A [(h0, .inr (2, [.ref cop, .ref ca, .ref cb, .ref cplace, .ref cnext, .ref cneeded, .int x_2, .int ta])), (cop, .inl (ckop, 3000, .inl f_3)), (ca, .inl (cka, 3000, .inl f_4)), (cb, .inl (ckb, 3000, .inl f_5)), (cplace, .inl (ckplace, 3000, .inl gplace)), (cnext, .inl (cknext, 3000, .inl gnext)), (cneeded, .inl (ckneeded, 3000, .inl gneeded))] := hD
    refine lv_aload_n hx hb dX2_insertBehind_54 rfl (lv_at hl 1 rfl) ?_
    refine va_get (D := (dC, dI)) (ci := 2) (v := .ref cplace) (C := RX2) (T := TX2) (N := 8) hx hb hA zin_X2 hown hK hP 0 rfl rfl 3 (by decide) (hA _ wi_188) (fun _ h9 => h9) rfl dX2_insertBehind_55 ?_
    refine lv_iload hx hb dX2_insertBehind_58 (lv_at hl 0 rfl) ?_
    refine lv_iload_n hx hb dX2_insertBehind_60 rfl (lv_at hl 4 rfl) ?_
    refine va_iast hx hb hK hP hD hS 4 3 rfl rfl (vp_in_iff.mpr ⟨by omega, by omega⟩) dX2_insertBehind_61 (fun H locs hP hD hS => ?_)
    obtain ⟨f_6, ef_6⟩ : ∃ gz9 : Nat → Int32, gz9 = upd gplace (Int32.toNatClampNeg z) wh := ⟨_, rfl⟩
    rw [← ef_6] at hP hD
    have hP : va_P (dC, dI) vwCl [(h0, .inr (2, [.ref cop, .ref ca, .ref cb, .ref cplace, .ref cnext, .ref cneeded, .int x_2, .int ta])), (cop, .inl (ckop, 3000, .inl f_3)), (ca, .inl (cka, 3000, .inl f_4)), (cb, .inl (ckb, 3000, .inl f_5)), (cplace, .inl (ckplace, 3000, .inl f_6)), (cnext, .inl (cknext, 3000, .inl gnext)), (cneeded, .inl (ckneeded, 3000, .inl gneeded))] H := hP
    have hD : va_D A [(h0, .inr (2, [.ref cop, .ref ca, .ref cb, .ref cplace, .ref cnext, .ref cneeded, .int x_2, .int ta])), (cop, .inl (ckop, 3000, .inl f_3)), (ca, .inl (cka, 3000, .inl f_4)), (cb, .inl (ckb, 3000, .inl f_5)), (cplace, .inl (ckplace, 3000, .inl f_6)), (cnext, .inl (cknext, 3000, .inl gnext)), (cneeded, .inl (ckneeded, 3000, .inl gneeded))] := hD
    refine lv_aload_n hx hb dX2_insertBehind_62 rfl (lv_at hl 1 rfl) ?_
    refine va_get (D := (dC, dI)) (ci := 2) (v := .ref cneeded) (C := RX2) (T := TX2) (N := 8) hx hb hA zin_X2 hown hK hP 0 rfl rfl 5 (by decide) (hA _ wi_194) (fun _ h9 => h9) rfl dX2_insertBehind_63 ?_
    refine lv_iload hx hb dX2_insertBehind_66 (lv_at hl 0 rfl) ?_
    refine lv_iconst (v := 0) hx hb dX2_insertBehind_68 (by decide) ?_
    refine va_iast hx hb hK hP hD hS 6 5 rfl rfl (vp_in_iff.mpr ⟨by omega, by omega⟩) dX2_insertBehind_69 (fun H locs hP hD hS => ?_)
    obtain ⟨f_7, ef_7⟩ : ∃ gz9 : Nat → Int32, gz9 = upd gneeded (Int32.toNatClampNeg z) 0 := ⟨_, rfl⟩
    rw [← ef_7] at hP hD
    have hP : va_P (dC, dI) vwCl [(h0, .inr (2, [.ref cop, .ref ca, .ref cb, .ref cplace, .ref cnext, .ref cneeded, .int x_2, .int ta])), (cop, .inl (ckop, 3000, .inl f_3)), (ca, .inl (cka, 3000, .inl f_4)), (cb, .inl (ckb, 3000, .inl f_5)), (cplace, .inl (ckplace, 3000, .inl f_6)), (cnext, .inl (cknext, 3000, .inl gnext)), (cneeded, .inl (ckneeded, 3000, .inl f_7))] H := hP
    have hD : va_D A [(h0, .inr (2, [.ref cop, .ref ca, .ref cb, .ref cplace, .ref cnext, .ref cneeded, .int x_2, .int ta])), (cop, .inl (ckop, 3000, .inl f_3)), (ca, .inl (cka, 3000, .inl f_4)), (cb, .inl (ckb, 3000, .inl f_5)), (cplace, .inl (ckplace, 3000, .inl f_6)), (cnext, .inl (cknext, 3000, .inl gnext)), (cneeded, .inl (ckneeded, 3000, .inl f_7))] := hD
    refine lv_aload_n hx hb dX2_insertBehind_70 rfl (lv_at hl 1 rfl) ?_
    refine va_get (D := (dC, dI)) (ci := 2) (v := .ref cnext) (C := RX2) (T := TX2) (N := 8) hx hb hA zin_X2 hown hK hP 0 rfl rfl 4 (by decide) (hA _ wi_191) (fun _ h9 => h9) rfl dX2_insertBehind_71 ?_
    refine lv_iload hx hb dX2_insertBehind_74 (lv_at hl 0 rfl) ?_
    refine lv_iload_n hx hb dX2_insertBehind_76 rfl (lv_at hl 2 rfl) ?_
    refine lv_iconst (v := (-1)) hx hb dX2_insertBehind_77 (by decide) ?_
    refine lv_icmp_ne (tgt := 85) hx hb dX2_insertBehind_78 (by decide) (fun c_8 => ?_) (fun c_8 => ?_)
    · have ic_8 : be.toInt ≠ (-1) := zi_ne c_8
      refine lv_aload_n hx hb dX2_insertBehind_85 rfl (lv_at hl 1 rfl) ?_
      refine va_get (D := (dC, dI)) (ci := 2) (v := .ref cnext) (C := RX2) (T := TX2) (N := 8) hx hb hA zin_X2 hown hK hP 0 rfl rfl 4 (by decide) (hA _ wi_191) (fun _ h9 => h9) rfl dX2_insertBehind_86 ?_
      refine lv_iload_n hx hb dX2_insertBehind_89 rfl (lv_at hl 2 rfl) ?_
      refine va_iald hx hb hK hP 5 4 rfl rfl (vp_in_iff.mpr ⟨by omega, by omega⟩) dX2_insertBehind_90 ?_
      refine lv_topi (fun x_9 ex_9 => ?_)
      have ix_9 : -1 ≤ x_9.toInt ∧ x_9.toInt < 3000 := by rw [ex_9]; exact hgn _
      refine va_iast hx hb hK hP hD hS 5 4 rfl rfl (vp_in_iff.mpr ⟨by omega, by omega⟩) dX2_insertBehind_91 (fun H locs hP hD hS => ?_)
      obtain ⟨f_10, ef_10⟩ : ∃ gz9 : Nat → Int32, gz9 = upd gnext (Int32.toNatClampNeg z) x_9 := ⟨_, rfl⟩
      rw [← ef_10] at hP hD
      have hp_f_10 : zx 3000 f_10 := by rw [ef_10]; exact zx_upd hgn (by omega) (by omega)
      have hP : va_P (dC, dI) vwCl [(h0, .inr (2, [.ref cop, .ref ca, .ref cb, .ref cplace, .ref cnext, .ref cneeded, .int x_2, .int ta])), (cop, .inl (ckop, 3000, .inl f_3)), (ca, .inl (cka, 3000, .inl f_4)), (cb, .inl (ckb, 3000, .inl f_5)), (cplace, .inl (ckplace, 3000, .inl f_6)), (cnext, .inl (cknext, 3000, .inl f_10)), (cneeded, .inl (ckneeded, 3000, .inl f_7))] H := hP
      have hD : va_D A [(h0, .inr (2, [.ref cop, .ref ca, .ref cb, .ref cplace, .ref cnext, .ref cneeded, .int x_2, .int ta])), (cop, .inl (ckop, 3000, .inl f_3)), (ca, .inl (cka, 3000, .inl f_4)), (cb, .inl (ckb, 3000, .inl f_5)), (cplace, .inl (ckplace, 3000, .inl f_6)), (cnext, .inl (cknext, 3000, .inl f_10)), (cneeded, .inl (ckneeded, 3000, .inl f_7))] := hD
      refine lv_iload_n hx hb dX2_insertBehind_92 rfl (lv_at hl 2 rfl) ?_
      refine lv_iconst (v := (-1)) hx hb dX2_insertBehind_93 (by decide) ?_
      refine lv_icmp_eq (tgt := 105) hx hb dX2_insertBehind_94 (by decide) (fun c_11 => ?_) (fun c_11 => ?_)
      · have ic_11 : be.toInt = (-1) := zi_eq c_11
        exfalso
        omega
      · have ic_11 : be.toInt ≠ (-1) := zi_ne c_11
        refine lv_aload_n hx hb dX2_insertBehind_97 rfl (lv_at hl 1 rfl) ?_
        refine va_get (D := (dC, dI)) (ci := 2) (v := .ref cnext) (C := RX2) (T := TX2) (N := 8) hx hb hA zin_X2 hown hK hP 0 rfl rfl 4 (by decide) (hA _ wi_191) (fun _ h9 => h9) rfl dX2_insertBehind_98 ?_
        refine lv_iload_n hx hb dX2_insertBehind_101 rfl (lv_at hl 2 rfl) ?_
        refine lv_iload hx hb dX2_insertBehind_102 (lv_at hl 0 rfl) ?_
        refine va_iast hx hb hK hP hD hS 5 4 rfl rfl (vp_in_iff.mpr ⟨by omega, by omega⟩) dX2_insertBehind_104 (fun H locs hP hD hS => ?_)
        obtain ⟨f_12, ef_12⟩ : ∃ gz9 : Nat → Int32, gz9 = upd f_10 (Int32.toNatClampNeg be) z := ⟨_, rfl⟩
        rw [← ef_12] at hP hD
        have hp_f_12 : zx 3000 f_12 := by rw [ef_12]; exact zx_upd hp_f_10 (by omega) (by omega)
        have hP : va_P (dC, dI) vwCl [(h0, .inr (2, [.ref cop, .ref ca, .ref cb, .ref cplace, .ref cnext, .ref cneeded, .int x_2, .int ta])), (cop, .inl (ckop, 3000, .inl f_3)), (ca, .inl (cka, 3000, .inl f_4)), (cb, .inl (ckb, 3000, .inl f_5)), (cplace, .inl (ckplace, 3000, .inl f_6)), (cnext, .inl (cknext, 3000, .inl f_12)), (cneeded, .inl (ckneeded, 3000, .inl f_7))] H := hP
        have hD : va_D A [(h0, .inr (2, [.ref cop, .ref ca, .ref cb, .ref cplace, .ref cnext, .ref cneeded, .int x_2, .int ta])), (cop, .inl (ckop, 3000, .inl f_3)), (ca, .inl (cka, 3000, .inl f_4)), (cb, .inl (ckb, 3000, .inl f_5)), (cplace, .inl (ckplace, 3000, .inl f_6)), (cnext, .inl (cknext, 3000, .inl f_12)), (cneeded, .inl (ckneeded, 3000, .inl f_7))] := hD
        refine lv_iload_n hx hb dX2_insertBehind_105 rfl (lv_at hl 2 rfl) ?_
        refine lv_aload_n hx hb dX2_insertBehind_106 rfl (lv_at hl 1 rfl) ?_
        refine va_get (D := (dC, dI)) (ci := 2) (v := .int ta) (C := RX2) (T := TX2) (N := 8) hx hb hA zin_X2 hown hK hP 0 rfl rfl 7 (by decide) (hA _ wi_200) (fun _ h9 => h9) rfl dX2_insertBehind_107 ?_
        refine lv_icmp_ne (tgt := 119) hx hb dX2_insertBehind_110 (by decide) (fun c_13 => ?_) (fun c_13 => ?_)
        · have ic_13 : be.toInt ≠ ta.toInt := zi_ne c_13
          refine lv_iload hx hb dX2_insertBehind_119 (lv_at hl 0 rfl) ?_
          have hP9 := hP.sub (ws' := [(h0, .inr (2, [.ref cop, .ref ca, .ref cb, .ref cplace, .ref cnext, .ref cneeded, .int x_2, .int ta])), (cop, .inl (ckop, 3000, .inl f_3)), (ca, .inl (cka, 3000, .inl f_4)), (cb, .inl (ckb, 3000, .inl f_5)), (cplace, .inl (ckplace, 3000, .inl f_6)), (cnext, .inl (cknext, 3000, .inl f_12)), (cneeded, .inl (ckneeded, 3000, .inl f_7))]) [0, 1, 2, 3, 4, 5, 6] rfl
          have hD9 := hD.sub (ws' := [(h0, .inr (2, [.ref cop, .ref ca, .ref cb, .ref cplace, .ref cnext, .ref cneeded, .int x_2, .int ta])), (cop, .inl (ckop, 3000, .inl f_3)), (ca, .inl (cka, 3000, .inl f_4)), (cb, .inl (ckb, 3000, .inl f_5)), (cplace, .inl (ckplace, 3000, .inl f_6)), (cnext, .inl (cknext, 3000, .inl f_12)), (cneeded, .inl (ckneeded, 3000, .inl f_7))]) [0, 1, 2, 3, 4, 5, 6] (by decide) rfl
          have hK9 := hK.sub (tys' := [(ckop, .int), (cka, .int), (ckb, .int), (ckplace, .int), (cknext, .int), (ckneeded, .int)]) [0, 1, 2, 3, 4, 5] rfl
          exact W.iret (v := z) hx hb hr (fun t ht hW => ⟨⟨z, (x_2, ta, f_3, f_4, f_5, f_6, f_12, f_7), rfl, ⟨rfl, by omega, by omega, hp_f_12, by rw [ef_3], by rw [ef_4], by rw [ef_5], by rw [ef_12, ef_10, ex_9], by rw [ef_6]⟩, by rw [ht]; exact hP9, va_K.moved hW.alike hK9, hD9⟩, hS.F ht⟩) hS.2.2 dX2_insertBehind_121
        · have ic_13 : be.toInt = ta.toInt := zi_eq c_13
          refine lv_aload_n hx hb dX2_insertBehind_113 rfl (lv_at hl 1 rfl) ?_
          refine lv_iload hx hb dX2_insertBehind_114 (lv_at hl 0 rfl) ?_
          refine va_put (D := (dC, dI)) (ci := 2) (v := .int z) (ty := .int) (C := RX2) (T := TX2) (N := 8) hx hb hA zin_X2 tyX2 tyX2_ok nmX2 hown hK hP hD hS 0 rfl rfl 7 (by decide) (hA _ wi_200) (fun _ h9 => h9) rfl (by decide +kernel) rfl rfl (Nat.le_of_ble_eq_true rfl) dX2_insertBehind_116 (fun H locs hP hD hS => ?_)
          have hP : va_P (dC, dI) vwCl [(h0, .inr (2, [.ref cop, .ref ca, .ref cb, .ref cplace, .ref cnext, .ref cneeded, .int x_2, .int z])), (cop, .inl (ckop, 3000, .inl f_3)), (ca, .inl (cka, 3000, .inl f_4)), (cb, .inl (ckb, 3000, .inl f_5)), (cplace, .inl (ckplace, 3000, .inl f_6)), (cnext, .inl (cknext, 3000, .inl f_12)), (cneeded, .inl (ckneeded, 3000, .inl f_7))] H := hP
          have hD : va_D A [(h0, .inr (2, [.ref cop, .ref ca, .ref cb, .ref cplace, .ref cnext, .ref cneeded, .int x_2, .int z])), (cop, .inl (ckop, 3000, .inl f_3)), (ca, .inl (cka, 3000, .inl f_4)), (cb, .inl (ckb, 3000, .inl f_5)), (cplace, .inl (ckplace, 3000, .inl f_6)), (cnext, .inl (cknext, 3000, .inl f_12)), (cneeded, .inl (ckneeded, 3000, .inl f_7))] := hD
          refine lv_iload hx hb dX2_insertBehind_119 (lv_at hl 0 rfl) ?_
          have hP9 := hP.sub (ws' := [(h0, .inr (2, [.ref cop, .ref ca, .ref cb, .ref cplace, .ref cnext, .ref cneeded, .int x_2, .int z])), (cop, .inl (ckop, 3000, .inl f_3)), (ca, .inl (cka, 3000, .inl f_4)), (cb, .inl (ckb, 3000, .inl f_5)), (cplace, .inl (ckplace, 3000, .inl f_6)), (cnext, .inl (cknext, 3000, .inl f_12)), (cneeded, .inl (ckneeded, 3000, .inl f_7))]) [0, 1, 2, 3, 4, 5, 6] rfl
          have hD9 := hD.sub (ws' := [(h0, .inr (2, [.ref cop, .ref ca, .ref cb, .ref cplace, .ref cnext, .ref cneeded, .int x_2, .int z])), (cop, .inl (ckop, 3000, .inl f_3)), (ca, .inl (cka, 3000, .inl f_4)), (cb, .inl (ckb, 3000, .inl f_5)), (cplace, .inl (ckplace, 3000, .inl f_6)), (cnext, .inl (cknext, 3000, .inl f_12)), (cneeded, .inl (ckneeded, 3000, .inl f_7))]) [0, 1, 2, 3, 4, 5, 6] (by decide) rfl
          have hK9 := hK.sub (tys' := [(ckop, .int), (cka, .int), (ckb, .int), (ckplace, .int), (cknext, .int), (ckneeded, .int)]) [0, 1, 2, 3, 4, 5] rfl
          exact W.iret (v := z) hx hb hr (fun t ht hW => ⟨⟨z, (x_2, z, f_3, f_4, f_5, f_6, f_12, f_7), rfl, ⟨rfl, by omega, by omega, hp_f_12, by rw [ef_3], by rw [ef_4], by rw [ef_5], by rw [ef_12, ef_10, ex_9], by rw [ef_6]⟩, by rw [ht]; exact hP9, va_K.moved hW.alike hK9, hD9⟩, hS.F ht⟩) hS.2.2 dX2_insertBehind_121
    · have ic_8 : be.toInt = (-1) := zi_eq c_8
      exfalso
      omega
  · have ic_1 : 3000 ≤ z.toInt := zi_nlt c_1
    exfalso
    omega
set_option maxHeartbeats 4000000 in
set_option maxRecDepth 100000 in
theorem c_X2_append_x (l : Launch) (dC : Nat → ClassId) (dI : Nat → Nat → Nat) (aK aV : Nat → Nat) (h0 : Nat) (cop : Nat) (ca : Nat) (cb : Nat) (cplace : Nat) (cnext : Nat) (cneeded : Nat) (ckop : ClassId) (cka : ClassId) (ckb : ClassId) (ckplace : ClassId) (cknext : ClassId) (ckneeded : ClassId) (z : Int32) (ta : Int32) (gop : Nat → Int32) (ga : Nat → Int32) (gb : Nat → Int32) (gplace : Nat → Int32) (gnext : Nat → Int32) (gneeded : Nat → Int32) (o : Int32) (wh : Int32) (nu : Int32) (sz : Nat) (hz0 : 0 ≤ z.toInt) (hz1 : z.toInt < 3000) (ht0 : 0 ≤ ta.toInt) (ht1 : ta.toInt < 3000) (hgn : zx 3000 gnext) : Met l yX2_append (Cond.code yX2_append cX2_append 5 (some .int) :: zw) ({ frames := 10, cells := 0, slots := 0, locals := 300 }) (va_Pc [.ref h0, .int o, .int wh, .int nu] (zP dC dI aK aV sz [(ckop, .int), (cka, .int), (ckb, .int), (ckplace, .int), (cknext, .int), (ckneeded, .int)] [(h0, .inr (2, [.ref cop, .ref ca, .ref cb, .ref cplace, .ref cnext, .ref cneeded, .int z, .int ta])), (cop, .inl (ckop, 3000, .inl gop)), (ca, .inl (cka, 3000, .inl ga)), (cb, .inl (ckb, 3000, .inl gb)), (cplace, .inl (ckplace, 3000, .inl gplace)), (cnext, .inl (cknext, 3000, .inl gnext)), (cneeded, .inl (ckneeded, 3000, .inl gneeded))])) (va_Qi (fun (r : Int32) (u : Int32 × Int32 × (Nat → Int32) × (Nat → Int32) × (Nat → Int32) × (Nat → Int32) × (Nat → Int32) × (Nat → Int32)) => match u with | (z2, t2, nop, na, nb, nplace, nnext, nneeded) => (r = z) ∧ (z2.toInt = z.toInt + 1) ∧ (t2 = z) ∧ (zx 3000 nnext) ∧ (nop = upd gop (Int32.toNatClampNeg z) o) ∧ (na = upd ga (Int32.toNatClampNeg z) nu) ∧ (nb = upd gb (Int32.toNatClampNeg z) (-1)) ∧ (nnext = upd (upd gnext (Int32.toNatClampNeg z) (gnext (Int32.toNatClampNeg ta))) (Int32.toNatClampNeg ta) z) ∧ (nplace = upd gplace (Int32.toNatClampNeg z) wh)) (fun u => match u with | (z2, t2, nop, na, nb, nplace, nnext, nneeded) => zQ dC dI (va_A [(h0, .inr (2, [.ref cop, .ref ca, .ref cb, .ref cplace, .ref cnext, .ref cneeded, .int z, .int ta])), (cop, .inl (ckop, 3000, .inl gop)), (ca, .inl (cka, 3000, .inl ga)), (cb, .inl (ckb, 3000, .inl gb)), (cplace, .inl (ckplace, 3000, .inl gplace)), (cnext, .inl (cknext, 3000, .inl gnext)), (cneeded, .inl (ckneeded, 3000, .inl gneeded))] sz) [(ckop, .int), (cka, .int), (ckb, .int), (ckplace, .int), (cknext, .int), (ckneeded, .int)] [(h0, .inr (2, [.ref cop, .ref ca, .ref cb, .ref cplace, .ref cnext, .ref cneeded, .int z2, .int t2])), (cop, .inl (ckop, 3000, .inl nop)), (ca, .inl (cka, 3000, .inl na)), (cb, .inl (ckb, 3000, .inl nb)), (cplace, .inl (ckplace, 3000, .inl nplace)), (cnext, .inl (cknext, 3000, .inl nnext)), (cneeded, .inl (ckneeded, 3000, .inl nneeded))]) (va_A [(h0, .inr (2, [.ref cop, .ref ca, .ref cb, .ref cplace, .ref cnext, .ref cneeded, .int z, .int ta])), (cop, .inl (ckop, 3000, .inl gop)), (ca, .inl (cka, 3000, .inl ga)), (cb, .inl (ckb, 3000, .inl gb)), (cplace, .inl (ckplace, 3000, .inl gplace)), (cnext, .inl (cknext, 3000, .inl gnext)), (cneeded, .inl (ckneeded, 3000, .inl gneeded))] sz)) 0 0 (va_A [(h0, .inr (2, [.ref cop, .ref ca, .ref cb, .ref cplace, .ref cnext, .ref cneeded, .int z, .int ta])), (cop, .inl (ckop, 3000, .inl gop)), (ca, .inl (cka, 3000, .inl ga)), (cb, .inl (ckb, 3000, .inl gb)), (cplace, .inl (ckplace, 3000, .inl gplace)), (cnext, .inl (cknext, 3000, .inl gnext)), (cneeded, .inl (ckneeded, 3000, .inl gneeded))] sz) := by
  refine Met.ofW (cc := cX2_append) (maxL := 5) (ret := (some .int)) (by decide) rfl ?_
  intro p e s m args below meth c s₁ B hml hv
  obtain ⟨rfl, hsz, hP, hK, hD0, hN, hT⟩ := hv
  have hx := B.exec
  have hb := B.bytes
  have hr := B.returns
  have hts := atoms_spec (ws := Cond.code yX2_append cX2_append 5 (some .int) :: zw) B.pre
  have hA : ∀ w ∈ zw, w.before _ s = true := fun w h => hts w (List.mem_cons_of_mem _ h)
  have hown : s.vm.findClass RX2 = some m.cls := findClass_of_methodNamed B.named
  have hlocks := B.notSynchronized
  subst hsz
  have hD := hD0.self (sz := s.heap.size)
  generalize hAe : va_A [(h0, .inr (2, [.ref cop, .ref ca, .ref cb, .ref cplace, .ref cnext, .ref cneeded, .int z, .int ta])), (cop, .inl (ckop, 3000, .inl gop)), (ca, .inl (cka, 3000, .inl ga)), (cb, .inl (ckb, 3000, .inl gb)), (cplace, .inl (ckplace, 3000, .inl gplace)), (cnext, .inl (cknext, 3000, .inl gnext)), (cneeded, .inl (ckneeded, 3000, .inl gneeded))] s.heap.size = A at hD hT ⊢
  have hAA : ∀ q : Nat, s.heap.size ≤ q → A q := fun q h => by rw [← hAe]; exact Or.inr h
  have hS : va_S A s.heap s.heap [] := va_S.rf
  have hl := lv_entry ([.ref h0, .int o, .int wh, .int nu]) (n := 5) (Nat.le_of_ble_eq_true rfl)
  rw [lg_entry_eq]
  generalize (lg_sl ([.ref h0, .int o, .int wh, .int nu]) ++ List.replicate (5 - (lg_sl ([.ref h0, .int o, .int wh, .int nu])).length) Slot.unset).toArray = ls at hl ⊢
  have hl : lv_has ls 5 [(0, .ref h0), (1, .int o), (2, .int wh), (3, .int nu)] := hl
  refine lv_aload_n hx hb dX2_append_0 rfl (lv_at hl 0 rfl) ?_
  refine lv_aload_n hx hb dX2_append_1 rfl (lv_at hl 0 rfl) ?_
  refine va_get (D := (dC, dI)) (ci := 2) (v := .int ta) (C := RX2) (T := TX2) (N := 8) hx hb hA zin_X2 hown hK hP 0 rfl rfl 7 (by decide) (hA _ wi_200) (fun _ h9 => h9) rfl dX2_append_2 ?_
  refine lv_iload_n hx hb dX2_append_5 rfl (lv_at hl 1 rfl) ?_
  refine lv_iload_n hx hb dX2_append_6 rfl (lv_at hl 2 rfl) ?_
  have hPc := hP.sub (ws' := [(h0, .inr (2, [.ref cop, .ref ca, .ref cb, .ref cplace, .ref cnext, .ref cneeded, .int z, .int ta])), (cop, .inl (ckop, 3000, .inl gop)), (ca, .inl (cka, 3000, .inl ga)), (cb, .inl (ckb, 3000, .inl gb)), (cplace, .inl (ckplace, 3000, .inl gplace)), (cnext, .inl (cknext, 3000, .inl gnext)), (cneeded, .inl (ckneeded, 3000, .inl gneeded))]) [0, 1, 2, 3, 4, 5, 6] rfl
  have hDc := hD.sub (ws' := [(h0, .inr (2, [.ref cop, .ref ca, .ref cb, .ref cplace, .ref cnext, .ref cneeded, .int z, .int ta])), (cop, .inl (ckop, 3000, .inl gop)), (ca, .inl (cka, 3000, .inl ga)), (cb, .inl (ckb, 3000, .inl gb)), (cplace, .inl (ckplace, 3000, .inl gplace)), (cnext, .inl (cknext, 3000, .inl gnext)), (cneeded, .inl (ckneeded, 3000, .inl gneeded))]) [0, 1, 2, 3, 4, 5, 6] (by decide) rfl
  have hKc := hK.sub (tys' := [(ckop, .int), (cka, .int), (ckb, .int), (ckplace, .int), (cknext, .int), (ckneeded, .int)]) [0, 1, 2, 3, 4, 5] rfl
  have hFc := va_free (wc := [(h0, .inr (2, [.ref cop, .ref ca, .ref cb, .ref cplace, .ref cnext, .ref cneeded, .int z, .int ta])), (cop, .inl (ckop, 3000, .inl gop)), (ca, .inl (cka, 3000, .inl ga)), (cb, .inl (ckb, 3000, .inl gb)), (cplace, .inl (ckplace, 3000, .inl gplace)), (cnext, .inl (cknext, 3000, .inl gnext)), (cneeded, .inl (ckneeded, 3000, .inl gneeded))]) hD hS hAA [0, 1, 2, 3, 4, 5, 6] rfl
  refine va_calli (va_runV (As := [.int ta, .int o, .int wh]) (rest := []) ⟨hx, hb, hml, hown, hA⟩ (c_X2_insertBehind_x l dC dI aK aV h0 cop ca cb cplace cnext cneeded ckop cka ckb ckplace cknext ckneeded z ta gop ga gb gplace gnext gneeded ta o wh s.heap.size (by omega) (by omega) (by omega) (by omega) hgn (by omega) (by omega)) (cwV 3 hA (zw_V wi_922 wi_923 wi_924 wi_132 (zw_good wi_925)) rfl rfl rfl (by decide +kernel) ⟨(Nat.le_of_ble_eq_true rfl), (Nat.le_of_ble_eq_true rfl)⟩) ⟨zP_blind, va_recv hKc hPc (ci := 2) (q0 := 0) rfl rfl, zz_pre hKc hPc hDc hN hT hS hFc⟩ rfl rfl hl.1 rfl (lv_room (Nat.le_of_ble_eq_true rfl)) dX2_append_7 ⟨(Nat.le_of_ble_eq_true rfl), (Nat.le_of_ble_eq_true rfl)⟩) hS (fun q _ h => hFc q h) hFc (fun r_1 u t H1 locs ht hvm hw hB hz1 hk1 hS => ?_)
  obtain ⟨z_2, t_3, nop_4, na_5, nb_6, nplace_7, nnext_8, nneeded_9⟩ := u
  obtain ⟨hP1, hK1, hD1⟩ := hB
  rw [ht] at hP1
  have hK1 := va_K.moved hvm.symm hK1
  obtain ⟨hP, hD⟩ := va_join (wr := []) (w1 := [(h0, .inr (2, [.ref cop, .ref ca, .ref cb, .ref cplace, .ref cnext, .ref cneeded, .int z_2, .int t_3])), (cop, .inl (ckop, 3000, .inl nop_4)), (ca, .inl (cka, 3000, .inl na_5)), (cb, .inl (ckb, 3000, .inl nb_6)), (cplace, .inl (ckplace, 3000, .inl nplace_7)), (cnext, .inl (cknext, 3000, .inl nnext_8)), (cneeded, .inl (ckneeded, 3000, .inl nneeded_9))]) hP hD [0, 1, 2, 3, 4, 5, 6] [] rfl rfl (by decide) (by decide) hk1 hFc hP1 hD1
  have hK := (hK.sub (tys' := []) [] rfl).app hK1
  generalize H1 = H at hP hS ⊢
  have hP : va_P (dC, dI) vwCl [(h0, .inr (2, [.ref cop, .ref ca, .ref cb, .ref cplace, .ref cnext, .ref cneeded, .int z_2, .int t_3])), (cop, .inl (ckop, 3000, .inl nop_4)), (ca, .inl (cka, 3000, .inl na_5)), (cb, .inl (ckb, 3000, .inl nb_6)), (cplace, .inl (ckplace, 3000, .inl nplace_7)), (cnext, .inl (cknext, 3000, .inl nnext_8)), (cneeded, .inl (ckneeded, 3000, .inl nneeded_9))] H := hP
  have hD : va_D A [(h0, .inr (2, [.ref cop, .ref ca, .ref cb, .ref cplace, .ref cnext, .ref cneeded, .int z_2, .int t_3])), (cop, .inl (ckop, 3000, .inl nop_4)), (ca, .inl (cka, 3000, .inl na_5)), (cb, .inl (ckb, 3000, .inl nb_6)), (cplace, .inl (ckplace, 3000, .inl nplace_7)), (cnext, .inl (cknext, 3000, .inl nnext_8)), (cneeded, .inl (ckneeded, 3000, .inl nneeded_9))] := hD
  have hK : va_K (dC, dI) vwCl [(ckop, .int), (cka, .int), (ckb, .int), (ckplace, .int), (cknext, .int), (ckneeded, .int)] s := hK
  obtain rfl : z = r_1 := hw.1.symm
  obtain ⟨hq_10, hq_11, hq_12, hq_13, hq_14, hq_15, hq_16, hq_17, hq_18⟩ := hw
  refine lv_istore (lv' := [(4, .int z), (0, .ref h0), (1, .int o), (2, .int wh), (3, .int nu)]) hx hb dX2_append_10 hl (by decide) rfl (fun ls hl => ?_)
  refine lv_aload_n hx hb dX2_append_12 rfl (lv_at hl 1 rfl) ?_
  refine va_get (D := (dC, dI)) (ci := 2) (v := .ref ca) (C := RX2) (T := TX2) (N := 8) hx hb hA zin_X2 hown hK hP 0 rfl rfl 1 (by decide) (hA _ wi_180) (fun _ h9 => h9) rfl dX2_append_13 ?_
  refine lv_iload hx hb dX2_append_16 (lv_at hl 0 rfl) ?_
  refine lv_iload_n hx hb dX2_append_18 rfl (lv_at hl 4 rfl) ?_
  refine va_iast hx hb hK hP hD hS 2 1 rfl rfl (vp_in_iff.mpr ⟨by omega, by omega⟩) dX2_append_19 (fun H locs hP hD hS => ?_)
  obtain ⟨f_19, ef_19⟩ : ∃ gz9 : Nat → Int32, gz9 = upd na_5 (Int32.toNatClampNeg z) nu := ⟨_, rfl⟩
  rw [← ef_19] at hP hD
  have hP : va_P (dC, dI) vwCl [(h0, .inr (2, [.ref cop, .ref ca, .ref cb, .ref cplace, .ref cnext, .ref cneeded, .int z_2, .int t_3])), (cop, .inl (ckop, 3000, .inl nop_4)), (ca, .inl (cka, 3000, .inl f_19)), (cb, .inl (ckb, 3000, .inl nb_6)), (cplace, .inl (ckplace, 3000, .inl nplace_7)), (cnext, .inl (cknext, 3000, .inl nnext_8)), (cneeded, .inl (ckneeded, 3000, .inl nneeded_9))] H := hP
  have hD : va_D A [(h0, .inr (2, [.ref cop, .ref ca, .ref cb, .ref cplace, .ref cnext, .ref cneeded, .int z_2, .int t_3])), (cop, .inl (ckop, 3000, .inl nop_4)), (ca, .inl (cka, 3000, .inl f_19)), (cb, .inl (ckb, 3000, .inl nb_6)), (cplace, .inl (ckplace, 3000, .inl nplace_7)), (cnext, .inl (cknext, 3000, .inl nnext_8)), (cneeded, .inl (ckneeded, 3000, .inl nneeded_9))] := hD
  refine lv_iload hx hb dX2_append_20 (lv_at hl 0 rfl) ?_
  have hP9 := hP.sub (ws' := [(h0, .inr (2, [.ref cop, .ref ca, .ref cb, .ref cplace, .ref cnext, .ref cneeded, .int z_2, .int t_3])), (cop, .inl (ckop, 3000, .inl nop_4)), (ca, .inl (cka, 3000, .inl f_19)), (cb, .inl (ckb, 3000, .inl nb_6)), (cplace, .inl (ckplace, 3000, .inl nplace_7)), (cnext, .inl (cknext, 3000, .inl nnext_8)), (cneeded, .inl (ckneeded, 3000, .inl nneeded_9))]) [0, 1, 2, 3, 4, 5, 6] rfl
  have hD9 := hD.sub (ws' := [(h0, .inr (2, [.ref cop, .ref ca, .ref cb, .ref cplace, .ref cnext, .ref cneeded, .int z_2, .int t_3])), (cop, .inl (ckop, 3000, .inl nop_4)), (ca, .inl (cka, 3000, .inl f_19)), (cb, .inl (ckb, 3000, .inl nb_6)), (cplace, .inl (ckplace, 3000, .inl nplace_7)), (cnext, .inl (cknext, 3000, .inl nnext_8)), (cneeded, .inl (ckneeded, 3000, .inl nneeded_9))]) [0, 1, 2, 3, 4, 5, 6] (by decide) rfl
  have hK9 := hK.sub (tys' := [(ckop, .int), (cka, .int), (ckb, .int), (ckplace, .int), (cknext, .int), (ckneeded, .int)]) [0, 1, 2, 3, 4, 5] rfl
  exact W.iret (v := z) hx hb hr (fun t ht hW => ⟨⟨z, (z_2, t_3, nop_4, f_19, nb_6, nplace_7, nnext_8, nneeded_9), rfl, ⟨rfl, by omega, Int32.toInt_inj.mp (by omega), hq_13, hq_14, by rw [ef_19, hq_15, zu_uu], hq_16, hq_17, hq_18⟩, by rw [ht]; exact hP9, va_K.moved hW.alike hK9, hD9⟩, hS.F ht⟩) hS.2.2 dX2_append_22
set_option maxHeartbeats 4000000 in
set_option maxRecDepth 100000 in
theorem c_X2_appendStep_x (l : Launch) (dC : Nat → ClassId) (dI : Nat → Nat → Nat) (aK aV : Nat → Nat) (h0 : Nat) (cop : Nat) (ca : Nat) (cb : Nat) (cplace : Nat) (cnext : Nat) (cneeded : Nat) (ckop : ClassId) (cka : ClassId) (ckb : ClassId) (ckplace : ClassId) (cknext : ClassId) (ckneeded : ClassId) (z : Int32) (ta : Int32) (gop : Nat → Int32) (ga : Nat → Int32) (gb : Nat → Int32) (gplace : Nat → Int32) (gnext : Nat → Int32) (gneeded : Nat → Int32) (wh : Int32) (sz : Nat) (hz0 : 0 ≤ z.toInt) (hz1 : z.toInt < 3000) (ht0 : 0 ≤ ta.toInt) (ht1 : ta.toInt < 3000) (hgn : zx 3000 gnext) : Met l yX2_appendStep (Cond.code yX2_appendStep cX2_appendStep 2 none :: zw) ({ frames := 10, cells := 0, slots := 0, locals := 300 }) (va_Pc [.ref h0, .int wh] (zP dC dI aK aV sz [(ckop, .int), (cka, .int), (ckb, .int), (ckplace, .int), (cknext, .int), (ckneeded, .int)] [(h0, .inr (2, [.ref cop, .ref ca, .ref cb, .ref cplace, .ref cnext, .ref cneeded, .int z, .int ta])), (cop, .inl (ckop, 3000, .inl gop)), (ca, .inl (cka, 3000, .inl ga)), (cb, .inl (ckb, 3000, .inl gb)), (cplace, .inl (ckplace, 3000, .inl gplace)), (cnext, .inl (cknext, 3000, .inl gnext)), (cneeded, .inl (ckneeded, 3000, .inl gneeded))])) (va_Qv (fun u : Int32 × Int32 × (Nat → Int32) × (Nat → Int32) × (Nat → Int32) × (Nat → Int32) × (Nat → Int32) × (Nat → Int32) => match u with | (z2, t2, nop, na, nb, nplace, nnext, nneeded) => (z2.toInt = z.toInt + 1) ∧ (t2 = z) ∧ (zx 3000 nnext) ∧ (nop = upd gop (Int32.toNatClampNeg z) 1) ∧ (na = upd ga (Int32.toNatClampNeg z) (-1)) ∧ (nb = upd gb (Int32.toNatClampNeg z) (-1)) ∧ (nnext = upd (upd gnext (Int32.toNatClampNeg z) (gnext (Int32.toNatClampNeg ta))) (Int32.toNatClampNeg ta) z) ∧ (nplace = upd gplace (Int32.toNatClampNeg z) wh)) (fun u => match u with | (z2, t2, nop, na, nb, nplace, nnext, nneeded) => zQ dC dI (va_A [(h0, .inr (2, [.ref cop, .ref ca, .ref cb, .ref cplace, .ref cnext, .ref cneeded, .int z, .int ta])), (cop, .inl (ckop, 3000, .inl gop)), (ca, .inl (cka, 3000, .inl ga)), (cb, .inl (ckb, 3000, .inl gb)), (cplace, .inl (ckplace, 3000, .inl gplace)), (cnext, .inl (cknext, 3000, .inl gnext)), (cneeded, .inl (ckneeded, 3000, .inl gneeded))] sz) [(ckop, .int), (cka, .int), (ckb, .int), (ckplace, .int), (cknext, .int), (ckneeded, .int)] [(h0, .inr (2, [.ref cop, .ref ca, .ref cb, .ref cplace, .ref cnext, .ref cneeded, .int z2, .int t2])), (cop, .inl (ckop, 3000, .inl nop)), (ca, .inl (cka, 3000, .inl na)), (cb, .inl (ckb, 3000, .inl nb)), (cplace, .inl (ckplace, 3000, .inl nplace)), (cnext, .inl (cknext, 3000, .inl nnext)), (cneeded, .inl (ckneeded, 3000, .inl nneeded))]) (va_A [(h0, .inr (2, [.ref cop, .ref ca, .ref cb, .ref cplace, .ref cnext, .ref cneeded, .int z, .int ta])), (cop, .inl (ckop, 3000, .inl gop)), (ca, .inl (cka, 3000, .inl ga)), (cb, .inl (ckb, 3000, .inl gb)), (cplace, .inl (ckplace, 3000, .inl gplace)), (cnext, .inl (cknext, 3000, .inl gnext)), (cneeded, .inl (ckneeded, 3000, .inl gneeded))] sz)) 0 0 (va_A [(h0, .inr (2, [.ref cop, .ref ca, .ref cb, .ref cplace, .ref cnext, .ref cneeded, .int z, .int ta])), (cop, .inl (ckop, 3000, .inl gop)), (ca, .inl (cka, 3000, .inl ga)), (cb, .inl (ckb, 3000, .inl gb)), (cplace, .inl (ckplace, 3000, .inl gplace)), (cnext, .inl (cknext, 3000, .inl gnext)), (cneeded, .inl (ckneeded, 3000, .inl gneeded))] sz) := by
  refine Met.ofW (cc := cX2_appendStep) (maxL := 2) (ret := none) (by decide) rfl ?_
  intro p e s m args below meth c s₁ B hml hv
  obtain ⟨rfl, hsz, hP, hK, hD0, hN, hT⟩ := hv
  have hx := B.exec
  have hb := B.bytes
  have hr := B.returns
  have hts := atoms_spec (ws := Cond.code yX2_appendStep cX2_appendStep 2 none :: zw) B.pre
  have hA : ∀ w ∈ zw, w.before _ s = true := fun w h => hts w (List.mem_cons_of_mem _ h)
  have hown : s.vm.findClass RX2 = some m.cls := findClass_of_methodNamed B.named
  have hlocks := B.notSynchronized
  subst hsz
  have hD := hD0.self (sz := s.heap.size)
  generalize hAe : va_A [(h0, .inr (2, [.ref cop, .ref ca, .ref cb, .ref cplace, .ref cnext, .ref cneeded, .int z, .int ta])), (cop, .inl (ckop, 3000, .inl gop)), (ca, .inl (cka, 3000, .inl ga)), (cb, .inl (ckb, 3000, .inl gb)), (cplace, .inl (ckplace, 3000, .inl gplace)), (cnext, .inl (cknext, 3000, .inl gnext)), (cneeded, .inl (ckneeded, 3000, .inl gneeded))] s.heap.size = A at hD hT ⊢
  have hAA : ∀ q : Nat, s.heap.size ≤ q → A q := fun q h => by rw [← hAe]; exact Or.inr h
  have hS : va_S A s.heap s.heap [] := va_S.rf
  have hl := lv_entry ([.ref h0, .int wh]) (n := 2) (Nat.le_of_ble_eq_true rfl)
  rw [lg_entry_eq]
  generalize (lg_sl ([.ref h0, .int wh]) ++ List.replicate (2 - (lg_sl ([.ref h0, .int wh])).length) Slot.unset).toArray = ls at hl ⊢
  have hl : lv_has ls 2 [(0, .ref h0), (1, .int wh)] := hl
  refine lv_aload_n hx hb dX2_appendStep_0 rfl (lv_at hl 0 rfl) ?_
  refine lv_aload_n hx hb dX2_appendStep_1 rfl (lv_at hl 0 rfl) ?_
  refine va_get (D := (dC, dI)) (ci := 2) (v := .int ta) (C := RX2) (T := TX2) (N := 8) hx hb hA zin_X2 hown hK hP 0 rfl rfl 7 (by decide) (hA _ wi_200) (fun _ h9 => h9) rfl dX2_appendStep_2 ?_
  refine lv_iconst (v := 1) hx hb dX2_appendStep_5 (by decide) ?_
  refine lv_iload_n hx hb dX2_appendStep_6 rfl (lv_at hl 1 rfl) ?_
  have hPc := hP.sub (ws' := [(h0, .inr (2, [.ref cop, .ref ca, .ref cb, .ref cplace, .ref cnext, .ref cneeded, .int z, .int ta])), (cop, .inl (ckop, 3000, .inl gop)), (ca, .inl (cka, 3000, .inl ga)), (cb, .inl (ckb, 3000, .inl gb)), (cplace, .inl (ckplace, 3000, .inl gplace)), (cnext, .inl (cknext, 3000, .inl gnext)), (cneeded, .inl (ckneeded, 3000, .inl gneeded))]) [0, 1, 2, 3, 4, 5, 6] rfl
  have hDc := hD.sub (ws' := [(h0, .inr (2, [.ref cop, .ref ca, .ref cb, .ref cplace, .ref cnext, .ref cneeded, .int z, .int ta])), (cop, .inl (ckop, 3000, .inl gop)), (ca, .inl (cka, 3000, .inl ga)), (cb, .inl (ckb, 3000, .inl gb)), (cplace, .inl (ckplace, 3000, .inl gplace)), (cnext, .inl (cknext, 3000, .inl gnext)), (cneeded, .inl (ckneeded, 3000, .inl gneeded))]) [0, 1, 2, 3, 4, 5, 6] (by decide) rfl
  have hKc := hK.sub (tys' := [(ckop, .int), (cka, .int), (ckb, .int), (ckplace, .int), (cknext, .int), (ckneeded, .int)]) [0, 1, 2, 3, 4, 5] rfl
  have hFc := va_free (wc := [(h0, .inr (2, [.ref cop, .ref ca, .ref cb, .ref cplace, .ref cnext, .ref cneeded, .int z, .int ta])), (cop, .inl (ckop, 3000, .inl gop)), (ca, .inl (cka, 3000, .inl ga)), (cb, .inl (ckb, 3000, .inl gb)), (cplace, .inl (ckplace, 3000, .inl gplace)), (cnext, .inl (cknext, 3000, .inl gnext)), (cneeded, .inl (ckneeded, 3000, .inl gneeded))]) hD hS hAA [0, 1, 2, 3, 4, 5, 6] rfl
  refine va_calli (va_runV (As := [.int ta, .int 1, .int wh]) (rest := []) ⟨hx, hb, hml, hown, hA⟩ (c_X2_insertBehind_x l dC dI aK aV h0 cop ca cb cplace cnext cneeded ckop cka ckb ckplace cknext ckneeded z ta gop ga gb gplace gnext gneeded ta 1 wh s.heap.size (by omega) (by omega) (by omega) (by omega) hgn (by omega) (by omega)) (cwV 3 hA (zw_V wi_922 wi_923 wi_924 wi_132 (zw_good wi_925)) rfl rfl rfl (by decide +kernel) ⟨(Nat.le_of_ble_eq_true rfl), (Nat.le_of_ble_eq_true rfl)⟩) ⟨zP_blind, va_recv hKc hPc (ci := 2) (q0 := 0) rfl rfl, zz_pre hKc hPc hDc hN hT hS hFc⟩ rfl rfl hl.1 rfl (lv_room (Nat.le_of_ble_eq_true rfl)) dX2_appendStep_7 ⟨(Nat.le_of_ble_eq_true rfl), (Nat.le_of_ble_eq_true rfl)⟩) hS (fun q _ h => hFc q h) hFc (fun r_1 u t H1 locs ht hvm hw hB hz1 hk1 hS => ?_)
  obtain ⟨z_2, t_3, nop_4, na_5, nb_6, nplace_7, nnext_8, nneeded_9⟩ := u
  obtain ⟨hP1, hK1, hD1⟩ := hB
  rw [ht] at hP1
  have hK1 := va_K.moved hvm.symm hK1
  obtain ⟨hP, hD⟩ := va_join (wr := []) (w1 := [(h0, .inr (2, [.ref cop, .ref ca, .ref cb, .ref cplace, .ref cnext, .ref cneeded, .int z_2, .int t_3])), (cop, .inl (ckop, 3000, .inl nop_4)), (ca, .inl (cka, 3000, .inl na_5)), (cb, .inl (ckb, 3000, .inl nb_6)), (cplace, .inl (ckplace, 3000, .inl nplace_7)), (cnext, .inl (cknext, 3000, .inl nnext_8)), (cneeded, .inl (ckneeded, 3000, .inl nneeded_9))]) hP hD [0, 1, 2, 3, 4, 5, 6] [] rfl rfl (by decide) (by decide) hk1 hFc hP1 hD1
  have hK := (hK.sub (tys' := []) [] rfl).app hK1
  generalize H1 = H at hP hS ⊢
  have hP : va_P (dC, dI) vwCl [(h0, .inr (2, [.ref cop, .ref ca, .ref cb, .ref cplace, .ref cnext, .ref cneeded, .int z_2, .int t_3])), (cop, .inl (ckop, 3000, .inl nop_4)), (ca, .inl (cka, 3000, .inl na_5)), (cb, .inl (ckb, 3000, .inl nb_6)), (cplace, .inl (ckplace, 3000, .inl nplace_7)), (cnext, .inl (cknext, 3000, .inl nnext_8)), (cneeded, .inl (ckneeded, 3000, .inl nneeded_9))] H := hP
  have hD : va_D A [(h0, .inr (2, [.ref cop, .ref ca, .ref cb, .ref cplace, .ref cnext, .ref cneeded, .int z_2, .int t_3])), (cop, .inl (ckop, 3000, .inl nop_4)), (ca, .inl (cka, 3000, .inl na_5)), (cb, .inl (ckb, 3000, .inl nb_6)), (cplace, .inl (ckplace, 3000, .inl nplace_7)), (cnext, .inl (cknext, 3000, .inl nnext_8)), (cneeded, .inl (ckneeded, 3000, .inl nneeded_9))] := hD
  have hK : va_K (dC, dI) vwCl [(ckop, .int), (cka, .int), (ckb, .int), (ckplace, .int), (cknext, .int), (ckneeded, .int)] s := hK
  obtain rfl : z = r_1 := hw.1.symm
  obtain ⟨hq_10, hq_11, hq_12, hq_13, hq_14, hq_15, hq_16, hq_17, hq_18⟩ := hw
  refine lv_pop hx hb dX2_appendStep_10 rfl ?_
  have hP9 := hP.sub (ws' := [(h0, .inr (2, [.ref cop, .ref ca, .ref cb, .ref cplace, .ref cnext, .ref cneeded, .int z_2, .int t_3])), (cop, .inl (ckop, 3000, .inl nop_4)), (ca, .inl (cka, 3000, .inl na_5)), (cb, .inl (ckb, 3000, .inl nb_6)), (cplace, .inl (ckplace, 3000, .inl nplace_7)), (cnext, .inl (cknext, 3000, .inl nnext_8)), (cneeded, .inl (ckneeded, 3000, .inl nneeded_9))]) [0, 1, 2, 3, 4, 5, 6] rfl
  have hD9 := hD.sub (ws' := [(h0, .inr (2, [.ref cop, .ref ca, .ref cb, .ref cplace, .ref cnext, .ref cneeded, .int z_2, .int t_3])), (cop, .inl (ckop, 3000, .inl nop_4)), (ca, .inl (cka, 3000, .inl na_5)), (cb, .inl (ckb, 3000, .inl nb_6)), (cplace, .inl (ckplace, 3000, .inl nplace_7)), (cnext, .inl (cknext, 3000, .inl nnext_8)), (cneeded, .inl (ckneeded, 3000, .inl nneeded_9))]) [0, 1, 2, 3, 4, 5, 6] (by decide) rfl
  have hK9 := hK.sub (tys' := [(ckop, .int), (cka, .int), (ckb, .int), (ckplace, .int), (cknext, .int), (ckneeded, .int)]) [0, 1, 2, 3, 4, 5] rfl
  exact W.vret hx hb hr (fun t ht hW => ⟨⟨(z_2, t_3, nop_4, na_5, nb_6, nplace_7, nnext_8, nneeded_9), rfl, ⟨by omega, Int32.toInt_inj.mp (by omega), hq_13, hq_14, hq_15, hq_16, hq_17, hq_18⟩, by rw [ht]; exact hP9, va_K.moved hW.alike hK9, hD9⟩, hS.F ht⟩) hS.2.2 dX2_appendStep_11
