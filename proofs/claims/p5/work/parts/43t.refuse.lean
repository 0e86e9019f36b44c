/-- the kinds that a match's arms have so far -/
def sp_sq (an ak : Nat → Int32) (x kz az : Int32) (ix : Int) (Q : List Nat) : Prop := ∃ AL : List Nat, zli an x AL ∧ (AL.length : Int) = ix ∧ (∀ a ∈ AL, (a : Int) < az.toInt ∧ 0 ≤ (ak a).toInt ∧ Int32.toNatClampNeg (ak a) ∈ Q) ∧ ∀ k ∈ Q, (k : Int) < kz.toInt ∧ ∃ a ∈ AL, (ak a).toInt = (k : Int)
theorem sp_sq_0 {an ak : Nat → Int32} {x kz az : Int32} {ix : Int} (hx : x.toInt = -1) (hi : ix = 0) : sp_sq an ak x kz az ix [] := ⟨[], hx, hi.symm, fun a h => (nomatch h), fun k h => (nomatch h)⟩
theorem sp_sq_i {an ak : Nat → Int32} {x kz az : Int32} {ix ix2 : Int} {Q : List Nat} (h : sp_sq an ak x kz az ix Q) (e : ix2 = ix) : sp_sq an ak x kz az ix2 Q := by obtain ⟨AL, a, b, c⟩ := h; exact ⟨AL, a, by omega, c⟩
theorem sp_sq_s {gS S0 S5 S2 : Nat → Nat → Int32} {G0 G : Nat → Nat → Int} {f : Nat} {h c : Int} {m n A : Nat} {fo kz kz2 az az2 kd : Int32} {ix ix2 : Int} {Q : List Nat} (hM : zM gS S0 G0 G f h c m fo n) (hR : zR S0 S5 f c m fo A) (sq : sp_sq (S0 5) (S0 4) (S0 2 m) kz az ix Q) (hA : (A : Int) = az.toInt) (h2 : ∀ a : Nat, (a : Int) < az.toInt + 1 → S2 4 a = S5 4 a ∧ S2 5 a = S5 5 a) (hb : S2 2 m = S5 2 m) (hz : az.toInt + 1 ≤ az2.toInt) (hkz : kz.toInt ≤ kz2.toInt) (hx : ix2 = ix + 1) (hk : S2 4 A = kd) (hk0 : 0 ≤ kd.toInt) (hk1 : kd.toInt < kz2.toInt) : sp_sq (S2 5) (S2 4) (S2 2 m) kz2 az2 ix2 (Int32.toNatClampNeg kd :: Q) := by
  obtain ⟨r0, r1, r3, r11, r12, rb0, rb1, rA, rz, ra, rf, rn, -⟩ := hR
  obtain ⟨AL, z1, z2, z3, z4⟩ := sq
  have hkn := zn_nat hk0
  have hli : zli (S2 5) (S2 2 m) (AL ++ [A]) := by
    rcases hM with ⟨e1, e2, s, k1, k2, k3, -⟩ | ⟨e1, s, Y, t, BL, cx, k1, k2, k3, k4, k5, k6, k7, k8, k9, ka, kb, kc, kd', ke, -⟩
    · have e : AL = [] := by
        cases AL with
        | nil => rfl
        | cons y l => have := z1.1; omega
      rw [e]
      exact ⟨by rw [hb]; exact (rb0 e1).1, by show (S2 5 A).toInt = -1; rw [(h2 A (by omega)).2]; exact rn⟩
    · have e : AL = BL := zli_uq2 z1 kd'
      have hfo : zla 0 AL = Int32.toNatClampNeg fo := by rw [e]; exact ke
      have hin : Int32.toNatClampNeg fo ∈ AL := by rw [← hfo]; exact zla_mem (by rw [e]; exact ka) 0
      have hfl := (z3 _ hin).1
      rw [hb, rb1 e1]
      refine zli_snoc (v := S2 5 (Int32.toNatClampNeg fo)) (d := 0) (by rw [(h2 _ (by omega)).2]; exact rf e1) (by rw [(h2 A (by omega)).2]; exact rn) (by rw [e]; exact ka) (by rw [e]; exact kc) z1 (fun r hr hne => ?_) (by rw [hfo])
      rw [hfo] at hne
      have := (z3 r hr).1
      rw [(h2 r (by omega)).2]
      exact (ra r (by omega)).2.1 (Or.inr hne)
  refine ⟨AL ++ [A], hli, by rw [List.length_append]; show ((AL.length + 1 : Nat) : Int) = _; omega, fun a ha => ?_, fun k hk2 => ?_⟩
  · rcases List.mem_append.mp ha with g | g
    · obtain ⟨g1, g2, g3⟩ := z3 a g
      have e : S2 4 a = S0 4 a := by rw [(h2 a (by omega)).1, (ra a (by omega)).1]
      rw [e]
      exact ⟨by omega, g2, List.mem_cons_of_mem _ g3⟩
    · rw [List.mem_singleton.mp g, hk]
      exact ⟨by omega, hk0, List.mem_cons_self⟩
  · rcases List.mem_cons.mp hk2 with g | g
    · rw [g]
      exact ⟨by omega, A, List.mem_append.mpr (Or.inr List.mem_cons_self), by rw [hk]; omega⟩
    · obtain ⟨g1, a, g2, g3⟩ := z4 k g
      have := (z3 a g2).1
      exact ⟨by omega, a, List.mem_append.mpr (Or.inl g2), by rw [(h2 a (by omega)).1, (ra a (by omega)).1]; exact g3⟩
/-- the kind at hand is none of them -/
def sp_rk (wd : Int64) (kz : Int32) (kw : Nat → Int64) (Q : List Nat) : Prop := sp_fi kw wd (Int32.toNatClampNeg kz) < Int32.toNatClampNeg kz → sp_fi kw wd (Int32.toNatClampNeg kz) ∉ Q
/-- a chain, so far without kind q -/
def sp_cn (an ak : Nat → Int32) (AL : List Nat) (am i q : Int32) : Prop := ∃ D R, AL = D ++ R ∧ zli an am R ∧ (D.length : Int) = i.toInt ∧ ∀ a ∈ D, q.toInt ≠ -1 → (ak a).toInt ≠ q.toInt
theorem sp_cn_0 {an ak : Nat → Int32} {AL : List Nat} {am i q : Int32} (h : zli an am AL) (hi : i.toInt = 0) : sp_cn an ak AL am i q := ⟨[], AL, rfl, h, hi.symm, fun a g => (nomatch g)⟩
theorem sp_cn_in {an ak : Nat → Int32} {AL : List Nat} {am i q : Int32} (h : sp_cn an ak AL am i q) (hne : am.toInt ≠ -1) : 0 ≤ am.toInt ∧ Int32.toNatClampNeg am ∈ AL := by
  obtain ⟨D, R, e, hl, -, -⟩ := h
  cases R with
  | nil => exact (hne hl).elim
  | cons y R =>
    have h1 : am.toInt = (y : Int) := hl.1
    have := zn_nat (x := am) (by omega)
    refine ⟨by omega, ?_⟩
    rw [e, show Int32.toNatClampNeg am = y by omega]
    exact List.mem_append.mpr (Or.inr List.mem_cons_self)
theorem sp_cn_s {an ak : Nat → Int32} {AL : List Nat} {am am2 i i2 q : Int32} (h : sp_cn an ak AL am i q) (hne : am.toInt ≠ -1) (en : am2 = an (Int32.toNatClampNeg am)) (hi : i2.toInt = i.toInt + 1) (hk : q.toInt ≠ -1 → (ak (Int32.toNatClampNeg am)).toInt ≠ q.toInt) : sp_cn an ak AL am2 i2 q := by
  obtain ⟨D, R, eA, hl, hD, hj⟩ := h
  cases R with
  | nil => exact (hne hl).elim
  | cons y R =>
    have h1 : am.toInt = (y : Int) := hl.1
    have := zn_nat (x := am) (by omega)
    have ey : Int32.toNatClampNeg am = y := by omega
    refine ⟨D ++ [y], R, by rw [eA]; simp, by rw [en, ey]; exact hl.2, by rw [List.length_append]; show ((D.length + 1 : Nat) : Int) = _; omega, fun a ha => ?_⟩
    rcases List.mem_append.mp ha with g | g
    · exact hj a g
    · rw [List.mem_singleton.mp g, ← ey]; exact hk
theorem sp_rk_y {an ak : Nat → Int32} {AL Q : List Nat} {am i q kz : Int32} {wd : Int64} {kw : Nat → Int64} (h : sp_cn an ak AL am i q) (hl : AL.length ≤ 8) (hx : am.toInt = -1 ∨ 8 ≤ i.toInt) (hf : sp_fd kw wd kz q) (hq : q.toInt < kz.toInt) (hq1 : -1 ≤ q.toInt) (hQ : ∀ k ∈ Q, ∃ a ∈ AL, (ak a).toInt = (k : Int)) : sp_rk wd kz kw Q := by
  obtain ⟨D, R, eA, hr, hD, hj⟩ := h
  have eR : R = [] := by
    cases R with
    | nil => rfl
    | cons y R =>
      have h1 : am.toInt = (y : Int) := hr.1
      rw [eA, List.length_append] at hl
      have : (y :: R).length = R.length + 1 := rfl
      omega
  intro g hm
  unfold sp_fd at hf
  by_cases u : q.toInt = -1
  · rw [if_pos u] at hf; omega
  · rw [if_neg u] at hf
    rw [hf] at hm
    obtain ⟨a, ha, e⟩ := hQ _ hm
    rw [eA, eR, List.append_nil] at ha
    have := zn_nat (x := q) (by omega)
    exact hj a ha u (by omega)
theorem sp_rk_x {ak : Nat → Int32} {Q : List Nat} {q kz : Int32} {a : Nat} {wd : Int64} {kw : Nat → Int64} (hf : sp_fd kw wd kz q) (hq0 : 0 ≤ q.toInt) (hq : q.toInt < kz.toInt) (e : (ak a).toInt = q.toInt) (hQ : Int32.toNatClampNeg (ak a) ∈ Q) : ¬ sp_rk wd kz kw Q := fun g => by
  have n1 := zn_nat hq0
  have n2 := zn_nat (x := kz) (by omega)
  have e2 : ak a = q := Int32.toInt_inj.mp e
  unfold sp_fd at hf
  rw [if_neg (by omega)] at hf
  rw [e2] at hQ
  exact g (by rw [hf]; omega) (by rw [hf]; exact hQ)
theorem sp_kh_nq {wd : Int64} {kz r kz2 : Int32} {kw kw2 : Nat → Int64} {kf kf2 : Nat → Int32} {Q : List Nat} (hk : sp_kh wd kz kw kf (some (r, kz2, kw2, kf2))) (hr : sp_rk wd kz kw Q) (hQ : ∀ k ∈ Q, (k : Int) < kz.toInt) (h0 : 0 ≤ kz.toInt) : Int32.toNatClampNeg r ∉ Q := by
  have n1 := zn_nat h0
  have h := hk (fun _ => wd) 0 [] rfl
  unfold sp_ki at h
  simp only [] at h
  by_cases g : sp_fi kw wd (Int32.toNatClampNeg kz) < Int32.toNatClampNeg kz
  · rw [if_pos g] at h
    have e := congrArg Prod.fst (Option.some.inj h)
    have e : sp_fi kw wd (Int32.toNatClampNeg kz) = Int32.toNatClampNeg r := e
    rw [← e]; exact hr g
  · rw [if_neg g] at h
    by_cases g2 : 20 ≤ Int32.toNatClampNeg kz
    · rw [if_pos g2] at h; exact nomatch h
    · rw [if_neg g2] at h
      have e := congrArg Prod.fst (Option.some.inj h)
      have e : Int32.toNatClampNeg kz = Int32.toNatClampNeg r := e
      intro hm
      have := hQ _ hm
      omega
theorem sp_rk_ki {wd : Int64} {V : Nat → Int64} {a : Nat} {kz : Int32} {kw : Nat → Int64} {kf : Nat → Int32} {C : List (Int64 × Int × Int)} {Q : List Nat} (ew : V a = wd) (h : ¬ sp_rk wd kz kw Q) : ∃ q, sp_ki V (a, Int32.toNatClampNeg kz, kw, kf, C) = some q ∧ q.1 ∈ Q := by
  have h' := Classical.not_imp.mp h
  obtain ⟨h1, h2⟩ := h'
  have h2 := Classical.not_not.mp h2
  refine ⟨(sp_fi kw wd (Int32.toNatClampNeg kz), (a, Int32.toNatClampNeg kz, kw, kf, C)), ?_, h2⟩
  unfold sp_ki
  simp only [ew]
  rw [if_pos h1]
/-- an arm: its kind (-2: any), what is behind it -/
def sp_rm (nop na nb npl : Nat → Int32) (V : Nat → Int64) (zz cz2 pa2 kz2 : Int32) (kw2 : Nat → Int64) (kf2 : Nat → Int32) (k : Int) (Z : Tm → Prop) (o : Option (Int × Tm × sp_S)) : Prop := ∃ C2 t, sp_cl nop na nb npl V zz cz2 C2 ∧ o = some (k, t, (Int32.toNatClampNeg pa2, Int32.toNatClampNeg kz2, kw2, kf2, C2)) ∧ Z t
def sp_ax (ix : Int32) (o : Option (Int × Tm × sp_S)) : Prop := 8 ≤ ix.toInt ∨ o = none
/-- an arm's place -/
def pf_ax (ix : Int32) (a p : Int) (fp : Int32) : Prop := (8 ≤ ix.toInt → fp.toInt = a) ∧ (ix.toInt < 8 → fp.toInt = p)
section
variable {T P : Nat → Int32} {V : Nat → Int64} {E : List Int64 → sp_S → Option (Tm × sp_S)} {L L2 : List Int64} {Q : List Nat} {K K2 : Nat × (Nat → Int64) × (Nat → Int32) × List (Int64 × Int × Int)} {a b c d e : Nat} {s1 s2 : Tm × sp_S} {o : Option (Tm × sp_S)}
theorem sp_ab_y (h : (T a).toInt = 261) (eb : b = a + 1) (q : E L (b, K) = o) : sp_ab T E L (a, K) = o := by subst eb; unfold sp_ab; exact (if_pos h).trans q
theorem sp_ab_n (h : (T a).toInt ≠ 261) : sp_ab T E L (a, K) = none := by unfold sp_ab; exact if_neg h
theorem sp_am_any (h : (T a).toInt = 95) (eb : b = a + 1) : sp_am T P V E L Q (a, K) = (sp_ab T E L (b, K)).bind fun s2 => some (-2, Tm.arm (P a).toInt (-1) L.length 0 s2.1, s2.2) := by subst eb; unfold sp_am; exact if_pos h
theorem sp_am_no (h : (T a).toInt ≠ 95) (h2 : (T a).toInt ≠ 259) : sp_am T P V E L Q (a, K) = none := by unfold sp_am; rw [if_neg h, if_neg h2]
theorem sp_am_kd (h2 : (T a).toInt = 259) : sp_am T P V E L Q (a, K) = (sp_ki V (a, K)).bind fun q => if q.1 ∈ Q then none else (sp_pa T V L q.1 q.2).bind fun p => (sp_ab T E p.1 p.2).bind fun s2 => some ((q.1 : Int), Tm.arm (P a).toInt (q.1 : Int) L.length (p.1.length - L.length) s2.1, s2.2) := by
  unfold sp_am; rw [if_neg (show ¬ (T a).toInt = 95 by omega)]; exact if_pos h2
theorem sp_am_rk {wd : Int64} {kz : Int32} {kw : Nat → Int64} {kf : Nat → Int32} {C : List (Int64 × Int × Int)} (h2 : (T a).toInt = 259) (ew : V a = wd) (h : ¬ sp_rk wd kz kw Q) : sp_am T P V E L Q (a, Int32.toNatClampNeg kz, kw, kf, C) = none := by
  obtain ⟨q, hq, hm⟩ := sp_rk_ki (V := V) (a := a) (kf := kf) (C := C) ew h
  rw [sp_am_kd h2, hq]; exact if_pos hm
theorem sp_am_kx {wd : Int64} {kz : Int32} {kw : Nat → Int64} {kf : Nat → Int32} {C : List (Int64 × Int × Int)} (h2 : (T a).toInt = 259) (ew : V a = wd) (h : sp_kh wd kz kw kf none) : sp_am T P V E L Q (a, Int32.toNatClampNeg kz, kw, kf, C) = none := by
  rw [sp_am_kd h2, h V a C ew]; rfl
theorem sp_am_px {wd : Int64} {kz r kz2 : Int32} {kw kw2 : Nat → Int64} {kf kf2 : Nat → Int32} {C : List (Int64 × Int × Int)} (h2 : (T a).toInt = 259) (ew : V a = wd) (h : sp_kh wd kz kw kf (some (r, kz2, kw2, kf2))) (hn : Int32.toNatClampNeg r ∉ Q) (hp : sp_pq T V L (Int32.toNatClampNeg r) a kf2 none) : sp_am T P V E L Q (a, Int32.toNatClampNeg kz, kw, kf, C) = none := by
  rw [sp_am_kd h2, h V a C ew]
  refine (if_neg hn).trans ?_
  show (sp_pa T V L (Int32.toNatClampNeg r) (a, Int32.toNatClampNeg kz2, kw2, kf2, C)).bind _ = none
  rw [hp]; rfl
theorem sp_am_py {wd : Int64} {kz r kz2 : Int32} {kw kw2 : Nat → Int64} {kf kf2 kf3 : Nat → Int32} {C : List (Int64 × Int × Int)} (h2 : (T a).toInt = 259) (ew : V a = wd) (h : sp_kh wd kz kw kf (some (r, kz2, kw2, kf2))) (hn : Int32.toNatClampNeg r ∉ Q) (hp : sp_pq T V L (Int32.toNatClampNeg r) a kf2 (some (L2, b, kf3))) : sp_am T P V E L Q (a, Int32.toNatClampNeg kz, kw, kf, C) = (sp_ab T E L2 (b, Int32.toNatClampNeg kz2, kw2, kf3, C)).bind fun s2 => some (((Int32.toNatClampNeg r : Nat) : Int), Tm.arm (P a).toInt ((Int32.toNatClampNeg r : Nat) : Int) L.length (L2.length - L.length) s2.1, s2.2) := by
  rw [sp_am_kd h2, h V a C ew]
  refine (if_neg hn).trans ?_
  show (sp_pa T V L (Int32.toNatClampNeg r) (a, Int32.toNatClampNeg kz2, kw2, kf2, C)).bind _ = _
  rw [hp]; rfl
end
def sp_nq (k : Int32) (P : Prop) : Prop := k.toInt ≠ -2 → P
theorem sp_nl_ar {gn : Nat → Int64} {ar ar2 : Int32} {L : List Int64} (h : sp_nl gn ar L) (e : ar2.toInt = ar.toInt) : sp_nl gn ar2 L := ⟨by rw [e]; exact h.1, h.2⟩
theorem zM_m {S0 S : Nat → Nat → Int32} {G0 G : Nat → Nat → Int} {f : Nat} {h c : Int} {m n : Nat} {fo : Int32} (hM : zM S0 S G0 G f h c m fo n) : (m : Int) < (S 11 0).toInt ∧ Int32.toNatClampNeg (S 0 m) = 15 := by
  rcases hM with ⟨e1, e2, s, k1, k2, -⟩ | ⟨e1, s, Y, t, BL, cx, k1, k2, k3, k4, k5, k6, k7, -⟩
  · exact ⟨(k1.2.2.2.2.2.1 m (by simp)).2, k2⟩
  · exact ⟨(k1.2.2.2.2.2.1 m (by simp)).2, k7⟩
theorem zM_lv {S0 S : Nat → Nat → Int32} {G0 G : Nat → Nat → Int} {f : Nat} {h c : Int} {m n : Nat} {fo : Int32} {AL : List Nat} (hM : zM S0 S G0 G f h c m fo n) (hl : zli (S 5) (S 2 m) AL) : ∀ a ∈ AL, Int32.toNatClampNeg (S 0 (Int32.toNatClampNeg (S 7 a))) = 16 := by
  rcases hM with ⟨e1, e2, s, k1, k2, k3, -⟩ | ⟨e1, s, Y, t, BL, cx, k1, k2, k3, k4, k5, k6, k7, k8, k9, ka, kb, kc, kd', ke, kf, kg⟩
  · intro a ha
    cases AL with
    | nil => exact nomatch ha
    | cons y l => have := hl.1; omega
  · intro a ha
    rw [zli_uq2 hl kd'] at ha
    rcases (kg a ha).2 with g | g
    · rw [g]; exact k3
    · exact g.2.1
theorem sp_cl_jn {S0 S : Nat → Nat → Int32} {G0 G : Nat → Nat → Int} {f : Nat} {h c : Int} {m n : Nat} {fo : Int32} {AL : List Nat} {na b pl : Nat → Int32} {V : Nat → Int64} {zz cz ct : Int32} {C : List (Int64 × Int × Int)} (hM : zM S0 S G0 G f h c m fo n) (hl : zli (S 5) (S 2 m) AL) (hj : zjn (S 7) ct (S 1) na AL) (k : sp_cl (S 0) (S 1) b pl V zz cz C) : sp_cl (S 0) na b pl V zz cz C := by
  have lv := zM_lv hM hl
  refine sp_cl_up k (fun _ _ => rfl) (fun r _ g => ⟨?_, rfl, rfl⟩)
  rw [hj r, if_neg]
  intro hm
  obtain ⟨a, ha, e⟩ := List.mem_map.mp hm
  have e : Int32.toNatClampNeg (S 7 a) = r := e
  have := lv a ha
  rw [e] at this
  have e9 : Int32.toNatClampNeg (S 0 r) = (S 0 r).toInt.toNat := rfl
  omega
/-- a match's arms so far -/
def sp_lm (T P : Nat → Int32) (op a b pl : Nat → Int32) (V : Nat → Int64) (zz cz pa kz : Int32) (kw : Nat → Int64) (kf : Nat → Int32) (M : Tm → Tm) (Z : Tm → Prop) (o : Option (Tm × sp_S)) (F : Nat → List Nat → Tm → sp_S → Option (Tm × sp_S)) (p : Int) (H : Nat → List Nat → Tm → sp_S → Int) (i : Int) (mo : Int) (sq : List Nat → Prop) : Prop := ∃ (C : List (Int64 × Int × Int)) (n : Nat) (Q : List Nat) (c : Tm), sp_cl op a b pl V zz cz C ∧ (n : Int) = 8 - i ∧ Z c ∧ sp_im (mo ≠ 0) (sq Q ∧ o = (F n Q c (Int32.toNatClampNeg pa, Int32.toNatClampNeg kz, kw, kf, C)).bind fun q => some (M q.1, q.2)) ∧ sp_im (mo = 0) (o = if (T (Int32.toNatClampNeg pa)).toInt = 125 then some (M c, (Int32.toNatClampNeg pa + 1, Int32.toNatClampNeg kz, kw, kf, C)) else none) ∧ sp_im (mo ≠ 0) (p = H n Q c (Int32.toNatClampNeg pa, Int32.toNatClampNeg kz, kw, kf, C)) ∧ sp_im (mo = 0) (p = (P (Int32.toNatClampNeg pa)).toInt)
section
variable {T P : Nat → Int32} {V : Nat → Int64} {E : List Int64 → sp_S → Option (Tm × sp_S)} {L : List Int64} {Q : List Nat} {K K2 : Nat × (Nat → Int64) × (Nat → Int32) × List (Int64 × Int × Int)} {a b c d : Nat} {o : Option (Tm × sp_S)} {w : Int64} {r : Int32} {so ar : Int32} {n n2 : Nat} {k : Int32} {m t : Tm} {M : Tm → Tm}
theorem sp_ma_x1 (eb : b = a + 1) (h : (T b).toInt ≠ 258) : sp_ma T P V E L (a, K) = none := by subst eb; unfold sp_ma; exact if_neg (fun g => h g.1)
theorem sp_ma_x2 (eb : b = a + 1) (ew : w = V b) (hi : sp_in r w L) (h : r.toInt = -1) : sp_ma T P V E L (a, K) = none := by subst eb; unfold sp_ma; exact if_neg (fun g => hi.1 h (by rw [ew]; exact g.2))
theorem sp_ma_x3 (eb : b = a + 1) (h : (T b).toInt = 258) (ew : w = V b) (hi : sp_in r w L) (hr : r.toInt ≠ -1) (ec : c = b + 1) (h3 : (T c).toInt ≠ 123) : sp_ma T P V E L (a, K) = none := by
  have e2 : c = a + 2 := by omega
  subst e2; subst eb; unfold sp_ma
  exact (if_pos ⟨h, by rw [← ew]; exact (hi.2 hr).1⟩).trans (if_neg h3)
theorem sp_ma_y (eb : b = a + 1) (h : (T b).toInt = 258) (ew : w = V b) (hi : sp_in r w L) (hr : r.toInt ≠ -1) (ec : c = b + 1) (h3 : (T c).toInt = 123) (ed : d = c + 1) : sp_ma T P V E L (a, K) = (sp_as T P V E L 8 [] Tm.nil (d, K)).bind fun q => some (Tm.mat (P a).toInt (sp_ix L w) q.1, q.2) := by
  have e2 : c = a + 2 := by omega
  have e3 : d = a + 3 := by omega
  subst e2; subst eb; subst e3; subst ew; unfold sp_ma
  exact (if_pos ⟨h, (hi.2 hr).1⟩).trans (if_pos h3)
theorem sp_as_x (ix : Int32) (hn : (n : Int) = 8 - ix.toInt) (h : sp_ax ix (sp_am T P V E L Q (a, K))) : (sp_as T P V E L n Q m (a, K)).bind (fun q => some (M q.1, q.2)) = none := by
  refine sp_bx ?_
  cases n with
  | zero => rfl
  | succ n => unfold sp_as; rw [h.resolve_left (by omega)]; rfl
theorem sp_as_1 (hn : n = n2 + 1) (q : sp_am T P V E L Q (a, K) = some (k.toInt, t, (b, K2))) (hk : k.toInt ≠ -2) (h : (T b).toInt = 124) (ec : c = b + 1) : (sp_as T P V E L n Q m (a, K)).bind (fun q => some (M q.1, q.2)) = (sp_as T P V E L n2 (Int32.toNatClampNeg k :: Q) (tm_sn m t) (c, K2)).bind (fun q => some (M q.1, q.2)) := by
  subst hn; subst ec
  congr 1
  conv => lhs; unfold sp_as
  rw [q]; exact (if_neg hk).trans (if_pos h)
theorem sp_as_2 (hn : n = n2 + 1) (q : sp_am T P V E L Q (a, K) = some (k.toInt, t, (b, K2))) (h : k.toInt = -2 ∨ (T b).toInt ≠ 124) : (sp_as T P V E L n Q m (a, K)).bind (fun q => some (M q.1, q.2)) = if (T b).toInt = 125 then some (M (tm_sn m t), (b + 1, K2)) else none := by
  subst hn
  have e : sp_as T P V E L (n2 + 1) Q m (a, K) = if (T b).toInt = 125 then some (tm_sn m t, (b + 1, K2)) else none := by
    conv => lhs; unfold sp_as
    rw [q]
    by_cases g : k.toInt = -2
    · exact if_pos g
    · exact (if_neg g).trans (if_neg (h.resolve_left g))
  rw [e]; split <;> rfl
theorem sp_e_le (h : (T a).toInt = 262) : sp_e T P V E L (a, K) = sp_le T P V E L (a, K) := by unfold sp_e; exact if_pos h
theorem sp_e_if (h : (T a).toInt = 264) : sp_e T P V E L (a, K) = sp_if T P E L (a, K) := by unfold sp_e; exact (if_neg (by show ¬ (T a).toInt = 262; omega)).trans (if_pos h)
theorem sp_e_ma (h : (T a).toInt = 267) : sp_e T P V E L (a, K) = sp_ma T P V E L (a, K) := by unfold sp_e; exact (if_neg (by show ¬ (T a).toInt = 262; omega)).trans ((if_neg (by show ¬ (T a).toInt = 264; omega)).trans (if_pos h))
theorem sp_e_cm (h1 : (T a).toInt ≠ 262) (h2 : (T a).toInt ≠ 264) (h3 : (T a).toInt ≠ 267) : sp_e T P V E L (a, K) = sp_cm T P V E L (a, K) := by unfold sp_e; exact (if_neg h1).trans ((if_neg h2).trans (if_neg h3))
theorem pf_ab_y {X : List Int64 → sp_S → Int} (h : (T a).toInt = 261) (eb : b = a + 1) : pf_ab T P X L (a, K) = X L (b, K) := by subst eb; unfold pf_ab; exact if_pos h
theorem pf_ab_n {X : List Int64 → sp_S → Int} (h : (T a).toInt ≠ 261) : pf_ab T P X L (a, K) = (P a).toInt := by unfold pf_ab; exact if_neg h
theorem pf_am_any {X : List Int64 → sp_S → Int} (h : (T a).toInt = 95) (eb : b = a + 1) : pf_am T P V X L Q (a, K) = pf_ab T P X L (b, K) := by subst eb; unfold pf_am; exact if_pos h
theorem pf_am_no {X : List Int64 → sp_S → Int} (h : (T a).toInt ≠ 95) (h2 : (T a).toInt ≠ 259) : pf_am T P V X L Q (a, K) = (P a).toInt := by unfold pf_am; exact (if_neg h).trans (if_neg h2)
theorem pf_am_kd {X : List Int64 → sp_S → Int} (h2 : (T a).toInt = 259) : pf_am T P V X L Q (a, K) = pf_b (sp_ki V (a, K)) (P a).toInt fun q => if q.1 ∈ Q then (P a).toInt else pf_b (sp_pa T V L q.1 q.2) (pf_pa T P V L a) fun p => pf_ab T P X p.1 p.2 := by
  unfold pf_am; exact (if_neg (show ¬ (T a).toInt = 95 by omega)).trans (if_pos h2)
theorem pf_am_rk {X : List Int64 → sp_S → Int} {wd : Int64} {kz : Int32} {kw : Nat → Int64} {kf : Nat → Int32} {C : List (Int64 × Int × Int)} (h2 : (T a).toInt = 259) (ew : V a = wd) (h : ¬ sp_rk wd kz kw Q) : pf_am T P V X L Q (a, Int32.toNatClampNeg kz, kw, kf, C) = (P a).toInt := by
  obtain ⟨q, hq, hm⟩ := sp_rk_ki (V := V) (a := a) (kf := kf) (C := C) ew h
  rw [pf_am_kd h2, pf_b_s hq]; exact if_pos hm
theorem pf_am_kx {X : List Int64 → sp_S → Int} {wd : Int64} {kz : Int32} {kw : Nat → Int64} {kf : Nat → Int32} {C : List (Int64 × Int × Int)} (h2 : (T a).toInt = 259) (ew : V a = wd) (h : sp_kh wd kz kw kf none) : pf_am T P V X L Q (a, Int32.toNatClampNeg kz, kw, kf, C) = (P a).toInt := by
  rw [pf_am_kd h2]; exact pf_b_n (h V a C ew)
theorem pf_am_k1 {X : List Int64 → sp_S → Int} {wd : Int64} {kz r kz2 : Int32} {kw kw2 : Nat → Int64} {kf kf2 : Nat → Int32} {C : List (Int64 × Int × Int)} (h2 : (T a).toInt = 259) (ew : V a = wd) (h : sp_kh wd kz kw kf (some (r, kz2, kw2, kf2))) (hn : Int32.toNatClampNeg r ∉ Q) : pf_am T P V X L Q (a, Int32.toNatClampNeg kz, kw, kf, C) = pf_b (sp_pa T V L (Int32.toNatClampNeg r) (a, Int32.toNatClampNeg kz2, kw2, kf2, C)) (pf_pa T P V L a) fun p => pf_ab T P X p.1 p.2 := by
  rw [pf_am_kd h2]; exact (pf_b_s (h V a C ew)).trans (if_neg hn)
theorem pf_am_px {X : List Int64 → sp_S → Int} {wd : Int64} {kz r kz2 : Int32} {kw kw2 : Nat → Int64} {kf kf2 : Nat → Int32} {C : List (Int64 × Int × Int)} (h2 : (T a).toInt = 259) (ew : V a = wd) (h : sp_kh wd kz kw kf (some (r, kz2, kw2, kf2))) (hn : Int32.toNatClampNeg r ∉ Q) (hp : sp_pq T V L (Int32.toNatClampNeg r) a kf2 none) : pf_am T P V X L Q (a, Int32.toNatClampNeg kz, kw, kf, C) = pf_pa T P V L a := by
  rw [pf_am_k1 h2 ew h hn]; exact pf_b_n (hp (Int32.toNatClampNeg kz2) kw2 C)
theorem pf_am_py {X : List Int64 → sp_S → Int} {L2 : List Int64} {wd : Int64} {kz r kz2 : Int32} {kw kw2 : Nat → Int64} {kf kf2 kf3 : Nat → Int32} {C : List (Int64 × Int × Int)} (h2 : (T a).toInt = 259) (ew : V a = wd) (h : sp_kh wd kz kw kf (some (r, kz2, kw2, kf2))) (hn : Int32.toNatClampNeg r ∉ Q) (hp : sp_pq T V L (Int32.toNatClampNeg r) a kf2 (some (L2, b, kf3))) : pf_am T P V X L Q (a, Int32.toNatClampNeg kz, kw, kf, C) = pf_ab T P X L2 (b, Int32.toNatClampNeg kz2, kw2, kf3, C) := by
  rw [pf_am_k1 h2 ew h hn]; exact pf_b_s (hp (Int32.toNatClampNeg kz2) kw2 C)
theorem pf_ma_x1 {X : List Int64 → sp_S → Int} (eb : b = a + 1) (h : (T b).toInt ≠ 258) : pf_ma T P V E X L (a, K) = (P b).toInt := by subst eb; unfold pf_ma; exact if_neg (fun g => h g.1)
theorem pf_ma_x2 {X : List Int64 → sp_S → Int} (eb : b = a + 1) (ew : w = V b) (hi : sp_in r w L) (h : r.toInt = -1) : pf_ma T P V E X L (a, K) = (P b).toInt := by subst eb; unfold pf_ma; exact if_neg (fun g => hi.1 h (by rw [ew]; exact g.2))
theorem pf_ma_x3 {X : List Int64 → sp_S → Int} (eb : b = a + 1) (h : (T b).toInt = 258) (ew : w = V b) (hi : sp_in r w L) (hr : r.toInt ≠ -1) (ec : c = b + 1) (h3 : (T c).toInt ≠ 123) : pf_ma T P V E X L (a, K) = (P c).toInt := by
  have e2 : c = a + 2 := by omega
  subst e2; subst eb; unfold pf_ma
  exact (if_pos ⟨h, by rw [← ew]; exact (hi.2 hr).1⟩).trans (if_neg h3)
theorem pf_ma_y {X : List Int64 → sp_S → Int} (eb : b = a + 1) (h : (T b).toInt = 258) (ew : w = V b) (hi : sp_in r w L) (hr : r.toInt ≠ -1) (ec : c = b + 1) (h3 : (T c).toInt = 123) (ed : d = c + 1) : pf_ma T P V E X L (a, K) = pf_as T P V E X L 8 [] Tm.nil (d, K) := by
  have e2 : c = a + 2 := by omega
  have e3 : d = a + 3 := by omega
  subst e2; subst eb; subst e3; subst ew; unfold pf_ma
  exact (if_pos ⟨h, (hi.2 hr).1⟩).trans (if_pos h3)
theorem pf_as_x {X : List Int64 → sp_S → Int} {fp : Int32} (ix : Int32) (hn : (n : Int) = 8 - ix.toInt) (h : sp_ax ix (sp_am T P V E L Q (a, K))) (h2 : pf_ax ix (P a).toInt (pf_am T P V X L Q (a, K)) fp) : pf_as T P V E X L n Q m (a, K) = fp.toInt := by
  cases n with
  | zero => exact (h2.1 (by omega)).symm
  | succ n => unfold pf_as; exact (pf_b_n (h.resolve_left (by omega))).trans (h2.2 (by omega)).symm
theorem pf_as_1 {X : List Int64 → sp_S → Int} (hn : n = n2 + 1) (q : sp_am T P V E L Q (a, K) = some (k.toInt, t, (b, K2))) (hk : k.toInt ≠ -2) (h : (T b).toInt = 124) (ec : c = b + 1) : pf_as T P V E X L n Q m (a, K) = pf_as T P V E X L n2 (Int32.toNatClampNeg k :: Q) (tm_sn m t) (c, K2) := by
  subst hn; subst ec
  conv => lhs; unfold pf_as
  exact (pf_b_s q).trans ((if_neg hk).trans (if_pos h))
theorem pf_as_2 {X : List Int64 → sp_S → Int} (hn : n = n2 + 1) (q : sp_am T P V E L Q (a, K) = some (k.toInt, t, (b, K2))) (h : k.toInt = -2 ∨ (T b).toInt ≠ 124) : pf_as T P V E X L n Q m (a, K) = (P b).toInt := by
  subst hn
  unfold pf_as
  refine (pf_b_s q).trans ?_
  by_cases g : k.toInt = -2
  · exact if_pos g
  · exact (if_neg g).trans (if_neg (h.resolve_left g))
theorem pf_e_le {X : List Int64 → sp_S → Int} (h : (T a).toInt = 262) : pf_e T P V E X L (a, K) = pf_le T P V E X L (a, K) := by unfold pf_e; exact if_pos h
theorem pf_e_if {X : List Int64 → sp_S → Int} (h : (T a).toInt = 264) : pf_e T P V E X L (a, K) = pf_if T P E X L (a, K) := by unfold pf_e; exact (if_neg (by show ¬ (T a).toInt = 262; omega)).trans (if_pos h)
theorem pf_e_ma {X : List Int64 → sp_S → Int} (h : (T a).toInt = 267) : pf_e T P V E X L (a, K) = pf_ma T P V E X L (a, K) := by unfold pf_e; exact (if_neg (by show ¬ (T a).toInt = 262; omega)).trans ((if_neg (by show ¬ (T a).toInt = 264; omega)).trans (if_pos h))
theorem pf_e_cm {X : List Int64 → sp_S → Int} (h1 : (T a).toInt ≠ 262) (h2 : (T a).toInt ≠ 264) (h3 : (T a).toInt ≠ 267) : pf_e T P V E X L (a, K) = pf_cm T P V E X L (a, K) := by unfold pf_e; exact (if_neg h1).trans ((if_neg h2).trans (if_neg h3))
end
/-! arms on their way: not yet led on -/
/-- what stands of one arm: its number, the row ahead of it, its last row -/
def cK (S : Nat → Nat → Int32) (alo ahi : Int) (A pv v : Nat) (k : Int) (h : Nat) (t : Tm) : Prop := (alo ≤ (A : Int) ∧ (A : Int) < ahi) ∧ (S 4 A).toInt = (if k = -1 then -2 else k) ∧ (S 6 A).toInt = (pv : Int) ∧ (S 7 A).toInt = (v : Int) ∧ (S 8 A).toInt = (h : Int) ∧ (∀ n, 1 ≤ n → n ≤ 3 → (S 9 A).toBitVec.getLsbD n = tm_mk t n) ∧ (S 0 v).toInt = 16
def cU (ahi : Int) : List Nat → Int
  | [] => ahi
  | A :: _ => (A : Int)
def cJ (S : Nat → Nat → Int32) (H : Int32 → Int64 → Prop) (alo ahi : Int) : Tm → Nat → List Nat → List Nat → Prop
  | .branch (_ + 3) (.branch 0 (.leaf (some (_ + 3, _, k, h, _, _))) t) r, pv, A :: AL, X => ∃ (Y : List Nat) (v : Nat) (Z : List Nat), X = Y ++ v :: Z ∧ cK S alo (cU ahi AL) A pv v k h t ∧ cI S H ((A : Int) + 1) (cU ahi AL) t false 0 0 0 Y ∧ cJ S H alo ahi r v AL Z
  | .leaf none, _, [], X => X = []
  | _, _, _, _ => False
theorem cJ_li {S : Nat → Nat → Int32} {H : Int32 → Int64 → Prop} {alo ahi : Int} : ∀ {c : Tm} {pv : Nat} {AL X : List Nat}, cJ S H alo ahi c pv AL X → tm_li c
  | .leaf none, _, _, _, _ => trivial
  | .branch (_ + 3) (.branch 0 (.leaf (some (_ + 3, _, _, _, _, _))) _) r, _, A :: AL, _, h => by
    obtain ⟨Y, v, Z, -, -, -, h⟩ := h
    exact cJ_li (c := r) h
theorem cJ_ge {S : Nat → Nat → Int32} {H : Int32 → Int64 → Prop} {alo ahi : Int} : ∀ {c : Tm} {pv : Nat} {AL X : List Nat}, cJ S H alo ahi c pv AL X → cU ahi AL ≤ ahi ∧ ∀ b ∈ AL, cU ahi AL ≤ (b : Int) ∧ (b : Int) < ahi
  | .leaf none, _, [], _, _ => ⟨Int.le_refl _, fun b hb => (nomatch hb)⟩
  | .branch (_ + 3) (.branch 0 (.leaf (some (_ + 3, _, _, _, _, _))) _) r, _, A :: AL, _, h => by
    obtain ⟨Y, v, Z, -, k, -, h⟩ := h
    obtain ⟨h1, h2⟩ := cJ_ge (c := r) h
    have k1 := k.1.2
    refine ⟨by show (A : Int) ≤ ahi; omega, fun b hb => ?_⟩
    rcases List.mem_cons.mp hb with g | g
    · rw [g]; exact ⟨Int.le_refl _, by omega⟩
    · have := h2 b g
      exact ⟨by show (A : Int) ≤ b; omega, this.2⟩
theorem cJ_st {S S2 : Nat → Nat → Int32} {H : Int32 → Int64 → Prop} {alo ahi ahi2 : Int} (h2 : ahi ≤ ahi2) (ha : ∀ j : Nat, alo ≤ (j : Int) → (j : Int) < ahi → S2 4 j = S 4 j ∧ S2 6 j = S 6 j ∧ S2 7 j = S 7 j ∧ S2 8 j = S 8 j ∧ S2 9 j = S 9 j) : ∀ {c : Tm} {pv : Nat} {AL X : List Nat} {lo : Int}, alo ≤ lo → (∀ j : Nat, lo ≤ (j : Int) → (j : Int) < ahi → j ∉ AL → S2 5 j = S 5 j) → lo ≤ cU ahi AL → (∀ r ∈ X, S2 0 r = S 0 r ∧ S2 1 r = S 1 r ∧ S2 2 r = S 2 r ∧ S2 3 r = S 3 r) → cJ S H alo ahi c pv AL X → cJ S2 H alo ahi2 c pv AL X
  | .leaf none, _, [], _, _, _, _, _, _, h => h
  | .branch (_ + 3) (.branch 0 (.leaf (some (_ + 3, _, _, _, _, _))) t) r, pv, A :: AL, X, lo, hlo, h5, hl, hr, h => by
    obtain ⟨Y, v, Z, rfl, ⟨⟨k0, k1⟩, k2, k3, k4, k5, k6, k7⟩, hi, hj⟩ := h
    obtain ⟨g1, g2⟩ := cJ_ge (c := r) hj
    have hl : lo ≤ (A : Int) := hl
    have hU : cU ahi AL ≤ cU ahi2 AL := by
      cases AL with
      | nil => exact h2
      | cons b l => exact Int.le_refl _
    obtain ⟨e4, e6, e7, e8, e9⟩ := ha A k0 (by omega)
    obtain ⟨f0, -⟩ := hr v (by simp)
    refine ⟨Y, v, Z, rfl, ⟨⟨k0, by omega⟩, by rw [e4]; exact k2, by rw [e6]; exact k3, by rw [e7]; exact k4, by rw [e8]; exact k5, by rw [e9]; exact k6, by rw [f0]; exact k7⟩, ?_, ?_⟩
    · refine cI_st (alo := (A : Int) + 1) (ahi := cU ahi AL) (fun j j1 j2 => ?_) (Int.le_refl _) hU t (fun x hx => hr x (by simp [hx])) hi
      obtain ⟨e4, e6, e7, e8, e9⟩ := ha j (by omega) (by omega)
      refine ⟨e4, h5 j (by omega) (by omega) (fun g => ?_), e6, e7, e8, e9⟩
      rcases List.mem_cons.mp g with g | g
      · omega
      · have := g2 j g; omega
    · refine cJ_st h2 ha (c := r) (lo := (A : Int) + 1) (by omega) (fun j j1 j2 j3 => h5 j (by omega) j2 (fun g => ?_)) (by omega) (fun x hx => hr x (by simp [hx])) hj
      rcases List.mem_cons.mp g with g | g
      · omega
      · exact j3 g
theorem cJ_sn {S : Nat → Nat → Int32} {H : Int32 → Int64 → Prop} {alo az az2 : Int} {A v h m : Nat} {p k : Int} {t : Tm} {Y1 : List Nat} (hA : (A : Int) = az) (hi : cI S H ((A : Int) + 1) az2 t false 0 0 0 Y1) : ∀ {c : Tm} {pv : Nat} {AL Y : List Nat}, cK S alo az2 A (zla pv Y) v k h t → cJ S H alo az c pv AL Y → cJ S H alo az2 (tm_sn c (Tm.arm p k h m t)) pv (AL ++ [A]) (Y ++ (Y1 ++ [v]))
  | .leaf none, pv, [], Y, hk, hc => by
    have hc : Y = [] := hc
    subst hc
    exact ⟨Y1, v, [], by simp, hk, hi, rfl⟩
  | .branch (_ + 3) (.branch 0 (.leaf (some (_ + 3, _, _, _, _, _))) u) r, pv, B :: AL, Y, hk, hc => by
    obtain ⟨W, x, Z, rfl, q, hu, hj⟩ := hc
    have e : cU az2 (AL ++ [A]) = cU az AL := by
      cases AL with
      | nil => exact hA
      | cons b l => rfl
    refine ⟨W, x, Z ++ (Y1 ++ [v]), by simp, ?_, ?_, cJ_sn hA hi (c := r) ?_ hj⟩
    · show cK S alo (cU az2 (AL ++ [A])) B pv x _ _ u
      rw [e]; exact q
    · show cI S H ((B : Int) + 1) (cU az2 (AL ++ [A])) u false 0 0 0 W
      rw [e]; exact hu
    · have : zla pv (W ++ x :: Z) = zla x Z := by rw [zla_app]; rfl
      rw [← this]; exact hk
theorem cJ_lv {S : Nat → Nat → Int32} {H : Int32 → Int64 → Prop} {alo ahi : Int} : ∀ {c : Tm} {pv : Nat} {AL X : List Nat}, cJ S H alo ahi c pv AL X → ∀ a ∈ AL, Int32.toNatClampNeg (S 7 a) ∈ X
  | .leaf none, _, [], _, _, a, ha => (nomatch ha)
  | .branch (_ + 3) (.branch 0 (.leaf (some (_ + 3, _, _, _, _, _))) t) r, pv, A :: AL, X, h, a, ha => by
    obtain ⟨Y, v, Z, rfl, ⟨-, -, -, k4, -⟩, -, hj⟩ := h
    rcases List.mem_cons.mp ha with g | g
    · have e : Int32.toNatClampNeg (S 7 A) = v := by have := zn_nat (x := S 7 A) (by omega); omega
      rw [g, e]; simp
    · have := cJ_lv (c := r) hj a g
      simp [this]
/-- led on -/
theorem cJ_dn {S S2 : Nat → Nat → Int32} {H : Int32 → Int64 → Prop} {alo ahi : Int} {LV : List Nat} {E : Int32} {en : Nat} (hE : E.toInt = (en : Int)) (e : ∀ k, k ≠ 1 → S2 k = S k) : ∀ {c : Tm} {pv : Nat} {AL X : List Nat} {ar : Int32}, X.Nodup → (∀ r ∈ X, S2 1 r = if r ∈ LV then E else S 1 r) → (∀ r ∈ X, (r ∈ LV ↔ r ∈ AL.map (fun a => Int32.toNatClampNeg (S 7 a)))) → zli (S 5) ar AL → cJ S H alo ahi c pv AL X → cI S2 H alo ahi c true pv ar en X
  | .leaf none, _, [], _, ar, _, _, _, hz, h => ⟨h, fun _ => hz⟩
  | .branch (_ + 3) (.branch 0 (.leaf (some (_ + 3, p, k, h, m, _))) t) r, pv, A :: AL, X, ar, hn, h1, hl, hz, hc => by
    have hc0 := hc
    obtain ⟨Y, v, Z, rfl, ⟨⟨k0, k1⟩, k2, k3, k4, k5, k6, k7⟩, hi, hj⟩ := hc
    obtain ⟨g1, g2⟩ := cJ_ge (c := r) hj
    have hz1 : ar.toInt = (A : Int) := hz.1
    have eA : Int32.toNatClampNeg ar = A := by have := zn_nat (x := ar) (by omega); omega
    have ev : Int32.toNatClampNeg (S 7 A) = v := by have := zn_nat (x := S 7 A) (by omega); omega
    have hnd := List.nodup_append.mp hn
    have hnZ := List.nodup_cons.mp hnd.2.1
    have hlv := cJ_lv (c := r) hj
    have hvL : v ∈ LV := (hl v (by simp)).mpr (by simp [ev])
    have hY : ∀ x ∈ Y, x ∉ LV := fun x hx g => by
      have g := (hl x (by simp [hx])).mp g
      rcases List.mem_cons.mp g with g | g
      · have g : x = Int32.toNatClampNeg (S 7 A) := g
        exact hnd.2.2 x hx v (by simp) (by rw [g, ev])
      · obtain ⟨b, hb, hq⟩ := List.mem_map.mp g
        have hq : Int32.toNatClampNeg (S 7 b) = x := hq
        have := hlv b hb
        rw [hq] at this
        exact hnd.2.2 x hx x (by simp [this]) rfl
    have hU : cU ahi AL ≤ ahi := g1
    refine ⟨Y ++ [v], Z, by simp, ?_, ?_, fun _ => ⟨by omega, by omega, by omega⟩⟩
    · refine ⟨Y, v, rfl, ⟨by omega, by omega, by omega⟩, ?_, ?_, ?_, ?_, ?_, ?_, ?_, ?_⟩
      · rw [eA, e 4 (by decide)]; exact k2
      · rw [eA, e 6 (by decide)]; exact k3
      · rw [eA, e 7 (by decide)]; exact k4
      · rw [eA, e 8 (by decide)]; exact k5
      · rw [eA, e 9 (by decide)]; exact k6
      · rw [e 0 (by decide)]; exact k7
      · rw [h1 v (by simp), if_pos hvL]; exact hE
      · refine cI_st (alo := (A : Int) + 1) (ahi := cU ahi AL) (fun j _ _ => ⟨by rw [e 4 (by decide)], by rw [e 5 (by decide)], by rw [e 6 (by decide)], by rw [e 7 (by decide)], by rw [e 8 (by decide)], by rw [e 9 (by decide)]⟩) (by omega) hU t (fun x hx => ⟨by rw [e 0 (by decide)], by rw [h1 x (by simp [hx]), if_neg (hY x hx)], by rw [e 2 (by decide)], by rw [e 3 (by decide)]⟩) hi
    · have ez : zla pv (Y ++ [v]) = v := by rw [zla_app]; rfl
      show cI S2 H alo ahi r true (zla pv (Y ++ [v])) (S2 5 (Int32.toNatClampNeg ar)) en Z
      rw [ez, eA, e 5 (by decide)]
      refine cJ_dn hE e (c := r) hnZ.2 (fun x hx => h1 x (by simp [hx])) (fun x hx => ?_) hz.2 hj
      rw [hl x (by simp [hx])]
      refine ⟨fun g => ?_, fun g => List.mem_cons_of_mem _ g⟩
      rcases List.mem_cons.mp g with g | g
      · have g : x = Int32.toNatClampNeg (S 7 A) := g
        rw [ev] at g
        exact absurd (g ▸ hx) hnZ.1
      · exact g
/-- the arms of match m so far: their trees, their rows -/
def cP (S : Nat → Nat → Int32) (H : Int32 → Int64 → Prop) (alo ahi : Int) (c : Tm) (m : Nat) (ar : Int32) (Y : List Nat) : Prop := ∃ AL, zli (S 5) ar AL ∧ cJ S H alo ahi c m AL Y
theorem zM_li {gS S0 S5 S2 : Nat → Nat → Int32} {G0 G : Nat → Nat → Int} {f : Nat} {h c : Int} {m n A : Nat} {fo az : Int32} {AL : List Nat} (hM : zM gS S0 G0 G f h c m fo n) (hR : zR S0 S5 f c m fo A) (z1 : zli (S0 5) (S0 2 m) AL) (z3 : ∀ a ∈ AL, (a : Int) < az.toInt) (hA : (A : Int) = az.toInt) (h2 : ∀ a : Nat, (a : Int) < az.toInt + 1 → S2 5 a = S5 5 a) (hb : S2 2 m = S5 2 m) : zli (S2 5) (S2 2 m) (AL ++ [A]) := by
  obtain ⟨r0, r1, r3, r11, r12, rb0, rb1, rA, rz, ra, rf, rn, -⟩ := hR
  rcases hM with ⟨e1, e2, s, k1, k2, k3, -⟩ | ⟨e1, s, Y, t, BL, cx, k1, k2, k3, k4, k5, k6, k7, k8, k9, ka, kb, kc, kd', ke, -⟩
  · have e : AL = [] := by
      cases AL with
      | nil => rfl
      | cons y l => have := z1.1; omega
    rw [e]
    exact ⟨by rw [hb]; exact (rb0 e1).1, by show (S2 5 A).toInt = -1; rw [h2 A (by omega)]; exact rn⟩
  · have e : AL = BL := zli_uq2 z1 kd'
    have hfo : zla 0 AL = Int32.toNatClampNeg fo := by rw [e]; exact ke
    have hin : Int32.toNatClampNeg fo ∈ AL := by rw [← hfo]; exact zla_mem (by rw [e]; exact ka) 0
    have hfl := z3 _ hin
    rw [hb, rb1 e1]
    refine zli_snoc (v := S2 5 (Int32.toNatClampNeg fo)) (d := 0) (by rw [h2 _ (by omega)]; exact rf e1) (by rw [h2 A (by omega)]; exact rn) (by rw [e]; exact ka) (by rw [e]; exact kc) z1 (fun r hr hne => ?_) (by rw [hfo])
    rw [hfo] at hne
    have := z3 r hr
    rw [h2 r (by omega)]
    exact (ra r (by omega)).2.1 (Or.inr hne)
theorem zM_fo {gS S0 : Nat → Nat → Int32} {G0 G : Nat → Nat → Int} {f : Nat} {h c : Int} {m n : Nat} {fo : Int32} {AL : List Nat} {j : Nat} (hM : zM gS S0 G0 G f h c m fo n) (z1 : zli (S0 5) (S0 2 m) AL) (hj : j ∉ AL) : fo.toInt = -1 ∨ j ≠ Int32.toNatClampNeg fo := by
  rcases hM with ⟨e1, -⟩ | ⟨e1, s, Y, t, BL, cx, k1, k2, k3, k4, k5, k6, k7, k8, k9, ka, kb, kc, kd', ke, -⟩
  · exact Or.inl e1
  · refine Or.inr (fun g => hj ?_)
    rw [g, ← ke, zli_uq2 z1 kd']
    exact zla_mem ka 0
theorem cJ_lo {S : Nat → Nat → Int32} {H : Int32 → Int64 → Prop} {alo ahi : Int} : ∀ {c : Tm} {pv : Nat} {AL X : List Nat}, alo ≤ ahi → cJ S H alo ahi c pv AL X → alo ≤ cU ahi AL
  | .leaf none, _, [], _, h0, _ => h0
  | .branch (_ + 3) (.branch 0 (.leaf (some (_ + 3, _, _, _, _, _))) _) r, _, A :: AL, _, _, h => by
    obtain ⟨Y, v, Z, -, k, -⟩ := h
    exact k.1.1
/-- one arm more -/
theorem cP_arm {op a b nx ak an ab al af kf ff pl bu b5 ak5 an5 ab5 al5 af5 kf5 ff5 bu5 op2 a2 b2 nx2 ak2 an2 ab2 alx af2 kf2 ff2 al2 pl2 bu2 : Nat → Int32} {cz ct az kz az5 kz5 cz2 ct2 az2 kz2 : Int32} {gS : Nat → Nat → Int32} {G0 G G5 G6 : Nat → Nat → Int} {f : Nat} {h c c' h2 c2 : Int} {m n A hh mm : Nat} {fo : Int32} {H : Int32 → Int64 → Prop} {alo : Int} {gc t : Tm} {Y X : List Nat} {p k : Int} (hM : zM gS (zst op a b nx ak an ab al af kf ff cz ct az kz) G0 G f h c m fo n) (hR : zR (zst op a b nx ak an ab al af kf ff cz ct az kz) (zst op a b5 nx ak5 an5 ab5 al5 af5 kf5 ff5 cz ct az5 kz5) f c m fo A) (q : zE (zst op a b5 nx ak5 an5 ab5 al5 af5 kf5 ff5 cz ct az5 kz5) (zst op2 a2 b2 nx2 ak2 an2 ab2 alx af2 kf2 ff2 cz2 ct2 az2 kz2) G5 G6 f h c' X [Int32.toNatClampNeg ct2] h2 c2) (hp : cP (zcs op a b pl ak an ab al af bu) H alo az.toInt gc m (b m) Y) (hg : alo ≤ az.toInt) (hYb : ∀ r ∈ Y, (r : Int) < cz.toInt) (hYm : m ∉ Y) (hm : (m : Int) < cz.toInt) (hzl : zla m Y = Int32.toNatClampNeg ct) (ct0 : 0 ≤ ct.toInt) (hb5 : ∀ r, r ≠ m → b5 r = b r) (hpl : zfp pl pl2 cz) (hbu5 : zfp bu bu5 az) (hbu : ∀ r : Nat, (r : Int) < az5.toInt → r ≠ A → bu2 r = bu5 r) (el : al2 = upd alx A ct2) (ct20 : 0 ≤ ct2.toInt) (hk : (ak2 A).toInt = if k = -1 then -2 else k) (hf : (af5 A).toInt = (hh : Int)) (hbit : ∀ n, 1 ≤ n → n ≤ 3 → (bu2 A).toBitVec.getLsbD n = tm_mk t n) (h16 : Int32.toNatClampNeg (op2 (Int32.toNatClampNeg ct2)) = 16) (hi : cI (zcs op2 a2 b2 pl2 ak2 an2 ab2 al2 af2 bu2) H az5.toInt az2.toInt t false 0 0 0 X) (haz : az.toInt + 1 ≤ az2.toInt) : cP (zcs op2 a2 b2 pl2 ak2 an2 ab2 al2 af2 bu2) H alo az2.toInt (tm_sn gc (Tm.arm p k hh mm t)) m (b2 m) (Y ++ (X ++ [Int32.toNatClampNeg ct2])) := by
  obtain ⟨AL, z, j⟩ := hp
  have hR0 := hR
  obtain ⟨r0, r1, r3, r11, r12, rb0, rb1, rA, rz, ra, rf, rn, r6, -⟩ := hR0
  have rA : (A : Int) = az.toInt := rA
  have rz : az5.toInt = az.toInt + 1 := rz
  obtain ⟨-, -, -, fr, fm, -⟩ := q.1
  have n2 := zn_nat ct20
  have n1 := zn_nat ct0
  have hge := (cJ_ge j).2
  have e7 : ∀ j : Nat, j ≠ A → al2 j = alx j := fun j hj => by rw [el, zu_n hj]
  refine ⟨AL ++ [A], ?_, cJ_sn rA ?_ ?_ (cJ_st (Int.le_refl az.toInt) (fun j j1 j2 => ?_) (lo := alo) (Int.le_refl _) (fun j j1 j2 j3 => ?_) (cJ_lo hg j) (fun r hr => ?_) j)⟩
  · exact zM_li (S2 := zst op2 a2 b2 nx2 ak2 an2 ab2 alx af2 kf2 ff2 cz2 ct2 az2 kz2) hM hR z (fun b hb => (hge b hb).2) rA (fun a ha => (fm a (show (a : Int) < az5.toInt by omega)).2.1) (fr m hm).2.2.1
  · rw [rA, ← rz]; exact hi
  · obtain ⟨m4, m5, m6, m7, m8, -⟩ := fm A (show (A : Int) < az5.toInt by omega)
    have m6 : ab2 A = ab5 A := m6
    have m8 : af2 A = af5 A := m8
    have r6 : ab5 A = ct := r6
    have e16 : Int32.toNatClampNeg (op2 (Int32.toNatClampNeg ct2)) = (op2 (Int32.toNatClampNeg ct2)).toInt.toNat := rfl
    refine ⟨⟨by omega, by omega⟩, hk, ?_, ?_, ?_, hbit, ?_⟩
    · show (ab2 A).toInt = _
      rw [m6, r6, hzl]; omega
    · show (al2 A).toInt = _
      rw [el, zu_s]; omega
    · show (af2 A).toInt = _
      rw [m8]; exact hf
    · show (op2 (Int32.toNatClampNeg ct2)).toInt = 16
      omega
  · obtain ⟨m4, m5, m6, m7, m8, -⟩ := fm j (show (j : Int) < az5.toInt by omega)
    obtain ⟨s4, s5, s6, s7, s8⟩ := ra j (show (j : Int) < az.toInt by omega)
    have hne : j ≠ A := by omega
    exact ⟨Eq.trans m4 s4, Eq.trans m6 s6, Eq.trans (e7 j hne) (Eq.trans m7 s7), Eq.trans m8 s8, Eq.trans (hbu j (by omega) hne) (hbu5 j j2)⟩
  · obtain ⟨m4, m5, m6, m7, m8, -⟩ := fm j (show (j : Int) < az5.toInt by omega)
    obtain ⟨s4, s5, s6, s7, s8⟩ := ra j (show (j : Int) < az.toInt by omega)
    exact Eq.trans m5 (s5 (zM_fo hM z j3))
  · have hc := hYb r hr
    obtain ⟨q0, q1, q2, -⟩ := fr r hc
    exact ⟨q0, q1, Eq.trans q2 (hb5 r (fun g => hYm (g ▸ hr))), hpl r hc⟩

set_option maxHeartbeats 4000000 in
set_option maxRecDepth 100000 in
theorem c_X7_refuseKindTwice_s (l : Launch) (dC : Nat → ClassId) (dI : Nat → Nat → Nat) (aK aV : Nat → Nat) (h0 : Nat) (ptok : Nat) (pnee : Nat) (pnam : Nat) (pbui : Nat) (pdra : Nat) (ar : Int32) (fu : Int32) (fn : Int32) (fp : Int32) (ts : Nat) (tp : Nat) (tw : Nat) (t1 : ClassId) (t2 : ClassId) (t3 : ClassId) (z : Int32) (pa : Int32) (so : Int32) (pl : Int32) (wd : Int64) (gs : Nat → Int32) (gp : Nat → Int32) (gw : Nat → Int64) (gco : Nat) (gar : Nat) (gki : Nat) (gfu : Nat) (kw : Nat) (kf : Nat) (k1 : ClassId) (k2 : ClassId) (kz : Int32) (kgw : Nat → Int64) (kgf : Nat → Int32) (cop : Nat) (ca : Nat) (cb : Nat) (cplace : Nat) (cnext : Nat) (cneeded : Nat) (ckop : ClassId) (cka : ClassId) (ckb : ClassId) (ckplace : ClassId) (cknext : ClassId) (ckneeded : ClassId) (cz : Int32) (ct : Int32) (cgop : Nat → Int32) (cga : Nat → Int32) (cgb : Nat → Int32) (cgplace : Nat → Int32) (cgnext : Nat → Int32) (cgneeded : Nat → Int32) (akind : Nat) (anext : Nat) (abefore : Nat) (aleave : Nat) (afirstSlot : Nat) (abuilds : Nat) (akkind : ClassId) (aknext : ClassId) (akbefore : ClassId) (akleave : ClassId) (akfirstSlot : ClassId) (akbuilds : ClassId) (az : Int32) (agkind : Nat → Int32) (agnext : Nat → Int32) (agbefore : Nat → Int32) (agleave : Nat → Int32) (agfirstSlot : Nat → Int32) (agbuilds : Nat → Int32) (ma : Int32) (gAL : List Nat) (gQ : List Nat) (sz : Nat) (hlt : l.stackTraces = false) (hz0 : 0 ≤ z.toInt) (hz1 : z.toInt ≤ 2000) (hk0 : 0 ≤ kz.toInt) (hk1 : kz.toInt ≤ 20) (hkf : zx 4 kgf) (hc0 : 0 ≤ cz.toInt) (hc1 : cz.toInt ≤ 3000) (hc2 : -1 ≤ ct.toInt) (hc3 : ct.toInt < 3000) (hcn : zx 3000 cgnext) (ha_0 : 0 ≤ az.toInt) (ha_1 : az.toInt ≤ 400) (hagn : zx 400 agnext) (hagb : zx 3000 agbefore) (hagl : zx 3000 agleave) (hma0 : 0 ≤ ma.toInt) (hma1 : ma.toInt < 3000) (hbm : -1 ≤ (cgb (Int32.toNatClampNeg ma)).toInt ∧ (cgb (Int32.toNatClampNeg ma)).toInt < 400) (hli : zli agnext (cgb (Int32.toNatClampNeg ma)) gAL) (hlen : gAL.length ≤ 8) (hQ1 : ∀ a ∈ gAL, (a : Int) < 400 ∧ Int32.toNatClampNeg (agkind a) ∈ gQ) (hQ2 : ∀ k ∈ gQ, ∃ a ∈ gAL, (agkind a).toInt = (k : Int)) : vy_Met l yX7_refuseKindTwice (Cond.code yX7_refuseKindTwice cX7_refuseKindTwice 5 none :: zw) ({ frames := 16, cells := 1, slots := 6, locals := 600 }) (va_Pc [.ref h0, .int ma] (zP dC dI aK aV sz [(t1, .int), (t2, .int), (t3, .long), (k1, .long), (k2, .int), (ckop, .int), (cka, .int), (ckb, .int), (ckplace, .int), (cknext, .int), (ckneeded, .int), (akkind, .int), (aknext, .int), (akbefore, .int), (akleave, .int), (akfirstSlot, .int), (akbuilds, .int)] [(h0, .inr (7, [.ref ptok, .ref pnee, .ref pnam, .int ar, .ref pbui, .ref pdra, .int fu, .int fn, .int fp])), (ptok, .inr (10, [.ref ts, .ref tp, .ref tw, .int z, .int pa, .int so, .int pl, .long wd])), (ts, .inl (t1, 2001, .inl gs)), (tp, .inl (t2, 2001, .inl gp)), (tw, .inl (t3, 2001, .inr (.inl gw))), (pdra, .inr (9, [.ref gco, .ref gar, .ref gki, .ref gfu])), (gki, .inr (4, [.ref kw, .ref kf, .int kz])), (kw, .inl (k1, 20, .inr (.inl kgw))), (kf, .inl (k2, 20, .inl kgf)), (gco, .inr (2, [.ref cop, .ref ca, .ref cb, .ref cplace, .ref cnext, .ref cneeded, .int cz, .int ct])), (cop, .inl (ckop, 3000, .inl cgop)), (ca, .inl (cka, 3000, .inl cga)), (cb, .inl (ckb, 3000, .inl cgb)), (cplace, .inl (ckplace, 3000, .inl cgplace)), (cnext, .inl (cknext, 3000, .inl cgnext)), (cneeded, .inl (ckneeded, 3000, .inl cgneeded)), (gar, .inr (0, [.ref akind, .ref anext, .ref abefore, .ref aleave, .ref afirstSlot, .ref abuilds, .int az])), (akind, .inl (akkind, 400, .inl agkind)), (anext, .inl (aknext, 400, .inl agnext)), (abefore, .inl (akbefore, 400, .inl agbefore)), (aleave, .inl (akleave, 400, .inl agleave)), (afirstSlot, .inl (akfirstSlot, 400, .inl agfirstSlot)), (abuilds, .inl (akbuilds, 400, .inl agbuilds))])) (va_Qv (fun u : Unit => (sp_rk wd kz kgw gQ)) (fun u => zQ dC dI (va_A [(h0, .inr (7, [.ref ptok, .ref pnee, .ref pnam, .int ar, .ref pbui, .ref pdra, .int fu, .int fn, .int fp])), (ptok, .inr (10, [.ref ts, .ref tp, .ref tw, .int z, .int pa, .int so, .int pl, .long wd])), (ts, .inl (t1, 2001, .inl gs)), (tp, .inl (t2, 2001, .inl gp)), (tw, .inl (t3, 2001, .inr (.inl gw))), (pdra, .inr (9, [.ref gco, .ref gar, .ref gki, .ref gfu])), (gki, .inr (4, [.ref kw, .ref kf, .int kz])), (kw, .inl (k1, 20, .inr (.inl kgw))), (kf, .inl (k2, 20, .inl kgf)), (gco, .inr (2, [.ref cop, .ref ca, .ref cb, .ref cplace, .ref cnext, .ref cneeded, .int cz, .int ct])), (cop, .inl (ckop, 3000, .inl cgop)), (ca, .inl (cka, 3000, .inl cga)), (cb, .inl (ckb, 3000, .inl cgb)), (cplace, .inl (ckplace, 3000, .inl cgplace)), (cnext, .inl (cknext, 3000, .inl cgnext)), (cneeded, .inl (ckneeded, 3000, .inl cgneeded)), (gar, .inr (0, [.ref akind, .ref anext, .ref abefore, .ref aleave, .ref afirstSlot, .ref abuilds, .int az])), (akind, .inl (akkind, 400, .inl agkind)), (anext, .inl (aknext, 400, .inl agnext)), (abefore, .inl (akbefore, 400, .inl agbefore)), (aleave, .inl (akleave, 400, .inl agleave)), (afirstSlot, .inl (akfirstSlot, 400, .inl agfirstSlot)), (abuilds, .inl (akbuilds, 400, .inl agbuilds))] sz) [(t1, .int), (t2, .int), (t3, .long), (k1, .long), (k2, .int), (ckop, .int), (cka, .int), (ckb, .int), (ckplace, .int), (cknext, .int), (ckneeded, .int), (akkind, .int), (aknext, .int), (akbefore, .int), (akleave, .int), (akfirstSlot, .int), (akbuilds, .int)] [(h0, .inr (7, [.ref ptok, .ref pnee, .ref pnam, .int ar, .ref pbui, .ref pdra, .int fu, .int fn, .int fp])), (ptok, .inr (10, [.ref ts, .ref tp, .ref tw, .int z, .int pa, .int so, .int pl, .long wd])), (ts, .inl (t1, 2001, .inl gs)), (tp, .inl (t2, 2001, .inl gp)), (tw, .inl (t3, 2001, .inr (.inl gw))), (pdra, .inr (9, [.ref gco, .ref gar, .ref gki, .ref gfu])), (gki, .inr (4, [.ref kw, .ref kf, .int kz])), (kw, .inl (k1, 20, .inr (.inl kgw))), (kf, .inl (k2, 20, .inl kgf)), (gco, .inr (2, [.ref cop, .ref ca, .ref cb, .ref cplace, .ref cnext, .ref cneeded, .int cz, .int ct])), (cop, .inl (ckop, 3000, .inl cgop)), (ca, .inl (cka, 3000, .inl cga)), (cb, .inl (ckb, 3000, .inl cgb)), (cplace, .inl (ckplace, 3000, .inl cgplace)), (cnext, .inl (cknext, 3000, .inl cgnext)), (cneeded, .inl (ckneeded, 3000, .inl cgneeded)), (gar, .inr (0, [.ref akind, .ref anext, .ref abefore, .ref aleave, .ref afirstSlot, .ref abuilds, .int az])), (akind, .inl (akkind, 400, .inl agkind)), (anext, .inl (aknext, 400, .inl agnext)), (abefore, .inl (akbefore, 400, .inl agbefore)), (aleave, .inl (akleave, 400, .inl agleave)), (afirstSlot, .inl (akfirstSlot, 400, .inl agfirstSlot)), (abuilds, .inl (akbuilds, 400, .inl agbuilds))]) (va_A [(h0, .inr (7, [.ref ptok, .ref pnee, .ref pnam, .int ar, .ref pbui, .ref pdra, .int fu, .int fn, .int fp])), (ptok, .inr (10, [.ref ts, .ref tp, .ref tw, .int z, .int pa, .int so, .int pl, .long wd])), (ts, .inl (t1, 2001, .inl gs)), (tp, .inl (t2, 2001, .inl gp)), (tw, .inl (t3, 2001, .inr (.inl gw))), (pdra, .inr (9, [.ref gco, .ref gar, .ref gki, .ref gfu])), (gki, .inr (4, [.ref kw, .ref kf, .int kz])), (kw, .inl (k1, 20, .inr (.inl kgw))), (kf, .inl (k2, 20, .inl kgf)), (gco, .inr (2, [.ref cop, .ref ca, .ref cb, .ref cplace, .ref cnext, .ref cneeded, .int cz, .int ct])), (cop, .inl (ckop, 3000, .inl cgop)), (ca, .inl (cka, 3000, .inl cga)), (cb, .inl (ckb, 3000, .inl cgb)), (cplace, .inl (ckplace, 3000, .inl cgplace)), (cnext, .inl (cknext, 3000, .inl cgnext)), (cneeded, .inl (ckneeded, 3000, .inl cgneeded)), (gar, .inr (0, [.ref akind, .ref anext, .ref abefore, .ref aleave, .ref afirstSlot, .ref abuilds, .int az])), (akind, .inl (akkind, 400, .inl agkind)), (anext, .inl (aknext, 400, .inl agnext)), (abefore, .inl (akbefore, 400, .inl agbefore)), (aleave, .inl (akleave, 400, .inl agleave)), (afirstSlot, .inl (akfirstSlot, 400, .inl agfirstSlot)), (abuilds, .inl (akbuilds, 400, .inl agbuilds))] sz)) (vx_X (fun u : Int32 × Int32 => match u with | (fn2, fp2) => (fp2.toInt = pl.toInt) ∧ (¬ sp_rk wd kz kgw gQ)) (fun E u t => E = "java/lang/IllegalStateException" ∧ (match u with | (fn2, fp2) => zQ dC dI (va_A [(h0, .inr (7, [.ref ptok, .ref pnee, .ref pnam, .int ar, .ref pbui, .ref pdra, .int fu, .int fn, .int fp])), (ptok, .inr (10, [.ref ts, .ref tp, .ref tw, .int z, .int pa, .int so, .int pl, .long wd])), (ts, .inl (t1, 2001, .inl gs)), (tp, .inl (t2, 2001, .inl gp)), (tw, .inl (t3, 2001, .inr (.inl gw))), (pdra, .inr (9, [.ref gco, .ref gar, .ref gki, .ref gfu])), (gki, .inr (4, [.ref kw, .ref kf, .int kz])), (kw, .inl (k1, 20, .inr (.inl kgw))), (kf, .inl (k2, 20, .inl kgf)), (gco, .inr (2, [.ref cop, .ref ca, .ref cb, .ref cplace, .ref cnext, .ref cneeded, .int cz, .int ct])), (cop, .inl (ckop, 3000, .inl cgop)), (ca, .inl (cka, 3000, .inl cga)), (cb, .inl (ckb, 3000, .inl cgb)), (cplace, .inl (ckplace, 3000, .inl cgplace)), (cnext, .inl (cknext, 3000, .inl cgnext)), (cneeded, .inl (ckneeded, 3000, .inl cgneeded)), (gar, .inr (0, [.ref akind, .ref anext, .ref abefore, .ref aleave, .ref afirstSlot, .ref abuilds, .int az])), (akind, .inl (akkind, 400, .inl agkind)), (anext, .inl (aknext, 400, .inl agnext)), (abefore, .inl (akbefore, 400, .inl agbefore)), (aleave, .inl (akleave, 400, .inl agleave)), (afirstSlot, .inl (akfirstSlot, 400, .inl agfirstSlot)), (abuilds, .inl (akbuilds, 400, .inl agbuilds))] sz) [(t1, .int), (t2, .int), (t3, .long), (k1, .long), (k2, .int), (ckop, .int), (cka, .int), (ckb, .int), (ckplace, .int), (cknext, .int), (ckneeded, .int), (akkind, .int), (aknext, .int), (akbefore, .int), (akleave, .int), (akfirstSlot, .int), (akbuilds, .int)] [(h0, .inr (7, [.ref ptok, .ref pnee, .ref pnam, .int ar, .ref pbui, .ref pdra, .int fu, .int fn2, .int fp2])), (ptok, .inr (10, [.ref ts, .ref tp, .ref tw, .int z, .int pa, .int so, .int pl, .long wd])), (ts, .inl (t1, 2001, .inl gs)), (tp, .inl (t2, 2001, .inl gp)), (tw, .inl (t3, 2001, .inr (.inl gw))), (pdra, .inr (9, [.ref gco, .ref gar, .ref gki, .ref gfu])), (gki, .inr (4, [.ref kw, .ref kf, .int kz])), (kw, .inl (k1, 20, .inr (.inl kgw))), (kf, .inl (k2, 20, .inl kgf)), (gco, .inr (2, [.ref cop, .ref ca, .ref cb, .ref cplace, .ref cnext, .ref cneeded, .int cz, .int ct])), (cop, .inl (ckop, 3000, .inl cgop)), (ca, .inl (cka, 3000, .inl cga)), (cb, .inl (ckb, 3000, .inl cgb)), (cplace, .inl (ckplace, 3000, .inl cgplace)), (cnext, .inl (cknext, 3000, .inl cgnext)), (cneeded, .inl (ckneeded, 3000, .inl cgneeded)), (gar, .inr (0, [.ref akind, .ref anext, .ref abefore, .ref aleave, .ref afirstSlot, .ref abuilds, .int az])), (akind, .inl (akkind, 400, .inl agkind)), (anext, .inl (aknext, 400, .inl agnext)), (abefore, .inl (akbefore, 400, .inl agbefore)), (aleave, .inl (akleave, 400, .inl agleave)), (afirstSlot, .inl (akfirstSlot, 400, .inl agfirstSlot)), (abuilds, .inl (akbuilds, 400, .inl agbuilds))] t)) (va_A [(h0, .inr (7, [.ref ptok, .ref pnee, .ref pnam, .int ar, .ref pbui, .ref pdra, .int fu, .int fn, .int fp])), (ptok, .inr (10, [.ref ts, .ref tp, .ref tw, .int z, .int pa, .int so, .int pl, .long wd])), (ts, .inl (t1, 2001, .inl gs)), (tp, .inl (t2, 2001, .inl gp)), (tw, .inl (t3, 2001, .inr (.inl gw))), (pdra, .inr (9, [.ref gco, .ref gar, .ref gki, .ref gfu])), (gki, .inr (4, [.ref kw, .ref kf, .int kz])), (kw, .inl (k1, 20, .inr (.inl kgw))), (kf, .inl (k2, 20, .inl kgf)), (gco, .inr (2, [.ref cop, .ref ca, .ref cb, .ref cplace, .ref cnext, .ref cneeded, .int cz, .int ct])), (cop, .inl (ckop, 3000, .inl cgop)), (ca, .inl (cka, 3000, .inl cga)), (cb, .inl (ckb, 3000, .inl cgb)), (cplace, .inl (ckplace, 3000, .inl cgplace)), (cnext, .inl (cknext, 3000, .inl cgnext)), (cneeded, .inl (ckneeded, 3000, .inl cgneeded)), (gar, .inr (0, [.ref akind, .ref anext, .ref abefore, .ref aleave, .ref afirstSlot, .ref abuilds, .int az])), (akind, .inl (akkind, 400, .inl agkind)), (anext, .inl (aknext, 400, .inl agnext)), (abefore, .inl (akbefore, 400, .inl agbefore)), (aleave, .inl (akleave, 400, .inl agleave)), (afirstSlot, .inl (akfirstSlot, 400, .inl agfirstSlot)), (abuilds, .inl (akbuilds, 400, .inl agbuilds))] sz)) 0 0 1 6 (va_A [(h0, .inr (7, [.ref ptok, .ref pnee, .ref pnam, .int ar, .ref pbui, .ref pdra, .int fu, .int fn, .int fp])), (ptok, .inr (10, [.ref ts, .ref tp, .ref tw, .int z, .int pa, .int so, .int pl, .long wd])), (ts, .inl (t1, 2001, .inl gs)), (tp, .inl (t2, 2001, .inl gp)), (tw, .inl (t3, 2001, .inr (.inl gw))), (pdra, .inr (9, [.ref gco, .ref gar, .ref gki, .ref gfu])), (gki, .inr (4, [.ref kw, .ref kf, .int kz])), (kw, .inl (k1, 20, .inr (.inl kgw))), (kf, .inl (k2, 20, .inl kgf)), (gco, .inr (2, [.ref cop, .ref ca, .ref cb, .ref cplace, .ref cnext, .ref cneeded, .int cz, .int ct])), (cop, .inl (ckop, 3000, .inl cgop)), (ca, .inl (cka, 3000, .inl cga)), (cb, .inl (ckb, 3000, .inl cgb)), (cplace, .inl (ckplace, 3000, .inl cgplace)), (cnext, .inl (cknext, 3000, .inl cgnext)), (cneeded, .inl (ckneeded, 3000, .inl cgneeded)), (gar, .inr (0, [.ref akind, .ref anext, .ref abefore, .ref aleave, .ref afirstSlot, .ref abuilds, .int az])), (akind, .inl (akkind, 400, .inl agkind)), (anext, .inl (aknext, 400, .inl agnext)), (abefore, .inl (akbefore, 400, .inl agbefore)), (aleave, .inl (akleave, 400, .inl agleave)), (afirstSlot, .inl (akfirstSlot, 400, .inl agfirstSlot)), (abuilds, .inl (akbuilds, 400, .inl agbuilds))] sz) := by
  refine vy_ofW (cc := cX7_refuseKindTwice) (maxL := 5) (ret := none) (by decide) rfl ?_
  intro p e s m args below meth c s₁ B hml hnh hv
  obtain ⟨rfl, hsz, hP, hK, hD0, hN, hT⟩ := hv
  have hx := B.exec
  have hb := B.bytes
  have hr := B.returns
  have hts := atoms_spec (ws := Cond.code yX7_refuseKindTwice cX7_refuseKindTwice 5 none :: zw) B.pre
  have hA : ∀ w ∈ zw, w.before _ s = true := fun w h => hts w (List.mem_cons_of_mem _ h)
  have hown : s.vm.findClass RX7 = some m.cls := findClass_of_methodNamed B.named
  have hlocks := B.notSynchronized
  subst hsz
  have hD := hD0.self (sz := s.heap.size)
  generalize hAe : va_A [(h0, .inr (7, [.ref ptok, .ref pnee, .ref pnam, .int ar, .ref pbui, .ref pdra, .int fu, .int fn, .int fp])), (ptok, .inr (10, [.ref ts, .ref tp, .ref tw, .int z, .int pa, .int so, .int pl, .long wd])), (ts, .inl (t1, 2001, .inl gs)), (tp, .inl (t2, 2001, .inl gp)), (tw, .inl (t3, 2001, .inr (.inl gw))), (pdra, .inr (9, [.ref gco, .ref gar, .ref gki, .ref gfu])), (gki, .inr (4, [.ref kw, .ref kf, .int kz])), (kw, .inl (k1, 20, .inr (.inl kgw))), (kf, .inl (k2, 20, .inl kgf)), (gco, .inr (2, [.ref cop, .ref ca, .ref cb, .ref cplace, .ref cnext, .ref cneeded, .int cz, .int ct])), (cop, .inl (ckop, 3000, .inl cgop)), (ca, .inl (cka, 3000, .inl cga)), (cb, .inl (ckb, 3000, .inl cgb)), (cplace, .inl (ckplace, 3000, .inl cgplace)), (cnext, .inl (cknext, 3000, .inl cgnext)), (cneeded, .inl (ckneeded, 3000, .inl cgneeded)), (gar, .inr (0, [.ref akind, .ref anext, .ref abefore, .ref aleave, .ref afirstSlot, .ref abuilds, .int az])), (akind, .inl (akkind, 400, .inl agkind)), (anext, .inl (aknext, 400, .inl agnext)), (abefore, .inl (akbefore, 400, .inl agbefore)), (aleave, .inl (akleave, 400, .inl agleave)), (afirstSlot, .inl (akfirstSlot, 400, .inl agfirstSlot)), (abuilds, .inl (akbuilds, 400, .inl agbuilds))] s.heap.size = A at hD hT ⊢
  have hAA : ∀ q : Nat, s.heap.size ≤ q → A q := fun q h => by rw [← hAe]; exact Or.inr h
  have hS : va_S A s.heap s.heap [] := va_S.rf
  have hl := lv_entry ([.ref h0, .int ma]) (n := 5) (Nat.le_of_ble_eq_true rfl)
  rw [lg_entry_eq]
  generalize (lg_sl ([.ref h0, .int ma]) ++ List.replicate (5 - (lg_sl ([.ref h0, .int ma])).length) Slot.unset).toArray = ls at hl ⊢
  have hl : lv_has ls 5 [(0, .ref h0), (1, .int ma)] := hl
  refine lv_aload_n hx hb dX7_refuseKindTwice_0 rfl (lv_at hl 0 rfl) ?_
  refine va_get (D := (dC, dI)) (ci := 7) (v := .ref pdra) (C := RX7) (T := TX7) (N := 9) hx hb hA zin_X7 hown hK hP 0 rfl rfl 5 (by decide) (hA _ wi_392) (fun _ h9 => h9) rfl dX7_refuseKindTwice_1 ?_
  refine va_get (D := (dC, dI)) (ci := 9) (v := .ref gki) (C := RX9) (T := TX9) (N := 4) hx hb hA zin_X9 hown hK hP 5 rfl rfl 2 (by decide) (hA _ wi_317) (fun _ h9 => h9) rfl dX7_refuseKindTwice_4 ?_
  refine lv_aload_n hx hb dX7_refuseKindTwice_7 rfl (lv_at hl 0 rfl) ?_
  refine va_get (D := (dC, dI)) (ci := 7) (v := .ref ptok) (C := RX7) (T := TX7) (N := 9) hx hb hA zin_X7 hown hK hP 0 rfl rfl 0 (by decide) (hA _ wi_387) (fun _ h9 => h9) rfl dX7_refuseKindTwice_8 ?_
  refine va_get (D := (dC, dI)) (ci := 10) (v := .long wd) (C := RX10) (T := TX10) (N := 8) hx hb hA zin_X10 hown hK hP 1 rfl rfl 7 (by decide) (hA _ wi_357) (fun _ h9 => h9) rfl dX7_refuseKindTwice_11 ?_
  have hPc := hP.sub (ws' := [(gki, .inr (4, [.ref kw, .ref kf, .int kz])), (kw, .inl (k1, 20, .inr (.inl kgw))), (kf, .inl (k2, 20, .inl kgf))]) [6, 7, 8] rfl
  have hDc := hD.sub (ws' := [(gki, .inr (4, [.ref kw, .ref kf, .int kz])), (kw, .inl (k1, 20, .inr (.inl kgw))), (kf, .inl (k2, 20, .inl kgf))]) [6, 7, 8] (by decide) rfl
  have hKc := hK.sub (tys' := [(k1, .long), (k2, .int)]) [3, 4] rfl
  have hFc := va_free (wc := [(gki, .inr (4, [.ref kw, .ref kf, .int kz])), (kw, .inl (k1, 20, .inr (.inl kgw))), (kf, .inl (k2, 20, .inl kgf))]) hD hS hAA [6, 7, 8] rfl
  refine va_calli (va_runV (As := [.long wd]) (rest := []) ⟨hx, hb, hml, hown, hA⟩ (c_X4_find_s l dC dI aK aV gki kw kf k1 k2 kz kgw kgf wd s.heap.size (by omega) (by omega)) (cwV 1 hA (zw_V wi_798 wi_799 wi_800 wi_134 (zw_good wi_801)) rfl rfl rfl (by decide +kernel) ⟨(Nat.le_of_ble_eq_true rfl), (Nat.le_of_ble_eq_true rfl)⟩) ⟨zP_blind, va_recv hKc hPc (ci := 4) (q0 := 0) rfl rfl, zz_pre hKc hPc hDc hN hT hS hFc⟩ rfl rfl hl.1 rfl (lv_room (Nat.le_of_ble_eq_true rfl)) dX7_refuseKindTwice_14 ⟨(Nat.le_of_ble_eq_true rfl), (Nat.le_of_ble_eq_true rfl)⟩) hS (fun q _ h => hFc q h) hFc (fun r_1 u t H1 locs ht hvm hw hB hz1 hk1 hS => ?_)
  obtain ⟨hP1, hK1, hD1⟩ := hB
  rw [ht] at hP1
  have hK1 := va_K.moved hvm.symm hK1
  obtain ⟨hP, hD⟩ := va_join (wr := [(h0, .inr (7, [.ref ptok, .ref pnee, .ref pnam, .int ar, .ref pbui, .ref pdra, .int fu, .int fn, .int fp])), (ptok, .inr (10, [.ref ts, .ref tp, .ref tw, .int z, .int pa, .int so, .int pl, .long wd])), (ts, .inl (t1, 2001, .inl gs)), (tp, .inl (t2, 2001, .inl gp)), (tw, .inl (t3, 2001, .inr (.inl gw))), (pdra, .inr (9, [.ref gco, .ref gar, .ref gki, .ref gfu])), (gco, .inr (2, [.ref cop, .ref ca, .ref cb, .ref cplace, .ref cnext, .ref cneeded, .int cz, .int ct])), (cop, .inl (ckop, 3000, .inl cgop)), (ca, .inl (cka, 3000, .inl cga)), (cb, .inl (ckb, 3000, .inl cgb)), (cplace, .inl (ckplace, 3000, .inl cgplace)), (cnext, .inl (cknext, 3000, .inl cgnext)), (cneeded, .inl (ckneeded, 3000, .inl cgneeded)), (gar, .inr (0, [.ref akind, .ref anext, .ref abefore, .ref aleave, .ref afirstSlot, .ref abuilds, .int az])), (akind, .inl (akkind, 400, .inl agkind)), (anext, .inl (aknext, 400, .inl agnext)), (abefore, .inl (akbefore, 400, .inl agbefore)), (aleave, .inl (akleave, 400, .inl agleave)), (afirstSlot, .inl (akfirstSlot, 400, .inl agfirstSlot)), (abuilds, .inl (akbuilds, 400, .inl agbuilds))]) (w1 := [(gki, .inr (4, [.ref kw, .ref kf, .int kz])), (kw, .inl (k1, 20, .inr (.inl kgw))), (kf, .inl (k2, 20, .inl kgf))]) hP hD [6, 7, 8] [0, 1, 2, 3, 4, 5, 9, 10, 11, 12, 13, 14, 15, 16, 17, 18, 19, 20, 21, 22] rfl rfl (by decide) (by decide) hk1 hFc hP1 hD1
  have hK := (hK.sub (tys' := [(t1, .int), (t2, .int), (t3, .long), (ckop, .int), (cka, .int), (ckb, .int), (ckplace, .int), (cknext, .int), (ckneeded, .int), (akkind, .int), (aknext, .int), (akbefore, .int), (akleave, .int), (akfirstSlot, .int), (akbuilds, .int)]) [0, 1, 2, 5, 6, 7, 8, 9, 10, 11, 12, 13, 14, 15, 16] rfl).app hK1
  generalize H1 = H at hP hS ⊢
  have hP : va_P (dC, dI) vwCl [(h0, .inr (7, [.ref ptok, .ref pnee, .ref pnam, .int ar, .ref pbui, .ref pdra, .int fu, .int fn, .int fp])), (ptok, .inr (10, [.ref ts, .ref tp, .ref tw, .int z, .int pa, .int so, .int pl, .long wd])), (ts, .inl (t1, 2001, .inl gs)), (tp, .inl (t2, 2001, .inl gp)), (tw, .inl (t3, 2001, .inr (.inl gw))), (pdra, .inr (9, [.ref gco, .ref gar, .ref gki, .ref gfu])), (gco, .inr (2, [.ref cop, .ref ca, .ref cb, .ref cplace, .ref cnext, .ref cneeded, .int cz, .int ct])), (cop, .inl (ckop, 3000, .inl cgop)), (ca, .inl (cka, 3000, .inl cga)), (cb, .inl (ckb, 3000, .inl cgb)), (cplace, .inl (ckplace, 3000, .inl cgplace)), (cnext, .inl (cknext, 3000, .inl cgnext)), (cneeded, .inl (ckneeded, 3000, .inl cgneeded)), (gar, .inr (0, [.ref akind, .ref anext, .ref abefore, .ref aleave, .ref afirstSlot, .ref abuilds, .int az])), (akind, .inl (akkind, 400, .inl agkind)), (anext, .inl (aknext, 400, .inl agnext)), (abefore, .inl (akbefore, 400, .inl agbefore)), (aleave, .inl (akleave, 400, .inl agleave)), (afirstSlot, .inl (akfirstSlot, 400, .inl agfirstSlot)), (abuilds, .inl (akbuilds, 400, .inl agbuilds)), (gki, .inr (4, [.ref kw, .ref kf, .int kz])), (kw, .inl (k1, 20, .inr (.inl kgw))), (kf, .inl (k2, 20, .inl kgf))] H := hP
  have hD : va_D A [(h0, .inr (7, [.ref ptok, .ref pnee, .ref pnam, .int ar, .ref pbui, .ref pdra, .int fu, .int fn, .int fp])), (ptok, .inr (10, [.ref ts, .ref tp, .ref tw, .int z, .int pa, .int so, .int pl, .long wd])), (ts, .inl (t1, 2001, .inl gs)), (tp, .inl (t2, 2001, .inl gp)), (tw, .inl (t3, 2001, .inr (.inl gw))), (pdra, .inr (9, [.ref gco, .ref gar, .ref gki, .ref gfu])), (gco, .inr (2, [.ref cop, .ref ca, .ref cb, .ref cplace, .ref cnext, .ref cneeded, .int cz, .int ct])), (cop, .inl (ckop, 3000, .inl cgop)), (ca, .inl (cka, 3000, .inl cga)), (cb, .inl (ckb, 3000, .inl cgb)), (cplace, .inl (ckplace, 3000, .inl cgplace)), (cnext, .inl (cknext, 3000, .inl cgnext)), (cneeded, .inl (ckneeded, 3000, .inl cgneeded)), (gar, .inr (0, [.ref akind, .ref anext, .ref abefore, .ref aleave, .ref afirstSlot, .ref abuilds, .int az])), (akind, .inl (akkind, 400, .inl agkind)), (anext, .inl (aknext, 400, .inl agnext)), (abefore, .inl (akbefore, 400, .inl agbefore)), (aleave, .inl (akleave, 400, .inl agleave)), (afirstSlot, .inl (akfirstSlot, 400, .inl agfirstSlot)), (abuilds, .inl (akbuilds, 400, .inl agbuilds)), (gki, .inr (4, [.ref kw, .ref kf, .int kz])), (kw, .inl (k1, 20, .inr (.inl kgw))), (kf, .inl (k2, 20, .inl kgf))] := hD
  have hK : va_K (dC, dI) vwCl [(t1, .int), (t2, .int), (t3, .long), (ckop, .int), (cka, .int), (ckb, .int), (ckplace, .int), (cknext, .int), (ckneeded, .int), (akkind, .int), (aknext, .int), (akbefore, .int), (akleave, .int), (akfirstSlot, .int), (akbuilds, .int), (k1, .long), (k2, .int)] s := hK
  have hw_r_1 := hw
  try dsimp only at hw_r_1
  obtain ⟨hq_2, hq_3, hq_4⟩ := hw
  refine lv_istore_n (lv' := [(2, .int r_1), (0, .ref h0), (1, .int ma)]) hx hb dX7_refuseKindTwice_17 rfl hl (by decide) rfl (fun ls hl => ?_)
  refine lv_aload_n hx hb dX7_refuseKindTwice_18 rfl (lv_at hl 1 rfl) ?_
  refine va_get (D := (dC, dI)) (ci := 7) (v := .ref pdra) (C := RX7) (T := TX7) (N := 9) hx hb hA zin_X7 hown hK hP 0 rfl rfl 5 (by decide) (hA _ wi_392) (fun _ h9 => h9) rfl dX7_refuseKindTwice_19 ?_
  refine va_get (D := (dC, dI)) (ci := 9) (v := .ref gco) (C := RX9) (T := TX9) (N := 4) hx hb hA zin_X9 hown hK hP 5 rfl rfl 0 (by decide) (hA _ wi_311) (fun _ h9 => h9) rfl dX7_refuseKindTwice_22 ?_
  refine va_get (D := (dC, dI)) (ci := 2) (v := .ref cb) (C := RX2) (T := TX2) (N := 8) hx hb hA zin_X2 hown hK hP 6 rfl rfl 2 (by decide) (hA _ wi_186) (fun _ h9 => h9) rfl dX7_refuseKindTwice_25 ?_
  refine lv_iload_n hx hb dX7_refuseKindTwice_28 rfl (lv_at hl 2 rfl) ?_
  refine va_iald hx hb hK hP 9 5 rfl rfl (vp_in_iff.mpr ⟨by omega, by omega⟩) dX7_refuseKindTwice_29 ?_
  refine lv_topi (fun x_5 ex_5 => ?_)
  have ix_5 : -1 ≤ x_5.toInt ∧ x_5.toInt < 400 := by rw [ex_5]; exact hbm
  refine lv_istore_n (lv' := [(3, .int x_5), (2, .int r_1), (0, .ref h0), (1, .int ma)]) hx hb dX7_refuseKindTwice_30 rfl hl (by decide) rfl (fun ls hl => ?_)
  refine lv_iconst (v := 0) hx hb dX7_refuseKindTwice_31 (by decide) ?_
  refine lv_istore (lv' := [(4, .int 0), (3, .int x_5), (2, .int r_1), (0, .ref h0), (1, .int ma)]) hx hb dX7_refuseKindTwice_32 hl (by decide) rfl (fun ls hl => ?_)
  have loop_34 : ∀ (n9 : Nat) (am : Int32) (i : Int32) (H : Heap) (locs : List Loc) (ls : Array Slot), (8 - i.toInt + 1).toNat ≤ n9 → -1 ≤ am.toInt → am.toInt < 400 → 0 ≤ i.toInt → i.toInt ≤ 8 → sp_cn agnext agkind gAL am i r_1 → va_P (dC, dI) vwCl [(h0, .inr (7, [.ref ptok, .ref pnee, .ref pnam, .int ar, .ref pbui, .ref pdra, .int fu, .int fn, .int fp])), (ptok, .inr (10, [.ref ts, .ref tp, .ref tw, .int z, .int pa, .int so, .int pl, .long wd])), (ts, .inl (t1, 2001, .inl gs)), (tp, .inl (t2, 2001, .inl gp)), (tw, .inl (t3, 2001, .inr (.inl gw))), (pdra, .inr (9, [.ref gco, .ref gar, .ref gki, .ref gfu])), (gco, .inr (2, [.ref cop, .ref ca, .ref cb, .ref cplace, .ref cnext, .ref cneeded, .int cz, .int ct])), (cop, .inl (ckop, 3000, .inl cgop)), (ca, .inl (cka, 3000, .inl cga)), (cb, .inl (ckb, 3000, .inl cgb)), (cplace, .inl (ckplace, 3000, .inl cgplace)), (cnext, .inl (cknext, 3000, .inl cgnext)), (cneeded, .inl (ckneeded, 3000, .inl cgneeded)), (gar, .inr (0, [.ref akind, .ref anext, .ref abefore, .ref aleave, .ref afirstSlot, .ref abuilds, .int az])), (akind, .inl (akkind, 400, .inl agkind)), (anext, .inl (aknext, 400, .inl agnext)), (abefore, .inl (akbefore, 400, .inl agbefore)), (aleave, .inl (akleave, 400, .inl agleave)), (afirstSlot, .inl (akfirstSlot, 400, .inl agfirstSlot)), (abuilds, .inl (akbuilds, 400, .inl agbuilds)), (gki, .inr (4, [.ref kw, .ref kf, .int kz])), (kw, .inl (k1, 20, .inr (.inl kgw))), (kf, .inl (k2, 20, .inl kgf))] H → va_D A [(h0, .inr (7, [.ref ptok, .ref pnee, .ref pnam, .int ar, .ref pbui, .ref pdra, .int fu, .int fn, .int fp])), (ptok, .inr (10, [.ref ts, .ref tp, .ref tw, .int z, .int pa, .int so, .int pl, .long wd])), (ts, .inl (t1, 2001, .inl gs)), (tp, .inl (t2, 2001, .inl gp)), (tw, .inl (t3, 2001, .inr (.inl gw))), (pdra, .inr (9, [.ref gco, .ref gar, .ref gki, .ref gfu])), (gco, .inr (2, [.ref cop, .ref ca, .ref cb, .ref cplace, .ref cnext, .ref cneeded, .int cz, .int ct])), (cop, .inl (ckop, 3000, .inl cgop)), (ca, .inl (cka, 3000, .inl cga)), (cb, .inl (ckb, 3000, .inl cgb)), (cplace, .inl (ckplace, 3000, .inl cgplace)), (cnext, .inl (cknext, 3000, .inl cgnext)), (cneeded, .inl (ckneeded, 3000, .inl cgneeded)), (gar, .inr (0, [.ref akind, .ref anext, .ref abefore, .ref aleave, .ref afirstSlot, .ref abuilds, .int az])), (akind, .inl (akkind, 400, .inl agkind)), (anext, .inl (aknext, 400, .inl agnext)), (abefore, .inl (akbefore, 400, .inl agbefore)), (aleave, .inl (akleave, 400, .inl agleave)), (afirstSlot, .inl (akfirstSlot, 400, .inl agfirstSlot)), (abuilds, .inl (akbuilds, 400, .inl agbuilds)), (gki, .inr (4, [.ref kw, .ref kf, .int kz])), (kw, .inl (k1, 20, .inr (.inl kgw))), (kf, .inl (k2, 20, .inl kgf))] → va_S A s.heap H locs → lv_has ls 5 [(4, .int i), (3, .int am), (2, .int r_1), (0, .ref h0), (1, .int ma)] → W p l e (headSpec (Cond.code yX7_refuseKindTwice cX7_refuseKindTwice 5 none :: zw) ({ frames := 16, cells := 1, slots := 6, locals := 600 })).room s m #[.ref h0, .int ma] below meth c H locs 0 0 (vy_MQ below (va_Qv (fun u : Unit => (sp_rk wd kz kgw gQ)) (fun u => zQ dC dI A [(t1, .int), (t2, .int), (t3, .long), (k1, .long), (k2, .int), (ckop, .int), (cka, .int), (ckb, .int), (ckplace, .int), (cknext, .int), (ckneeded, .int), (akkind, .int), (aknext, .int), (akbefore, .int), (akleave, .int), (akfirstSlot, .int), (akbuilds, .int)] [(h0, .inr (7, [.ref ptok, .ref pnee, .ref pnam, .int ar, .ref pbui, .ref pdra, .int fu, .int fn, .int fp])), (ptok, .inr (10, [.ref ts, .ref tp, .ref tw, .int z, .int pa, .int so, .int pl, .long wd])), (ts, .inl (t1, 2001, .inl gs)), (tp, .inl (t2, 2001, .inl gp)), (tw, .inl (t3, 2001, .inr (.inl gw))), (pdra, .inr (9, [.ref gco, .ref gar, .ref gki, .ref gfu])), (gki, .inr (4, [.ref kw, .ref kf, .int kz])), (kw, .inl (k1, 20, .inr (.inl kgw))), (kf, .inl (k2, 20, .inl kgf)), (gco, .inr (2, [.ref cop, .ref ca, .ref cb, .ref cplace, .ref cnext, .ref cneeded, .int cz, .int ct])), (cop, .inl (ckop, 3000, .inl cgop)), (ca, .inl (cka, 3000, .inl cga)), (cb, .inl (ckb, 3000, .inl cgb)), (cplace, .inl (ckplace, 3000, .inl cgplace)), (cnext, .inl (cknext, 3000, .inl cgnext)), (cneeded, .inl (ckneeded, 3000, .inl cgneeded)), (gar, .inr (0, [.ref akind, .ref anext, .ref abefore, .ref aleave, .ref afirstSlot, .ref abuilds, .int az])), (akind, .inl (akkind, 400, .inl agkind)), (anext, .inl (aknext, 400, .inl agnext)), (abefore, .inl (akbefore, 400, .inl agbefore)), (aleave, .inl (akleave, 400, .inl agleave)), (afirstSlot, .inl (akfirstSlot, 400, .inl agfirstSlot)), (abuilds, .inl (akbuilds, 400, .inl agbuilds))]) A) (vx_X (fun u : Int32 × Int32 => match u with | (fn2, fp2) => (fp2.toInt = pl.toInt) ∧ (¬ sp_rk wd kz kgw gQ)) (fun E u t => E = "java/lang/IllegalStateException" ∧ (match u with | (fn2, fp2) => zQ dC dI A [(t1, .int), (t2, .int), (t3, .long), (k1, .long), (k2, .int), (ckop, .int), (cka, .int), (ckb, .int), (ckplace, .int), (cknext, .int), (ckneeded, .int), (akkind, .int), (aknext, .int), (akbefore, .int), (akleave, .int), (akfirstSlot, .int), (akbuilds, .int)] [(h0, .inr (7, [.ref ptok, .ref pnee, .ref pnam, .int ar, .ref pbui, .ref pdra, .int fu, .int fn2, .int fp2])), (ptok, .inr (10, [.ref ts, .ref tp, .ref tw, .int z, .int pa, .int so, .int pl, .long wd])), (ts, .inl (t1, 2001, .inl gs)), (tp, .inl (t2, 2001, .inl gp)), (tw, .inl (t3, 2001, .inr (.inl gw))), (pdra, .inr (9, [.ref gco, .ref gar, .ref gki, .ref gfu])), (gki, .inr (4, [.ref kw, .ref kf, .int kz])), (kw, .inl (k1, 20, .inr (.inl kgw))), (kf, .inl (k2, 20, .inl kgf)), (gco, .inr (2, [.ref cop, .ref ca, .ref cb, .ref cplace, .ref cnext, .ref cneeded, .int cz, .int ct])), (cop, .inl (ckop, 3000, .inl cgop)), (ca, .inl (cka, 3000, .inl cga)), (cb, .inl (ckb, 3000, .inl cgb)), (cplace, .inl (ckplace, 3000, .inl cgplace)), (cnext, .inl (cknext, 3000, .inl cgnext)), (cneeded, .inl (ckneeded, 3000, .inl cgneeded)), (gar, .inr (0, [.ref akind, .ref anext, .ref abefore, .ref aleave, .ref afirstSlot, .ref abuilds, .int az])), (akind, .inl (akkind, 400, .inl agkind)), (anext, .inl (aknext, 400, .inl agnext)), (abefore, .inl (akbefore, 400, .inl agbefore)), (aleave, .inl (akleave, 400, .inl agleave)), (afirstSlot, .inl (akfirstSlot, 400, .inl agfirstSlot)), (abuilds, .inl (akbuilds, 400, .inl agbuilds))] t)) A) #[.ref h0, .int ma] s 0 0 1 6 A) (F0 m 34 ls []) := by
    intro n9
    induction n9 with
    | zero => intro am i H locs ls hm ham0 ham1 hi0 hi1 hcn; exfalso; omega
    | succ n9 ih =>
      intro am i H locs ls hm ham0 ham1 hi0 hi1 hcn hP hD hS hl
      refine lv_iload hx hb dX7_refuseKindTwice_34 (lv_at hl 0 rfl) ?_
      refine lv_bipush (v := 8) hx hb dX7_refuseKindTwice_36 (by decide) ?_
      refine lv_icmp_ge (tgt := 98) hx hb dX7_refuseKindTwice_38 (by decide) (fun c_6 => ?_) (fun c_6 => ?_)
      · have ic_6 : 8 ≤ i.toInt := zi_le c_6
        have hP9 := hP.sub (ws' := [(h0, .inr (7, [.ref ptok, .ref pnee, .ref pnam, .int ar, .ref pbui, .ref pdra, .int fu, .int fn, .int fp])), (ptok, .inr (10, [.ref ts, .ref tp, .ref tw, .int z, .int pa, .int so, .int pl, .long wd])), (ts, .inl (t1, 2001, .inl gs)), (tp, .inl (t2, 2001, .inl gp)), (tw, .inl (t3, 2001, .inr (.inl gw))), (pdra, .inr (9, [.ref gco, .ref gar, .ref gki, .ref gfu])), (gki, .inr (4, [.ref kw, .ref kf, .int kz])), (kw, .inl (k1, 20, .inr (.inl kgw))), (kf, .inl (k2, 20, .inl kgf)), (gco, .inr (2, [.ref cop, .ref ca, .ref cb, .ref cplace, .ref cnext, .ref cneeded, .int cz, .int ct])), (cop, .inl (ckop, 3000, .inl cgop)), (ca, .inl (cka, 3000, .inl cga)), (cb, .inl (ckb, 3000, .inl cgb)), (cplace, .inl (ckplace, 3000, .inl cgplace)), (cnext, .inl (cknext, 3000, .inl cgnext)), (cneeded, .inl (ckneeded, 3000, .inl cgneeded)), (gar, .inr (0, [.ref akind, .ref anext, .ref abefore, .ref aleave, .ref afirstSlot, .ref abuilds, .int az])), (akind, .inl (akkind, 400, .inl agkind)), (anext, .inl (aknext, 400, .inl agnext)), (abefore, .inl (akbefore, 400, .inl agbefore)), (aleave, .inl (akleave, 400, .inl agleave)), (afirstSlot, .inl (akfirstSlot, 400, .inl agfirstSlot)), (abuilds, .inl (akbuilds, 400, .inl agbuilds))]) [0, 1, 2, 3, 4, 5, 20, 21, 22, 6, 7, 8, 9, 10, 11, 12, 13, 14, 15, 16, 17, 18, 19] rfl
        have hD9 := hD.sub (ws' := [(h0, .inr (7, [.ref ptok, .ref pnee, .ref pnam, .int ar, .ref pbui, .ref pdra, .int fu, .int fn, .int fp])), (ptok, .inr (10, [.ref ts, .ref tp, .ref tw, .int z, .int pa, .int so, .int pl, .long wd])), (ts, .inl (t1, 2001, .inl gs)), (tp, .inl (t2, 2001, .inl gp)), (tw, .inl (t3, 2001, .inr (.inl gw))), (pdra, .inr (9, [.ref gco, .ref gar, .ref gki, .ref gfu])), (gki, .inr (4, [.ref kw, .ref kf, .int kz])), (kw, .inl (k1, 20, .inr (.inl kgw))), (kf, .inl (k2, 20, .inl kgf)), (gco, .inr (2, [.ref cop, .ref ca, .ref cb, .ref cplace, .ref cnext, .ref cneeded, .int cz, .int ct])), (cop, .inl (ckop, 3000, .inl cgop)), (ca, .inl (cka, 3000, .inl cga)), (cb, .inl (ckb, 3000, .inl cgb)), (cplace, .inl (ckplace, 3000, .inl cgplace)), (cnext, .inl (cknext, 3000, .inl cgnext)), (cneeded, .inl (ckneeded, 3000, .inl cgneeded)), (gar, .inr (0, [.ref akind, .ref anext, .ref abefore, .ref aleave, .ref afirstSlot, .ref abuilds, .int az])), (akind, .inl (akkind, 400, .inl agkind)), (anext, .inl (aknext, 400, .inl agnext)), (abefore, .inl (akbefore, 400, .inl agbefore)), (aleave, .inl (akleave, 400, .inl agleave)), (afirstSlot, .inl (akfirstSlot, 400, .inl agfirstSlot)), (abuilds, .inl (akbuilds, 400, .inl agbuilds))]) [0, 1, 2, 3, 4, 5, 20, 21, 22, 6, 7, 8, 9, 10, 11, 12, 13, 14, 15, 16, 17, 18, 19] (by decide) rfl
        have hK9 := hK.sub (tys' := [(t1, .int), (t2, .int), (t3, .long), (k1, .long), (k2, .int), (ckop, .int), (cka, .int), (ckb, .int), (ckplace, .int), (cknext, .int), (ckneeded, .int), (akkind, .int), (aknext, .int), (akbefore, .int), (akleave, .int), (akfirstSlot, .int), (akbuilds, .int)]) [0, 1, 2, 15, 16, 3, 4, 5, 6, 7, 8, 9, 10, 11, 12, 13, 14] rfl
        exact vy_mono vy_ret (vx_ret (W.vret hx hb hr (fun t ht hW => ⟨⟨(), rfl, sp_rk_y hcn hlen (by omega) hq_4 (by omega) (by omega) hQ2, by rw [ht]; exact hP9, va_K.moved hW.alike hK9, hD9⟩, hS.F ht⟩) hS.2.2 dX7_refuseKindTwice_98))
      · have ic_6 : i.toInt < 8 := zi_nle c_6
        refine lv_iload_n hx hb dX7_refuseKindTwice_41 rfl (lv_at hl 1 rfl) ?_
        refine lv_iconst (v := (-1)) hx hb dX7_refuseKindTwice_42 (by decide) ?_
        refine lv_icmp_eq (tgt := 98) hx hb dX7_refuseKindTwice_43 (by decide) (fun c_7 => ?_) (fun c_7 => ?_)
        · have ic_7 : am.toInt = (-1) := zi_eq c_7
          have hP9 := hP.sub (ws' := [(h0, .inr (7, [.ref ptok, .ref pnee, .ref pnam, .int ar, .ref pbui, .ref pdra, .int fu, .int fn, .int fp])), (ptok, .inr (10, [.ref ts, .ref tp, .ref tw, .int z, .int pa, .int so, .int pl, .long wd])), (ts, .inl (t1, 2001, .inl gs)), (tp, .inl (t2, 2001, .inl gp)), (tw, .inl (t3, 2001, .inr (.inl gw))), (pdra, .inr (9, [.ref gco, .ref gar, .ref gki, .ref gfu])), (gki, .inr (4, [.ref kw, .ref kf, .int kz])), (kw, .inl (k1, 20, .inr (.inl kgw))), (kf, .inl (k2, 20, .inl kgf)), (gco, .inr (2, [.ref cop, .ref ca, .ref cb, .ref cplace, .ref cnext, .ref cneeded, .int cz, .int ct])), (cop, .inl (ckop, 3000, .inl cgop)), (ca, .inl (cka, 3000, .inl cga)), (cb, .inl (ckb, 3000, .inl cgb)), (cplace, .inl (ckplace, 3000, .inl cgplace)), (cnext, .inl (cknext, 3000, .inl cgnext)), (cneeded, .inl (ckneeded, 3000, .inl cgneeded)), (gar, .inr (0, [.ref akind, .ref anext, .ref abefore, .ref aleave, .ref afirstSlot, .ref abuilds, .int az])), (akind, .inl (akkind, 400, .inl agkind)), (anext, .inl (aknext, 400, .inl agnext)), (abefore, .inl (akbefore, 400, .inl agbefore)), (aleave, .inl (akleave, 400, .inl agleave)), (afirstSlot, .inl (akfirstSlot, 400, .inl agfirstSlot)), (abuilds, .inl (akbuilds, 400, .inl agbuilds))]) [0, 1, 2, 3, 4, 5, 20, 21, 22, 6, 7, 8, 9, 10, 11, 12, 13, 14, 15, 16, 17, 18, 19] rfl
          have hD9 := hD.sub (ws' := [(h0, .inr (7, [.ref ptok, .ref pnee, .ref pnam, .int ar, .ref pbui, .ref pdra, .int fu, .int fn, .int fp])), (ptok, .inr (10, [.ref ts, .ref tp, .ref tw, .int z, .int pa, .int so, .int pl, .long wd])), (ts, .inl (t1, 2001, .inl gs)), (tp, .inl (t2, 2001, .inl gp)), (tw, .inl (t3, 2001, .inr (.inl gw))), (pdra, .inr (9, [.ref gco, .ref gar, .ref gki, .ref gfu])), (gki, .inr (4, [.ref kw, .ref kf, .int kz])), (kw, .inl (k1, 20, .inr (.inl kgw))), (kf, .inl (k2, 20, .inl kgf)), (gco, .inr (2, [.ref cop, .ref ca, .ref cb, .ref cplace, .ref cnext, .ref cneeded, .int cz, .int ct])), (cop, .inl (ckop, 3000, .inl cgop)), (ca, .inl (cka, 3000, .inl cga)), (cb, .inl (ckb, 3000, .inl cgb)), (cplace, .inl (ckplace, 3000, .inl cgplace)), (cnext, .inl (cknext, 3000, .inl cgnext)), (cneeded, .inl (ckneeded, 3000, .inl cgneeded)), (gar, .inr (0, [.ref akind, .ref anext, .ref abefore, .ref aleave, .ref afirstSlot, .ref abuilds, .int az])), (akind, .inl (akkind, 400, .inl agkind)), (anext, .inl (aknext, 400, .inl agnext)), (abefore, .inl (akbefore, 400, .inl agbefore)), (aleave, .inl (akleave, 400, .inl agleave)), (afirstSlot, .inl (akfirstSlot, 400, .inl agfirstSlot)), (abuilds, .inl (akbuilds, 400, .inl agbuilds))]) [0, 1, 2, 3, 4, 5, 20, 21, 22, 6, 7, 8, 9, 10, 11, 12, 13, 14, 15, 16, 17, 18, 19] (by decide) rfl
          have hK9 := hK.sub (tys' := [(t1, .int), (t2, .int), (t3, .long), (k1, .long), (k2, .int), (ckop, .int), (cka, .int), (ckb, .int), (ckplace, .int), (cknext, .int), (ckneeded, .int), (akkind, .int), (aknext, .int), (akbefore, .int), (akleave, .int), (akfirstSlot, .int), (akbuilds, .int)]) [0, 1, 2, 15, 16, 3, 4, 5, 6, 7, 8, 9, 10, 11, 12, 13, 14] rfl
          exact vy_mono vy_ret (vx_ret (W.vret hx hb hr (fun t ht hW => ⟨⟨(), rfl, sp_rk_y hcn hlen (by omega) hq_4 (by omega) (by omega) hQ2, by rw [ht]; exact hP9, va_K.moved hW.alike hK9, hD9⟩, hS.F ht⟩) hS.2.2 dX7_refuseKindTwice_98))
        · have ic_7 : am.toInt ≠ (-1) := zi_ne c_7
          refine lv_iload_n hx hb dX7_refuseKindTwice_46 rfl (lv_at hl 2 rfl) ?_
          refine lv_iconst (v := (-1)) hx hb dX7_refuseKindTwice_47 (by decide) ?_
          refine lv_icmp_eq (tgt := 79) hx hb dX7_refuseKindTwice_48 (by decide) (fun c_8 => ?_) (fun c_8 => ?_)
          · have ic_8 : r_1.toInt = (-1) := zi_eq c_8
            refine lv_aload_n hx hb dX7_refuseKindTwice_79 rfl (lv_at hl 3 rfl) ?_
            refine va_get (D := (dC, dI)) (ci := 7) (v := .ref pdra) (C := RX7) (T := TX7) (N := 9) hx hb hA zin_X7 hown hK hP 0 rfl rfl 5 (by decide) (hA _ wi_392) (fun _ h9 => h9) rfl dX7_refuseKindTwice_80 ?_
            refine va_get (D := (dC, dI)) (ci := 9) (v := .ref gar) (C := RX9) (T := TX9) (N := 4) hx hb hA zin_X9 hown hK hP 5 rfl rfl 1 (by decide) (hA _ wi_314) (fun _ h9 => h9) rfl dX7_refuseKindTwice_83 ?_
            refine va_get (D := (dC, dI)) (ci := 0) (v := .ref anext) (C := RX0) (T := TX0) (N := 7) hx hb hA zin_X0 hown hK hP 13 rfl rfl 1 (by decide) (hA _ wi_233) (fun _ h9 => h9) rfl dX7_refuseKindTwice_86 ?_
            refine lv_iload_n hx hb dX7_refuseKindTwice_89 rfl (lv_at hl 1 rfl) ?_
            refine va_iald hx hb hK hP 15 10 rfl rfl (vp_in_iff.mpr ⟨by omega, by omega⟩) dX7_refuseKindTwice_90 ?_
            refine lv_topi (fun x_9 ex_9 => ?_)
            have ix_9 : -1 ≤ x_9.toInt ∧ x_9.toInt < 400 := by rw [ex_9]; exact hagn _
            refine lv_istore_n (lv' := [(3, .int x_9), (4, .int i), (2, .int r_1), (0, .ref h0), (1, .int ma)]) hx hb dX7_refuseKindTwice_91 rfl hl (by decide) rfl (fun ls hl => ?_)
            obtain ⟨x_10, ex_10⟩ : ∃ y : Int32, y = i + Int32.ofInt 1 := ⟨_, rfl⟩
            refine lv_iinc (v := x_10) (lv' := [(4, .int x_10), (3, .int x_9), (2, .int r_1), (0, .ref h0), (1, .int ma)]) hx hb dX7_refuseKindTwice_92 hl (k := 1) rfl (by rw [ex_10]) (by decide) rfl (fun ls hl => ?_)
            have ix_10 : x_10.toInt = i.toInt + 1 := by rw [ex_10]; exact zi_addc (by decide) (by omega) (by omega)
            refine lv_goto (tgt := 34) hx hb dX7_refuseKindTwice_95 (by decide) ?_
            have hcn_11 : sp_cn agnext agkind gAL x_9 x_10 r_1 := sp_cn_s hcn (by omega) ex_9 (by omega) (fun g9 => absurd g9 (by omega))
            exact ih x_9 x_10 _ _ _ (by omega) (by omega) (by omega) (by omega) (by omega) hcn_11 (hP.sub [0, 1, 2, 3, 4, 5, 6, 7, 8, 9, 10, 11, 12, 13, 14, 15, 16, 17, 18, 19, 20, 21, 22] rfl) (hD.sub [0, 1, 2, 3, 4, 5, 6, 7, 8, 9, 10, 11, 12, 13, 14, 15, 16, 17, 18, 19, 20, 21, 22] (by decide) rfl) hS (lv_sub hl [0, 1, 2, 3, 4] rfl)
          · have ic_8 : r_1.toInt ≠ (-1) := zi_ne c_8
            refine lv_aload_n hx hb dX7_refuseKindTwice_51 rfl (lv_at hl 3 rfl) ?_
            refine va_get (D := (dC, dI)) (ci := 7) (v := .ref pdra) (C := RX7) (T := TX7) (N := 9) hx hb hA zin_X7 hown hK hP 0 rfl rfl 5 (by decide) (hA _ wi_392) (fun _ h9 => h9) rfl dX7_refuseKindTwice_52 ?_
            refine va_get (D := (dC, dI)) (ci := 9) (v := .ref gar) (C := RX9) (T := TX9) (N := 4) hx hb hA zin_X9 hown hK hP 5 rfl rfl 1 (by decide) (hA _ wi_314) (fun _ h9 => h9) rfl dX7_refuseKindTwice_55 ?_
            refine va_get (D := (dC, dI)) (ci := 0) (v := .ref akind) (C := RX0) (T := TX0) (N := 7) hx hb hA zin_X0 hown hK hP 13 rfl rfl 0 (by decide) (hA _ wi_229) (fun _ h9 => h9) rfl dX7_refuseKindTwice_58 ?_
            refine lv_iload_n hx hb dX7_refuseKindTwice_61 rfl (lv_at hl 1 rfl) ?_
            refine va_iald hx hb hK hP 14 9 rfl rfl (vp_in_iff.mpr ⟨by omega, by omega⟩) dX7_refuseKindTwice_62 ?_
            refine lv_topi (fun x_12 ex_12 => ?_)
            have hcn9 := sp_cn_in hcn (by omega)
            refine lv_iload_n hx hb dX7_refuseKindTwice_63 rfl (lv_at hl 2 rfl) ?_
            refine lv_icmp_ne (tgt := 79) hx hb dX7_refuseKindTwice_64 (by decide) (fun c_13 => ?_) (fun c_13 => ?_)
            · have ic_13 : x_12.toInt ≠ r_1.toInt := zi_ne c_13
              refine lv_aload_n hx hb dX7_refuseKindTwice_79 rfl (lv_at hl 3 rfl) ?_
              refine va_get (D := (dC, dI)) (ci := 7) (v := .ref pdra) (C := RX7) (T := TX7) (N := 9) hx hb hA zin_X7 hown hK hP 0 rfl rfl 5 (by decide) (hA _ wi_392) (fun _ h9 => h9) rfl dX7_refuseKindTwice_80 ?_
              refine va_get (D := (dC, dI)) (ci := 9) (v := .ref gar) (C := RX9) (T := TX9) (N := 4) hx hb hA zin_X9 hown hK hP 5 rfl rfl 1 (by decide) (hA _ wi_314) (fun _ h9 => h9) rfl dX7_refuseKindTwice_83 ?_
              refine va_get (D := (dC, dI)) (ci := 0) (v := .ref anext) (C := RX0) (T := TX0) (N := 7) hx hb hA zin_X0 hown hK hP 13 rfl rfl 1 (by decide) (hA _ wi_233) (fun _ h9 => h9) rfl dX7_refuseKindTwice_86 ?_
              refine lv_iload_n hx hb dX7_refuseKindTwice_89 rfl (lv_at hl 1 rfl) ?_
              refine va_iald hx hb hK hP 15 10 rfl rfl (vp_in_iff.mpr ⟨by omega, by omega⟩) dX7_refuseKindTwice_90 ?_
              refine lv_topi (fun x_14 ex_14 => ?_)
              have ix_14 : -1 ≤ x_14.toInt ∧ x_14.toInt < 400 := by rw [ex_14]; exact hagn _
              refine lv_istore_n (lv' := [(3, .int x_14), (4, .int i), (2, .int r_1), (0, .ref h0), (1, .int ma)]) hx hb dX7_refuseKindTwice_91 rfl hl (by decide) rfl (fun ls hl => ?_)
              obtain ⟨x_15, ex_15⟩ : ∃ y : Int32, y = i + Int32.ofInt 1 := ⟨_, rfl⟩
              refine lv_iinc (v := x_15) (lv' := [(4, .int x_15), (3, .int x_14), (2, .int r_1), (0, .ref h0), (1, .int ma)]) hx hb dX7_refuseKindTwice_92 hl (k := 1) rfl (by rw [ex_15]) (by decide) rfl (fun ls hl => ?_)
              have ix_15 : x_15.toInt = i.toInt + 1 := by rw [ex_15]; exact zi_addc (by decide) (by omega) (by omega)
              refine lv_goto (tgt := 34) hx hb dX7_refuseKindTwice_95 (by decide) ?_
              have hcn_16 : sp_cn agnext agkind gAL x_14 x_15 r_1 := sp_cn_s hcn (by omega) ex_14 (by omega) (fun g9 => by rw [← ex_12]; omega)
              exact ih x_14 x_15 _ _ _ (by omega) (by omega) (by omega) (by omega) (by omega) hcn_16 (hP.sub [0, 1, 2, 3, 4, 5, 6, 7, 8, 9, 10, 11, 12, 13, 14, 15, 16, 17, 18, 19, 20, 21, 22] rfl) (hD.sub [0, 1, 2, 3, 4, 5, 6, 7, 8, 9, 10, 11, 12, 13, 14, 15, 16, 17, 18, 19, 20, 21, 22] (by decide) rfl) hS (lv_sub hl [0, 1, 2, 3, 4] rfl)
            · have ic_13 : x_12.toInt = r_1.toInt := zi_eq c_13
              refine lv_aload_n hx hb dX7_refuseKindTwice_67 rfl (lv_at hl 3 rfl) ?_
              refine lv_iconst (v := 3) hx hb dX7_refuseKindTwice_68 (by decide) ?_
              refine lv_aload_n hx hb dX7_refuseKindTwice_69 rfl (lv_at hl 3 rfl) ?_
              refine va_get (D := (dC, dI)) (ci := 7) (v := .ref ptok) (C := RX7) (T := TX7) (N := 9) hx hb hA zin_X7 hown hK hP 0 rfl rfl 0 (by decide) (hA _ wi_387) (fun _ h9 => h9) rfl dX7_refuseKindTwice_70 ?_
              refine va_get (D := (dC, dI)) (ci := 10) (v := .int pl) (C := RX10) (T := TX10) (N := 8) hx hb hA zin_X10 hown hK hP 1 rfl rfl 6 (by decide) (hA _ wi_355) (fun _ h9 => h9) rfl dX7_refuseKindTwice_73 ?_
              have hPc := hP.sub (ws' := [(h0, .inr (7, [.ref ptok, .ref pnee, .ref pnam, .int ar, .ref pbui, .ref pdra, .int fu, .int fn, .int fp]))]) [0] rfl
              have hDc := hD.sub (ws' := [(h0, .inr (7, [.ref ptok, .ref pnee, .ref pnam, .int ar, .ref pbui, .ref pdra, .int fu, .int fn, .int fp]))]) [0] (by decide) rfl
              have hKc := hK.sub (tys' := []) [] rfl
              have hFc := va_free (wc := [(h0, .inr (7, [.ref ptok, .ref pnee, .ref pnam, .int ar, .ref pbui, .ref pdra, .int fu, .int fn, .int fp]))]) hD hS hAA [0] rfl
              refine vy_callv (vy_runV (As := [.int 3, .int pl]) (rest := []) ⟨hx, hb, hml, hown, hA⟩ (c_X7_fail l dC dI aK aV h0 ptok pnee pnam pbui pdra ar fu fn fp 3 pl H.size hlt) (cwV 2 hA (zw_V wi_806 wi_808 wi_5 wi_136 (zw_good wi_809)) rfl rfl rfl (by decide +kernel) ⟨(Nat.le_of_ble_eq_true rfl), (Nat.le_of_ble_eq_true rfl)⟩) ⟨zP_blind, va_recv hKc hPc (ci := 7) (q0 := 0) rfl rfl, zz_pre hKc hPc hDc hN hT hS hFc⟩ rfl rfl hl.1 rfl (lv_room (Nat.le_of_ble_eq_true rfl)) dX7_refuseKindTwice_76 ⟨(Nat.le_of_ble_eq_true rfl), (Nat.le_of_ble_eq_true rfl)⟩) hS (fun q _ h => hFc q h) hFc (fun q _ h => hFc q h) (fun E9 ce9 q9 u t H1 locs ht hvm hw hB hz1 hk1 hS hcell hcv hcl => ?_) (fun u t H1 locs ht hvm hw hB hz1 hk1 hS => absurd hw id)
              obtain ⟨x_fn2_18, x_fp2_19⟩ := u
              obtain ⟨rfl, hP1, hK1, hD1⟩ := hB
              rw [ht] at hP1
              have hK1 := va_K.moved hvm.symm hK1
              obtain ⟨hP, hD⟩ := va_join (wr := [(ptok, .inr (10, [.ref ts, .ref tp, .ref tw, .int z, .int pa, .int so, .int pl, .long wd])), (ts, .inl (t1, 2001, .inl gs)), (tp, .inl (t2, 2001, .inl gp)), (tw, .inl (t3, 2001, .inr (.inl gw))), (pdra, .inr (9, [.ref gco, .ref gar, .ref gki, .ref gfu])), (gco, .inr (2, [.ref cop, .ref ca, .ref cb, .ref cplace, .ref cnext, .ref cneeded, .int cz, .int ct])), (cop, .inl (ckop, 3000, .inl cgop)), (ca, .inl (cka, 3000, .inl cga)), (cb, .inl (ckb, 3000, .inl cgb)), (cplace, .inl (ckplace, 3000, .inl cgplace)), (cnext, .inl (cknext, 3000, .inl cgnext)), (cneeded, .inl (ckneeded, 3000, .inl cgneeded)), (gar, .inr (0, [.ref akind, .ref anext, .ref abefore, .ref aleave, .ref afirstSlot, .ref abuilds, .int az])), (akind, .inl (akkind, 400, .inl agkind)), (anext, .inl (aknext, 400, .inl agnext)), (abefore, .inl (akbefore, 400, .inl agbefore)), (aleave, .inl (akleave, 400, .inl agleave)), (afirstSlot, .inl (akfirstSlot, 400, .inl agfirstSlot)), (abuilds, .inl (akbuilds, 400, .inl agbuilds)), (gki, .inr (4, [.ref kw, .ref kf, .int kz])), (kw, .inl (k1, 20, .inr (.inl kgw))), (kf, .inl (k2, 20, .inl kgf))]) (w1 := [(h0, .inr (7, [.ref ptok, .ref pnee, .ref pnam, .int ar, .ref pbui, .ref pdra, .int fu, .int x_fn2_18, .int x_fp2_19]))]) hP hD [0] [1, 2, 3, 4, 5, 6, 7, 8, 9, 10, 11, 12, 13, 14, 15, 16, 17, 18, 19, 20, 21, 22] rfl rfl (by decide) (by decide) hk1 hFc hP1 hD1
              have hK := (hK.sub (tys' := [(t1, .int), (t2, .int), (t3, .long), (ckop, .int), (cka, .int), (ckb, .int), (ckplace, .int), (cknext, .int), (ckneeded, .int), (akkind, .int), (aknext, .int), (akbefore, .int), (akleave, .int), (akfirstSlot, .int), (akbuilds, .int), (k1, .long), (k2, .int)]) [0, 1, 2, 3, 4, 5, 6, 7, 8, 9, 10, 11, 12, 13, 14, 15, 16] rfl).app hK1
              clear hPc hDc hFc hP1 hD1 hk1 hz1 ht hvm
              generalize H1 = H at hP hS hcell ⊢
              have hP : va_P (dC, dI) vwCl [(ptok, .inr (10, [.ref ts, .ref tp, .ref tw, .int z, .int pa, .int so, .int pl, .long wd])), (ts, .inl (t1, 2001, .inl gs)), (tp, .inl (t2, 2001, .inl gp)), (tw, .inl (t3, 2001, .inr (.inl gw))), (pdra, .inr (9, [.ref gco, .ref gar, .ref gki, .ref gfu])), (gco, .inr (2, [.ref cop, .ref ca, .ref cb, .ref cplace, .ref cnext, .ref cneeded, .int cz, .int ct])), (cop, .inl (ckop, 3000, .inl cgop)), (ca, .inl (cka, 3000, .inl cga)), (cb, .inl (ckb, 3000, .inl cgb)), (cplace, .inl (ckplace, 3000, .inl cgplace)), (cnext, .inl (cknext, 3000, .inl cgnext)), (cneeded, .inl (ckneeded, 3000, .inl cgneeded)), (gar, .inr (0, [.ref akind, .ref anext, .ref abefore, .ref aleave, .ref afirstSlot, .ref abuilds, .int az])), (akind, .inl (akkind, 400, .inl agkind)), (anext, .inl (aknext, 400, .inl agnext)), (abefore, .inl (akbefore, 400, .inl agbefore)), (aleave, .inl (akleave, 400, .inl agleave)), (afirstSlot, .inl (akfirstSlot, 400, .inl agfirstSlot)), (abuilds, .inl (akbuilds, 400, .inl agbuilds)), (gki, .inr (4, [.ref kw, .ref kf, .int kz])), (kw, .inl (k1, 20, .inr (.inl kgw))), (kf, .inl (k2, 20, .inl kgf)), (h0, .inr (7, [.ref ptok, .ref pnee, .ref pnam, .int ar, .ref pbui, .ref pdra, .int fu, .int x_fn2_18, .int x_fp2_19]))] H := hP
              have hD : va_D A [(ptok, .inr (10, [.ref ts, .ref tp, .ref tw, .int z, .int pa, .int so, .int pl, .long wd])), (ts, .inl (t1, 2001, .inl gs)), (tp, .inl (t2, 2001, .inl gp)), (tw, .inl (t3, 2001, .inr (.inl gw))), (pdra, .inr (9, [.ref gco, .ref gar, .ref gki, .ref gfu])), (gco, .inr (2, [.ref cop, .ref ca, .ref cb, .ref cplace, .ref cnext, .ref cneeded, .int cz, .int ct])), (cop, .inl (ckop, 3000, .inl cgop)), (ca, .inl (cka, 3000, .inl cga)), (cb, .inl (ckb, 3000, .inl cgb)), (cplace, .inl (ckplace, 3000, .inl cgplace)), (cnext, .inl (cknext, 3000, .inl cgnext)), (cneeded, .inl (ckneeded, 3000, .inl cgneeded)), (gar, .inr (0, [.ref akind, .ref anext, .ref abefore, .ref aleave, .ref afirstSlot, .ref abuilds, .int az])), (akind, .inl (akkind, 400, .inl agkind)), (anext, .inl (aknext, 400, .inl agnext)), (abefore, .inl (akbefore, 400, .inl agbefore)), (aleave, .inl (akleave, 400, .inl agleave)), (afirstSlot, .inl (akfirstSlot, 400, .inl agfirstSlot)), (abuilds, .inl (akbuilds, 400, .inl agbuilds)), (gki, .inr (4, [.ref kw, .ref kf, .int kz])), (kw, .inl (k1, 20, .inr (.inl kgw))), (kf, .inl (k2, 20, .inl kgf)), (h0, .inr (7, [.ref ptok, .ref pnee, .ref pnam, .int ar, .ref pbui, .ref pdra, .int fu, .int x_fn2_18, .int x_fp2_19]))] := hD
              have hK : va_K (dC, dI) vwCl [(t1, .int), (t2, .int), (t3, .long), (ckop, .int), (cka, .int), (ckb, .int), (ckplace, .int), (cknext, .int), (ckneeded, .int), (akkind, .int), (aknext, .int), (akbefore, .int), (akleave, .int), (akfirstSlot, .int), (akbuilds, .int), (k1, .long), (k2, .int)] s := hK
              have hq_20 := hw
              try dsimp only at hq_20
              refine vx_widen (k := 1) (n := 6) (Nat.le_of_ble_eq_true rfl) (Nat.le_of_ble_eq_true rfl) ?_
              have hP9 := hP.sub (ws' := [(h0, .inr (7, [.ref ptok, .ref pnee, .ref pnam, .int ar, .ref pbui, .ref pdra, .int fu, .int x_fn2_18, .int x_fp2_19])), (ptok, .inr (10, [.ref ts, .ref tp, .ref tw, .int z, .int pa, .int so, .int pl, .long wd])), (ts, .inl (t1, 2001, .inl gs)), (tp, .inl (t2, 2001, .inl gp)), (tw, .inl (t3, 2001, .inr (.inl gw))), (pdra, .inr (9, [.ref gco, .ref gar, .ref gki, .ref gfu])), (gki, .inr (4, [.ref kw, .ref kf, .int kz])), (kw, .inl (k1, 20, .inr (.inl kgw))), (kf, .inl (k2, 20, .inl kgf)), (gco, .inr (2, [.ref cop, .ref ca, .ref cb, .ref cplace, .ref cnext, .ref cneeded, .int cz, .int ct])), (cop, .inl (ckop, 3000, .inl cgop)), (ca, .inl (cka, 3000, .inl cga)), (cb, .inl (ckb, 3000, .inl cgb)), (cplace, .inl (ckplace, 3000, .inl cgplace)), (cnext, .inl (cknext, 3000, .inl cgnext)), (cneeded, .inl (ckneeded, 3000, .inl cgneeded)), (gar, .inr (0, [.ref akind, .ref anext, .ref abefore, .ref aleave, .ref afirstSlot, .ref abuilds, .int az])), (akind, .inl (akkind, 400, .inl agkind)), (anext, .inl (aknext, 400, .inl agnext)), (abefore, .inl (akbefore, 400, .inl agbefore)), (aleave, .inl (akleave, 400, .inl agleave)), (afirstSlot, .inl (akfirstSlot, 400, .inl agfirstSlot)), (abuilds, .inl (akbuilds, 400, .inl agbuilds))]) [22, 0, 1, 2, 3, 4, 19, 20, 21, 5, 6, 7, 8, 9, 10, 11, 12, 13, 14, 15, 16, 17, 18] rfl
              have hD9 := hD.sub (ws' := [(h0, .inr (7, [.ref ptok, .ref pnee, .ref pnam, .int ar, .ref pbui, .ref pdra, .int fu, .int x_fn2_18, .int x_fp2_19])), (ptok, .inr (10, [.ref ts, .ref tp, .ref tw, .int z, .int pa, .int so, .int pl, .long wd])), (ts, .inl (t1, 2001, .inl gs)), (tp, .inl (t2, 2001, .inl gp)), (tw, .inl (t3, 2001, .inr (.inl gw))), (pdra, .inr (9, [.ref gco, .ref gar, .ref gki, .ref gfu])), (gki, .inr (4, [.ref kw, .ref kf, .int kz])), (kw, .inl (k1, 20, .inr (.inl kgw))), (kf, .inl (k2, 20, .inl kgf)), (gco, .inr (2, [.ref cop, .ref ca, .ref cb, .ref cplace, .ref cnext, .ref cneeded, .int cz, .int ct])), (cop, .inl (ckop, 3000, .inl cgop)), (ca, .inl (cka, 3000, .inl cga)), (cb, .inl (ckb, 3000, .inl cgb)), (cplace, .inl (ckplace, 3000, .inl cgplace)), (cnext, .inl (cknext, 3000, .inl cgnext)), (cneeded, .inl (ckneeded, 3000, .inl cgneeded)), (gar, .inr (0, [.ref akind, .ref anext, .ref abefore, .ref aleave, .ref afirstSlot, .ref abuilds, .int az])), (akind, .inl (akkind, 400, .inl agkind)), (anext, .inl (aknext, 400, .inl agnext)), (abefore, .inl (akbefore, 400, .inl agbefore)), (aleave, .inl (akleave, 400, .inl agleave)), (afirstSlot, .inl (akfirstSlot, 400, .inl agfirstSlot)), (abuilds, .inl (akbuilds, 400, .inl agbuilds))]) [22, 0, 1, 2, 3, 4, 19, 20, 21, 5, 6, 7, 8, 9, 10, 11, 12, 13, 14, 15, 16, 17, 18] (by decide) rfl
              have hK9 := hK.sub (tys' := [(t1, .int), (t2, .int), (t3, .long), (k1, .long), (k2, .int), (ckop, .int), (cka, .int), (ckb, .int), (ckplace, .int), (cknext, .int), (ckneeded, .int), (akkind, .int), (aknext, .int), (akbefore, .int), (akleave, .int), (akfirstSlot, .int), (akbuilds, .int)]) [0, 1, 2, 15, 16, 3, 4, 5, 6, 7, 8, 9, 10, 11, 12, 13, 14] rfl
              exact vy_monoX vy_thr (vx_out (fun x hx => (hnh x hx).elim) hlocks hcell hcv hcl (fun t ht hvm => ⟨(x_fn2_18, x_fp2_19), ⟨by omega, sp_rk_x (ak := agkind) hq_4 (by omega) (by omega) (by rw [← ex_12]; omega) (hQ1 _ hcn9.2).2⟩, ⟨rfl, by rw [ht]; exact hP9, va_K.moved hvm hK9, hD9⟩, hS.F ht⟩) hS.2.2 (Nat.le_of_ble_eq_true rfl) (Nat.le_of_ble_eq_true rfl))
  have hcn_21 : sp_cn agnext agkind gAL x_5 0 r_1 := sp_cn_0 (by rw [ex_5]; exact hli) (by decide)
  exact loop_34 _ x_5 0 _ _ _ (Nat.le_refl _) (by have h9_0 : Int32.toInt 0 = 0 := (by decide); omega) (by have h9_0 : Int32.toInt 0 = 0 := (by decide); omega) (by have h9_0 : Int32.toInt 0 = 0 := (by decide); omega) (by have h9_0 : Int32.toInt 0 = 0 := (by decide); omega) hcn_21 (hP.sub [0, 1, 2, 3, 4, 5, 6, 7, 8, 9, 10, 11, 12, 13, 14, 15, 16, 17, 18, 19, 20, 21, 22] rfl) (hD.sub [0, 1, 2, 3, 4, 5, 6, 7, 8, 9, 10, 11, 12, 13, 14, 15, 16, 17, 18, 19, 20, 21, 22] (by decide) rfl) hS (lv_sub hl [0, 1, 2, 3, 4] rfl)
