section
def zfk (kz : Int32) (kf : Nat → Int32) (k : Int32) : Int := if 0 ≤ k.toInt ∧ k.toInt < kz.toInt ∧ 0 < (kf (Int32.toNatClampNeg k)).toInt then (kf (Int32.toNatClampNeg k)).toInt else 0
/-- the arms of a chain have their first slots -/
def zsl (nx af : Nat → Int32) (x : Int32) : Prop := ∃ AL : List Nat, zli nx x AL ∧ ∀ m ∈ AL, 0 ≤ (af m).toInt
theorem zsl_in {nx af : Nat → Int32} {x : Int32} (h : zsl nx af x) (hx : x.toInt ≠ -1) : 0 ≤ x.toInt ∧ 0 ≤ (af (Int32.toNatClampNeg x)).toInt ∧ zsl nx af (nx (Int32.toNatClampNeg x)) := by
  obtain ⟨AL, hl, ha⟩ := h
  cases AL with
  | nil => exact (hx hl).elim
  | cons y l =>
    have h1 : x.toInt = (y : Int) := hl.1
    have := zn_nat (x := x) (by omega)
    have e : Int32.toNatClampNeg x = y := by omega
    rw [e]
    exact ⟨by omega, ha y List.mem_cons_self, l, hl.2, fun m hm => ha m (List.mem_cons_of_mem _ hm)⟩
def znl (S : Nat → Nat → Int32) (nd : Nat → Int32) (fi ne : Int32) (i : Nat) (am : Int32) : Prop := ∀ k, k < 32 → zab S nd k 8 fi = (zbit ne k || zab S nd k (8 - i) am)
theorem znl_0 {S : Nat → Nat → Int32} {nd : Nat → Int32} {fi : Int32} {i : Nat} (hi : i = 0) : znl S nd fi 0 i fi := fun k hk => by rw [zbit_z hk, hi, Bool.false_or]
theorem znl_st {S : Nat → Nat → Int32} {nd : Nat → Int32} {fi ne ne2 am am2 b m : Int32} {i i2 : Nat} (h : znl S nd fi ne i am) (ha : am.toInt ≠ -1) (hi : i < 8) (e1 : ne2 = ne ||| (b &&& (m ^^^ (-1)))) (eb : b = zbe (S 3) nd (S 6 (Int32.toNatClampNeg am))) (em : ∀ k, k < 32 → zbit m k = (decide ((S 8 (Int32.toNatClampNeg am)).toInt ≤ (k : Int)) && decide ((k : Int) < (S 8 (Int32.toNatClampNeg am)).toInt + zfl S (S 4 (Int32.toNatClampNeg am))))) (e2 : am2 = S 5 (Int32.toNatClampNeg am)) (ei : i2 = i + 1) : znl S nd fi ne2 i2 am2 := fun k hk => by
  have e8 : 8 - i = (8 - i2) + 1 := by omega
  have hz : ∀ n, zab S nd k (n + 1) am = if am.toInt = -1 then false else (zbit (zbe (S 3) nd (S 6 (Int32.toNatClampNeg am))) k && !(decide ((S 8 (Int32.toNatClampNeg am)).toInt ≤ (k : Int)) && decide ((k : Int) < (S 8 (Int32.toNatClampNeg am)).toInt + zfl S (S 4 (Int32.toNatClampNeg am))))) || zab S nd k n (S 5 (Int32.toNatClampNeg am)) := fun n => rfl
  rw [h k hk, e8, hz, if_neg ha, e1, zbit_or, zbit_and, zbit_xor1 _ hk, em k hk, eb, e2, Bool.or_assoc]
theorem znl_end {S : Nat → Nat → Int32} {nd : Nat → Int32} {fi ne am : Int32} {i : Nat} (h : znl S nd fi ne i am) (hx : am.toInt = -1 ∨ 8 ≤ i) : ∀ k, k < 32 → zbit ne k = zab S nd k 8 fi := fun k hk => by
  rw [h k hk]
  have : zab S nd k (8 - i) am = false := by
    rcases hx with g | g
    · cases 8 - i with
      | zero => rfl
      | succ n => unfold zab; rw [if_pos g]
    · rw [show 8 - i = 0 by omega]; rfl
  rw [this, Bool.or_false]
theorem znb_d {S : Nat → Nat → Int32} {nd : Nat → Int32} {r : Nat} {b : Int32} {k : Nat} : ∀ {n : Nat}, n ≠ 3 → n ≠ 12 → n ≠ 13 → n ≠ 14 → n ≠ 15 → n ≠ 16 → n ≠ 17 → znb S nd r b k n = zbit b k
  | 0, _, _, _, _, _, _, _ => rfl
  | 1, _, _, _, _, _, _, _ => rfl
  | 2, _, _, _, _, _, _, _ => rfl
  | 3, h, _, _, _, _, _, _ => absurd rfl h
  | 4, _, _, _, _, _, _, _ => rfl
  | 5, _, _, _, _, _, _, _ => rfl
  | 6, _, _, _, _, _, _, _ => rfl
  | 7, _, _, _, _, _, _, _ => rfl
  | 8, _, _, _, _, _, _, _ => rfl
  | 9, _, _, _, _, _, _, _ => rfl
  | 10, _, _, _, _, _, _, _ => rfl
  | 11, _, _, _, _, _, _, _ => rfl
  | 12, _, h, _, _, _, _, _ => absurd rfl h
  | 13, _, _, h, _, _, _, _ => absurd rfl h
  | 14, _, _, _, h, _, _, _ => absurd rfl h
  | 15, _, _, _, _, h, _, _ => absurd rfl h
  | 16, _, _, _, _, _, h, _ => absurd rfl h
  | 17, _, _, _, _, _, _, h => absurd rfl h
  | _ + 18, _, _, _, _, _, _, _ => rfl
theorem zn_lit {x : Int32} {n : Nat} (h : x.toInt = (n : Int)) : Int32.toNatClampNeg x = n := by
  have e : ((Int32.toNatClampNeg x : Nat) : Int) = (x.toInt.toNat : Nat) := rfl
  omega
theorem zn_nlit {x : Int32} {n : Nat} (h : x.toInt ≠ (n : Int)) (hn : n ≠ 0) : Int32.toNatClampNeg x ≠ n := by
  have e : ((Int32.toNatClampNeg x : Nat) : Int) = (x.toInt.toNat : Nat) := rfl
  omega
theorem zbh_be {S : Nat → Nat → Int32} {nd : Nat → Int32} {row : Int32} (h : row.toInt ≠ -1) : zbe (S 3) nd row = zbh S nd (Int32.toNatClampNeg row) := by
  unfold zbe zbh; rw [if_neg h]

set_option maxHeartbeats 4000000 in
set_option maxRecDepth 100000 in
theorem c_X4_fieldsOf_x (l : Launch) (dC : Nat → ClassId) (dI : Nat → Nat → Nat) (aK aV : Nat → Nat) (h0 : Nat) (kw : Nat) (kf : Nat) (k1 : ClassId) (k2 : ClassId) (z : Int32) (gw : Nat → Int64) (gf : Nat → Int32) (k : Int32) (sz : Nat) (hz0 : 0 ≤ z.toInt) (hz1 : z.toInt ≤ 20) (hgf : zx 4 gf) : Met l yX4_fieldsOf (Cond.code yX4_fieldsOf cX4_fieldsOf 2 (some .int) :: zw) ({ frames := 8, cells := 0, slots := 0, locals := 200 }) (va_Pc [.ref h0, .int k] (zP dC dI aK aV sz [(k1, .long), (k2, .int)] [(h0, .inr (4, [.ref kw, .ref kf, .int z])), (kw, .inl (k1, 20, .inr (.inl gw))), (kf, .inl (k2, 20, .inl gf))])) (va_Qi (fun (r : Int32) (u : Unit) => (0 ≤ r.toInt) ∧ (r.toInt ≤ 3) ∧ (r.toInt = zfk z gf k)) (fun u => zQ dC dI (va_A [(h0, .inr (4, [.ref kw, .ref kf, .int z])), (kw, .inl (k1, 20, .inr (.inl gw))), (kf, .inl (k2, 20, .inl gf))] sz) [(k1, .long), (k2, .int)] [(h0, .inr (4, [.ref kw, .ref kf, .int z])), (kw, .inl (k1, 20, .inr (.inl gw))), (kf, .inl (k2, 20, .inl gf))]) (va_A [(h0, .inr (4, [.ref kw, .ref kf, .int z])), (kw, .inl (k1, 20, .inr (.inl gw))), (kf, .inl (k2, 20, .inl gf))] sz)) 0 0 (va_A [(h0, .inr (4, [.ref kw, .ref kf, .int z])), (kw, .inl (k1, 20, .inr (.inl gw))), (kf, .inl (k2, 20, .inl gf))] sz) := by
  refine Met.ofW (cc := cX4_fieldsOf) (maxL := 2) (ret := (some .int)) (by decide) rfl ?_
  intro p e s m args below meth c s₁ B hml hv
  obtain ⟨rfl, hsz, hP, hK, hD0, hN, hT⟩ := hv
  have hx := B.exec
  have hb := B.bytes
  have hr := B.returns
  have hts := atoms_spec (ws := Cond.code yX4_fieldsOf cX4_fieldsOf 2 (some .int) :: zw) B.pre
  have hA : ∀ w ∈ zw, w.before _ s = true := fun w h => hts w (List.mem_cons_of_mem _ h)
  have hown : s.vm.findClass RX4 = some m.cls := findClass_of_methodNamed B.named
  have hlocks := B.notSynchronized
  subst hsz
  have hD := hD0.self (sz := s.heap.size)
  generalize hAe : va_A [(h0, .inr (4, [.ref kw, .ref kf, .int z])), (kw, .inl (k1, 20, .inr (.inl gw))), (kf, .inl (k2, 20, .inl gf))] s.heap.size = A at hD hT ⊢
  have hAA : ∀ q : Nat, s.heap.size ≤ q → A q := fun q h => by rw [← hAe]; exact Or.inr h
  have hS : va_S A s.heap s.heap [] := va_S.rf
  have hl := lv_entry ([.ref h0, .int k]) (n := 2) (Nat.le_of_ble_eq_true rfl)
  rw [lg_entry_eq]
  generalize (lg_sl ([.ref h0, .int k]) ++ List.replicate (2 - (lg_sl ([.ref h0, .int k])).length) Slot.unset).toArray = ls at hl ⊢
  have hl : lv_has ls 2 [(0, .ref h0), (1, .int k)] := hl
  refine lv_iload_n hx hb dX4_fieldsOf_0 rfl (lv_at hl 1 rfl) ?_
  refine lv_if_lt (tgt := 30) hx hb dX4_fieldsOf_1 (by decide) (fun c_1 => ?_) (fun c_1 => ?_)
  · have ic_1 : k.toInt < 0 := zi_lt c_1
    refine lv_iconst (v := 0) hx hb dX4_fieldsOf_30 (by decide) ?_
    have hlit : Int32.toInt 0 = 0 := by decide
    have hP9 := hP.sub (ws' := [(h0, .inr (4, [.ref kw, .ref kf, .int z])), (kw, .inl (k1, 20, .inr (.inl gw))), (kf, .inl (k2, 20, .inl gf))]) [0, 1, 2] rfl
    have hD9 := hD.sub (ws' := [(h0, .inr (4, [.ref kw, .ref kf, .int z])), (kw, .inl (k1, 20, .inr (.inl gw))), (kf, .inl (k2, 20, .inl gf))]) [0, 1, 2] (by decide) rfl
    have hK9 := hK.sub (tys' := [(k1, .long), (k2, .int)]) [0, 1] rfl
    exact W.iret (v := 0) hx hb hr (fun t ht hW => ⟨⟨0, (), rfl, ⟨by omega, by omega, (by unfold zfk; rw [if_neg (by omega)]; rfl)⟩, by rw [ht]; exact hP9, va_K.moved hW.alike hK9, hD9⟩, hS.F ht⟩) hS.2.2 dX4_fieldsOf_31
  · have ic_1 : 0 ≤ k.toInt := zi_nlt c_1
    refine lv_iload_n hx hb dX4_fieldsOf_4 rfl (lv_at hl 1 rfl) ?_
    refine lv_aload_n hx hb dX4_fieldsOf_5 rfl (lv_at hl 0 rfl) ?_
    refine va_get (D := (dC, dI)) (ci := 4) (v := .int z) (C := RX4) (T := TX4) (N := 3) hx hb hA zin_X4 hown hK hP 0 rfl rfl 2 (by decide) (hA _ wi_273) (fun _ h9 => h9) rfl dX4_fieldsOf_6 ?_
    refine lv_icmp_ge (tgt := 30) hx hb dX4_fieldsOf_9 (by decide) (fun c_2 => ?_) (fun c_2 => ?_)
    · have ic_2 : z.toInt ≤ k.toInt := zi_le c_2
      refine lv_iconst (v := 0) hx hb dX4_fieldsOf_30 (by decide) ?_
      have hlit : Int32.toInt 0 = 0 := by decide
      have hP9 := hP.sub (ws' := [(h0, .inr (4, [.ref kw, .ref kf, .int z])), (kw, .inl (k1, 20, .inr (.inl gw))), (kf, .inl (k2, 20, .inl gf))]) [0, 1, 2] rfl
      have hD9 := hD.sub (ws' := [(h0, .inr (4, [.ref kw, .ref kf, .int z])), (kw, .inl (k1, 20, .inr (.inl gw))), (kf, .inl (k2, 20, .inl gf))]) [0, 1, 2] (by decide) rfl
      have hK9 := hK.sub (tys' := [(k1, .long), (k2, .int)]) [0, 1] rfl
      exact W.iret (v := 0) hx hb hr (fun t ht hW => ⟨⟨0, (), rfl, ⟨by omega, by omega, (by unfold zfk; rw [if_neg (by omega)]; rfl)⟩, by rw [ht]; exact hP9, va_K.moved hW.alike hK9, hD9⟩, hS.F ht⟩) hS.2.2 dX4_fieldsOf_31
    · have ic_2 : k.toInt < z.toInt := zi_nle c_2
      refine lv_aload_n hx hb dX4_fieldsOf_12 rfl (lv_at hl 0 rfl) ?_
      refine va_get (D := (dC, dI)) (ci := 4) (v := .ref kf) (C := RX4) (T := TX4) (N := 3) hx hb hA zin_X4 hown hK hP 0 rfl rfl 1 (by decide) (hA _ wi_271) (fun _ h9 => h9) rfl dX4_fieldsOf_13 ?_
      refine lv_iload_n hx hb dX4_fieldsOf_16 rfl (lv_at hl 1 rfl) ?_
      refine va_iald hx hb hK hP 2 1 rfl rfl (vp_in_iff.mpr ⟨by omega, by omega⟩) dX4_fieldsOf_17 ?_
      refine lv_topi (fun x_3 ex_3 => ?_)
      have qx_3 : x_3.toInt = (gf (Int32.toNatClampNeg k)).toInt := by rw [ex_3]
      have zx_3 := hgf (Int32.toNatClampNeg k)
      refine lv_if_le (tgt := 30) hx hb dX4_fieldsOf_18 (by decide) (fun c_4 => ?_) (fun c_4 => ?_)
      · have ic_4 : x_3.toInt ≤ 0 := zi_le c_4
        refine lv_iconst (v := 0) hx hb dX4_fieldsOf_30 (by decide) ?_
        have hlit : Int32.toInt 0 = 0 := by decide
        have hP9 := hP.sub (ws' := [(h0, .inr (4, [.ref kw, .ref kf, .int z])), (kw, .inl (k1, 20, .inr (.inl gw))), (kf, .inl (k2, 20, .inl gf))]) [0, 1, 2] rfl
        have hD9 := hD.sub (ws' := [(h0, .inr (4, [.ref kw, .ref kf, .int z])), (kw, .inl (k1, 20, .inr (.inl gw))), (kf, .inl (k2, 20, .inl gf))]) [0, 1, 2] (by decide) rfl
        have hK9 := hK.sub (tys' := [(k1, .long), (k2, .int)]) [0, 1] rfl
        exact W.iret (v := 0) hx hb hr (fun t ht hW => ⟨⟨0, (), rfl, ⟨by omega, by omega, (by unfold zfk; rw [if_neg (by omega)]; rfl)⟩, by rw [ht]; exact hP9, va_K.moved hW.alike hK9, hD9⟩, hS.F ht⟩) hS.2.2 dX4_fieldsOf_31
      · have ic_4 : 0 < x_3.toInt := zi_nle c_4
        refine lv_aload_n hx hb dX4_fieldsOf_21 rfl (lv_at hl 0 rfl) ?_
        refine va_get (D := (dC, dI)) (ci := 4) (v := .ref kf) (C := RX4) (T := TX4) (N := 3) hx hb hA zin_X4 hown hK hP 0 rfl rfl 1 (by decide) (hA _ wi_271) (fun _ h9 => h9) rfl dX4_fieldsOf_22 ?_
        refine lv_iload_n hx hb dX4_fieldsOf_25 rfl (lv_at hl 1 rfl) ?_
        refine va_iald hx hb hK hP 2 1 rfl rfl (vp_in_iff.mpr ⟨by omega, by omega⟩) dX4_fieldsOf_26 ?_
        refine lv_topi (fun x_5 ex_5 => ?_)
        have jx_5 : x_5.toInt = x_3.toInt := by rw [ex_5, ex_3]
        have qx_5 : x_5.toInt = (gf (Int32.toNatClampNeg k)).toInt := by rw [ex_5]
        have zx_5 := hgf (Int32.toNatClampNeg k)
        refine lv_goto (tgt := 31) hx hb dX4_fieldsOf_27 (by decide) ?_
        have hP9 := hP.sub (ws' := [(h0, .inr (4, [.ref kw, .ref kf, .int z])), (kw, .inl (k1, 20, .inr (.inl gw))), (kf, .inl (k2, 20, .inl gf))]) [0, 1, 2] rfl
        have hD9 := hD.sub (ws' := [(h0, .inr (4, [.ref kw, .ref kf, .int z])), (kw, .inl (k1, 20, .inr (.inl gw))), (kf, .inl (k2, 20, .inl gf))]) [0, 1, 2] (by decide) rfl
        have hK9 := hK.sub (tys' := [(k1, .long), (k2, .int)]) [0, 1] rfl
        exact W.iret (v := x_5) hx hb hr (fun t ht hW => ⟨⟨x_5, (), rfl, ⟨by omega, by omega, (by unfold zfk; rw [if_pos (by omega)]; omega)⟩, by rw [ht]; exact hP9, va_K.moved hW.alike hK9, hD9⟩, hS.F ht⟩) hS.2.2 dX4_fieldsOf_31
set_option maxHeartbeats 4000000 in
set_option maxRecDepth 100000 in
theorem c_X9_armFields_x (l : Launch) (dC : Nat → ClassId) (dI : Nat → Nat → Nat) (aK aV : Nat → Nat) (h0 : Nat) (gco : Nat) (gar : Nat) (gki : Nat) (gfu : Nat) (akind : Nat) (anext : Nat) (abefore : Nat) (aleave : Nat) (afirstSlot : Nat) (abuilds : Nat) (akkind : ClassId) (az : Int32) (agkind : Nat → Int32) (kw : Nat) (kf : Nat) (k1 : ClassId) (k2 : ClassId) (kz : Int32) (kgw : Nat → Int64) (kgf : Nat → Int32) (m9 : Int32) (sz : Nat) (hk0 : 0 ≤ kz.toInt) (hk1 : kz.toInt ≤ 20) (hkf : zx 4 kgf) (hm0 : 0 ≤ m9.toInt) (hm1 : m9.toInt < 400) : Met l yX9_armFields (Cond.code yX9_armFields cX9_armFields 2 (some .int) :: zw) ({ frames := 10, cells := 0, slots := 0, locals := 300 }) (va_Pc [.ref h0, .int m9] (zP dC dI aK aV sz [(akkind, .int), (k1, .long), (k2, .int)] [(h0, .inr (9, [.ref gco, .ref gar, .ref gki, .ref gfu])), (gar, .inr (0, [.ref akind, .ref anext, .ref abefore, .ref aleave, .ref afirstSlot, .ref abuilds, .int az])), (akind, .inl (akkind, 400, .inl agkind)), (gki, .inr (4, [.ref kw, .ref kf, .int kz])), (kw, .inl (k1, 20, .inr (.inl kgw))), (kf, .inl (k2, 20, .inl kgf))])) (va_Qi (fun (r : Int32) (u : Unit) => (0 ≤ r.toInt) ∧ (r.toInt ≤ 3) ∧ (r.toInt = zfk kz kgf (agkind (Int32.toNatClampNeg m9)))) (fun u => zQ dC dI (va_A [(h0, .inr (9, [.ref gco, .ref gar, .ref gki, .ref gfu])), (gar, .inr (0, [.ref akind, .ref anext, .ref abefore, .ref aleave, .ref afirstSlot, .ref abuilds, .int az])), (akind, .inl (akkind, 400, .inl agkind)), (gki, .inr (4, [.ref kw, .ref kf, .int kz])), (kw, .inl (k1, 20, .inr (.inl kgw))), (kf, .inl (k2, 20, .inl kgf))] sz) [(akkind, .int), (k1, .long), (k2, .int)] [(h0, .inr (9, [.ref gco, .ref gar, .ref gki, .ref gfu])), (gar, .inr (0, [.ref akind, .ref anext, .ref abefore, .ref aleave, .ref afirstSlot, .ref abuilds, .int az])), (akind, .inl (akkind, 400, .inl agkind)), (gki, .inr (4, [.ref kw, .ref kf, .int kz])), (kw, .inl (k1, 20, .inr (.inl kgw))), (kf, .inl (k2, 20, .inl kgf))]) (va_A [(h0, .inr (9, [.ref gco, .ref gar, .ref gki, .ref gfu])), (gar, .inr (0, [.ref akind, .ref anext, .ref abefore, .ref aleave, .ref afirstSlot, .ref abuilds, .int az])), (akind, .inl (akkind, 400, .inl agkind)), (gki, .inr (4, [.ref kw, .ref kf, .int kz])), (kw, .inl (k1, 20, .inr (.inl kgw))), (kf, .inl (k2, 20, .inl kgf))] sz)) 0 0 (va_A [(h0, .inr (9, [.ref gco, .ref gar, .ref gki, .ref gfu])), (gar, .inr (0, [.ref akind, .ref anext, .ref abefore, .ref aleave, .ref afirstSlot, .ref abuilds, .int az])), (akind, .inl (akkind, 400, .inl agkind)), (gki, .inr (4, [.ref kw, .ref kf, .int kz])), (kw, .inl (k1, 20, .inr (.inl kgw))), (kf, .inl (k2, 20, .inl kgf))] sz) := by
  refine Met.ofW (cc := cX9_armFields) (maxL := 2) (ret := (some .int)) (by decide) rfl ?_
  intro p e s m args below meth c s₁ B hml hv
  obtain ⟨rfl, hsz, hP, hK, hD0, hN, hT⟩ := hv
  have hx := B.exec
  have hb := B.bytes
  have hr := B.returns
  have hts := atoms_spec (ws := Cond.code yX9_armFields cX9_armFields 2 (some .int) :: zw) B.pre
  have hA : ∀ w ∈ zw, w.before _ s = true := fun w h => hts w (List.mem_cons_of_mem _ h)
  have hown : s.vm.findClass RX9 = some m.cls := findClass_of_methodNamed B.named
  have hlocks := B.notSynchronized
  subst hsz
  have hD := hD0.self (sz := s.heap.size)
  generalize hAe : va_A [(h0, .inr (9, [.ref gco, .ref gar, .ref gki, .ref gfu])), (gar, .inr (0, [.ref akind, .ref anext, .ref abefore, .ref aleave, .ref afirstSlot, .ref abuilds, .int az])), (akind, .inl (akkind, 400, .inl agkind)), (gki, .inr (4, [.ref kw, .ref kf, .int kz])), (kw, .inl (k1, 20, .inr (.inl kgw))), (kf, .inl (k2, 20, .inl kgf))] s.heap.size = A at hD hT ⊢
  have hAA : ∀ q : Nat, s.heap.size ≤ q → A q := fun q h => by rw [← hAe]; exact Or.inr h
  have hS : va_S A s.heap s.heap [] := va_S.rf
  have hl := lv_entry ([.ref h0, .int m9]) (n := 2) (Nat.le_of_ble_eq_true rfl)
  rw [lg_entry_eq]
  generalize (lg_sl ([.ref h0, .int m9]) ++ List.replicate (2 - (lg_sl ([.ref h0, .int m9])).length) Slot.unset).toArray = ls at hl ⊢
  have hl : lv_has ls 2 [(0, .ref h0), (1, .int m9)] := hl
  refine lv_aload_n hx hb dX9_armFields_0 rfl (lv_at hl 0 rfl) ?_
  refine va_get (D := (dC, dI)) (ci := 9) (v := .ref gki) (C := RX9) (T := TX9) (N := 4) hx hb hA zin_X9 hown hK hP 0 rfl rfl 2 (by decide) (hA _ wi_316) (fun _ h9 => h9) rfl dX9_armFields_1 ?_
  refine lv_aload_n hx hb dX9_armFields_4 rfl (lv_at hl 0 rfl) ?_
  refine va_get (D := (dC, dI)) (ci := 9) (v := .ref gar) (C := RX9) (T := TX9) (N := 4) hx hb hA zin_X9 hown hK hP 0 rfl rfl 1 (by decide) (hA _ wi_312) (fun _ h9 => h9) rfl dX9_armFields_5 ?_
  refine va_get (D := (dC, dI)) (ci := 0) (v := .ref akind) (C := RX0) (T := TX0) (N := 7) hx hb hA zin_X0 hown hK hP 1 rfl rfl 0 (by decide) (hA _ wi_228) (fun _ h9 => h9) rfl dX9_armFields_8 ?_
  refine lv_iload_n hx hb dX9_armFields_11 rfl (lv_at hl 1 rfl) ?_
  refine va_iald hx hb hK hP 2 0 rfl rfl (vp_in_iff.mpr ⟨by omega, by omega⟩) dX9_armFields_12 ?_
  refine lv_topi (fun x_1 ex_1 => ?_)
  have hPc := hP.sub (ws' := [(gki, .inr (4, [.ref kw, .ref kf, .int kz])), (kw, .inl (k1, 20, .inr (.inl kgw))), (kf, .inl (k2, 20, .inl kgf))]) [3, 4, 5] rfl
  have hDc := hD.sub (ws' := [(gki, .inr (4, [.ref kw, .ref kf, .int kz])), (kw, .inl (k1, 20, .inr (.inl kgw))), (kf, .inl (k2, 20, .inl kgf))]) [3, 4, 5] (by decide) rfl
  have hKc := hK.sub (tys' := [(k1, .long), (k2, .int)]) [1, 2] rfl
  have hFc := va_free (wc := [(gki, .inr (4, [.ref kw, .ref kf, .int kz])), (kw, .inl (k1, 20, .inr (.inl kgw))), (kf, .inl (k2, 20, .inl kgf))]) hD hS hAA [3, 4, 5] rfl
  refine va_calli (va_runV (As := [.int x_1]) (rest := []) ⟨hx, hb, hml, hown, hA⟩ (c_X4_fieldsOf_x l dC dI aK aV gki kw kf k1 k2 kz kgw kgf x_1 s.heap.size (by omega) (by omega) hkf) (cwV 1 hA (zw_V wi_1055 wi_803 wi_804 wi_134 (zw_good wi_805)) rfl rfl rfl (by decide +kernel) ⟨(Nat.le_of_ble_eq_true rfl), (Nat.le_of_ble_eq_true rfl)⟩) ⟨zP_blind, va_recv hKc hPc (ci := 4) (q0 := 0) rfl rfl, zz_pre hKc hPc hDc hN hT hS hFc⟩ rfl rfl hl.1 rfl (lv_room (Nat.le_of_ble_eq_true rfl)) dX9_armFields_13 ⟨(Nat.le_of_ble_eq_true rfl), (Nat.le_of_ble_eq_true rfl)⟩) hS (fun q _ h => hFc q h) hFc (fun r_2 u t H1 locs ht hvm hw hB hz1 hk1 hS => ?_)
  obtain ⟨hP1, hK1, hD1⟩ := hB
  rw [ht] at hP1
  have hK1 := va_K.moved hvm.symm hK1
  obtain ⟨hP, hD⟩ := va_join (wr := [(h0, .inr (9, [.ref gco, .ref gar, .ref gki, .ref gfu])), (gar, .inr (0, [.ref akind, .ref anext, .ref abefore, .ref aleave, .ref afirstSlot, .ref abuilds, .int az])), (akind, .inl (akkind, 400, .inl agkind))]) (w1 := [(gki, .inr (4, [.ref kw, .ref kf, .int kz])), (kw, .inl (k1, 20, .inr (.inl kgw))), (kf, .inl (k2, 20, .inl kgf))]) hP hD [3, 4, 5] [0, 1, 2] rfl rfl (by decide) (by decide) hk1 hFc hP1 hD1
  have hK := (hK.sub (tys' := [(akkind, .int)]) [0] rfl).app hK1
  generalize H1 = H at hP hS ⊢
  have hP : va_P (dC, dI) vwCl [(h0, .inr (9, [.ref gco, .ref gar, .ref gki, .ref gfu])), (gar, .inr (0, [.ref akind, .ref anext, .ref abefore, .ref aleave, .ref afirstSlot, .ref abuilds, .int az])), (akind, .inl (akkind, 400, .inl agkind)), (gki, .inr (4, [.ref kw, .ref kf, .int kz])), (kw, .inl (k1, 20, .inr (.inl kgw))), (kf, .inl (k2, 20, .inl kgf))] H := hP
  have hD : va_D A [(h0, .inr (9, [.ref gco, .ref gar, .ref gki, .ref gfu])), (gar, .inr (0, [.ref akind, .ref anext, .ref abefore, .ref aleave, .ref afirstSlot, .ref abuilds, .int az])), (akind, .inl (akkind, 400, .inl agkind)), (gki, .inr (4, [.ref kw, .ref kf, .int kz])), (kw, .inl (k1, 20, .inr (.inl kgw))), (kf, .inl (k2, 20, .inl kgf))] := hD
  have hK : va_K (dC, dI) vwCl [(akkind, .int), (k1, .long), (k2, .int)] s := hK
  have hw_r_2 := hw
  try dsimp only at hw_r_2
  obtain ⟨hq_3, hq_4, hq_5⟩ := hw
  have hP9 := hP.sub (ws' := [(h0, .inr (9, [.ref gco, .ref gar, .ref gki, .ref gfu])), (gar, .inr (0, [.ref akind, .ref anext, .ref abefore, .ref aleave, .ref afirstSlot, .ref abuilds, .int az])), (akind, .inl (akkind, 400, .inl agkind)), (gki, .inr (4, [.ref kw, .ref kf, .int kz])), (kw, .inl (k1, 20, .inr (.inl kgw))), (kf, .inl (k2, 20, .inl kgf))]) [0, 1, 2, 3, 4, 5] rfl
  have hD9 := hD.sub (ws' := [(h0, .inr (9, [.ref gco, .ref gar, .ref gki, .ref gfu])), (gar, .inr (0, [.ref akind, .ref anext, .ref abefore, .ref aleave, .ref afirstSlot, .ref abuilds, .int az])), (akind, .inl (akkind, 400, .inl agkind)), (gki, .inr (4, [.ref kw, .ref kf, .int kz])), (kw, .inl (k1, 20, .inr (.inl kgw))), (kf, .inl (k2, 20, .inl kgf))]) [0, 1, 2, 3, 4, 5] (by decide) rfl
  have hK9 := hK.sub (tys' := [(akkind, .int), (k1, .long), (k2, .int)]) [0, 1, 2] rfl
  exact W.iret (v := r_2) hx hb hr (fun t ht hW => ⟨⟨r_2, (), rfl, ⟨by omega, by omega, (by rw [hq_5, ex_1])⟩, by rw [ht]; exact hP9, va_K.moved hW.alike hK9, hD9⟩, hS.F ht⟩) hS.2.2 dX9_armFields_16
set_option maxHeartbeats 4000000 in
set_option maxRecDepth 100000 in
theorem c_X2_neededBehind_x (l : Launch) (dC : Nat → ClassId) (dI : Nat → Nat → Nat) (aK aV : Nat → Nat) (h0 : Nat) (cop : Nat) (ca : Nat) (cb : Nat) (cplace : Nat) (cnext : Nat) (cneeded : Nat) (ckop : ClassId) (cka : ClassId) (ckb : ClassId) (ckplace : ClassId) (cknext : ClassId) (ckneeded : ClassId) (z : Int32) (ta : Int32) (gop : Nat → Int32) (ga : Nat → Int32) (gb : Nat → Int32) (gplace : Nat → Int32) (gnext : Nat → Int32) (gneeded : Nat → Int32) (row : Int32) (sz : Nat) (hgn : zx 3000 gnext) (hb0 : -1 ≤ row.toInt) (hb1 : row.toInt < 3000) : Met l yX2_neededBehind (Cond.code yX2_neededBehind cX2_neededBehind 3 (some .int) :: zw) ({ frames := 8, cells := 0, slots := 0, locals := 200 }) (va_Pc [.ref h0, .int row] (zP dC dI aK aV sz [(ckop, .int), (cka, .int), (ckb, .int), (ckplace, .int), (cknext, .int), (ckneeded, .int)] [(h0, .inr (2, [.ref cop, .ref ca, .ref cb, .ref cplace, .ref cnext, .ref cneeded, .int z, .int ta])), (cop, .inl (ckop, 3000, .inl gop)), (ca, .inl (cka, 3000, .inl ga)), (cb, .inl (ckb, 3000, .inl gb)), (cplace, .inl (ckplace, 3000, .inl gplace)), (cnext, .inl (cknext, 3000, .inl gnext)), (cneeded, .inl (ckneeded, 3000, .inl gneeded))])) (va_Qi (fun (r : Int32) (u : Unit) => (r = zbe gnext gneeded row)) (fun u => zQ dC dI (va_A [(h0, .inr (2, [.ref cop, .ref ca, .ref cb, .ref cplace, .ref cnext, .ref cneeded, .int z, .int ta])), (cop, .inl (ckop, 3000, .inl gop)), (ca, .inl (cka, 3000, .inl ga)), (cb, .inl (ckb, 3000, .inl gb)), (cplace, .inl (ckplace, 3000, .inl gplace)), (cnext, .inl (cknext, 3000, .inl gnext)), (cneeded, .inl (ckneeded, 3000, .inl gneeded))] sz) [(ckop, .int), (cka, .int), (ckb, .int), (ckplace, .int), (cknext, .int), (ckneeded, .int)] [(h0, .inr (2, [.ref cop, .ref ca, .ref cb, .ref cplace, .ref cnext, .ref cneeded, .int z, .int ta])), (cop, .inl (ckop, 3000, .inl gop)), (ca, .inl (cka, 3000, .inl ga)), (cb, .inl (ckb, 3000, .inl gb)), (cplace, .inl (ckplace, 3000, .inl gplace)), (cnext, .inl (cknext, 3000, .inl gnext)), (cneeded, .inl (ckneeded, 3000, .inl gneeded))]) (va_A [(h0, .inr (2, [.ref cop, .ref ca, .ref cb, .ref cplace, .ref cnext, .ref cneeded, .int z, .int ta])), (cop, .inl (ckop, 3000, .inl gop)), (ca, .inl (cka, 3000, .inl ga)), (cb, .inl (ckb, 3000, .inl gb)), (cplace, .inl (ckplace, 3000, .inl gplace)), (cnext, .inl (cknext, 3000, .inl gnext)), (cneeded, .inl (ckneeded, 3000, .inl gneeded))] sz)) 0 0 (va_A [(h0, .inr (2, [.ref cop, .ref ca, .ref cb, .ref cplace, .ref cnext, .ref cneeded, .int z, .int ta])), (cop, .inl (ckop, 3000, .inl gop)), (ca, .inl (cka, 3000, .inl ga)), (cb, .inl (ckb, 3000, .inl gb)), (cplace, .inl (ckplace, 3000, .inl gplace)), (cnext, .inl (cknext, 3000, .inl gnext)), (cneeded, .inl (ckneeded, 3000, .inl gneeded))] sz) := by
  refine Met.ofW (cc := cX2_neededBehind) (maxL := 3) (ret := (some .int)) (by decide) rfl ?_
  intro p e s m args below meth c s₁ B hml hv
  obtain ⟨rfl, hsz, hP, hK, hD0, hN, hT⟩ := hv
  have hx := B.exec
  have hb := B.bytes
  have hr := B.returns
  have hts := atoms_spec (ws := Cond.code yX2_neededBehind cX2_neededBehind 3 (some .int) :: zw) B.pre
  have hA : ∀ w ∈ zw, w.before _ s = true := fun w h => hts w (List.mem_cons_of_mem _ h)
  have hown : s.vm.findClass RX2 = some m.cls := findClass_of_methodNamed B.named
  have hlocks := B.notSynchronized
  subst hsz
  have hD := hD0.self (sz := s.heap.size)
  generalize hAe : va_A [(h0, .inr (2, [.ref cop, .ref ca, .ref cb, .ref cplace, .ref cnext, .ref cneeded, .int z, .int ta])), (cop, .inl (ckop, 3000, .inl gop)), (ca, .inl (cka, 3000, .inl ga)), (cb, .inl (ckb, 3000, .inl gb)), (cplace, .inl (ckplace, 3000, .inl gplace)), (cnext, .inl (cknext, 3000, .inl gnext)), (cneeded, .inl (ckneeded, 3000, .inl gneeded))] s.heap.size = A at hD hT ⊢
  have hAA : ∀ q : Nat, s.heap.size ≤ q → A q := fun q h => by rw [← hAe]; exact Or.inr h
  have hS : va_S A s.heap s.heap [] := va_S.rf
  have hl := lv_entry ([.ref h0, .int row]) (n := 3) (Nat.le_of_ble_eq_true rfl)
  rw [lg_entry_eq]
  generalize (lg_sl ([.ref h0, .int row]) ++ List.replicate (3 - (lg_sl ([.ref h0, .int row])).length) Slot.unset).toArray = ls at hl ⊢
  have hl : lv_has ls 3 [(0, .ref h0), (1, .int row)] := hl
  refine lv_iload_n hx hb dX2_neededBehind_0 rfl (lv_at hl 1 rfl) ?_
  refine lv_iconst (v := (-1)) hx hb dX2_neededBehind_1 (by decide) ?_
  refine lv_icmp_ne (tgt := 9) hx hb dX2_neededBehind_2 (by decide) (fun c_1 => ?_) (fun c_1 => ?_)
  · have ic_1 : row.toInt ≠ (-1) := zi_ne c_1
    refine lv_aload_n hx hb dX2_neededBehind_9 rfl (lv_at hl 0 rfl) ?_
    refine va_get (D := (dC, dI)) (ci := 2) (v := .ref cnext) (C := RX2) (T := TX2) (N := 8) hx hb hA zin_X2 hown hK hP 0 rfl rfl 4 (by decide) (hA _ wi_191) (fun _ h9 => h9) rfl dX2_neededBehind_10 ?_
    refine lv_iload_n hx hb dX2_neededBehind_13 rfl (lv_at hl 1 rfl) ?_
    refine va_iald hx hb hK hP 5 4 rfl rfl (vp_in_iff.mpr ⟨by omega, by omega⟩) dX2_neededBehind_14 ?_
    refine lv_topi (fun x_2 ex_2 => ?_)
    have ix_2 : -1 ≤ x_2.toInt ∧ x_2.toInt < 3000 := by rw [ex_2]; exact hgn _
    refine lv_istore_n (lv' := [(2, .int x_2), (0, .ref h0), (1, .int row)]) hx hb dX2_neededBehind_15 rfl hl (by decide) rfl (fun ls hl => ?_)
    refine lv_iload_n hx hb dX2_neededBehind_16 rfl (lv_at hl 0 rfl) ?_
    refine lv_iconst (v := (-1)) hx hb dX2_neededBehind_17 (by decide) ?_
    refine lv_icmp_ne (tgt := 25) hx hb dX2_neededBehind_18 (by decide) (fun c_3 => ?_) (fun c_3 => ?_)
    · have ic_3 : x_2.toInt ≠ (-1) := zi_ne c_3
      refine lv_aload_n hx hb dX2_neededBehind_25 rfl (lv_at hl 1 rfl) ?_
      refine va_get (D := (dC, dI)) (ci := 2) (v := .ref cneeded) (C := RX2) (T := TX2) (N := 8) hx hb hA zin_X2 hown hK hP 0 rfl rfl 5 (by decide) (hA _ wi_194) (fun _ h9 => h9) rfl dX2_neededBehind_26 ?_
      refine lv_iload_n hx hb dX2_neededBehind_29 rfl (lv_at hl 0 rfl) ?_
      refine va_iald hx hb hK hP 6 5 rfl rfl (vp_in_iff.mpr ⟨by omega, by omega⟩) dX2_neededBehind_30 ?_
      refine lv_topi (fun x_4 ex_4 => ?_)
      have hP9 := hP.sub (ws' := [(h0, .inr (2, [.ref cop, .ref ca, .ref cb, .ref cplace, .ref cnext, .ref cneeded, .int z, .int ta])), (cop, .inl (ckop, 3000, .inl gop)), (ca, .inl (cka, 3000, .inl ga)), (cb, .inl (ckb, 3000, .inl gb)), (cplace, .inl (ckplace, 3000, .inl gplace)), (cnext, .inl (cknext, 3000, .inl gnext)), (cneeded, .inl (ckneeded, 3000, .inl gneeded))]) [0, 1, 2, 3, 4, 5, 6] rfl
      have hD9 := hD.sub (ws' := [(h0, .inr (2, [.ref cop, .ref ca, .ref cb, .ref cplace, .ref cnext, .ref cneeded, .int z, .int ta])), (cop, .inl (ckop, 3000, .inl gop)), (ca, .inl (cka, 3000, .inl ga)), (cb, .inl (ckb, 3000, .inl gb)), (cplace, .inl (ckplace, 3000, .inl gplace)), (cnext, .inl (cknext, 3000, .inl gnext)), (cneeded, .inl (ckneeded, 3000, .inl gneeded))]) [0, 1, 2, 3, 4, 5, 6] (by decide) rfl
      have hK9 := hK.sub (tys' := [(ckop, .int), (cka, .int), (ckb, .int), (ckplace, .int), (cknext, .int), (ckneeded, .int)]) [0, 1, 2, 3, 4, 5] rfl
      exact W.iret (v := x_4) hx hb hr (fun t ht hW => ⟨⟨x_4, (), rfl, (by unfold zbe; rw [if_neg (by omega), if_neg (by rw [← ex_2]; omega), ← ex_2]; exact ex_4), by rw [ht]; exact hP9, va_K.moved hW.alike hK9, hD9⟩, hS.F ht⟩) hS.2.2 dX2_neededBehind_31
    · have ic_3 : x_2.toInt = (-1) := zi_eq c_3
      refine lv_iconst (v := 0) hx hb dX2_neededBehind_21 (by decide) ?_
      refine lv_goto (tgt := 31) hx hb dX2_neededBehind_22 (by decide) ?_
      have hlit : Int32.toInt 0 = 0 := by decide
      have hP9 := hP.sub (ws' := [(h0, .inr (2, [.ref cop, .ref ca, .ref cb, .ref cplace, .ref cnext, .ref cneeded, .int z, .int ta])), (cop, .inl (ckop, 3000, .inl gop)), (ca, .inl (cka, 3000, .inl ga)), (cb, .inl (ckb, 3000, .inl gb)), (cplace, .inl (ckplace, 3000, .inl gplace)), (cnext, .inl (cknext, 3000, .inl gnext)), (cneeded, .inl (ckneeded, 3000, .inl gneeded))]) [0, 1, 2, 3, 4, 5, 6] rfl
      have hD9 := hD.sub (ws' := [(h0, .inr (2, [.ref cop, .ref ca, .ref cb, .ref cplace, .ref cnext, .ref cneeded, .int z, .int ta])), (cop, .inl (ckop, 3000, .inl gop)), (ca, .inl (cka, 3000, .inl ga)), (cb, .inl (ckb, 3000, .inl gb)), (cplace, .inl (ckplace, 3000, .inl gplace)), (cnext, .inl (cknext, 3000, .inl gnext)), (cneeded, .inl (ckneeded, 3000, .inl gneeded))]) [0, 1, 2, 3, 4, 5, 6] (by decide) rfl
      have hK9 := hK.sub (tys' := [(ckop, .int), (cka, .int), (ckb, .int), (ckplace, .int), (cknext, .int), (ckneeded, .int)]) [0, 1, 2, 3, 4, 5] rfl
      exact W.iret (v := 0) hx hb hr (fun t ht hW => ⟨⟨0, (), rfl, (by unfold zbe; rw [if_neg (by omega), if_pos (by rw [← ex_2]; omega)]), by rw [ht]; exact hP9, va_K.moved hW.alike hK9, hD9⟩, hS.F ht⟩) hS.2.2 dX2_neededBehind_31
  · have ic_1 : row.toInt = (-1) := zi_eq c_1
    refine lv_iconst (v := (-1)) hx hb dX2_neededBehind_5 (by decide) ?_
    refine lv_goto (tgt := 15) hx hb dX2_neededBehind_6 (by decide) ?_
    refine lv_istore_n (lv' := [(2, .int (-1)), (0, .ref h0), (1, .int row)]) hx hb dX2_neededBehind_15 rfl hl (by decide) rfl (fun ls hl => ?_)
    refine lv_iload_n hx hb dX2_neededBehind_16 rfl (lv_at hl 0 rfl) ?_
    refine lv_iconst (v := (-1)) hx hb dX2_neededBehind_17 (by decide) ?_
    refine lv_icmp_ne (tgt := 25) hx hb dX2_neededBehind_18 (by decide) (fun c_0 => absurd c_0 (by decide)) (fun _ => ?_)
    refine lv_iconst (v := 0) hx hb dX2_neededBehind_21 (by decide) ?_
    refine lv_goto (tgt := 31) hx hb dX2_neededBehind_22 (by decide) ?_
    have hlit : Int32.toInt 0 = 0 := by decide
    have hP9 := hP.sub (ws' := [(h0, .inr (2, [.ref cop, .ref ca, .ref cb, .ref cplace, .ref cnext, .ref cneeded, .int z, .int ta])), (cop, .inl (ckop, 3000, .inl gop)), (ca, .inl (cka, 3000, .inl ga)), (cb, .inl (ckb, 3000, .inl gb)), (cplace, .inl (ckplace, 3000, .inl gplace)), (cnext, .inl (cknext, 3000, .inl gnext)), (cneeded, .inl (ckneeded, 3000, .inl gneeded))]) [0, 1, 2, 3, 4, 5, 6] rfl
    have hD9 := hD.sub (ws' := [(h0, .inr (2, [.ref cop, .ref ca, .ref cb, .ref cplace, .ref cnext, .ref cneeded, .int z, .int ta])), (cop, .inl (ckop, 3000, .inl gop)), (ca, .inl (cka, 3000, .inl ga)), (cb, .inl (ckb, 3000, .inl gb)), (cplace, .inl (ckplace, 3000, .inl gplace)), (cnext, .inl (cknext, 3000, .inl gnext)), (cneeded, .inl (ckneeded, 3000, .inl gneeded))]) [0, 1, 2, 3, 4, 5, 6] (by decide) rfl
    have hK9 := hK.sub (tys' := [(ckop, .int), (cka, .int), (ckb, .int), (ckplace, .int), (cknext, .int), (ckneeded, .int)]) [0, 1, 2, 3, 4, 5] rfl
    exact W.iret (v := 0) hx hb hr (fun t ht hW => ⟨⟨0, (), rfl, (by unfold zbe; rw [if_pos (by omega)]), by rw [ht]; exact hP9, va_K.moved hW.alike hK9, hD9⟩, hS.F ht⟩) hS.2.2 dX2_neededBehind_31

end
section
theorem wi_1051 : Cond.methodLink RX6 57 yX9_armFields ∈ zw := zw_in (List.mem_of_getElem? (i := 1051) (by decide +kernel)) (by decide +kernel)
theorem wi_313 : Cond.fieldLink RX6 60 "ReuseHouse$Program" "arms" "LReuseHouse$Arms;" ∈ zw := zw_in (List.mem_of_getElem? (i := 313) (by decide +kernel)) (by decide +kernel)
theorem wi_242 : Cond.fieldLink RX6 64 "ReuseHouse$Arms" "firstSlot" "[I" ∈ zw := zw_in (List.mem_of_getElem? (i := 242) (by decide +kernel)) (by decide +kernel)
theorem wi_310 : Cond.fieldLink RX6 15 "ReuseHouse$Program" "code" "LReuseHouse$Code;" ∈ zw := zw_in (List.mem_of_getElem? (i := 310) (by decide +kernel)) (by decide +kernel)
theorem wi_236 : Cond.fieldLink RX6 69 "ReuseHouse$Arms" "before" "[I" ∈ zw := zw_in (List.mem_of_getElem? (i := 236) (by decide +kernel)) (by decide +kernel)
theorem wi_1046 : Cond.code yX2_neededBehind cX2_neededBehind 3 (some .int) ∈ zw := zw_in (List.mem_of_getElem? (i := 1046) (by decide +kernel)) (by decide +kernel)
theorem wi_1043 : Cond.methodLink RX6 47 yX2_neededBehind ∈ zw := zw_in (List.mem_of_getElem? (i := 1043) (by decide +kernel)) (by decide +kernel)
theorem wi_1044 : Cond.instanceMethod yX2_neededBehind ∈ zw := zw_in (List.mem_of_getElem? (i := 1044) (by decide +kernel)) (by decide +kernel)
theorem wi_1045 : Cond.selects RX2 yX2_neededBehind yX2_neededBehind ∈ zw := zw_in (List.mem_of_getElem? (i := 1045) (by decide +kernel)) (by decide +kernel)
theorem wi_232 : Cond.fieldLink RX6 72 "ReuseHouse$Arms" "next" "[I" ∈ zw := zw_in (List.mem_of_getElem? (i := 232) (by decide +kernel)) (by decide +kernel)
theorem dX6_neededInArms_0 : decode cX6_neededInArms 0 = .ok (.iconst 0, 1) := by decide +kernel
theorem dX6_neededInArms_1 : decode cX6_neededInArms 1 = .ok (.istore_n 3, 1) := by decide +kernel
theorem dX6_neededInArms_2 : decode cX6_neededInArms 2 = .ok (.iload_n 2, 1) := by decide +kernel
theorem dX6_neededInArms_3 : decode cX6_neededInArms 3 = .ok (.istore 4, 2) := by decide +kernel
theorem dX6_neededInArms_5 : decode cX6_neededInArms 5 = .ok (.iconst 0, 1) := by decide +kernel
theorem dX6_neededInArms_6 : decode cX6_neededInArms 6 = .ok (.istore 5, 2) := by decide +kernel
theorem dX6_neededInArms_8 : decode cX6_neededInArms 8 = .ok (.iload 5, 2) := by decide +kernel
theorem dX6_neededInArms_10 : decode cX6_neededInArms 10 = .ok (.bipush 8, 2) := by decide +kernel
theorem dX6_neededInArms_12 : decode cX6_neededInArms 12 = .ok (.if_icmp .ge 75, 3) := by decide +kernel
theorem dX6_neededInArms_15 : decode cX6_neededInArms 15 = .ok (.iload 4, 2) := by decide +kernel
theorem dX6_neededInArms_17 : decode cX6_neededInArms 17 = .ok (.iconst (-1), 1) := by decide +kernel
theorem dX6_neededInArms_18 : decode cX6_neededInArms 18 = .ok (.if_icmp .eq 69, 3) := by decide +kernel
theorem dX6_neededInArms_21 : decode cX6_neededInArms 21 = .ok (.iconst 1, 1) := by decide +kernel
theorem dX6_neededInArms_22 : decode cX6_neededInArms 22 = .ok (.aload_n 1, 1) := by decide +kernel
theorem dX6_neededInArms_23 : decode cX6_neededInArms 23 = .ok (.iload 4, 2) := by decide +kernel
theorem dX6_neededInArms_25 : decode cX6_neededInArms 25 = .ok (.invokevirtual 57, 3) := by decide +kernel
theorem dX6_neededInArms_28 : decode cX6_neededInArms 28 = .ok (.ishl, 1) := by decide +kernel
theorem dX6_neededInArms_29 : decode cX6_neededInArms 29 = .ok (.iconst 1, 1) := by decide +kernel
theorem dX6_neededInArms_30 : decode cX6_neededInArms 30 = .ok (.isub, 1) := by decide +kernel
theorem dX6_neededInArms_31 : decode cX6_neededInArms 31 = .ok (.aload_n 1, 1) := by decide +kernel
theorem dX6_neededInArms_32 : decode cX6_neededInArms 32 = .ok (.getfield 60, 3) := by decide +kernel
theorem dX6_neededInArms_35 : decode cX6_neededInArms 35 = .ok (.getfield 64, 3) := by decide +kernel
theorem dX6_neededInArms_38 : decode cX6_neededInArms 38 = .ok (.iload 4, 2) := by decide +kernel
theorem dX6_neededInArms_40 : decode cX6_neededInArms 40 = .ok (.iaload, 1) := by decide +kernel
theorem dX6_neededInArms_41 : decode cX6_neededInArms 41 = .ok (.ishl, 1) := by decide +kernel
theorem dX6_neededInArms_42 : decode cX6_neededInArms 42 = .ok (.istore 6, 2) := by decide +kernel
theorem dX6_neededInArms_44 : decode cX6_neededInArms 44 = .ok (.iload_n 3, 1) := by decide +kernel
theorem dX6_neededInArms_45 : decode cX6_neededInArms 45 = .ok (.aload_n 1, 1) := by decide +kernel
theorem dX6_neededInArms_46 : decode cX6_neededInArms 46 = .ok (.getfield 15, 3) := by decide +kernel
theorem dX6_neededInArms_49 : decode cX6_neededInArms 49 = .ok (.aload_n 1, 1) := by decide +kernel
theorem dX6_neededInArms_50 : decode cX6_neededInArms 50 = .ok (.getfield 60, 3) := by decide +kernel
theorem dX6_neededInArms_53 : decode cX6_neededInArms 53 = .ok (.getfield 69, 3) := by decide +kernel
theorem dX6_neededInArms_56 : decode cX6_neededInArms 56 = .ok (.iload 4, 2) := by decide +kernel
theorem dX6_neededInArms_58 : decode cX6_neededInArms 58 = .ok (.iaload, 1) := by decide +kernel
theorem dX6_neededInArms_59 : decode cX6_neededInArms 59 = .ok (.invokevirtual 47, 3) := by decide +kernel
theorem dX6_neededInArms_62 : decode cX6_neededInArms 62 = .ok (.iload 6, 2) := by decide +kernel
theorem dX6_neededInArms_64 : decode cX6_neededInArms 64 = .ok (.iconst (-1), 1) := by decide +kernel
theorem dX6_neededInArms_65 : decode cX6_neededInArms 65 = .ok (.ixor, 1) := by decide +kernel
theorem dX6_neededInArms_66 : decode cX6_neededInArms 66 = .ok (.iand, 1) := by decide +kernel
theorem dX6_neededInArms_67 : decode cX6_neededInArms 67 = .ok (.ior, 1) := by decide +kernel
theorem dX6_neededInArms_68 : decode cX6_neededInArms 68 = .ok (.istore_n 3, 1) := by decide +kernel
theorem dX6_neededInArms_69 : decode cX6_neededInArms 69 = .ok (.aload_n 1, 1) := by decide +kernel
theorem dX6_neededInArms_70 : decode cX6_neededInArms 70 = .ok (.getfield 60, 3) := by decide +kernel
theorem dX6_neededInArms_73 : decode cX6_neededInArms 73 = .ok (.getfield 72, 3) := by decide +kernel
theorem dX6_neededInArms_76 : decode cX6_neededInArms 76 = .ok (.iload 4, 2) := by decide +kernel
theorem dX6_neededInArms_78 : decode cX6_neededInArms 78 = .ok (.iaload, 1) := by decide +kernel
theorem dX6_neededInArms_79 : decode cX6_neededInArms 79 = .ok (.istore 4, 2) := by decide +kernel
theorem dX6_neededInArms_81 : decode cX6_neededInArms 81 = .ok (.iinc 5 1, 3) := by decide +kernel
theorem dX6_neededInArms_84 : decode cX6_neededInArms 84 = .ok (.goto (-76), 3) := by decide +kernel
theorem dX6_neededInArms_87 : decode cX6_neededInArms 87 = .ok (.iload_n 3, 1) := by decide +kernel
theorem dX6_neededInArms_88 : decode cX6_neededInArms 88 = .ok (.ireturn, 1) := by decide +kernel
set_option maxHeartbeats 4000000 in
set_option maxRecDepth 100000 in
theorem c_X6_neededInArms_x (l : Launch) (dC : Nat → ClassId) (dI : Nat → Nat → Nat) (aK aV : Nat → Nat) (h0 : Nat) (nor : Nat) (pp : Nat) (gco : Nat) (gar : Nat) (gki : Nat) (gfu : Nat) (cop : Nat) (ca : Nat) (cb : Nat) (cplace : Nat) (cnext : Nat) (cneeded : Nat) (ckop : ClassId) (cka : ClassId) (ckb : ClassId) (ckplace : ClassId) (cknext : ClassId) (ckneeded : ClassId) (cz : Int32) (ct : Int32) (cgop : Nat → Int32) (cga : Nat → Int32) (cgb : Nat → Int32) (cgplace : Nat → Int32) (cgnext : Nat → Int32) (cgneeded : Nat → Int32) (akind : Nat) (anext : Nat) (abefore : Nat) (aleave : Nat) (afirstSlot : Nat) (abuilds : Nat) (akkind : ClassId) (aknext : ClassId) (akbefore : ClassId) (akleave : ClassId) (akfirstSlot : ClassId) (akbuilds : ClassId) (az : Int32) (agkind : Nat → Int32) (agnext : Nat → Int32) (agbefore : Nat → Int32) (agleave : Nat → Int32) (agfirstSlot : Nat → Int32) (agbuilds : Nat → Int32) (kw : Nat) (kf : Nat) (k1 : ClassId) (k2 : ClassId) (kz : Int32) (kgw : Nat → Int64) (kgf : Nat → Int32) (fgf : Nat → Int32) (fi : Int32) (sz : Nat) (hcn : zx 3000 cgnext) (hk0 : 0 ≤ kz.toInt) (hk1 : kz.toInt ≤ 20) (hkf : zx 4 kgf) (hagn : zx 400 agnext) (hagb : zx 3000 agbefore) (hags : zx 25 agfirstSlot) (hfi0 : -1 ≤ fi.toInt) (hfi1 : fi.toInt < 400) (hsl : zsl agnext agfirstSlot fi) : Met l yX6_neededInArms (Cond.code yX6_neededInArms cX6_neededInArms 7 (some .int) :: zw) ({ frames := 14, cells := 0, slots := 0, locals := 500 }) (va_Pc [.ref h0, .ref pp, .int fi] (zP dC dI aK aV sz [(ckop, .int), (cka, .int), (ckb, .int), (ckplace, .int), (cknext, .int), (ckneeded, .int), (akkind, .int), (aknext, .int), (akbefore, .int), (akleave, .int), (akfirstSlot, .int), (akbuilds, .int), (k1, .long), (k2, .int)] [(h0, .inr (6, [.ref nor])), (pp, .inr (9, [.ref gco, .ref gar, .ref gki, .ref gfu])), (gco, .inr (2, [.ref cop, .ref ca, .ref cb, .ref cplace, .ref cnext, .ref cneeded, .int cz, .int ct])), (cop, .inl (ckop, 3000, .inl cgop)), (ca, .inl (cka, 3000, .inl cga)), (cb, .inl (ckb, 3000, .inl cgb)), (cplace, .inl (ckplace, 3000, .inl cgplace)), (cnext, .inl (cknext, 3000, .inl cgnext)), (cneeded, .inl (ckneeded, 3000, .inl cgneeded)), (gar, .inr (0, [.ref akind, .ref anext, .ref abefore, .ref aleave, .ref afirstSlot, .ref abuilds, .int az])), (akind, .inl (akkind, 400, .inl agkind)), (anext, .inl (aknext, 400, .inl agnext)), (abefore, .inl (akbefore, 400, .inl agbefore)), (aleave, .inl (akleave, 400, .inl agleave)), (afirstSlot, .inl (akfirstSlot, 400, .inl agfirstSlot)), (abuilds, .inl (akbuilds, 400, .inl agbuilds)), (gki, .inr (4, [.ref kw, .ref kf, .int kz])), (kw, .inl (k1, 20, .inr (.inl kgw))), (kf, .inl (k2, 20, .inl kgf))])) (va_Qi (fun (r : Int32) (u : Unit) => (∀ k, k < 32 → zbit r k = zab (zst cgop cga cgb cgnext agkind agnext agbefore agleave agfirstSlot kgf fgf cz ct az kz) cgneeded k 8 fi)) (fun u => zQ dC dI (va_A [(h0, .inr (6, [.ref nor])), (pp, .inr (9, [.ref gco, .ref gar, .ref gki, .ref gfu])), (gco, .inr (2, [.ref cop, .ref ca, .ref cb, .ref cplace, .ref cnext, .ref cneeded, .int cz, .int ct])), (cop, .inl (ckop, 3000, .inl cgop)), (ca, .inl (cka, 3000, .inl cga)), (cb, .inl (ckb, 3000, .inl cgb)), (cplace, .inl (ckplace, 3000, .inl cgplace)), (cnext, .inl (cknext, 3000, .inl cgnext)), (cneeded, .inl (ckneeded, 3000, .inl cgneeded)), (gar, .inr (0, [.ref akind, .ref anext, .ref abefore, .ref aleave, .ref afirstSlot, .ref abuilds, .int az])), (akind, .inl (akkind, 400, .inl agkind)), (anext, .inl (aknext, 400, .inl agnext)), (abefore, .inl (akbefore, 400, .inl agbefore)), (aleave, .inl (akleave, 400, .inl agleave)), (afirstSlot, .inl (akfirstSlot, 400, .inl agfirstSlot)), (abuilds, .inl (akbuilds, 400, .inl agbuilds)), (gki, .inr (4, [.ref kw, .ref kf, .int kz])), (kw, .inl (k1, 20, .inr (.inl kgw))), (kf, .inl (k2, 20, .inl kgf))] sz) [(ckop, .int), (cka, .int), (ckb, .int), (ckplace, .int), (cknext, .int), (ckneeded, .int), (akkind, .int), (aknext, .int), (akbefore, .int), (akleave, .int), (akfirstSlot, .int), (akbuilds, .int), (k1, .long), (k2, .int)] [(h0, .inr (6, [.ref nor])), (pp, .inr (9, [.ref gco, .ref gar, .ref gki, .ref gfu])), (gco, .inr (2, [.ref cop, .ref ca, .ref cb, .ref cplace, .ref cnext, .ref cneeded, .int cz, .int ct])), (cop, .inl (ckop, 3000, .inl cgop)), (ca, .inl (cka, 3000, .inl cga)), (cb, .inl (ckb, 3000, .inl cgb)), (cplace, .inl (ckplace, 3000, .inl cgplace)), (cnext, .inl (cknext, 3000, .inl cgnext)), (cneeded, .inl (ckneeded, 3000, .inl cgneeded)), (gar, .inr (0, [.ref akind, .ref anext, .ref abefore, .ref aleave, .ref afirstSlot, .ref abuilds, .int az])), (akind, .inl (akkind, 400, .inl agkind)), (anext, .inl (aknext, 400, .inl agnext)), (abefore, .inl (akbefore, 400, .inl agbefore)), (aleave, .inl (akleave, 400, .inl agleave)), (afirstSlot, .inl (akfirstSlot, 400, .inl agfirstSlot)), (abuilds, .inl (akbuilds, 400, .inl agbuilds)), (gki, .inr (4, [.ref kw, .ref kf, .int kz])), (kw, .inl (k1, 20, .inr (.inl kgw))), (kf, .inl (k2, 20, .inl kgf))]) (va_A [(h0, .inr (6, [.ref nor])), (pp, .inr (9, [.ref gco, .ref gar, .ref gki, .ref gfu])), (gco, .inr (2, [.ref cop, .ref ca, .ref cb, .ref cplace, .ref cnext, .ref cneeded, .int cz, .int ct])), (cop, .inl (ckop, 3000, .inl cgop)), (ca, .inl (cka, 3000, .inl cga)), (cb, .inl (ckb, 3000, .inl cgb)), (cplace, .inl (ckplace, 3000, .inl cgplace)), (cnext, .inl (cknext, 3000, .inl cgnext)), (cneeded, .inl (ckneeded, 3000, .inl cgneeded)), (gar, .inr (0, [.ref akind, .ref anext, .ref abefore, .ref aleave, .ref afirstSlot, .ref abuilds, .int az])), (akind, .inl (akkind, 400, .inl agkind)), (anext, .inl (aknext, 400, .inl agnext)), (abefore, .inl (akbefore, 400, .inl agbefore)), (aleave, .inl (akleave, 400, .inl agleave)), (afirstSlot, .inl (akfirstSlot, 400, .inl agfirstSlot)), (abuilds, .inl (akbuilds, 400, .inl agbuilds)), (gki, .inr (4, [.ref kw, .ref kf, .int kz])), (kw, .inl (k1, 20, .inr (.inl kgw))), (kf, .inl (k2, 20, .inl kgf))] sz)) 0 0 (va_A [(h0, .inr (6, [.ref nor])), (pp, .inr (9, [.ref gco, .ref gar, .ref gki, .ref gfu])), (gco, .inr (2, [.ref cop, .ref ca, .ref cb, .ref cplace, .ref cnext, .ref cneeded, .int cz, .int ct])), (cop, .inl (ckop, 3000, .inl cgop)), (ca, .inl (cka, 3000, .inl cga)), (cb, .inl (ckb, 3000, .inl cgb)), (cplace, .inl (ckplace, 3000, .inl cgplace)), (cnext, .inl (cknext, 3000, .inl cgnext)), (cneeded, .inl (ckneeded, 3000, .inl cgneeded)), (gar, .inr (0, [.ref akind, .ref anext, .ref abefore, .ref aleave, .ref afirstSlot, .ref abuilds, .int az])), (akind, .inl (akkind, 400, .inl agkind)), (anext, .inl (aknext, 400, .inl agnext)), (abefore, .inl (akbefore, 400, .inl agbefore)), (aleave, .inl (akleave, 400, .inl agleave)), (afirstSlot, .inl (akfirstSlot, 400, .inl agfirstSlot)), (abuilds, .inl (akbuilds, 400, .inl agbuilds)), (gki, .inr (4, [.ref kw, .ref kf, .int kz])), (kw, .inl (k1, 20, .inr (.inl kgw))), (kf, .inl (k2, 20, .inl kgf))] sz) := by
  refine Met.ofW (cc := cX6_neededInArms) (maxL := 7) (ret := (some .int)) (by decide) rfl ?_
  intro p e s m args below meth c s₁ B hml hv
  obtain ⟨rfl, hsz, hP, hK, hD0, hN, hT⟩ := hv
  have hx := B.exec
  have hb := B.bytes
  have hr := B.returns
  have hts := atoms_spec (ws := Cond.code yX6_neededInArms cX6_neededInArms 7 (some .int) :: zw) B.pre
  have hA : ∀ w ∈ zw, w.before _ s = true := fun w h => hts w (List.mem_cons_of_mem _ h)
  have hown : s.vm.findClass RX6 = some m.cls := findClass_of_methodNamed B.named
  have hlocks := B.notSynchronized
  subst hsz
  have hD := hD0.self (sz := s.heap.size)
  generalize hAe : va_A [(h0, .inr (6, [.ref nor])), (pp, .inr (9, [.ref gco, .ref gar, .ref gki, .ref gfu])), (gco, .inr (2, [.ref cop, .ref ca, .ref cb, .ref cplace, .ref cnext, .ref cneeded, .int cz, .int ct])), (cop, .inl (ckop, 3000, .inl cgop)), (ca, .inl (cka, 3000, .inl cga)), (cb, .inl (ckb, 3000, .inl cgb)), (cplace, .inl (ckplace, 3000, .inl cgplace)), (cnext, .inl (cknext, 3000, .inl cgnext)), (cneeded, .inl (ckneeded, 3000, .inl cgneeded)), (gar, .inr (0, [.ref akind, .ref anext, .ref abefore, .ref aleave, .ref afirstSlot, .ref abuilds, .int az])), (akind, .inl (akkind, 400, .inl agkind)), (anext, .inl (aknext, 400, .inl agnext)), (abefore, .inl (akbefore, 400, .inl agbefore)), (aleave, .inl (akleave, 400, .inl agleave)), (afirstSlot, .inl (akfirstSlot, 400, .inl agfirstSlot)), (abuilds, .inl (akbuilds, 400, .inl agbuilds)), (gki, .inr (4, [.ref kw, .ref kf, .int kz])), (kw, .inl (k1, 20, .inr (.inl kgw))), (kf, .inl (k2, 20, .inl kgf))] s.heap.size = A at hD hT ⊢
  have hAA : ∀ q : Nat, s.heap.size ≤ q → A q := fun q h => by rw [← hAe]; exact Or.inr h
  have hS : va_S A s.heap s.heap [] := va_S.rf
  have hl := lv_entry ([.ref h0, .ref pp, .int fi]) (n := 7) (Nat.le_of_ble_eq_true rfl)
  rw [lg_entry_eq]
  generalize (lg_sl ([.ref h0, .ref pp, .int fi]) ++ List.replicate (7 - (lg_sl ([.ref h0, .ref pp, .int fi])).length) Slot.unset).toArray = ls at hl ⊢
  have hl : lv_has ls 7 [(0, .ref h0), (1, .ref pp), (2, .int fi)] := hl
  refine lv_iconst (v := 0) hx hb dX6_neededInArms_0 (by decide) ?_
  refine lv_istore_n (lv' := [(3, .int 0), (0, .ref h0), (1, .ref pp), (2, .int fi)]) hx hb dX6_neededInArms_1 rfl hl (by decide) rfl (fun ls hl => ?_)
  refine lv_iload_n hx hb dX6_neededInArms_2 rfl (lv_at hl 3 rfl) ?_
  refine lv_istore (lv' := [(4, .int fi), (3, .int 0), (0, .ref h0), (1, .ref pp), (2, .int fi)]) hx hb dX6_neededInArms_3 hl (by decide) rfl (fun ls hl => ?_)
  refine lv_iconst (v := 0) hx hb dX6_neededInArms_5 (by decide) ?_
  refine lv_istore (lv' := [(5, .int 0), (4, .int fi), (3, .int 0), (0, .ref h0), (1, .ref pp), (2, .int fi)]) hx hb dX6_neededInArms_6 hl (by decide) rfl (fun ls hl => ?_)
  have loop_8 : ∀ (n9 : Nat) (ne : Int32) (am : Int32) (i : Int32) (H : Heap) (locs : List Loc) (ls : Array Slot), (8 - i.toInt + 1).toNat ≤ n9 → 0 ≤ i.toInt → i.toInt ≤ 8 → -1 ≤ am.toInt → am.toInt < 400 → znl (zst cgop cga cgb cgnext agkind agnext agbefore agleave agfirstSlot kgf fgf cz ct az kz) cgneeded fi ne (Int32.toNatClampNeg i) am → zsl agnext agfirstSlot am → va_P (dC, dI) vwCl [(h0, .inr (6, [.ref nor])), (pp, .inr (9, [.ref gco, .ref gar, .ref gki, .ref gfu])), (gco, .inr (2, [.ref cop, .ref ca, .ref cb, .ref cplace, .ref cnext, .ref cneeded, .int cz, .int ct])), (cop, .inl (ckop, 3000, .inl cgop)), (ca, .inl (cka, 3000, .inl cga)), (cb, .inl (ckb, 3000, .inl cgb)), (cplace, .inl (ckplace, 3000, .inl cgplace)), (cnext, .inl (cknext, 3000, .inl cgnext)), (cneeded, .inl (ckneeded, 3000, .inl cgneeded)), (gar, .inr (0, [.ref akind, .ref anext, .ref abefore, .ref aleave, .ref afirstSlot, .ref abuilds, .int az])), (akind, .inl (akkind, 400, .inl agkind)), (anext, .inl (aknext, 400, .inl agnext)), (abefore, .inl (akbefore, 400, .inl agbefore)), (aleave, .inl (akleave, 400, .inl agleave)), (afirstSlot, .inl (akfirstSlot, 400, .inl agfirstSlot)), (abuilds, .inl (akbuilds, 400, .inl agbuilds)), (gki, .inr (4, [.ref kw, .ref kf, .int kz])), (kw, .inl (k1, 20, .inr (.inl kgw))), (kf, .inl (k2, 20, .inl kgf))] H → va_D A [(h0, .inr (6, [.ref nor])), (pp, .inr (9, [.ref gco, .ref gar, .ref gki, .ref gfu])), (gco, .inr (2, [.ref cop, .ref ca, .ref cb, .ref cplace, .ref cnext, .ref cneeded, .int cz, .int ct])), (cop, .inl (ckop, 3000, .inl cgop)), (ca, .inl (cka, 3000, .inl cga)), (cb, .inl (ckb, 3000, .inl cgb)), (cplace, .inl (ckplace, 3000, .inl cgplace)), (cnext, .inl (cknext, 3000, .inl cgnext)), (cneeded, .inl (ckneeded, 3000, .inl cgneeded)), (gar, .inr (0, [.ref akind, .ref anext, .ref abefore, .ref aleave, .ref afirstSlot, .ref abuilds, .int az])), (akind, .inl (akkind, 400, .inl agkind)), (anext, .inl (aknext, 400, .inl agnext)), (abefore, .inl (akbefore, 400, .inl agbefore)), (aleave, .inl (akleave, 400, .inl agleave)), (afirstSlot, .inl (akfirstSlot, 400, .inl agfirstSlot)), (abuilds, .inl (akbuilds, 400, .inl agbuilds)), (gki, .inr (4, [.ref kw, .ref kf, .int kz])), (kw, .inl (k1, 20, .inr (.inl kgw))), (kf, .inl (k2, 20, .inl kgf))] → va_S A s.heap H locs → lv_has ls 7 [(5, .int i), (4, .int am), (3, .int ne), (0, .ref h0), (1, .ref pp), (2, .int fi)] → W p l e (headSpec (Cond.code yX6_neededInArms cX6_neededInArms 7 (some .int) :: zw) ({ frames := 14, cells := 0, slots := 0, locals := 500 })).room s m #[.ref h0, .ref pp, .int fi] below meth c H locs 0 0 (MQ below (va_Qi (fun (r : Int32) (u : Unit) => (∀ k, k < 32 → zbit r k = zab (zst cgop cga cgb cgnext agkind agnext agbefore agleave agfirstSlot kgf fgf cz ct az kz) cgneeded k 8 fi)) (fun u => zQ dC dI A [(ckop, .int), (cka, .int), (ckb, .int), (ckplace, .int), (cknext, .int), (ckneeded, .int), (akkind, .int), (aknext, .int), (akbefore, .int), (akleave, .int), (akfirstSlot, .int), (akbuilds, .int), (k1, .long), (k2, .int)] [(h0, .inr (6, [.ref nor])), (pp, .inr (9, [.ref gco, .ref gar, .ref gki, .ref gfu])), (gco, .inr (2, [.ref cop, .ref ca, .ref cb, .ref cplace, .ref cnext, .ref cneeded, .int cz, .int ct])), (cop, .inl (ckop, 3000, .inl cgop)), (ca, .inl (cka, 3000, .inl cga)), (cb, .inl (ckb, 3000, .inl cgb)), (cplace, .inl (ckplace, 3000, .inl cgplace)), (cnext, .inl (cknext, 3000, .inl cgnext)), (cneeded, .inl (ckneeded, 3000, .inl cgneeded)), (gar, .inr (0, [.ref akind, .ref anext, .ref abefore, .ref aleave, .ref afirstSlot, .ref abuilds, .int az])), (akind, .inl (akkind, 400, .inl agkind)), (anext, .inl (aknext, 400, .inl agnext)), (abefore, .inl (akbefore, 400, .inl agbefore)), (aleave, .inl (akleave, 400, .inl agleave)), (afirstSlot, .inl (akfirstSlot, 400, .inl agfirstSlot)), (abuilds, .inl (akbuilds, 400, .inl agbuilds)), (gki, .inr (4, [.ref kw, .ref kf, .int kz])), (kw, .inl (k1, 20, .inr (.inl kgw))), (kf, .inl (k2, 20, .inl kgf))]) A) #[.ref h0, .ref pp, .int fi] s 0 0 A) (F0 m 8 ls []) := by
    intro n9
    induction n9 with
    | zero => intro ne am i H locs ls hm hi0 hi1 ham0 ham1 hznl hsl_; exfalso; omega
    | succ n9 ih =>
      intro ne am i H locs ls hm hi0 hi1 ham0 ham1 hznl hsl_ hP hD hS hl
      refine lv_iload hx hb dX6_neededInArms_8 (lv_at hl 0 rfl) ?_
      refine lv_bipush (v := 8) hx hb dX6_neededInArms_10 (by decide) ?_
      refine lv_icmp_ge (tgt := 87) hx hb dX6_neededInArms_12 (by decide) (fun c_1 => ?_) (fun c_1 => ?_)
      · have ic_1 : 8 ≤ i.toInt := zi_le c_1
        refine lv_iload_n hx hb dX6_neededInArms_87 rfl (lv_at hl 2 rfl) ?_
        have hP9 := hP.sub (ws' := [(h0, .inr (6, [.ref nor])), (pp, .inr (9, [.ref gco, .ref gar, .ref gki, .ref gfu])), (gco, .inr (2, [.ref cop, .ref ca, .ref cb, .ref cplace, .ref cnext, .ref cneeded, .int cz, .int ct])), (cop, .inl (ckop, 3000, .inl cgop)), (ca, .inl (cka, 3000, .inl cga)), (cb, .inl (ckb, 3000, .inl cgb)), (cplace, .inl (ckplace, 3000, .inl cgplace)), (cnext, .inl (cknext, 3000, .inl cgnext)), (cneeded, .inl (ckneeded, 3000, .inl cgneeded)), (gar, .inr (0, [.ref akind, .ref anext, .ref abefore, .ref aleave, .ref afirstSlot, .ref abuilds, .int az])), (akind, .inl (akkind, 400, .inl agkind)), (anext, .inl (aknext, 400, .inl agnext)), (abefore, .inl (akbefore, 400, .inl agbefore)), (aleave, .inl (akleave, 400, .inl agleave)), (afirstSlot, .inl (akfirstSlot, 400, .inl agfirstSlot)), (abuilds, .inl (akbuilds, 400, .inl agbuilds)), (gki, .inr (4, [.ref kw, .ref kf, .int kz])), (kw, .inl (k1, 20, .inr (.inl kgw))), (kf, .inl (k2, 20, .inl kgf))]) [0, 1, 2, 3, 4, 5, 6, 7, 8, 9, 10, 11, 12, 13, 14, 15, 16, 17, 18] rfl
        have hD9 := hD.sub (ws' := [(h0, .inr (6, [.ref nor])), (pp, .inr (9, [.ref gco, .ref gar, .ref gki, .ref gfu])), (gco, .inr (2, [.ref cop, .ref ca, .ref cb, .ref cplace, .ref cnext, .ref cneeded, .int cz, .int ct])), (cop, .inl (ckop, 3000, .inl cgop)), (ca, .inl (cka, 3000, .inl cga)), (cb, .inl (ckb, 3000, .inl cgb)), (cplace, .inl (ckplace, 3000, .inl cgplace)), (cnext, .inl (cknext, 3000, .inl cgnext)), (cneeded, .inl (ckneeded, 3000, .inl cgneeded)), (gar, .inr (0, [.ref akind, .ref anext, .ref abefore, .ref aleave, .ref afirstSlot, .ref abuilds, .int az])), (akind, .inl (akkind, 400, .inl agkind)), (anext, .inl (aknext, 400, .inl agnext)), (abefore, .inl (akbefore, 400, .inl agbefore)), (aleave, .inl (akleave, 400, .inl agleave)), (afirstSlot, .inl (akfirstSlot, 400, .inl agfirstSlot)), (abuilds, .inl (akbuilds, 400, .inl agbuilds)), (gki, .inr (4, [.ref kw, .ref kf, .int kz])), (kw, .inl (k1, 20, .inr (.inl kgw))), (kf, .inl (k2, 20, .inl kgf))]) [0, 1, 2, 3, 4, 5, 6, 7, 8, 9, 10, 11, 12, 13, 14, 15, 16, 17, 18] (by decide) rfl
        have hK9 := hK.sub (tys' := [(ckop, .int), (cka, .int), (ckb, .int), (ckplace, .int), (cknext, .int), (ckneeded, .int), (akkind, .int), (aknext, .int), (akbefore, .int), (akleave, .int), (akfirstSlot, .int), (akbuilds, .int), (k1, .long), (k2, .int)]) [0, 1, 2, 3, 4, 5, 6, 7, 8, 9, 10, 11, 12, 13] rfl
        exact W.iret (v := ne) hx hb hr (fun t ht hW => ⟨⟨ne, (), rfl, znl_end hznl (by have := zn_nat (x := i) (by omega); omega), by rw [ht]; exact hP9, va_K.moved hW.alike hK9, hD9⟩, hS.F ht⟩) hS.2.2 dX6_neededInArms_88
      · have ic_1 : i.toInt < 8 := zi_nle c_1
        refine lv_iload hx hb dX6_neededInArms_15 (lv_at hl 1 rfl) ?_
        refine lv_iconst (v := (-1)) hx hb dX6_neededInArms_17 (by decide) ?_
        refine lv_icmp_eq (tgt := 87) hx hb dX6_neededInArms_18 (by decide) (fun c_2 => ?_) (fun c_2 => ?_)
        · have ic_2 : am.toInt = (-1) := zi_eq c_2
          refine lv_iload_n hx hb dX6_neededInArms_87 rfl (lv_at hl 2 rfl) ?_
          have hP9 := hP.sub (ws' := [(h0, .inr (6, [.ref nor])), (pp, .inr (9, [.ref gco, .ref gar, .ref gki, .ref gfu])), (gco, .inr (2, [.ref cop, .ref ca, .ref cb, .ref cplace, .ref cnext, .ref cneeded, .int cz, .int ct])), (cop, .inl (ckop, 3000, .inl cgop)), (ca, .inl (cka, 3000, .inl cga)), (cb, .inl (ckb, 3000, .inl cgb)), (cplace, .inl (ckplace, 3000, .inl cgplace)), (cnext, .inl (cknext, 3000, .inl cgnext)), (cneeded, .inl (ckneeded, 3000, .inl cgneeded)), (gar, .inr (0, [.ref akind, .ref anext, .ref abefore, .ref aleave, .ref afirstSlot, .ref abuilds, .int az])), (akind, .inl (akkind, 400, .inl agkind)), (anext, .inl (aknext, 400, .inl agnext)), (abefore, .inl (akbefore, 400, .inl agbefore)), (aleave, .inl (akleave, 400, .inl agleave)), (afirstSlot, .inl (akfirstSlot, 400, .inl agfirstSlot)), (abuilds, .inl (akbuilds, 400, .inl agbuilds)), (gki, .inr (4, [.ref kw, .ref kf, .int kz])), (kw, .inl (k1, 20, .inr (.inl kgw))), (kf, .inl (k2, 20, .inl kgf))]) [0, 1, 2, 3, 4, 5, 6, 7, 8, 9, 10, 11, 12, 13, 14, 15, 16, 17, 18] rfl
          have hD9 := hD.sub (ws' := [(h0, .inr (6, [.ref nor])), (pp, .inr (9, [.ref gco, .ref gar, .ref gki, .ref gfu])), (gco, .inr (2, [.ref cop, .ref ca, .ref cb, .ref cplace, .ref cnext, .ref cneeded, .int cz, .int ct])), (cop, .inl (ckop, 3000, .inl cgop)), (ca, .inl (cka, 3000, .inl cga)), (cb, .inl (ckb, 3000, .inl cgb)), (cplace, .inl (ckplace, 3000, .inl cgplace)), (cnext, .inl (cknext, 3000, .inl cgnext)), (cneeded, .inl (ckneeded, 3000, .inl cgneeded)), (gar, .inr (0, [.ref akind, .ref anext, .ref abefore, .ref aleave, .ref afirstSlot, .ref abuilds, .int az])), (akind, .inl (akkind, 400, .inl agkind)), (anext, .inl (aknext, 400, .inl agnext)), (abefore, .inl (akbefore, 400, .inl agbefore)), (aleave, .inl (akleave, 400, .inl agleave)), (afirstSlot, .inl (akfirstSlot, 400, .inl agfirstSlot)), (abuilds, .inl (akbuilds, 400, .inl agbuilds)), (gki, .inr (4, [.ref kw, .ref kf, .int kz])), (kw, .inl (k1, 20, .inr (.inl kgw))), (kf, .inl (k2, 20, .inl kgf))]) [0, 1, 2, 3, 4, 5, 6, 7, 8, 9, 10, 11, 12, 13, 14, 15, 16, 17, 18] (by decide) rfl
          have hK9 := hK.sub (tys' := [(ckop, .int), (cka, .int), (ckb, .int), (ckplace, .int), (cknext, .int), (ckneeded, .int), (akkind, .int), (aknext, .int), (akbefore, .int), (akleave, .int), (akfirstSlot, .int), (akbuilds, .int), (k1, .long), (k2, .int)]) [0, 1, 2, 3, 4, 5, 6, 7, 8, 9, 10, 11, 12, 13] rfl
          exact W.iret (v := ne) hx hb hr (fun t ht hW => ⟨⟨ne, (), rfl, znl_end hznl (by have := zn_nat (x := i) (by omega); omega), by rw [ht]; exact hP9, va_K.moved hW.alike hK9, hD9⟩, hS.F ht⟩) hS.2.2 dX6_neededInArms_88
        · have ic_2 : am.toInt ≠ (-1) := zi_ne c_2
          have hsl9 := zsl_in hsl_ (by omega)
          refine lv_iconst (v := 1) hx hb dX6_neededInArms_21 (by decide) ?_
          refine lv_aload_n hx hb dX6_neededInArms_22 rfl (lv_at hl 4 rfl) ?_
          refine lv_iload hx hb dX6_neededInArms_23 (lv_at hl 1 rfl) ?_
          have hPc := hP.sub (ws' := [(pp, .inr (9, [.ref gco, .ref gar, .ref gki, .ref gfu])), (gar, .inr (0, [.ref akind, .ref anext, .ref abefore, .ref aleave, .ref afirstSlot, .ref abuilds, .int az])), (akind, .inl (akkind, 400, .inl agkind)), (gki, .inr (4, [.ref kw, .ref kf, .int kz])), (kw, .inl (k1, 20, .inr (.inl kgw))), (kf, .inl (k2, 20, .inl kgf))]) [1, 9, 10, 16, 17, 18] rfl
          have hDc := hD.sub (ws' := [(pp, .inr (9, [.ref gco, .ref gar, .ref gki, .ref gfu])), (gar, .inr (0, [.ref akind, .ref anext, .ref abefore, .ref aleave, .ref afirstSlot, .ref abuilds, .int az])), (akind, .inl (akkind, 400, .inl agkind)), (gki, .inr (4, [.ref kw, .ref kf, .int kz])), (kw, .inl (k1, 20, .inr (.inl kgw))), (kf, .inl (k2, 20, .inl kgf))]) [1, 9, 10, 16, 17, 18] (by decide) rfl
          have hKc := hK.sub (tys' := [(akkind, .int), (k1, .long), (k2, .int)]) [6, 12, 13] rfl
          have hFc := va_free (wc := [(pp, .inr (9, [.ref gco, .ref gar, .ref gki, .ref gfu])), (gar, .inr (0, [.ref akind, .ref anext, .ref abefore, .ref aleave, .ref afirstSlot, .ref abuilds, .int az])), (akind, .inl (akkind, 400, .inl agkind)), (gki, .inr (4, [.ref kw, .ref kf, .int kz])), (kw, .inl (k1, 20, .inr (.inl kgw))), (kf, .inl (k2, 20, .inl kgf))]) hD hS hAA [1, 9, 10, 16, 17, 18] rfl
          refine va_calli (va_runV (As := [.int am]) (rest := [.int 1]) ⟨hx, hb, hml, hown, hA⟩ (c_X9_armFields_x l dC dI aK aV pp gco gar gki gfu akind anext abefore aleave afirstSlot abuilds akkind az agkind kw kf k1 k2 kz kgw kgf am H.size (by omega) (by omega) hkf (by omega) (by omega)) (cwV 1 hA (zw_V wi_1051 wi_1052 wi_1053 wi_131 (zw_good wi_1054)) rfl rfl rfl (by decide +kernel) ⟨(Nat.le_of_ble_eq_true rfl), (Nat.le_of_ble_eq_true rfl)⟩) ⟨zP_blind, va_recv hKc hPc (ci := 9) (q0 := 0) rfl rfl, zz_pre hKc hPc hDc hN hT hS hFc⟩ rfl rfl hl.1 rfl (lv_room (Nat.le_of_ble_eq_true rfl)) dX6_neededInArms_25 ⟨(Nat.le_of_ble_eq_true rfl), (Nat.le_of_ble_eq_true rfl)⟩) hS (fun q _ h => hFc q h) hFc (fun r_3 u t H1 locs ht hvm hw hB hz1 hk1 hS => ?_)
          obtain ⟨hP1, hK1, hD1⟩ := hB
          rw [ht] at hP1
          have hK1 := va_K.moved hvm.symm hK1
          obtain ⟨hP, hD⟩ := va_join (wr := [(h0, .inr (6, [.ref nor])), (gco, .inr (2, [.ref cop, .ref ca, .ref cb, .ref cplace, .ref cnext, .ref cneeded, .int cz, .int ct])), (cop, .inl (ckop, 3000, .inl cgop)), (ca, .inl (cka, 3000, .inl cga)), (cb, .inl (ckb, 3000, .inl cgb)), (cplace, .inl (ckplace, 3000, .inl cgplace)), (cnext, .inl (cknext, 3000, .inl cgnext)), (cneeded, .inl (ckneeded, 3000, .inl cgneeded)), (anext, .inl (aknext, 400, .inl agnext)), (abefore, .inl (akbefore, 400, .inl agbefore)), (aleave, .inl (akleave, 400, .inl agleave)), (afirstSlot, .inl (akfirstSlot, 400, .inl agfirstSlot)), (abuilds, .inl (akbuilds, 400, .inl agbuilds))]) (w1 := [(pp, .inr (9, [.ref gco, .ref gar, .ref gki, .ref gfu])), (gar, .inr (0, [.ref akind, .ref anext, .ref abefore, .ref aleave, .ref afirstSlot, .ref abuilds, .int az])), (akind, .inl (akkind, 400, .inl agkind)), (gki, .inr (4, [.ref kw, .ref kf, .int kz])), (kw, .inl (k1, 20, .inr (.inl kgw))), (kf, .inl (k2, 20, .inl kgf))]) hP hD [1, 9, 10, 16, 17, 18] [0, 2, 3, 4, 5, 6, 7, 8, 11, 12, 13, 14, 15] rfl rfl (by decide) (by decide) hk1 hFc hP1 hD1
          have hK := (hK.sub (tys' := [(ckop, .int), (cka, .int), (ckb, .int), (ckplace, .int), (cknext, .int), (ckneeded, .int), (aknext, .int), (akbefore, .int), (akleave, .int), (akfirstSlot, .int), (akbuilds, .int)]) [0, 1, 2, 3, 4, 5, 7, 8, 9, 10, 11] rfl).app hK1
          generalize H1 = H at hP hS ⊢
          have hP : va_P (dC, dI) vwCl [(h0, .inr (6, [.ref nor])), (gco, .inr (2, [.ref cop, .ref ca, .ref cb, .ref cplace, .ref cnext, .ref cneeded, .int cz, .int ct])), (cop, .inl (ckop, 3000, .inl cgop)), (ca, .inl (cka, 3000, .inl cga)), (cb, .inl (ckb, 3000, .inl cgb)), (cplace, .inl (ckplace, 3000, .inl cgplace)), (cnext, .inl (cknext, 3000, .inl cgnext)), (cneeded, .inl (ckneeded, 3000, .inl cgneeded)), (anext, .inl (aknext, 400, .inl agnext)), (abefore, .inl (akbefore, 400, .inl agbefore)), (aleave, .inl (akleave, 400, .inl agleave)), (afirstSlot, .inl (akfirstSlot, 400, .inl agfirstSlot)), (abuilds, .inl (akbuilds, 400, .inl agbuilds)), (pp, .inr (9, [.ref gco, .ref gar, .ref gki, .ref gfu])), (gar, .inr (0, [.ref akind, .ref anext, .ref abefore, .ref aleave, .ref afirstSlot, .ref abuilds, .int az])), (akind, .inl (akkind, 400, .inl agkind)), (gki, .inr (4, [.ref kw, .ref kf, .int kz])), (kw, .inl (k1, 20, .inr (.inl kgw))), (kf, .inl (k2, 20, .inl kgf))] H := hP
          have hD : va_D A [(h0, .inr (6, [.ref nor])), (gco, .inr (2, [.ref cop, .ref ca, .ref cb, .ref cplace, .ref cnext, .ref cneeded, .int cz, .int ct])), (cop, .inl (ckop, 3000, .inl cgop)), (ca, .inl (cka, 3000, .inl cga)), (cb, .inl (ckb, 3000, .inl cgb)), (cplace, .inl (ckplace, 3000, .inl cgplace)), (cnext, .inl (cknext, 3000, .inl cgnext)), (cneeded, .inl (ckneeded, 3000, .inl cgneeded)), (anext, .inl (aknext, 400, .inl agnext)), (abefore, .inl (akbefore, 400, .inl agbefore)), (aleave, .inl (akleave, 400, .inl agleave)), (afirstSlot, .inl (akfirstSlot, 400, .inl agfirstSlot)), (abuilds, .inl (akbuilds, 400, .inl agbuilds)), (pp, .inr (9, [.ref gco, .ref gar, .ref gki, .ref gfu])), (gar, .inr (0, [.ref akind, .ref anext, .ref abefore, .ref aleave, .ref afirstSlot, .ref abuilds, .int az])), (akind, .inl (akkind, 400, .inl agkind)), (gki, .inr (4, [.ref kw, .ref kf, .int kz])), (kw, .inl (k1, 20, .inr (.inl kgw))), (kf, .inl (k2, 20, .inl kgf))] := hD
          have hK : va_K (dC, dI) vwCl [(ckop, .int), (cka, .int), (ckb, .int), (ckplace, .int), (cknext, .int), (ckneeded, .int), (aknext, .int), (akbefore, .int), (akleave, .int), (akfirstSlot, .int), (akbuilds, .int), (akkind, .int), (k1, .long), (k2, .int)] s := hK
          have hw_r_3 := hw
          try dsimp only at hw_r_3
          obtain ⟨hq_4, hq_5, hq_6⟩ := hw
          have iF : r_3.toInt < 4 := by omega
          refine lv_ishl hx hb dX6_neededInArms_28 ?_
          refine lv_topi (fun x_7 ex_7 => ?_)
          refine lv_iconst (v := 1) hx hb dX6_neededInArms_29 (by decide) ?_
          refine lv_isub hx hb dX6_neededInArms_30 ?_
          refine lv_topi (fun x_8 ex_8 => ?_)
          refine lv_aload_n hx hb dX6_neededInArms_31 rfl (lv_at hl 4 rfl) ?_
          refine va_get (D := (dC, dI)) (ci := 9) (v := .ref gar) (C := RX9) (T := TX9) (N := 4) hx hb hA zin_X9 hown hK hP 13 rfl rfl 1 (by decide) (hA _ wi_313) (fun _ h9 => h9) rfl dX6_neededInArms_32 ?_
          refine va_get (D := (dC, dI)) (ci := 0) (v := .ref afirstSlot) (C := RX0) (T := TX0) (N := 7) hx hb hA zin_X0 hown hK hP 14 rfl rfl 4 (by decide) (hA _ wi_242) (fun _ h9 => h9) rfl dX6_neededInArms_35 ?_
          refine lv_iload hx hb dX6_neededInArms_38 (lv_at hl 1 rfl) ?_
          refine va_iald hx hb hK hP 11 9 rfl rfl (vp_in_iff.mpr ⟨by omega, by omega⟩) dX6_neededInArms_40 ?_
          refine lv_topi (fun x_9 ex_9 => ?_)
          have ix_9 : -1 ≤ x_9.toInt ∧ x_9.toInt < 25 := by rw [ex_9]; exact hags _
          refine lv_ishl hx hb dX6_neededInArms_41 ?_
          refine lv_topi (fun x_10 ex_10 => ?_)
          refine lv_istore (lv' := [(6, .int x_10), (5, .int i), (4, .int am), (3, .int ne), (0, .ref h0), (1, .ref pp), (2, .int fi)]) hx hb dX6_neededInArms_42 hl (by decide) rfl (fun ls hl => ?_)
          refine lv_iload_n hx hb dX6_neededInArms_44 rfl (lv_at hl 3 rfl) ?_
          refine lv_aload_n hx hb dX6_neededInArms_45 rfl (lv_at hl 5 rfl) ?_
          refine va_get (D := (dC, dI)) (ci := 9) (v := .ref gco) (C := RX9) (T := TX9) (N := 4) hx hb hA zin_X9 hown hK hP 13 rfl rfl 0 (by decide) (hA _ wi_310) (fun _ h9 => h9) rfl dX6_neededInArms_46 ?_
          refine lv_aload_n hx hb dX6_neededInArms_49 rfl (lv_at hl 5 rfl) ?_
          refine va_get (D := (dC, dI)) (ci := 9) (v := .ref gar) (C := RX9) (T := TX9) (N := 4) hx hb hA zin_X9 hown hK hP 13 rfl rfl 1 (by decide) (hA _ wi_313) (fun _ h9 => h9) rfl dX6_neededInArms_50 ?_
          refine va_get (D := (dC, dI)) (ci := 0) (v := .ref abefore) (C := RX0) (T := TX0) (N := 7) hx hb hA zin_X0 hown hK hP 14 rfl rfl 2 (by decide) (hA _ wi_236) (fun _ h9 => h9) rfl dX6_neededInArms_53 ?_
          refine lv_iload hx hb dX6_neededInArms_56 (lv_at hl 2 rfl) ?_
          refine va_iald hx hb hK hP 9 7 rfl rfl (vp_in_iff.mpr ⟨by omega, by omega⟩) dX6_neededInArms_58 ?_
          refine lv_topi (fun x_11 ex_11 => ?_)
          have ix_11 : -1 ≤ x_11.toInt ∧ x_11.toInt < 3000 := by rw [ex_11]; exact hagb _
          have hPc := hP.sub (ws' := [(gco, .inr (2, [.ref cop, .ref ca, .ref cb, .ref cplace, .ref cnext, .ref cneeded, .int cz, .int ct])), (cop, .inl (ckop, 3000, .inl cgop)), (ca, .inl (cka, 3000, .inl cga)), (cb, .inl (ckb, 3000, .inl cgb)), (cplace, .inl (ckplace, 3000, .inl cgplace)), (cnext, .inl (cknext, 3000, .inl cgnext)), (cneeded, .inl (ckneeded, 3000, .inl cgneeded))]) [1, 2, 3, 4, 5, 6, 7] rfl
          have hDc := hD.sub (ws' := [(gco, .inr (2, [.ref cop, .ref ca, .ref cb, .ref cplace, .ref cnext, .ref cneeded, .int cz, .int ct])), (cop, .inl (ckop, 3000, .inl cgop)), (ca, .inl (cka, 3000, .inl cga)), (cb, .inl (ckb, 3000, .inl cgb)), (cplace, .inl (ckplace, 3000, .inl cgplace)), (cnext, .inl (cknext, 3000, .inl cgnext)), (cneeded, .inl (ckneeded, 3000, .inl cgneeded))]) [1, 2, 3, 4, 5, 6, 7] (by decide) rfl
          have hKc := hK.sub (tys' := [(ckop, .int), (cka, .int), (ckb, .int), (ckplace, .int), (cknext, .int), (ckneeded, .int)]) [0, 1, 2, 3, 4, 5] rfl
          have hFc := va_free (wc := [(gco, .inr (2, [.ref cop, .ref ca, .ref cb, .ref cplace, .ref cnext, .ref cneeded, .int cz, .int ct])), (cop, .inl (ckop, 3000, .inl cgop)), (ca, .inl (cka, 3000, .inl cga)), (cb, .inl (ckb, 3000, .inl cgb)), (cplace, .inl (ckplace, 3000, .inl cgplace)), (cnext, .inl (cknext, 3000, .inl cgnext)), (cneeded, .inl (ckneeded, 3000, .inl cgneeded))]) hD hS hAA [1, 2, 3, 4, 5, 6, 7] rfl
          refine va_calli (va_runV (As := [.int x_11]) (rest := [.int ne]) ⟨hx, hb, hml, hown, hA⟩ (c_X2_neededBehind_x l dC dI aK aV gco cop ca cb cplace cnext cneeded ckop cka ckb ckplace cknext ckneeded cz ct cgop cga cgb cgplace cgnext cgneeded x_11 H.size hcn (by omega) (by omega)) (cwV 1 hA (zw_V wi_1043 wi_1044 wi_1045 wi_132 (zw_good wi_1046)) rfl rfl rfl (by decide +kernel) ⟨(Nat.le_of_ble_eq_true rfl), (Nat.le_of_ble_eq_true rfl)⟩) ⟨zP_blind, va_recv hKc hPc (ci := 2) (q0 := 0) rfl rfl, zz_pre hKc hPc hDc hN hT hS hFc⟩ rfl rfl hl.1 rfl (lv_room (Nat.le_of_ble_eq_true rfl)) dX6_neededInArms_59 ⟨(Nat.le_of_ble_eq_true rfl), (Nat.le_of_ble_eq_true rfl)⟩) hS (fun q _ h => hFc q h) hFc (fun r_12 u t H1 locs ht hvm hw hB hz1 hk1 hS => ?_)
          obtain ⟨hP1, hK1, hD1⟩ := hB
          rw [ht] at hP1
          have hK1 := va_K.moved hvm.symm hK1
          obtain ⟨hP, hD⟩ := va_join (wr := [(h0, .inr (6, [.ref nor])), (anext, .inl (aknext, 400, .inl agnext)), (abefore, .inl (akbefore, 400, .inl agbefore)), (aleave, .inl (akleave, 400, .inl agleave)), (afirstSlot, .inl (akfirstSlot, 400, .inl agfirstSlot)), (abuilds, .inl (akbuilds, 400, .inl agbuilds)), (pp, .inr (9, [.ref gco, .ref gar, .ref gki, .ref gfu])), (gar, .inr (0, [.ref akind, .ref anext, .ref abefore, .ref aleave, .ref afirstSlot, .ref abuilds, .int az])), (akind, .inl (akkind, 400, .inl agkind)), (gki, .inr (4, [.ref kw, .ref kf, .int kz])), (kw, .inl (k1, 20, .inr (.inl kgw))), (kf, .inl (k2, 20, .inl kgf))]) (w1 := [(gco, .inr (2, [.ref cop, .ref ca, .ref cb, .ref cplace, .ref cnext, .ref cneeded, .int cz, .int ct])), (cop, .inl (ckop, 3000, .inl cgop)), (ca, .inl (cka, 3000, .inl cga)), (cb, .inl (ckb, 3000, .inl cgb)), (cplace, .inl (ckplace, 3000, .inl cgplace)), (cnext, .inl (cknext, 3000, .inl cgnext)), (cneeded, .inl (ckneeded, 3000, .inl cgneeded))]) hP hD [1, 2, 3, 4, 5, 6, 7] [0, 8, 9, 10, 11, 12, 13, 14, 15, 16, 17, 18] rfl rfl (by decide) (by decide) hk1 hFc hP1 hD1
          have hK := (hK.sub (tys' := [(aknext, .int), (akbefore, .int), (akleave, .int), (akfirstSlot, .int), (akbuilds, .int), (akkind, .int), (k1, .long), (k2, .int)]) [6, 7, 8, 9, 10, 11, 12, 13] rfl).app hK1
          generalize H1 = H at hP hS ⊢
          have hP : va_P (dC, dI) vwCl [(h0, .inr (6, [.ref nor])), (anext, .inl (aknext, 400, .inl agnext)), (abefore, .inl (akbefore, 400, .inl agbefore)), (aleave, .inl (akleave, 400, .inl agleave)), (afirstSlot, .inl (akfirstSlot, 400, .inl agfirstSlot)), (abuilds, .inl (akbuilds, 400, .inl agbuilds)), (pp, .inr (9, [.ref gco, .ref gar, .ref gki, .ref gfu])), (gar, .inr (0, [.ref akind, .ref anext, .ref abefore, .ref aleave, .ref afirstSlot, .ref abuilds, .int az])), (akind, .inl (akkind, 400, .inl agkind)), (gki, .inr (4, [.ref kw, .ref kf, .int kz])), (kw, .inl (k1, 20, .inr (.inl kgw))), (kf, .inl (k2, 20, .inl kgf)), (gco, .inr (2, [.ref cop, .ref ca, .ref cb, .ref cplace, .ref cnext, .ref cneeded, .int cz, .int ct])), (cop, .inl (ckop, 3000, .inl cgop)), (ca, .inl (cka, 3000, .inl cga)), (cb, .inl (ckb, 3000, .inl cgb)), (cplace, .inl (ckplace, 3000, .inl cgplace)), (cnext, .inl (cknext, 3000, .inl cgnext)), (cneeded, .inl (ckneeded, 3000, .inl cgneeded))] H := hP
          have hD : va_D A [(h0, .inr (6, [.ref nor])), (anext, .inl (aknext, 400, .inl agnext)), (abefore, .inl (akbefore, 400, .inl agbefore)), (aleave, .inl (akleave, 400, .inl agleave)), (afirstSlot, .inl (akfirstSlot, 400, .inl agfirstSlot)), (abuilds, .inl (akbuilds, 400, .inl agbuilds)), (pp, .inr (9, [.ref gco, .ref gar, .ref gki, .ref gfu])), (gar, .inr (0, [.ref akind, .ref anext, .ref abefore, .ref aleave, .ref afirstSlot, .ref abuilds, .int az])), (akind, .inl (akkind, 400, .inl agkind)), (gki, .inr (4, [.ref kw, .ref kf, .int kz])), (kw, .inl (k1, 20, .inr (.inl kgw))), (kf, .inl (k2, 20, .inl kgf)), (gco, .inr (2, [.ref cop, .ref ca, .ref cb, .ref cplace, .ref cnext, .ref cneeded, .int cz, .int ct])), (cop, .inl (ckop, 3000, .inl cgop)), (ca, .inl (cka, 3000, .inl cga)), (cb, .inl (ckb, 3000, .inl cgb)), (cplace, .inl (ckplace, 3000, .inl cgplace)), (cnext, .inl (cknext, 3000, .inl cgnext)), (cneeded, .inl (ckneeded, 3000, .inl cgneeded))] := hD
          have hK : va_K (dC, dI) vwCl [(aknext, .int), (akbefore, .int), (akleave, .int), (akfirstSlot, .int), (akbuilds, .int), (akkind, .int), (k1, .long), (k2, .int), (ckop, .int), (cka, .int), (ckb, .int), (ckplace, .int), (cknext, .int), (ckneeded, .int)] s := hK
          have hw_r_12 := hw
          try dsimp only at hw_r_12
          have hq_13 := hw
          refine lv_iload hx hb dX6_neededInArms_62 (lv_at hl 0 rfl) ?_
          refine lv_iconst (v := (-1)) hx hb dX6_neededInArms_64 (by decide) ?_
          refine lv_ixor hx hb dX6_neededInArms_65 ?_
          refine lv_topi (fun x_14 ex_14 => ?_)
          refine lv_iand hx hb dX6_neededInArms_66 ?_
          refine lv_topi (fun x_15 ex_15 => ?_)
          refine lv_ior hx hb dX6_neededInArms_67 ?_
          refine lv_topi (fun x_16 ex_16 => ?_)
          refine lv_istore_n (lv' := [(3, .int x_16), (6, .int x_10), (5, .int i), (4, .int am), (0, .ref h0), (1, .ref pp), (2, .int fi)]) hx hb dX6_neededInArms_68 rfl hl (by decide) rfl (fun ls hl => ?_)
          refine lv_aload_n hx hb dX6_neededInArms_69 rfl (lv_at hl 5 rfl) ?_
          refine va_get (D := (dC, dI)) (ci := 9) (v := .ref gar) (C := RX9) (T := TX9) (N := 4) hx hb hA zin_X9 hown hK hP 6 rfl rfl 1 (by decide) (hA _ wi_313) (fun _ h9 => h9) rfl dX6_neededInArms_70 ?_
          refine va_get (D := (dC, dI)) (ci := 0) (v := .ref anext) (C := RX0) (T := TX0) (N := 7) hx hb hA zin_X0 hown hK hP 7 rfl rfl 1 (by decide) (hA _ wi_232) (fun _ h9 => h9) rfl dX6_neededInArms_73 ?_
          refine lv_iload hx hb dX6_neededInArms_76 (lv_at hl 3 rfl) ?_
          refine va_iald hx hb hK hP 1 0 rfl rfl (vp_in_iff.mpr ⟨by omega, by omega⟩) dX6_neededInArms_78 ?_
          refine lv_topi (fun x_17 ex_17 => ?_)
          have ix_17 : -1 ≤ x_17.toInt ∧ x_17.toInt < 400 := by rw [ex_17]; exact hagn _
          refine lv_istore (lv' := [(4, .int x_17), (3, .int x_16), (6, .int x_10), (5, .int i), (0, .ref h0), (1, .ref pp), (2, .int fi)]) hx hb dX6_neededInArms_79 hl (by decide) rfl (fun ls hl => ?_)
          obtain ⟨x_18, ex_18⟩ : ∃ y : Int32, y = i + Int32.ofInt 1 := ⟨_, rfl⟩
          refine lv_iinc (v := x_18) (lv' := [(5, .int x_18), (4, .int x_17), (3, .int x_16), (6, .int x_10), (0, .ref h0), (1, .ref pp), (2, .int fi)]) hx hb dX6_neededInArms_81 hl (k := 3) rfl (by rw [ex_18]) (by decide) rfl (fun ls hl => ?_)
          have ix_18 : x_18.toInt = i.toInt + 1 := by rw [ex_18]; exact zi_addc (by decide) (by omega) (by omega)
          refine lv_goto (tgt := 8) hx hb dX6_neededInArms_84 (by decide) ?_
          have qx_9 : x_9.toInt = (agfirstSlot (Int32.toNatClampNeg am)).toInt := by rw [ex_9]
          have hem : ∀ k, k < 32 → zbit x_10 k = (decide ((agfirstSlot (Int32.toNatClampNeg am)).toInt ≤ (k : Int)) && decide ((k : Int) < (agfirstSlot (Int32.toNatClampNeg am)).toInt + zfl (zst cgop cga cgb cgnext agkind agnext agbefore agleave agfirstSlot kgf fgf cz ct az kz) (agkind (Int32.toNatClampNeg am)))) := fun k hk => by
            rw [ex_10, ex_8, ex_7, zbit_fl (by omega) (by omega) (by omega) (by omega) hk, qx_9, hq_6]; rfl
          have hzn_19 : znl (zst cgop cga cgb cgnext agkind agnext agbefore agleave agfirstSlot kgf fgf cz ct az kz) cgneeded fi x_16 (Int32.toNatClampNeg x_18) x_17 := znl_st hznl (by omega) (by have := zn_nat (x := i) (by omega); omega) (by rw [ex_16, ex_15, ex_14]) (by rw [hq_13, ex_11]; rfl) hem ex_17 (by have := zn_nat (x := i) (by omega); have := zn_nat (x := x_18) (by omega); omega)
          have hsl_20 : zsl agnext agfirstSlot x_17 := by rw [ex_17]; exact hsl9.2.2
          exact ih x_16 x_17 x_18 _ _ _ (by omega) (by omega) (by omega) (by omega) (by omega) hzn_19 hsl_20 (hP.sub [0, 6, 12, 13, 14, 15, 16, 17, 18, 7, 8, 1, 2, 3, 4, 5, 9, 10, 11] rfl) (hD.sub [0, 6, 12, 13, 14, 15, 16, 17, 18, 7, 8, 1, 2, 3, 4, 5, 9, 10, 11] (by decide) rfl) hS (lv_sub hl [0, 1, 2, 4, 5, 6] rfl)
  have hzn_21 : znl (zst cgop cga cgb cgnext agkind agnext agbefore agleave agfirstSlot kgf fgf cz ct az kz) cgneeded fi 0 (Int32.toNatClampNeg 0) fi := znl_0 (by decide)
  exact loop_8 _ 0 fi 0 _ _ _ (Nat.le_refl _) (by have h9_0 : Int32.toInt 0 = 0 := (by decide); omega) (by have h9_0 : Int32.toInt 0 = 0 := (by decide); omega) (by have h9_0 : Int32.toInt 0 = 0 := (by decide); omega) (by have h9_0 : Int32.toInt 0 = 0 := (by decide); omega) hzn_21 hsl (hP.sub [0, 1, 2, 3, 4, 5, 6, 7, 8, 9, 10, 11, 12, 13, 14, 15, 16, 17, 18] rfl) (hD.sub [0, 1, 2, 3, 4, 5, 6, 7, 8, 9, 10, 11, 12, 13, 14, 15, 16, 17, 18] (by decide) rfl) hS (lv_sub hl [0, 1, 2, 3, 4, 5] rfl)

end
section
theorem wi_177 : Cond.fieldLink RX6 37 "ReuseHouse$Code" "op" "[I" ∈ zw := zw_in (List.mem_of_getElem? (i := 177) (by decide +kernel)) (by decide +kernel)
theorem wi_181 : Cond.fieldLink RX6 40 "ReuseHouse$Code" "a" "[I" ∈ zw := zw_in (List.mem_of_getElem? (i := 181) (by decide +kernel)) (by decide +kernel)
theorem wi_185 : Cond.fieldLink RX6 51 "ReuseHouse$Code" "b" "[I" ∈ zw := zw_in (List.mem_of_getElem? (i := 185) (by decide +kernel)) (by decide +kernel)
theorem wi_1050 : Cond.code yX6_neededInArms cX6_neededInArms 7 (some .int) ∈ zw := zw_in (List.mem_of_getElem? (i := 1050) (by decide +kernel)) (by decide +kernel)
theorem wi_1047 : Cond.methodLink RX6 54 yX6_neededInArms ∈ zw := zw_in (List.mem_of_getElem? (i := 1047) (by decide +kernel)) (by decide +kernel)
theorem wi_1049 : Cond.instanceMethod yX6_neededInArms ∈ zw := zw_in (List.mem_of_getElem? (i := 1049) (by decide +kernel)) (by decide +kernel)
theorem wi_37 : Cond.selects RX6 yX6_neededInArms yX6_neededInArms ∈ zw := zw_in (List.mem_of_getElem? (i := 37) (by decide +kernel)) (by decide +kernel)
theorem wi_138 : Cond.initialized RX6 ∈ zw := zw_in (List.mem_of_getElem? (i := 138) (by decide +kernel)) (by decide +kernel)
theorem dX6_neededAt_0 : decode cX6_neededAt 0 = .ok (.aload_n 1, 1) := by decide +kernel
theorem dX6_neededAt_1 : decode cX6_neededAt 1 = .ok (.getfield 15, 3) := by decide +kernel
theorem dX6_neededAt_4 : decode cX6_neededAt 4 = .ok (.astore_n 3, 1) := by decide +kernel
theorem dX6_neededAt_5 : decode cX6_neededAt 5 = .ok (.aload_n 3, 1) := by decide +kernel
theorem dX6_neededAt_6 : decode cX6_neededAt 6 = .ok (.iload_n 2, 1) := by decide +kernel
theorem dX6_neededAt_7 : decode cX6_neededAt 7 = .ok (.invokevirtual 47, 3) := by decide +kernel
theorem dX6_neededAt_10 : decode cX6_neededAt 10 = .ok (.istore 4, 2) := by decide +kernel
theorem dX6_neededAt_12 : decode cX6_neededAt 12 = .ok (.aload_n 3, 1) := by decide +kernel
theorem dX6_neededAt_13 : decode cX6_neededAt 13 = .ok (.getfield 37, 3) := by decide +kernel
theorem dX6_neededAt_16 : decode cX6_neededAt 16 = .ok (.iload_n 2, 1) := by decide +kernel
theorem dX6_neededAt_17 : decode cX6_neededAt 17 = .ok (.iaload, 1) := by decide +kernel
theorem dX6_neededAt_18 : decode cX6_neededAt 18 = .ok (.tableswitch 148 3 17 #[76, 148, 148, 148, 148, 148, 148, 148, 148, 88, 102, 116, 127, 116, 74], 74) := by decide +kernel
theorem dX6_neededAt_92 : decode cX6_neededAt 92 = .ok (.iconst 0, 1) := by decide +kernel
theorem dX6_neededAt_93 : decode cX6_neededAt 93 = .ok (.ireturn, 1) := by decide +kernel
theorem dX6_neededAt_94 : decode cX6_neededAt 94 = .ok (.iload 4, 2) := by decide +kernel
theorem dX6_neededAt_96 : decode cX6_neededAt 96 = .ok (.iconst 1, 1) := by decide +kernel
theorem dX6_neededAt_97 : decode cX6_neededAt 97 = .ok (.aload_n 3, 1) := by decide +kernel
theorem dX6_neededAt_98 : decode cX6_neededAt 98 = .ok (.getfield 40, 3) := by decide +kernel
theorem dX6_neededAt_101 : decode cX6_neededAt 101 = .ok (.iload_n 2, 1) := by decide +kernel
theorem dX6_neededAt_102 : decode cX6_neededAt 102 = .ok (.iaload, 1) := by decide +kernel
theorem dX6_neededAt_103 : decode cX6_neededAt 103 = .ok (.ishl, 1) := by decide +kernel
theorem dX6_neededAt_104 : decode cX6_neededAt 104 = .ok (.ior, 1) := by decide +kernel
theorem dX6_neededAt_105 : decode cX6_neededAt 105 = .ok (.ireturn, 1) := by decide +kernel
theorem dX6_neededAt_106 : decode cX6_neededAt 106 = .ok (.iload 4, 2) := by decide +kernel
theorem dX6_neededAt_108 : decode cX6_neededAt 108 = .ok (.iconst 1, 1) := by decide +kernel
theorem dX6_neededAt_109 : decode cX6_neededAt 109 = .ok (.aload_n 3, 1) := by decide +kernel
theorem dX6_neededAt_110 : decode cX6_neededAt 110 = .ok (.getfield 40, 3) := by decide +kernel
theorem dX6_neededAt_113 : decode cX6_neededAt 113 = .ok (.iload_n 2, 1) := by decide +kernel
theorem dX6_neededAt_114 : decode cX6_neededAt 114 = .ok (.iaload, 1) := by decide +kernel
theorem dX6_neededAt_115 : decode cX6_neededAt 115 = .ok (.ishl, 1) := by decide +kernel
theorem dX6_neededAt_116 : decode cX6_neededAt 116 = .ok (.iconst (-1), 1) := by decide +kernel
theorem dX6_neededAt_117 : decode cX6_neededAt 117 = .ok (.ixor, 1) := by decide +kernel
theorem dX6_neededAt_118 : decode cX6_neededAt 118 = .ok (.iand, 1) := by decide +kernel
theorem dX6_neededAt_119 : decode cX6_neededAt 119 = .ok (.ireturn, 1) := by decide +kernel
theorem dX6_neededAt_120 : decode cX6_neededAt 120 = .ok (.iload 4, 2) := by decide +kernel
theorem dX6_neededAt_122 : decode cX6_neededAt 122 = .ok (.aload_n 3, 1) := by decide +kernel
theorem dX6_neededAt_123 : decode cX6_neededAt 123 = .ok (.aload_n 3, 1) := by decide +kernel
theorem dX6_neededAt_124 : decode cX6_neededAt 124 = .ok (.getfield 40, 3) := by decide +kernel
theorem dX6_neededAt_127 : decode cX6_neededAt 127 = .ok (.iload_n 2, 1) := by decide +kernel
theorem dX6_neededAt_128 : decode cX6_neededAt 128 = .ok (.iaload, 1) := by decide +kernel
theorem dX6_neededAt_129 : decode cX6_neededAt 129 = .ok (.invokevirtual 47, 3) := by decide +kernel
theorem dX6_neededAt_132 : decode cX6_neededAt 132 = .ok (.ior, 1) := by decide +kernel
theorem dX6_neededAt_133 : decode cX6_neededAt 133 = .ok (.ireturn, 1) := by decide +kernel
theorem dX6_neededAt_134 : decode cX6_neededAt 134 = .ok (.aload_n 3, 1) := by decide +kernel
theorem dX6_neededAt_135 : decode cX6_neededAt 135 = .ok (.aload_n 3, 1) := by decide +kernel
theorem dX6_neededAt_136 : decode cX6_neededAt 136 = .ok (.getfield 40, 3) := by decide +kernel
theorem dX6_neededAt_139 : decode cX6_neededAt 139 = .ok (.iload_n 2, 1) := by decide +kernel
theorem dX6_neededAt_140 : decode cX6_neededAt 140 = .ok (.iaload, 1) := by decide +kernel
theorem dX6_neededAt_141 : decode cX6_neededAt 141 = .ok (.invokevirtual 47, 3) := by decide +kernel
theorem dX6_neededAt_144 : decode cX6_neededAt 144 = .ok (.ireturn, 1) := by decide +kernel
theorem dX6_neededAt_145 : decode cX6_neededAt 145 = .ok (.iconst 1, 1) := by decide +kernel
theorem dX6_neededAt_146 : decode cX6_neededAt 146 = .ok (.aload_n 3, 1) := by decide +kernel
theorem dX6_neededAt_147 : decode cX6_neededAt 147 = .ok (.getfield 40, 3) := by decide +kernel
theorem dX6_neededAt_150 : decode cX6_neededAt 150 = .ok (.iload_n 2, 1) := by decide +kernel
theorem dX6_neededAt_151 : decode cX6_neededAt 151 = .ok (.iaload, 1) := by decide +kernel
theorem dX6_neededAt_152 : decode cX6_neededAt 152 = .ok (.ishl, 1) := by decide +kernel
theorem dX6_neededAt_153 : decode cX6_neededAt 153 = .ok (.aload_n 0, 1) := by decide +kernel
theorem dX6_neededAt_154 : decode cX6_neededAt 154 = .ok (.aload_n 1, 1) := by decide +kernel
theorem dX6_neededAt_155 : decode cX6_neededAt 155 = .ok (.aload_n 3, 1) := by decide +kernel
theorem dX6_neededAt_156 : decode cX6_neededAt 156 = .ok (.getfield 51, 3) := by decide +kernel
theorem dX6_neededAt_159 : decode cX6_neededAt 159 = .ok (.iload_n 2, 1) := by decide +kernel
theorem dX6_neededAt_160 : decode cX6_neededAt 160 = .ok (.iaload, 1) := by decide +kernel
theorem dX6_neededAt_161 : decode cX6_neededAt 161 = .ok (.invokevirtual 54, 3) := by decide +kernel
theorem dX6_neededAt_164 : decode cX6_neededAt 164 = .ok (.ior, 1) := by decide +kernel
theorem dX6_neededAt_165 : decode cX6_neededAt 165 = .ok (.ireturn, 1) := by decide +kernel
theorem dX6_neededAt_166 : decode cX6_neededAt 166 = .ok (.iload 4, 2) := by decide +kernel
theorem dX6_neededAt_168 : decode cX6_neededAt 168 = .ok (.ireturn, 1) := by decide +kernel
set_option maxHeartbeats 4000000 in
set_option maxRecDepth 100000 in
theorem c_X6_neededAt_x (l : Launch) (dC : Nat → ClassId) (dI : Nat → Nat → Nat) (aK aV : Nat → Nat) (h0 : Nat) (nor : Nat) (pp : Nat) (gco : Nat) (gar : Nat) (gki : Nat) (gfu : Nat) (cop : Nat) (ca : Nat) (cb : Nat) (cplace : Nat) (cnext : Nat) (cneeded : Nat) (ckop : ClassId) (cka : ClassId) (ckb : ClassId) (ckplace : ClassId) (cknext : ClassId) (ckneeded : ClassId) (cz : Int32) (ct : Int32) (cgop : Nat → Int32) (cga : Nat → Int32) (cgb : Nat → Int32) (cgplace : Nat → Int32) (cgnext : Nat → Int32) (cgneeded : Nat → Int32) (akind : Nat) (anext : Nat) (abefore : Nat) (aleave : Nat) (afirstSlot : Nat) (abuilds : Nat) (akkind : ClassId) (aknext : ClassId) (akbefore : ClassId) (akleave : ClassId) (akfirstSlot : ClassId) (akbuilds : ClassId) (az : Int32) (agkind : Nat → Int32) (agnext : Nat → Int32) (agbefore : Nat → Int32) (agleave : Nat → Int32) (agfirstSlot : Nat → Int32) (agbuilds : Nat → Int32) (kw : Nat) (kf : Nat) (k1 : ClassId) (k2 : ClassId) (kz : Int32) (kgw : Nat → Int64) (kgf : Nat → Int32) (fgf : Nat → Int32) (row : Int32) (sz : Nat) (hcn : zx 3000 cgnext) (hk0 : 0 ≤ kz.toInt) (hk1 : kz.toInt ≤ 20) (hkf : zx 4 kgf) (hagn : zx 400 agnext) (hagb : zx 3000 agbefore) (hags : zx 25 agfirstSlot) (hr0 : 0 ≤ row.toInt) (hr1 : row.toInt < 3000) (hqa : ((cgop (Int32.toNatClampNeg row)).toInt = 3 ∨ (cgop (Int32.toNatClampNeg row)).toInt = 12 ∨ (cgop (Int32.toNatClampNeg row)).toInt = 15) → 0 ≤ (cga (Int32.toNatClampNeg row)).toInt ∧ (cga (Int32.toNatClampNeg row)).toInt < 32) (hqt : ((cgop (Int32.toNatClampNeg row)).toInt = 13 ∨ (cgop (Int32.toNatClampNeg row)).toInt = 14 ∨ (cgop (Int32.toNatClampNeg row)).toInt = 16) → -1 ≤ (cga (Int32.toNatClampNeg row)).toInt ∧ (cga (Int32.toNatClampNeg row)).toInt < 3000) (hqb : (cgop (Int32.toNatClampNeg row)).toInt = 15 → -1 ≤ (cgb (Int32.toNatClampNeg row)).toInt ∧ (cgb (Int32.toNatClampNeg row)).toInt < 400) (hqs : (cgop (Int32.toNatClampNeg row)).toInt = 15 → zsl agnext agfirstSlot (cgb (Int32.toNatClampNeg row))) : Met l yX6_neededAt (Cond.code yX6_neededAt cX6_neededAt 5 (some .int) :: zw) ({ frames := 18, cells := 0, slots := 0, locals := 700 }) (va_Pc [.ref h0, .ref pp, .int row] (zP dC dI aK aV sz [(ckop, .int), (cka, .int), (ckb, .int), (ckplace, .int), (cknext, .int), (ckneeded, .int), (akkind, .int), (aknext, .int), (akbefore, .int), (akleave, .int), (akfirstSlot, .int), (akbuilds, .int), (k1, .long), (k2, .int)] [(h0, .inr (6, [.ref nor])), (pp, .inr (9, [.ref gco, .ref gar, .ref gki, .ref gfu])), (gco, .inr (2, [.ref cop, .ref ca, .ref cb, .ref cplace, .ref cnext, .ref cneeded, .int cz, .int ct])), (cop, .inl (ckop, 3000, .inl cgop)), (ca, .inl (cka, 3000, .inl cga)), (cb, .inl (ckb, 3000, .inl cgb)), (cplace, .inl (ckplace, 3000, .inl cgplace)), (cnext, .inl (cknext, 3000, .inl cgnext)), (cneeded, .inl (ckneeded, 3000, .inl cgneeded)), (gar, .inr (0, [.ref akind, .ref anext, .ref abefore, .ref aleave, .ref afirstSlot, .ref abuilds, .int az])), (akind, .inl (akkind, 400, .inl agkind)), (anext, .inl (aknext, 400, .inl agnext)), (abefore, .inl (akbefore, 400, .inl agbefore)), (aleave, .inl (akleave, 400, .inl agleave)), (afirstSlot, .inl (akfirstSlot, 400, .inl agfirstSlot)), (abuilds, .inl (akbuilds, 400, .inl agbuilds)), (gki, .inr (4, [.ref kw, .ref kf, .int kz])), (kw, .inl (k1, 20, .inr (.inl kgw))), (kf, .inl (k2, 20, .inl kgf))])) (va_Qi (fun (r : Int32) (u : Unit) => (∀ k, k < 32 → zbit r k = znb (zst cgop cga cgb cgnext agkind agnext agbefore agleave agfirstSlot kgf fgf cz ct az kz) cgneeded (Int32.toNatClampNeg row) (zbh (zst cgop cga cgb cgnext agkind agnext agbefore agleave agfirstSlot kgf fgf cz ct az kz) cgneeded (Int32.toNatClampNeg row)) k (Int32.toNatClampNeg (cgop (Int32.toNatClampNeg row))))) (fun u => zQ dC dI (va_A [(h0, .inr (6, [.ref nor])), (pp, .inr (9, [.ref gco, .ref gar, .ref gki, .ref gfu])), (gco, .inr (2, [.ref cop, .ref ca, .ref cb, .ref cplace, .ref cnext, .ref cneeded, .int cz, .int ct])), (cop, .inl (ckop, 3000, .inl cgop)), (ca, .inl (cka, 3000, .inl cga)), (cb, .inl (ckb, 3000, .inl cgb)), (cplace, .inl (ckplace, 3000, .inl cgplace)), (cnext, .inl (cknext, 3000, .inl cgnext)), (cneeded, .inl (ckneeded, 3000, .inl cgneeded)), (gar, .inr (0, [.ref akind, .ref anext, .ref abefore, .ref aleave, .ref afirstSlot, .ref abuilds, .int az])), (akind, .inl (akkind, 400, .inl agkind)), (anext, .inl (aknext, 400, .inl agnext)), (abefore, .inl (akbefore, 400, .inl agbefore)), (aleave, .inl (akleave, 400, .inl agleave)), (afirstSlot, .inl (akfirstSlot, 400, .inl agfirstSlot)), (abuilds, .inl (akbuilds, 400, .inl agbuilds)), (gki, .inr (4, [.ref kw, .ref kf, .int kz])), (kw, .inl (k1, 20, .inr (.inl kgw))), (kf, .inl (k2, 20, .inl kgf))] sz) [(ckop, .int), (cka, .int), (ckb, .int), (ckplace, .int), (cknext, .int), (ckneeded, .int), (akkind, .int), (aknext, .int), (akbefore, .int), (akleave, .int), (akfirstSlot, .int), (akbuilds, .int), (k1, .long), (k2, .int)] [(h0, .inr (6, [.ref nor])), (pp, .inr (9, [.ref gco, .ref gar, .ref gki, .ref gfu])), (gco, .inr (2, [.ref cop, .ref ca, .ref cb, .ref cplace, .ref cnext, .ref cneeded, .int cz, .int ct])), (cop, .inl (ckop, 3000, .inl cgop)), (ca, .inl (cka, 3000, .inl cga)), (cb, .inl (ckb, 3000, .inl cgb)), (cplace, .inl (ckplace, 3000, .inl cgplace)), (cnext, .inl (cknext, 3000, .inl cgnext)), (cneeded, .inl (ckneeded, 3000, .inl cgneeded)), (gar, .inr (0, [.ref akind, .ref anext, .ref abefore, .ref aleave, .ref afirstSlot, .ref abuilds, .int az])), (akind, .inl (akkind, 400, .inl agkind)), (anext, .inl (aknext, 400, .inl agnext)), (abefore, .inl (akbefore, 400, .inl agbefore)), (aleave, .inl (akleave, 400, .inl agleave)), (afirstSlot, .inl (akfirstSlot, 400, .inl agfirstSlot)), (abuilds, .inl (akbuilds, 400, .inl agbuilds)), (gki, .inr (4, [.ref kw, .ref kf, .int kz])), (kw, .inl (k1, 20, .inr (.inl kgw))), (kf, .inl (k2, 20, .inl kgf))]) (va_A [(h0, .inr (6, [.ref nor])), (pp, .inr (9, [.ref gco, .ref gar, .ref gki, .ref gfu])), (gco, .inr (2, [.ref cop, .ref ca, .ref cb, .ref cplace, .ref cnext, .ref cneeded, .int cz, .int ct])), (cop, .inl (ckop, 3000, .inl cgop)), (ca, .inl (cka, 3000, .inl cga)), (cb, .inl (ckb, 3000, .inl cgb)), (cplace, .inl (ckplace, 3000, .inl cgplace)), (cnext, .inl (cknext, 3000, .inl cgnext)), (cneeded, .inl (ckneeded, 3000, .inl cgneeded)), (gar, .inr (0, [.ref akind, .ref anext, .ref abefore, .ref aleave, .ref afirstSlot, .ref abuilds, .int az])), (akind, .inl (akkind, 400, .inl agkind)), (anext, .inl (aknext, 400, .inl agnext)), (abefore, .inl (akbefore, 400, .inl agbefore)), (aleave, .inl (akleave, 400, .inl agleave)), (afirstSlot, .inl (akfirstSlot, 400, .inl agfirstSlot)), (abuilds, .inl (akbuilds, 400, .inl agbuilds)), (gki, .inr (4, [.ref kw, .ref kf, .int kz])), (kw, .inl (k1, 20, .inr (.inl kgw))), (kf, .inl (k2, 20, .inl kgf))] sz)) 0 0 (va_A [(h0, .inr (6, [.ref nor])), (pp, .inr (9, [.ref gco, .ref gar, .ref gki, .ref gfu])), (gco, .inr (2, [.ref cop, .ref ca, .ref cb, .ref cplace, .ref cnext, .ref cneeded, .int cz, .int ct])), (cop, .inl (ckop, 3000, .inl cgop)), (ca, .inl (cka, 3000, .inl cga)), (cb, .inl (ckb, 3000, .inl cgb)), (cplace, .inl (ckplace, 3000, .inl cgplace)), (cnext, .inl (cknext, 3000, .inl cgnext)), (cneeded, .inl (ckneeded, 3000, .inl cgneeded)), (gar, .inr (0, [.ref akind, .ref anext, .ref abefore, .ref aleave, .ref afirstSlot, .ref abuilds, .int az])), (akind, .inl (akkind, 400, .inl agkind)), (anext, .inl (aknext, 400, .inl agnext)), (abefore, .inl (akbefore, 400, .inl agbefore)), (aleave, .inl (akleave, 400, .inl agleave)), (afirstSlot, .inl (akfirstSlot, 400, .inl agfirstSlot)), (abuilds, .inl (akbuilds, 400, .inl agbuilds)), (gki, .inr (4, [.ref kw, .ref kf, .int kz])), (kw, .inl (k1, 20, .inr (.inl kgw))), (kf, .inl (k2, 20, .inl kgf))] sz) := by
  refine Met.ofW (cc := cX6_neededAt) (maxL := 5) (ret := (some .int)) (by decide) rfl ?_
  intro p e s m args below meth c s₁ B hml hv
  obtain ⟨rfl, hsz, hP, hK, hD0, hN, hT⟩ := hv
  have hx := B.exec
  have hb := B.bytes
  have hr := B.returns
  have hts := atoms_spec (ws := Cond.code yX6_neededAt cX6_neededAt 5 (some .int) :: zw) B.pre
  have hA : ∀ w ∈ zw, w.before _ s = true := fun w h => hts w (List.mem_cons_of_mem _ h)
  have hown : s.vm.findClass RX6 = some m.cls := findClass_of_methodNamed B.named
  have hlocks := B.notSynchronized
  subst hsz
  have hD := hD0.self (sz := s.heap.size)
  generalize hAe : va_A [(h0, .inr (6, [.ref nor])), (pp, .inr (9, [.ref gco, .ref gar, .ref gki, .ref gfu])), (gco, .inr (2, [.ref cop, .ref ca, .ref cb, .ref cplace, .ref cnext, .ref cneeded, .int cz, .int ct])), (cop, .inl (ckop, 3000, .inl cgop)), (ca, .inl (cka, 3000, .inl cga)), (cb, .inl (ckb, 3000, .inl cgb)), (cplace, .inl (ckplace, 3000, .inl cgplace)), (cnext, .inl (cknext, 3000, .inl cgnext)), (cneeded, .inl (ckneeded, 3000, .inl cgneeded)), (gar, .inr (0, [.ref akind, .ref anext, .ref abefore, .ref aleave, .ref afirstSlot, .ref abuilds, .int az])), (akind, .inl (akkind, 400, .inl agkind)), (anext, .inl (aknext, 400, .inl agnext)), (abefore, .inl (akbefore, 400, .inl agbefore)), (aleave, .inl (akleave, 400, .inl agleave)), (afirstSlot, .inl (akfirstSlot, 400, .inl agfirstSlot)), (abuilds, .inl (akbuilds, 400, .inl agbuilds)), (gki, .inr (4, [.ref kw, .ref kf, .int kz])), (kw, .inl (k1, 20, .inr (.inl kgw))), (kf, .inl (k2, 20, .inl kgf))] s.heap.size = A at hD hT ⊢
  have hAA : ∀ q : Nat, s.heap.size ≤ q → A q := fun q h => by rw [← hAe]; exact Or.inr h
  have hS : va_S A s.heap s.heap [] := va_S.rf
  have hl := lv_entry ([.ref h0, .ref pp, .int row]) (n := 5) (Nat.le_of_ble_eq_true rfl)
  rw [lg_entry_eq]
  generalize (lg_sl ([.ref h0, .ref pp, .int row]) ++ List.replicate (5 - (lg_sl ([.ref h0, .ref pp, .int row])).length) Slot.unset).toArray = ls at hl ⊢
  have hl : lv_has ls 5 [(0, .ref h0), (1, .ref pp), (2, .int row)] := hl
  refine lv_aload_n hx hb dX6_neededAt_0 rfl (lv_at hl 1 rfl) ?_
  refine va_get (D := (dC, dI)) (ci := 9) (v := .ref gco) (C := RX9) (T := TX9) (N := 4) hx hb hA zin_X9 hown hK hP 1 rfl rfl 0 (by decide) (hA _ wi_310) (fun _ h9 => h9) rfl dX6_neededAt_1 ?_
  refine lv_astore_n (lv' := [(3, .ref gco), (0, .ref h0), (1, .ref pp), (2, .int row)]) hx hb dX6_neededAt_4 rfl hl (by decide) rfl (fun ls hl => ?_)
  refine lv_aload_n hx hb dX6_neededAt_5 rfl (lv_at hl 0 rfl) ?_
  refine lv_iload_n hx hb dX6_neededAt_6 rfl (lv_at hl 3 rfl) ?_
  have hPc := hP.sub (ws' := [(gco, .inr (2, [.ref cop, .ref ca, .ref cb, .ref cplace, .ref cnext, .ref cneeded, .int cz, .int ct])), (cop, .inl (ckop, 3000, .inl cgop)), (ca, .inl (cka, 3000, .inl cga)), (cb, .inl (ckb, 3000, .inl cgb)), (cplace, .inl (ckplace, 3000, .inl cgplace)), (cnext, .inl (cknext, 3000, .inl cgnext)), (cneeded, .inl (ckneeded, 3000, .inl cgneeded))]) [2, 3, 4, 5, 6, 7, 8] rfl
  have hDc := hD.sub (ws' := [(gco, .inr (2, [.ref cop, .ref ca, .ref cb, .ref cplace, .ref cnext, .ref cneeded, .int cz, .int ct])), (cop, .inl (ckop, 3000, .inl cgop)), (ca, .inl (cka, 3000, .inl cga)), (cb, .inl (ckb, 3000, .inl cgb)), (cplace, .inl (ckplace, 3000, .inl cgplace)), (cnext, .inl (cknext, 3000, .inl cgnext)), (cneeded, .inl (ckneeded, 3000, .inl cgneeded))]) [2, 3, 4, 5, 6, 7, 8] (by decide) rfl
  have hKc := hK.sub (tys' := [(ckop, .int), (cka, .int), (ckb, .int), (ckplace, .int), (cknext, .int), (ckneeded, .int)]) [0, 1, 2, 3, 4, 5] rfl
  have hFc := va_free (wc := [(gco, .inr (2, [.ref cop, .ref ca, .ref cb, .ref cplace, .ref cnext, .ref cneeded, .int cz, .int ct])), (cop, .inl (ckop, 3000, .inl cgop)), (ca, .inl (cka, 3000, .inl cga)), (cb, .inl (ckb, 3000, .inl cgb)), (cplace, .inl (ckplace, 3000, .inl cgplace)), (cnext, .inl (cknext, 3000, .inl cgnext)), (cneeded, .inl (ckneeded, 3000, .inl cgneeded))]) hD hS hAA [2, 3, 4, 5, 6, 7, 8] rfl
  refine va_calli (va_runV (As := [.int row]) (rest := []) ⟨hx, hb, hml, hown, hA⟩ (c_X2_neededBehind_x l dC dI aK aV gco cop ca cb cplace cnext cneeded ckop cka ckb ckplace cknext ckneeded cz ct cgop cga cgb cgplace cgnext cgneeded row s.heap.size hcn (by omega) (by omega)) (cwV 1 hA (zw_V wi_1043 wi_1044 wi_1045 wi_132 (zw_good wi_1046)) rfl rfl rfl (by decide +kernel) ⟨(Nat.le_of_ble_eq_true rfl), (Nat.le_of_ble_eq_true rfl)⟩) ⟨zP_blind, va_recv hKc hPc (ci := 2) (q0 := 0) rfl rfl, zz_pre hKc hPc hDc hN hT hS hFc⟩ rfl rfl hl.1 rfl (lv_room (Nat.le_of_ble_eq_true rfl)) dX6_neededAt_7 ⟨(Nat.le_of_ble_eq_true rfl), (Nat.le_of_ble_eq_true rfl)⟩) hS (fun q _ h => hFc q h) hFc (fun r_1 u t H1 locs ht hvm hw hB hz1 hk1 hS => ?_)
  obtain ⟨hP1, hK1, hD1⟩ := hB
  rw [ht] at hP1
  have hK1 := va_K.moved hvm.symm hK1
  obtain ⟨hP, hD⟩ := va_join (wr := [(h0, .inr (6, [.ref nor])), (pp, .inr (9, [.ref gco, .ref gar, .ref gki, .ref gfu])), (gar, .inr (0, [.ref akind, .ref anext, .ref abefore, .ref aleave, .ref afirstSlot, .ref abuilds, .int az])), (akind, .inl (akkind, 400, .inl agkind)), (anext, .inl (aknext, 400, .inl agnext)), (abefore, .inl (akbefore, 400, .inl agbefore)), (aleave, .inl (akleave, 400, .inl agleave)), (afirstSlot, .inl (akfirstSlot, 400, .inl agfirstSlot)), (abuilds, .inl (akbuilds, 400, .inl agbuilds)), (gki, .inr (4, [.ref kw, .ref kf, .int kz])), (kw, .inl (k1, 20, .inr (.inl kgw))), (kf, .inl (k2, 20, .inl kgf))]) (w1 := [(gco, .inr (2, [.ref cop, .ref ca, .ref cb, .ref cplace, .ref cnext, .ref cneeded, .int cz, .int ct])), (cop, .inl (ckop, 3000, .inl cgop)), (ca, .inl (cka, 3000, .inl cga)), (cb, .inl (ckb, 3000, .inl cgb)), (cplace, .inl (ckplace, 3000, .inl cgplace)), (cnext, .inl (cknext, 3000, .inl cgnext)), (cneeded, .inl (ckneeded, 3000, .inl cgneeded))]) hP hD [2, 3, 4, 5, 6, 7, 8] [0, 1, 9, 10, 11, 12, 13, 14, 15, 16, 17, 18] rfl rfl (by decide) (by decide) hk1 hFc hP1 hD1
  have hK := (hK.sub (tys' := [(akkind, .int), (aknext, .int), (akbefore, .int), (akleave, .int), (akfirstSlot, .int), (akbuilds, .int), (k1, .long), (k2, .int)]) [6, 7, 8, 9, 10, 11, 12, 13] rfl).app hK1
  generalize H1 = H at hP hS ⊢
  have hP : va_P (dC, dI) vwCl [(h0, .inr (6, [.ref nor])), (pp, .inr (9, [.ref gco, .ref gar, .ref gki, .ref gfu])), (gar, .inr (0, [.ref akind, .ref anext, .ref abefore, .ref aleave, .ref afirstSlot, .ref abuilds, .int az])), (akind, .inl (akkind, 400, .inl agkind)), (anext, .inl (aknext, 400, .inl agnext)), (abefore, .inl (akbefore, 400, .inl agbefore)), (aleave, .inl (akleave, 400, .inl agleave)), (afirstSlot, .inl (akfirstSlot, 400, .inl agfirstSlot)), (abuilds, .inl (akbuilds, 400, .inl agbuilds)), (gki, .inr (4, [.ref kw, .ref kf, .int kz])), (kw, .inl (k1, 20, .inr (.inl kgw))), (kf, .inl (k2, 20, .inl kgf)), (gco, .inr (2, [.ref cop, .ref ca, .ref cb, .ref cplace, .ref cnext, .ref cneeded, .int cz, .int ct])), (cop, .inl (ckop, 3000, .inl cgop)), (ca, .inl (cka, 3000, .inl cga)), (cb, .inl (ckb, 3000, .inl cgb)), (cplace, .inl (ckplace, 3000, .inl cgplace)), (cnext, .inl (cknext, 3000, .inl cgnext)), (cneeded, .inl (ckneeded, 3000, .inl cgneeded))] H := hP
  have hD : va_D A [(h0, .inr (6, [.ref nor])), (pp, .inr (9, [.ref gco, .ref gar, .ref gki, .ref gfu])), (gar, .inr (0, [.ref akind, .ref anext, .ref abefore, .ref aleave, .ref afirstSlot, .ref abuilds, .int az])), (akind, .inl (akkind, 400, .inl agkind)), (anext, .inl (aknext, 400, .inl agnext)), (abefore, .inl (akbefore, 400, .inl agbefore)), (aleave, .inl (akleave, 400, .inl agleave)), (afirstSlot, .inl (akfirstSlot, 400, .inl agfirstSlot)), (abuilds, .inl (akbuilds, 400, .inl agbuilds)), (gki, .inr (4, [.ref kw, .ref kf, .int kz])), (kw, .inl (k1, 20, .inr (.inl kgw))), (kf, .inl (k2, 20, .inl kgf)), (gco, .inr (2, [.ref cop, .ref ca, .ref cb, .ref cplace, .ref cnext, .ref cneeded, .int cz, .int ct])), (cop, .inl (ckop, 3000, .inl cgop)), (ca, .inl (cka, 3000, .inl cga)), (cb, .inl (ckb, 3000, .inl cgb)), (cplace, .inl (ckplace, 3000, .inl cgplace)), (cnext, .inl (cknext, 3000, .inl cgnext)), (cneeded, .inl (ckneeded, 3000, .inl cgneeded))] := hD
  have hK : va_K (dC, dI) vwCl [(akkind, .int), (aknext, .int), (akbefore, .int), (akleave, .int), (akfirstSlot, .int), (akbuilds, .int), (k1, .long), (k2, .int), (ckop, .int), (cka, .int), (ckb, .int), (ckplace, .int), (cknext, .int), (ckneeded, .int)] s := hK
  have hw_r_1 := hw
  try dsimp only at hw_r_1
  have hq_2 := hw
  have hB : zbh (zst cgop cga cgb cgnext agkind agnext agbefore agleave agfirstSlot kgf fgf cz ct az kz) cgneeded (Int32.toNatClampNeg row) = r_1 := by rw [← zbh_be (by omega)]; exact hq_2.symm
  refine lv_istore (lv' := [(4, .int r_1), (3, .ref gco), (0, .ref h0), (1, .ref pp), (2, .int row)]) hx hb dX6_neededAt_10 hl (by decide) rfl (fun ls hl => ?_)
  refine lv_aload_n hx hb dX6_neededAt_12 rfl (lv_at hl 1 rfl) ?_
  refine va_get (D := (dC, dI)) (ci := 2) (v := .ref cop) (C := RX2) (T := TX2) (N := 8) hx hb hA zin_X2 hown hK hP 12 rfl rfl 0 (by decide) (hA _ wi_177) (fun _ h9 => h9) rfl dX6_neededAt_13 ?_
  refine lv_iload_n hx hb dX6_neededAt_16 rfl (lv_at hl 4 rfl) ?_
  refine va_iald hx hb hK hP 13 8 rfl rfl (vp_in_iff.mpr ⟨by omega, by omega⟩) dX6_neededAt_17 ?_
  refine lv_topi (fun x_3 ex_3 => ?_)
  have ix_3 : x_3.toInt = (cgop (Int32.toNatClampNeg row)).toInt := by rw [ex_3]
  by_cases hk_4 : x_3.toInt = 3
  · refine lv_tableIn (off := 76) (tgt := 94) hx hb dX6_neededAt_18 (by omega) (by omega) (by rw [hk_4]; rfl) (by decide) ?_
    refine lv_iload hx hb dX6_neededAt_94 (lv_at hl 0 rfl) ?_
    refine lv_iconst (v := 1) hx hb dX6_neededAt_96 (by decide) ?_
    refine lv_aload_n hx hb dX6_neededAt_97 rfl (lv_at hl 1 rfl) ?_
    refine va_get (D := (dC, dI)) (ci := 2) (v := .ref ca) (C := RX2) (T := TX2) (N := 8) hx hb hA zin_X2 hown hK hP 12 rfl rfl 1 (by decide) (hA _ wi_181) (fun _ h9 => h9) rfl dX6_neededAt_98 ?_
    refine lv_iload_n hx hb dX6_neededAt_101 rfl (lv_at hl 4 rfl) ?_
    refine va_iald hx hb hK hP 14 9 rfl rfl (vp_in_iff.mpr ⟨by omega, by omega⟩) dX6_neededAt_102 ?_
    refine lv_topi (fun x_5 ex_5 => ?_)
    have ix_5 : x_5.toInt = (cga (Int32.toNatClampNeg row)).toInt := by rw [ex_5]
    refine lv_ishl hx hb dX6_neededAt_103 ?_
    refine lv_topi (fun x_6 ex_6 => ?_)
    refine lv_ior hx hb dX6_neededAt_104 ?_
    refine lv_topi (fun x_7 ex_7 => ?_)
    have hP9 := hP.sub (ws' := [(h0, .inr (6, [.ref nor])), (pp, .inr (9, [.ref gco, .ref gar, .ref gki, .ref gfu])), (gco, .inr (2, [.ref cop, .ref ca, .ref cb, .ref cplace, .ref cnext, .ref cneeded, .int cz, .int ct])), (cop, .inl (ckop, 3000, .inl cgop)), (ca, .inl (cka, 3000, .inl cga)), (cb, .inl (ckb, 3000, .inl cgb)), (cplace, .inl (ckplace, 3000, .inl cgplace)), (cnext, .inl (cknext, 3000, .inl cgnext)), (cneeded, .inl (ckneeded, 3000, .inl cgneeded)), (gar, .inr (0, [.ref akind, .ref anext, .ref abefore, .ref aleave, .ref afirstSlot, .ref abuilds, .int az])), (akind, .inl (akkind, 400, .inl agkind)), (anext, .inl (aknext, 400, .inl agnext)), (abefore, .inl (akbefore, 400, .inl agbefore)), (aleave, .inl (akleave, 400, .inl agleave)), (afirstSlot, .inl (akfirstSlot, 400, .inl agfirstSlot)), (abuilds, .inl (akbuilds, 400, .inl agbuilds)), (gki, .inr (4, [.ref kw, .ref kf, .int kz])), (kw, .inl (k1, 20, .inr (.inl kgw))), (kf, .inl (k2, 20, .inl kgf))]) [0, 1, 12, 13, 14, 15, 16, 17, 18, 2, 3, 4, 5, 6, 7, 8, 9, 10, 11] rfl
    have hD9 := hD.sub (ws' := [(h0, .inr (6, [.ref nor])), (pp, .inr (9, [.ref gco, .ref gar, .ref gki, .ref gfu])), (gco, .inr (2, [.ref cop, .ref ca, .ref cb, .ref cplace, .ref cnext, .ref cneeded, .int cz, .int ct])), (cop, .inl (ckop, 3000, .inl cgop)), (ca, .inl (cka, 3000, .inl cga)), (cb, .inl (ckb, 3000, .inl cgb)), (cplace, .inl (ckplace, 3000, .inl cgplace)), (cnext, .inl (cknext, 3000, .inl cgnext)), (cneeded, .inl (ckneeded, 3000, .inl cgneeded)), (gar, .inr (0, [.ref akind, .ref anext, .ref abefore, .ref aleave, .ref afirstSlot, .ref abuilds, .int az])), (akind, .inl (akkind, 400, .inl agkind)), (anext, .inl (aknext, 400, .inl agnext)), (abefore, .inl (akbefore, 400, .inl agbefore)), (aleave, .inl (akleave, 400, .inl agleave)), (afirstSlot, .inl (akfirstSlot, 400, .inl agfirstSlot)), (abuilds, .inl (akbuilds, 400, .inl agbuilds)), (gki, .inr (4, [.ref kw, .ref kf, .int kz])), (kw, .inl (k1, 20, .inr (.inl kgw))), (kf, .inl (k2, 20, .inl kgf))]) [0, 1, 12, 13, 14, 15, 16, 17, 18, 2, 3, 4, 5, 6, 7, 8, 9, 10, 11] (by decide) rfl
    have hK9 := hK.sub (tys' := [(ckop, .int), (cka, .int), (ckb, .int), (ckplace, .int), (cknext, .int), (ckneeded, .int), (akkind, .int), (aknext, .int), (akbefore, .int), (akleave, .int), (akfirstSlot, .int), (akbuilds, .int), (k1, .long), (k2, .int)]) [8, 9, 10, 11, 12, 13, 0, 1, 2, 3, 4, 5, 6, 7] rfl
    exact W.iret (v := x_7) hx hb hr (fun t ht hW => ⟨⟨x_7, (), rfl, (fun k hk => by rw [zn_lit (x := cgop (Int32.toNatClampNeg row)) (n := 3) (by omega), hB]; show zbit x_7 k = (zbit r_1 k || k == Int32.toNatClampNeg (cga (Int32.toNatClampNeg row))); rw [ex_7, ex_6, zbit_or, zbit_sh (by omega) (by omega) hk, ex_5]), by rw [ht]; exact hP9, va_K.moved hW.alike hK9, hD9⟩, hS.F ht⟩) hS.2.2 dX6_neededAt_105
  by_cases hk_8 : x_3.toInt = 12
  · refine lv_tableIn (off := 88) (tgt := 106) hx hb dX6_neededAt_18 (by omega) (by omega) (by rw [hk_8]; rfl) (by decide) ?_
    refine lv_iload hx hb dX6_neededAt_106 (lv_at hl 0 rfl) ?_
    refine lv_iconst (v := 1) hx hb dX6_neededAt_108 (by decide) ?_
    refine lv_aload_n hx hb dX6_neededAt_109 rfl (lv_at hl 1 rfl) ?_
    refine va_get (D := (dC, dI)) (ci := 2) (v := .ref ca) (C := RX2) (T := TX2) (N := 8) hx hb hA zin_X2 hown hK hP 12 rfl rfl 1 (by decide) (hA _ wi_181) (fun _ h9 => h9) rfl dX6_neededAt_110 ?_
    refine lv_iload_n hx hb dX6_neededAt_113 rfl (lv_at hl 4 rfl) ?_
    refine va_iald hx hb hK hP 14 9 rfl rfl (vp_in_iff.mpr ⟨by omega, by omega⟩) dX6_neededAt_114 ?_
    refine lv_topi (fun x_9 ex_9 => ?_)
    have ix_9 : x_9.toInt = (cga (Int32.toNatClampNeg row)).toInt := by rw [ex_9]
    refine lv_ishl hx hb dX6_neededAt_115 ?_
    refine lv_topi (fun x_10 ex_10 => ?_)
    refine lv_iconst (v := (-1)) hx hb dX6_neededAt_116 (by decide) ?_
    refine lv_ixor hx hb dX6_neededAt_117 ?_
    refine lv_topi (fun x_11 ex_11 => ?_)
    refine lv_iand hx hb dX6_neededAt_118 ?_
    refine lv_topi (fun x_12 ex_12 => ?_)
    have hP9 := hP.sub (ws' := [(h0, .inr (6, [.ref nor])), (pp, .inr (9, [.ref gco, .ref gar, .ref gki, .ref gfu])), (gco, .inr (2, [.ref cop, .ref ca, .ref cb, .ref cplace, .ref cnext, .ref cneeded, .int cz, .int ct])), (cop, .inl (ckop, 3000, .inl cgop)), (ca, .inl (cka, 3000, .inl cga)), (cb, .inl (ckb, 3000, .inl cgb)), (cplace, .inl (ckplace, 3000, .inl cgplace)), (cnext, .inl (cknext, 3000, .inl cgnext)), (cneeded, .inl (ckneeded, 3000, .inl cgneeded)), (gar, .inr (0, [.ref akind, .ref anext, .ref abefore, .ref aleave, .ref afirstSlot, .ref abuilds, .int az])), (akind, .inl (akkind, 400, .inl agkind)), (anext, .inl (aknext, 400, .inl agnext)), (abefore, .inl (akbefore, 400, .inl agbefore)), (aleave, .inl (akleave, 400, .inl agleave)), (afirstSlot, .inl (akfirstSlot, 400, .inl agfirstSlot)), (abuilds, .inl (akbuilds, 400, .inl agbuilds)), (gki, .inr (4, [.ref kw, .ref kf, .int kz])), (kw, .inl (k1, 20, .inr (.inl kgw))), (kf, .inl (k2, 20, .inl kgf))]) [0, 1, 12, 13, 14, 15, 16, 17, 18, 2, 3, 4, 5, 6, 7, 8, 9, 10, 11] rfl
    have hD9 := hD.sub (ws' := [(h0, .inr (6, [.ref nor])), (pp, .inr (9, [.ref gco, .ref gar, .ref gki, .ref gfu])), (gco, .inr (2, [.ref cop, .ref ca, .ref cb, .ref cplace, .ref cnext, .ref cneeded, .int cz, .int ct])), (cop, .inl (ckop, 3000, .inl cgop)), (ca, .inl (cka, 3000, .inl cga)), (cb, .inl (ckb, 3000, .inl cgb)), (cplace, .inl (ckplace, 3000, .inl cgplace)), (cnext, .inl (cknext, 3000, .inl cgnext)), (cneeded, .inl (ckneeded, 3000, .inl cgneeded)), (gar, .inr (0, [.ref akind, .ref anext, .ref abefore, .ref aleave, .ref afirstSlot, .ref abuilds, .int az])), (akind, .inl (akkind, 400, .inl agkind)), (anext, .inl (aknext, 400, .inl agnext)), (abefore, .inl (akbefore, 400, .inl agbefore)), (aleave, .inl (akleave, 400, .inl agleave)), (afirstSlot, .inl (akfirstSlot, 400, .inl agfirstSlot)), (abuilds, .inl (akbuilds, 400, .inl agbuilds)), (gki, .inr (4, [.ref kw, .ref kf, .int kz])), (kw, .inl (k1, 20, .inr (.inl kgw))), (kf, .inl (k2, 20, .inl kgf))]) [0, 1, 12, 13, 14, 15, 16, 17, 18, 2, 3, 4, 5, 6, 7, 8, 9, 10, 11] (by decide) rfl
    have hK9 := hK.sub (tys' := [(ckop, .int), (cka, .int), (ckb, .int), (ckplace, .int), (cknext, .int), (ckneeded, .int), (akkind, .int), (aknext, .int), (akbefore, .int), (akleave, .int), (akfirstSlot, .int), (akbuilds, .int), (k1, .long), (k2, .int)]) [8, 9, 10, 11, 12, 13, 0, 1, 2, 3, 4, 5, 6, 7] rfl
    exact W.iret (v := x_12) hx hb hr (fun t ht hW => ⟨⟨x_12, (), rfl, (fun k hk => by rw [zn_lit (x := cgop (Int32.toNatClampNeg row)) (n := 12) (by omega), hB]; show zbit x_12 k = (zbit r_1 k && !(k == Int32.toNatClampNeg (cga (Int32.toNatClampNeg row)))); rw [ex_12, ex_11, ex_10, zbit_and, zbit_xor1 _ hk, zbit_sh (by omega) (by omega) hk, ex_9]), by rw [ht]; exact hP9, va_K.moved hW.alike hK9, hD9⟩, hS.F ht⟩) hS.2.2 dX6_neededAt_119
  by_cases hk_13 : x_3.toInt = 13
  · refine lv_tableIn (off := 102) (tgt := 120) hx hb dX6_neededAt_18 (by omega) (by omega) (by rw [hk_13]; rfl) (by decide) ?_
    refine lv_iload hx hb dX6_neededAt_120 (lv_at hl 0 rfl) ?_
    refine lv_aload_n hx hb dX6_neededAt_122 rfl (lv_at hl 1 rfl) ?_
    refine lv_aload_n hx hb dX6_neededAt_123 rfl (lv_at hl 1 rfl) ?_
    refine va_get (D := (dC, dI)) (ci := 2) (v := .ref ca) (C := RX2) (T := TX2) (N := 8) hx hb hA zin_X2 hown hK hP 12 rfl rfl 1 (by decide) (hA _ wi_181) (fun _ h9 => h9) rfl dX6_neededAt_124 ?_
    refine lv_iload_n hx hb dX6_neededAt_127 rfl (lv_at hl 4 rfl) ?_
    refine va_iald hx hb hK hP 14 9 rfl rfl (vp_in_iff.mpr ⟨by omega, by omega⟩) dX6_neededAt_128 ?_
    refine lv_topi (fun x_14 ex_14 => ?_)
    have ix_14 : x_14.toInt = (cga (Int32.toNatClampNeg row)).toInt := by rw [ex_14]
    have hPc := hP.sub (ws' := [(gco, .inr (2, [.ref cop, .ref ca, .ref cb, .ref cplace, .ref cnext, .ref cneeded, .int cz, .int ct])), (cop, .inl (ckop, 3000, .inl cgop)), (ca, .inl (cka, 3000, .inl cga)), (cb, .inl (ckb, 3000, .inl cgb)), (cplace, .inl (ckplace, 3000, .inl cgplace)), (cnext, .inl (cknext, 3000, .inl cgnext)), (cneeded, .inl (ckneeded, 3000, .inl cgneeded))]) [12, 13, 14, 15, 16, 17, 18] rfl
    have hDc := hD.sub (ws' := [(gco, .inr (2, [.ref cop, .ref ca, .ref cb, .ref cplace, .ref cnext, .ref cneeded, .int cz, .int ct])), (cop, .inl (ckop, 3000, .inl cgop)), (ca, .inl (cka, 3000, .inl cga)), (cb, .inl (ckb, 3000, .inl cgb)), (cplace, .inl (ckplace, 3000, .inl cgplace)), (cnext, .inl (cknext, 3000, .inl cgnext)), (cneeded, .inl (ckneeded, 3000, .inl cgneeded))]) [12, 13, 14, 15, 16, 17, 18] (by decide) rfl
    have hKc := hK.sub (tys' := [(ckop, .int), (cka, .int), (ckb, .int), (ckplace, .int), (cknext, .int), (ckneeded, .int)]) [8, 9, 10, 11, 12, 13] rfl
    have hFc := va_free (wc := [(gco, .inr (2, [.ref cop, .ref ca, .ref cb, .ref cplace, .ref cnext, .ref cneeded, .int cz, .int ct])), (cop, .inl (ckop, 3000, .inl cgop)), (ca, .inl (cka, 3000, .inl cga)), (cb, .inl (ckb, 3000, .inl cgb)), (cplace, .inl (ckplace, 3000, .inl cgplace)), (cnext, .inl (cknext, 3000, .inl cgnext)), (cneeded, .inl (ckneeded, 3000, .inl cgneeded))]) hD hS hAA [12, 13, 14, 15, 16, 17, 18] rfl
    refine va_calli (va_runV (As := [.int x_14]) (rest := [.int r_1]) ⟨hx, hb, hml, hown, hA⟩ (c_X2_neededBehind_x l dC dI aK aV gco cop ca cb cplace cnext cneeded ckop cka ckb ckplace cknext ckneeded cz ct cgop cga cgb cgplace cgnext cgneeded x_14 H.size hcn (by omega) (by omega)) (cwV 1 hA (zw_V wi_1043 wi_1044 wi_1045 wi_132 (zw_good wi_1046)) rfl rfl rfl (by decide +kernel) ⟨(Nat.le_of_ble_eq_true rfl), (Nat.le_of_ble_eq_true rfl)⟩) ⟨zP_blind, va_recv hKc hPc (ci := 2) (q0 := 0) rfl rfl, zz_pre hKc hPc hDc hN hT hS hFc⟩ rfl rfl hl.1 rfl (lv_room (Nat.le_of_ble_eq_true rfl)) dX6_neededAt_129 ⟨(Nat.le_of_ble_eq_true rfl), (Nat.le_of_ble_eq_true rfl)⟩) hS (fun q _ h => hFc q h) hFc (fun r_15 u t H1 locs ht hvm hw hB hz1 hk1 hS => ?_)
    obtain ⟨hP1, hK1, hD1⟩ := hB
    rw [ht] at hP1
    have hK1 := va_K.moved hvm.symm hK1
    obtain ⟨hP, hD⟩ := va_join (wr := [(h0, .inr (6, [.ref nor])), (pp, .inr (9, [.ref gco, .ref gar, .ref gki, .ref gfu])), (gar, .inr (0, [.ref akind, .ref anext, .ref abefore, .ref aleave, .ref afirstSlot, .ref abuilds, .int az])), (akind, .inl (akkind, 400, .inl agkind)), (anext, .inl (aknext, 400, .inl agnext)), (abefore, .inl (akbefore, 400, .inl agbefore)), (aleave, .inl (akleave, 400, .inl agleave)), (afirstSlot, .inl (akfirstSlot, 400, .inl agfirstSlot)), (abuilds, .inl (akbuilds, 400, .inl agbuilds)), (gki, .inr (4, [.ref kw, .ref kf, .int kz])), (kw, .inl (k1, 20, .inr (.inl kgw))), (kf, .inl (k2, 20, .inl kgf))]) (w1 := [(gco, .inr (2, [.ref cop, .ref ca, .ref cb, .ref cplace, .ref cnext, .ref cneeded, .int cz, .int ct])), (cop, .inl (ckop, 3000, .inl cgop)), (ca, .inl (cka, 3000, .inl cga)), (cb, .inl (ckb, 3000, .inl cgb)), (cplace, .inl (ckplace, 3000, .inl cgplace)), (cnext, .inl (cknext, 3000, .inl cgnext)), (cneeded, .inl (ckneeded, 3000, .inl cgneeded))]) hP hD [12, 13, 14, 15, 16, 17, 18] [0, 1, 2, 3, 4, 5, 6, 7, 8, 9, 10, 11] rfl rfl (by decide) (by decide) hk1 hFc hP1 hD1
    have hK := (hK.sub (tys' := [(akkind, .int), (aknext, .int), (akbefore, .int), (akleave, .int), (akfirstSlot, .int), (akbuilds, .int), (k1, .long), (k2, .int)]) [0, 1, 2, 3, 4, 5, 6, 7] rfl).app hK1
    generalize H1 = H at hP hS ⊢
    have hP : va_P (dC, dI) vwCl [(h0, .inr (6, [.ref nor])), (pp, .inr (9, [.ref gco, .ref gar, .ref gki, .ref gfu])), (gar, .inr (0, [.ref akind, .ref anext, .ref abefore, .ref aleave, .ref afirstSlot, .ref abuilds, .int az])), (akind, .inl (akkind, 400, .inl agkind)), (anext, .inl (aknext, 400, .inl agnext)), (abefore, .inl (akbefore, 400, .inl agbefore)), (aleave, .inl (akleave, 400, .inl agleave)), (afirstSlot, .inl (akfirstSlot, 400, .inl agfirstSlot)), (abuilds, .inl (akbuilds, 400, .inl agbuilds)), (gki, .inr (4, [.ref kw, .ref kf, .int kz])), (kw, .inl (k1, 20, .inr (.inl kgw))), (kf, .inl (k2, 20, .inl kgf)), (gco, .inr (2, [.ref cop, .ref ca, .ref cb, .ref cplace, .ref cnext, .ref cneeded, .int cz, .int ct])), (cop, .inl (ckop, 3000, .inl cgop)), (ca, .inl (cka, 3000, .inl cga)), (cb, .inl (ckb, 3000, .inl cgb)), (cplace, .inl (ckplace, 3000, .inl cgplace)), (cnext, .inl (cknext, 3000, .inl cgnext)), (cneeded, .inl (ckneeded, 3000, .inl cgneeded))] H := hP
    have hD : va_D A [(h0, .inr (6, [.ref nor])), (pp, .inr (9, [.ref gco, .ref gar, .ref gki, .ref gfu])), (gar, .inr (0, [.ref akind, .ref anext, .ref abefore, .ref aleave, .ref afirstSlot, .ref abuilds, .int az])), (akind, .inl (akkind, 400, .inl agkind)), (anext, .inl (aknext, 400, .inl agnext)), (abefore, .inl (akbefore, 400, .inl agbefore)), (aleave, .inl (akleave, 400, .inl agleave)), (afirstSlot, .inl (akfirstSlot, 400, .inl agfirstSlot)), (abuilds, .inl (akbuilds, 400, .inl agbuilds)), (gki, .inr (4, [.ref kw, .ref kf, .int kz])), (kw, .inl (k1, 20, .inr (.inl kgw))), (kf, .inl (k2, 20, .inl kgf)), (gco, .inr (2, [.ref cop, .ref ca, .ref cb, .ref cplace, .ref cnext, .ref cneeded, .int cz, .int ct])), (cop, .inl (ckop, 3000, .inl cgop)), (ca, .inl (cka, 3000, .inl cga)), (cb, .inl (ckb, 3000, .inl cgb)), (cplace, .inl (ckplace, 3000, .inl cgplace)), (cnext, .inl (cknext, 3000, .inl cgnext)), (cneeded, .inl (ckneeded, 3000, .inl cgneeded))] := hD
    have hK : va_K (dC, dI) vwCl [(akkind, .int), (aknext, .int), (akbefore, .int), (akleave, .int), (akfirstSlot, .int), (akbuilds, .int), (k1, .long), (k2, .int), (ckop, .int), (cka, .int), (ckb, .int), (ckplace, .int), (cknext, .int), (ckneeded, .int)] s := hK
    have hw_r_15 := hw
    try dsimp only at hw_r_15
    have hq_16 := hw
    refine lv_ior hx hb dX6_neededAt_132 ?_
    refine lv_topi (fun x_17 ex_17 => ?_)
    have hP9 := hP.sub (ws' := [(h0, .inr (6, [.ref nor])), (pp, .inr (9, [.ref gco, .ref gar, .ref gki, .ref gfu])), (gco, .inr (2, [.ref cop, .ref ca, .ref cb, .ref cplace, .ref cnext, .ref cneeded, .int cz, .int ct])), (cop, .inl (ckop, 3000, .inl cgop)), (ca, .inl (cka, 3000, .inl cga)), (cb, .inl (ckb, 3000, .inl cgb)), (cplace, .inl (ckplace, 3000, .inl cgplace)), (cnext, .inl (cknext, 3000, .inl cgnext)), (cneeded, .inl (ckneeded, 3000, .inl cgneeded)), (gar, .inr (0, [.ref akind, .ref anext, .ref abefore, .ref aleave, .ref afirstSlot, .ref abuilds, .int az])), (akind, .inl (akkind, 400, .inl agkind)), (anext, .inl (aknext, 400, .inl agnext)), (abefore, .inl (akbefore, 400, .inl agbefore)), (aleave, .inl (akleave, 400, .inl agleave)), (afirstSlot, .inl (akfirstSlot, 400, .inl agfirstSlot)), (abuilds, .inl (akbuilds, 400, .inl agbuilds)), (gki, .inr (4, [.ref kw, .ref kf, .int kz])), (kw, .inl (k1, 20, .inr (.inl kgw))), (kf, .inl (k2, 20, .inl kgf))]) [0, 1, 12, 13, 14, 15, 16, 17, 18, 2, 3, 4, 5, 6, 7, 8, 9, 10, 11] rfl
    have hD9 := hD.sub (ws' := [(h0, .inr (6, [.ref nor])), (pp, .inr (9, [.ref gco, .ref gar, .ref gki, .ref gfu])), (gco, .inr (2, [.ref cop, .ref ca, .ref cb, .ref cplace, .ref cnext, .ref cneeded, .int cz, .int ct])), (cop, .inl (ckop, 3000, .inl cgop)), (ca, .inl (cka, 3000, .inl cga)), (cb, .inl (ckb, 3000, .inl cgb)), (cplace, .inl (ckplace, 3000, .inl cgplace)), (cnext, .inl (cknext, 3000, .inl cgnext)), (cneeded, .inl (ckneeded, 3000, .inl cgneeded)), (gar, .inr (0, [.ref akind, .ref anext, .ref abefore, .ref aleave, .ref afirstSlot, .ref abuilds, .int az])), (akind, .inl (akkind, 400, .inl agkind)), (anext, .inl (aknext, 400, .inl agnext)), (abefore, .inl (akbefore, 400, .inl agbefore)), (aleave, .inl (akleave, 400, .inl agleave)), (afirstSlot, .inl (akfirstSlot, 400, .inl agfirstSlot)), (abuilds, .inl (akbuilds, 400, .inl agbuilds)), (gki, .inr (4, [.ref kw, .ref kf, .int kz])), (kw, .inl (k1, 20, .inr (.inl kgw))), (kf, .inl (k2, 20, .inl kgf))]) [0, 1, 12, 13, 14, 15, 16, 17, 18, 2, 3, 4, 5, 6, 7, 8, 9, 10, 11] (by decide) rfl
    have hK9 := hK.sub (tys' := [(ckop, .int), (cka, .int), (ckb, .int), (ckplace, .int), (cknext, .int), (ckneeded, .int), (akkind, .int), (aknext, .int), (akbefore, .int), (akleave, .int), (akfirstSlot, .int), (akbuilds, .int), (k1, .long), (k2, .int)]) [8, 9, 10, 11, 12, 13, 0, 1, 2, 3, 4, 5, 6, 7] rfl
    exact W.iret (v := x_17) hx hb hr (fun t ht hW => ⟨⟨x_17, (), rfl, (fun k hk => by rw [zn_lit (x := cgop (Int32.toNatClampNeg row)) (n := 13) (by omega), hB]; show zbit x_17 k = (zbit r_1 k || zbit (zbe cgnext cgneeded (cga (Int32.toNatClampNeg row))) k); rw [ex_17, zbit_or, hq_16, ex_14]), by rw [ht]; exact hP9, va_K.moved hW.alike hK9, hD9⟩, hS.F ht⟩) hS.2.2 dX6_neededAt_133
  by_cases hk_18 : x_3.toInt = 14 ∨ x_3.toInt = 16
  · refine lv_tableIn (off := 116) (tgt := 134) hx hb dX6_neededAt_18 (by omega) (by omega) (by rcases hk_18 with hk_18 | hk_18 <;> rw [hk_18] <;> rfl) (by decide) ?_
    refine lv_aload_n hx hb dX6_neededAt_134 rfl (lv_at hl 1 rfl) ?_
    refine lv_aload_n hx hb dX6_neededAt_135 rfl (lv_at hl 1 rfl) ?_
    refine va_get (D := (dC, dI)) (ci := 2) (v := .ref ca) (C := RX2) (T := TX2) (N := 8) hx hb hA zin_X2 hown hK hP 12 rfl rfl 1 (by decide) (hA _ wi_181) (fun _ h9 => h9) rfl dX6_neededAt_136 ?_
    refine lv_iload_n hx hb dX6_neededAt_139 rfl (lv_at hl 4 rfl) ?_
    refine va_iald hx hb hK hP 14 9 rfl rfl (vp_in_iff.mpr ⟨by omega, by omega⟩) dX6_neededAt_140 ?_
    refine lv_topi (fun x_19 ex_19 => ?_)
    have ix_19 : x_19.toInt = (cga (Int32.toNatClampNeg row)).toInt := by rw [ex_19]
    have hPc := hP.sub (ws' := [(gco, .inr (2, [.ref cop, .ref ca, .ref cb, .ref cplace, .ref cnext, .ref cneeded, .int cz, .int ct])), (cop, .inl (ckop, 3000, .inl cgop)), (ca, .inl (cka, 3000, .inl cga)), (cb, .inl (ckb, 3000, .inl cgb)), (cplace, .inl (ckplace, 3000, .inl cgplace)), (cnext, .inl (cknext, 3000, .inl cgnext)), (cneeded, .inl (ckneeded, 3000, .inl cgneeded))]) [12, 13, 14, 15, 16, 17, 18] rfl
    have hDc := hD.sub (ws' := [(gco, .inr (2, [.ref cop, .ref ca, .ref cb, .ref cplace, .ref cnext, .ref cneeded, .int cz, .int ct])), (cop, .inl (ckop, 3000, .inl cgop)), (ca, .inl (cka, 3000, .inl cga)), (cb, .inl (ckb, 3000, .inl cgb)), (cplace, .inl (ckplace, 3000, .inl cgplace)), (cnext, .inl (cknext, 3000, .inl cgnext)), (cneeded, .inl (ckneeded, 3000, .inl cgneeded))]) [12, 13, 14, 15, 16, 17, 18] (by decide) rfl
    have hKc := hK.sub (tys' := [(ckop, .int), (cka, .int), (ckb, .int), (ckplace, .int), (cknext, .int), (ckneeded, .int)]) [8, 9, 10, 11, 12, 13] rfl
    have hFc := va_free (wc := [(gco, .inr (2, [.ref cop, .ref ca, .ref cb, .ref cplace, .ref cnext, .ref cneeded, .int cz, .int ct])), (cop, .inl (ckop, 3000, .inl cgop)), (ca, .inl (cka, 3000, .inl cga)), (cb, .inl (ckb, 3000, .inl cgb)), (cplace, .inl (ckplace, 3000, .inl cgplace)), (cnext, .inl (cknext, 3000, .inl cgnext)), (cneeded, .inl (ckneeded, 3000, .inl cgneeded))]) hD hS hAA [12, 13, 14, 15, 16, 17, 18] rfl
    refine va_calli (va_runV (As := [.int x_19]) (rest := []) ⟨hx, hb, hml, hown, hA⟩ (c_X2_neededBehind_x l dC dI aK aV gco cop ca cb cplace cnext cneeded ckop cka ckb ckplace cknext ckneeded cz ct cgop cga cgb cgplace cgnext cgneeded x_19 H.size hcn (by omega) (by omega)) (cwV 1 hA (zw_V wi_1043 wi_1044 wi_1045 wi_132 (zw_good wi_1046)) rfl rfl rfl (by decide +kernel) ⟨(Nat.le_of_ble_eq_true rfl), (Nat.le_of_ble_eq_true rfl)⟩) ⟨zP_blind, va_recv hKc hPc (ci := 2) (q0 := 0) rfl rfl, zz_pre hKc hPc hDc hN hT hS hFc⟩ rfl rfl hl.1 rfl (lv_room (Nat.le_of_ble_eq_true rfl)) dX6_neededAt_141 ⟨(Nat.le_of_ble_eq_true rfl), (Nat.le_of_ble_eq_true rfl)⟩) hS (fun q _ h => hFc q h) hFc (fun r_20 u t H1 locs ht hvm hw hB hz1 hk1 hS => ?_)
    obtain ⟨hP1, hK1, hD1⟩ := hB
    rw [ht] at hP1
    have hK1 := va_K.moved hvm.symm hK1
    obtain ⟨hP, hD⟩ := va_join (wr := [(h0, .inr (6, [.ref nor])), (pp, .inr (9, [.ref gco, .ref gar, .ref gki, .ref gfu])), (gar, .inr (0, [.ref akind, .ref anext, .ref abefore, .ref aleave, .ref afirstSlot, .ref abuilds, .int az])), (akind, .inl (akkind, 400, .inl agkind)), (anext, .inl (aknext, 400, .inl agnext)), (abefore, .inl (akbefore, 400, .inl agbefore)), (aleave, .inl (akleave, 400, .inl agleave)), (afirstSlot, .inl (akfirstSlot, 400, .inl agfirstSlot)), (abuilds, .inl (akbuilds, 400, .inl agbuilds)), (gki, .inr (4, [.ref kw, .ref kf, .int kz])), (kw, .inl (k1, 20, .inr (.inl kgw))), (kf, .inl (k2, 20, .inl kgf))]) (w1 := [(gco, .inr (2, [.ref cop, .ref ca, .ref cb, .ref cplace, .ref cnext, .ref cneeded, .int cz, .int ct])), (cop, .inl (ckop, 3000, .inl cgop)), (ca, .inl (cka, 3000, .inl cga)), (cb, .inl (ckb, 3000, .inl cgb)), (cplace, .inl (ckplace, 3000, .inl cgplace)), (cnext, .inl (cknext, 3000, .inl cgnext)), (cneeded, .inl (ckneeded, 3000, .inl cgneeded))]) hP hD [12, 13, 14, 15, 16, 17, 18] [0, 1, 2, 3, 4, 5, 6, 7, 8, 9, 10, 11] rfl rfl (by decide) (by decide) hk1 hFc hP1 hD1
    have hK := (hK.sub (tys' := [(akkind, .int), (aknext, .int), (akbefore, .int), (akleave, .int), (akfirstSlot, .int), (akbuilds, .int), (k1, .long), (k2, .int)]) [0, 1, 2, 3, 4, 5, 6, 7] rfl).app hK1
    generalize H1 = H at hP hS ⊢
    have hP : va_P (dC, dI) vwCl [(h0, .inr (6, [.ref nor])), (pp, .inr (9, [.ref gco, .ref gar, .ref gki, .ref gfu])), (gar, .inr (0, [.ref akind, .ref anext, .ref abefore, .ref aleave, .ref afirstSlot, .ref abuilds, .int az])), (akind, .inl (akkind, 400, .inl agkind)), (anext, .inl (aknext, 400, .inl agnext)), (abefore, .inl (akbefore, 400, .inl agbefore)), (aleave, .inl (akleave, 400, .inl agleave)), (afirstSlot, .inl (akfirstSlot, 400, .inl agfirstSlot)), (abuilds, .inl (akbuilds, 400, .inl agbuilds)), (gki, .inr (4, [.ref kw, .ref kf, .int kz])), (kw, .inl (k1, 20, .inr (.inl kgw))), (kf, .inl (k2, 20, .inl kgf)), (gco, .inr (2, [.ref cop, .ref ca, .ref cb, .ref cplace, .ref cnext, .ref cneeded, .int cz, .int ct])), (cop, .inl (ckop, 3000, .inl cgop)), (ca, .inl (cka, 3000, .inl cga)), (cb, .inl (ckb, 3000, .inl cgb)), (cplace, .inl (ckplace, 3000, .inl cgplace)), (cnext, .inl (cknext, 3000, .inl cgnext)), (cneeded, .inl (ckneeded, 3000, .inl cgneeded))] H := hP
    have hD : va_D A [(h0, .inr (6, [.ref nor])), (pp, .inr (9, [.ref gco, .ref gar, .ref gki, .ref gfu])), (gar, .inr (0, [.ref akind, .ref anext, .ref abefore, .ref aleave, .ref afirstSlot, .ref abuilds, .int az])), (akind, .inl (akkind, 400, .inl agkind)), (anext, .inl (aknext, 400, .inl agnext)), (abefore, .inl (akbefore, 400, .inl agbefore)), (aleave, .inl (akleave, 400, .inl agleave)), (afirstSlot, .inl (akfirstSlot, 400, .inl agfirstSlot)), (abuilds, .inl (akbuilds, 400, .inl agbuilds)), (gki, .inr (4, [.ref kw, .ref kf, .int kz])), (kw, .inl (k1, 20, .inr (.inl kgw))), (kf, .inl (k2, 20, .inl kgf)), (gco, .inr (2, [.ref cop, .ref ca, .ref cb, .ref cplace, .ref cnext, .ref cneeded, .int cz, .int ct])), (cop, .inl (ckop, 3000, .inl cgop)), (ca, .inl (cka, 3000, .inl cga)), (cb, .inl (ckb, 3000, .inl cgb)), (cplace, .inl (ckplace, 3000, .inl cgplace)), (cnext, .inl (cknext, 3000, .inl cgnext)), (cneeded, .inl (ckneeded, 3000, .inl cgneeded))] := hD
    have hK : va_K (dC, dI) vwCl [(akkind, .int), (aknext, .int), (akbefore, .int), (akleave, .int), (akfirstSlot, .int), (akbuilds, .int), (k1, .long), (k2, .int), (ckop, .int), (cka, .int), (ckb, .int), (ckplace, .int), (cknext, .int), (ckneeded, .int)] s := hK
    have hw_r_20 := hw
    try dsimp only at hw_r_20
    have hq_21 := hw
    have hP9 := hP.sub (ws' := [(h0, .inr (6, [.ref nor])), (pp, .inr (9, [.ref gco, .ref gar, .ref gki, .ref gfu])), (gco, .inr (2, [.ref cop, .ref ca, .ref cb, .ref cplace, .ref cnext, .ref cneeded, .int cz, .int ct])), (cop, .inl (ckop, 3000, .inl cgop)), (ca, .inl (cka, 3000, .inl cga)), (cb, .inl (ckb, 3000, .inl cgb)), (cplace, .inl (ckplace, 3000, .inl cgplace)), (cnext, .inl (cknext, 3000, .inl cgnext)), (cneeded, .inl (ckneeded, 3000, .inl cgneeded)), (gar, .inr (0, [.ref akind, .ref anext, .ref abefore, .ref aleave, .ref afirstSlot, .ref abuilds, .int az])), (akind, .inl (akkind, 400, .inl agkind)), (anext, .inl (aknext, 400, .inl agnext)), (abefore, .inl (akbefore, 400, .inl agbefore)), (aleave, .inl (akleave, 400, .inl agleave)), (afirstSlot, .inl (akfirstSlot, 400, .inl agfirstSlot)), (abuilds, .inl (akbuilds, 400, .inl agbuilds)), (gki, .inr (4, [.ref kw, .ref kf, .int kz])), (kw, .inl (k1, 20, .inr (.inl kgw))), (kf, .inl (k2, 20, .inl kgf))]) [0, 1, 12, 13, 14, 15, 16, 17, 18, 2, 3, 4, 5, 6, 7, 8, 9, 10, 11] rfl
    have hD9 := hD.sub (ws' := [(h0, .inr (6, [.ref nor])), (pp, .inr (9, [.ref gco, .ref gar, .ref gki, .ref gfu])), (gco, .inr (2, [.ref cop, .ref ca, .ref cb, .ref cplace, .ref cnext, .ref cneeded, .int cz, .int ct])), (cop, .inl (ckop, 3000, .inl cgop)), (ca, .inl (cka, 3000, .inl cga)), (cb, .inl (ckb, 3000, .inl cgb)), (cplace, .inl (ckplace, 3000, .inl cgplace)), (cnext, .inl (cknext, 3000, .inl cgnext)), (cneeded, .inl (ckneeded, 3000, .inl cgneeded)), (gar, .inr (0, [.ref akind, .ref anext, .ref abefore, .ref aleave, .ref afirstSlot, .ref abuilds, .int az])), (akind, .inl (akkind, 400, .inl agkind)), (anext, .inl (aknext, 400, .inl agnext)), (abefore, .inl (akbefore, 400, .inl agbefore)), (aleave, .inl (akleave, 400, .inl agleave)), (afirstSlot, .inl (akfirstSlot, 400, .inl agfirstSlot)), (abuilds, .inl (akbuilds, 400, .inl agbuilds)), (gki, .inr (4, [.ref kw, .ref kf, .int kz])), (kw, .inl (k1, 20, .inr (.inl kgw))), (kf, .inl (k2, 20, .inl kgf))]) [0, 1, 12, 13, 14, 15, 16, 17, 18, 2, 3, 4, 5, 6, 7, 8, 9, 10, 11] (by decide) rfl
    have hK9 := hK.sub (tys' := [(ckop, .int), (cka, .int), (ckb, .int), (ckplace, .int), (cknext, .int), (ckneeded, .int), (akkind, .int), (aknext, .int), (akbefore, .int), (akleave, .int), (akfirstSlot, .int), (akbuilds, .int), (k1, .long), (k2, .int)]) [8, 9, 10, 11, 12, 13, 0, 1, 2, 3, 4, 5, 6, 7] rfl
    exact W.iret (v := r_20) hx hb hr (fun t ht hW => ⟨⟨r_20, (), rfl, (fun k hk => by
      rcases (show (cgop (Int32.toNatClampNeg row)).toInt = 14 ∨ (cgop (Int32.toNatClampNeg row)).toInt = 16 by omega) with g | g
      · rw [zn_lit (n := 14) g]; show zbit r_20 k = zbit (zbe cgnext cgneeded (cga (Int32.toNatClampNeg row))) k; rw [hq_21, ex_19]
      · rw [zn_lit (n := 16) g]; show zbit r_20 k = zbit (zbe cgnext cgneeded (cga (Int32.toNatClampNeg row))) k; rw [hq_21, ex_19]), by rw [ht]; exact hP9, va_K.moved hW.alike hK9, hD9⟩, hS.F ht⟩) hS.2.2 dX6_neededAt_144
  by_cases hk_22 : x_3.toInt = 15
  · refine lv_tableIn (off := 127) (tgt := 145) hx hb dX6_neededAt_18 (by omega) (by omega) (by rw [hk_22]; rfl) (by decide) ?_
    refine lv_iconst (v := 1) hx hb dX6_neededAt_145 (by decide) ?_
    refine lv_aload_n hx hb dX6_neededAt_146 rfl (lv_at hl 1 rfl) ?_
    refine va_get (D := (dC, dI)) (ci := 2) (v := .ref ca) (C := RX2) (T := TX2) (N := 8) hx hb hA zin_X2 hown hK hP 12 rfl rfl 1 (by decide) (hA _ wi_181) (fun _ h9 => h9) rfl dX6_neededAt_147 ?_
    refine lv_iload_n hx hb dX6_neededAt_150 rfl (lv_at hl 4 rfl) ?_
    refine va_iald hx hb hK hP 14 9 rfl rfl (vp_in_iff.mpr ⟨by omega, by omega⟩) dX6_neededAt_151 ?_
    refine lv_topi (fun x_23 ex_23 => ?_)
    have ix_23 : x_23.toInt = (cga (Int32.toNatClampNeg row)).toInt := by rw [ex_23]
    refine lv_ishl hx hb dX6_neededAt_152 ?_
    refine lv_topi (fun x_24 ex_24 => ?_)
    refine lv_aload_n hx hb dX6_neededAt_153 rfl (lv_at hl 2 rfl) ?_
    refine lv_aload_n hx hb dX6_neededAt_154 rfl (lv_at hl 3 rfl) ?_
    refine lv_aload_n hx hb dX6_neededAt_155 rfl (lv_at hl 1 rfl) ?_
    refine va_get (D := (dC, dI)) (ci := 2) (v := .ref cb) (C := RX2) (T := TX2) (N := 8) hx hb hA zin_X2 hown hK hP 12 rfl rfl 2 (by decide) (hA _ wi_185) (fun _ h9 => h9) rfl dX6_neededAt_156 ?_
    refine lv_iload_n hx hb dX6_neededAt_159 rfl (lv_at hl 4 rfl) ?_
    refine va_iald hx hb hK hP 15 10 rfl rfl (vp_in_iff.mpr ⟨by omega, by omega⟩) dX6_neededAt_160 ?_
    refine lv_topi (fun x_25 ex_25 => ?_)
    have ix_25 : x_25.toInt = (cgb (Int32.toNatClampNeg row)).toInt := by rw [ex_25]
    have hslb : zsl agnext agfirstSlot x_25 := by rw [ex_25]; exact hqs (by omega)
    have hPc := hP.sub (ws' := [(h0, .inr (6, [.ref nor])), (pp, .inr (9, [.ref gco, .ref gar, .ref gki, .ref gfu])), (gco, .inr (2, [.ref cop, .ref ca, .ref cb, .ref cplace, .ref cnext, .ref cneeded, .int cz, .int ct])), (cop, .inl (ckop, 3000, .inl cgop)), (ca, .inl (cka, 3000, .inl cga)), (cb, .inl (ckb, 3000, .inl cgb)), (cplace, .inl (ckplace, 3000, .inl cgplace)), (cnext, .inl (cknext, 3000, .inl cgnext)), (cneeded, .inl (ckneeded, 3000, .inl cgneeded)), (gar, .inr (0, [.ref akind, .ref anext, .ref abefore, .ref aleave, .ref afirstSlot, .ref abuilds, .int az])), (akind, .inl (akkind, 400, .inl agkind)), (anext, .inl (aknext, 400, .inl agnext)), (abefore, .inl (akbefore, 400, .inl agbefore)), (aleave, .inl (akleave, 400, .inl agleave)), (afirstSlot, .inl (akfirstSlot, 400, .inl agfirstSlot)), (abuilds, .inl (akbuilds, 400, .inl agbuilds)), (gki, .inr (4, [.ref kw, .ref kf, .int kz])), (kw, .inl (k1, 20, .inr (.inl kgw))), (kf, .inl (k2, 20, .inl kgf))]) [0, 1, 12, 13, 14, 15, 16, 17, 18, 2, 3, 4, 5, 6, 7, 8, 9, 10, 11] rfl
    have hDc := hD.sub (ws' := [(h0, .inr (6, [.ref nor])), (pp, .inr (9, [.ref gco, .ref gar, .ref gki, .ref gfu])), (gco, .inr (2, [.ref cop, .ref ca, .ref cb, .ref cplace, .ref cnext, .ref cneeded, .int cz, .int ct])), (cop, .inl (ckop, 3000, .inl cgop)), (ca, .inl (cka, 3000, .inl cga)), (cb, .inl (ckb, 3000, .inl cgb)), (cplace, .inl (ckplace, 3000, .inl cgplace)), (cnext, .inl (cknext, 3000, .inl cgnext)), (cneeded, .inl (ckneeded, 3000, .inl cgneeded)), (gar, .inr (0, [.ref akind, .ref anext, .ref abefore, .ref aleave, .ref afirstSlot, .ref abuilds, .int az])), (akind, .inl (akkind, 400, .inl agkind)), (anext, .inl (aknext, 400, .inl agnext)), (abefore, .inl (akbefore, 400, .inl agbefore)), (aleave, .inl (akleave, 400, .inl agleave)), (afirstSlot, .inl (akfirstSlot, 400, .inl agfirstSlot)), (abuilds, .inl (akbuilds, 400, .inl agbuilds)), (gki, .inr (4, [.ref kw, .ref kf, .int kz])), (kw, .inl (k1, 20, .inr (.inl kgw))), (kf, .inl (k2, 20, .inl kgf))]) [0, 1, 12, 13, 14, 15, 16, 17, 18, 2, 3, 4, 5, 6, 7, 8, 9, 10, 11] (by decide) rfl
    have hKc := hK.sub (tys' := [(ckop, .int), (cka, .int), (ckb, .int), (ckplace, .int), (cknext, .int), (ckneeded, .int), (akkind, .int), (aknext, .int), (akbefore, .int), (akleave, .int), (akfirstSlot, .int), (akbuilds, .int), (k1, .long), (k2, .int)]) [8, 9, 10, 11, 12, 13, 0, 1, 2, 3, 4, 5, 6, 7] rfl
    have hFc := va_free (wc := [(h0, .inr (6, [.ref nor])), (pp, .inr (9, [.ref gco, .ref gar, .ref gki, .ref gfu])), (gco, .inr (2, [.ref cop, .ref ca, .ref cb, .ref cplace, .ref cnext, .ref cneeded, .int cz, .int ct])), (cop, .inl (ckop, 3000, .inl cgop)), (ca, .inl (cka, 3000, .inl cga)), (cb, .inl (ckb, 3000, .inl cgb)), (cplace, .inl (ckplace, 3000, .inl cgplace)), (cnext, .inl (cknext, 3000, .inl cgnext)), (cneeded, .inl (ckneeded, 3000, .inl cgneeded)), (gar, .inr (0, [.ref akind, .ref anext, .ref abefore, .ref aleave, .ref afirstSlot, .ref abuilds, .int az])), (akind, .inl (akkind, 400, .inl agkind)), (anext, .inl (aknext, 400, .inl agnext)), (abefore, .inl (akbefore, 400, .inl agbefore)), (aleave, .inl (akleave, 400, .inl agleave)), (afirstSlot, .inl (akfirstSlot, 400, .inl agfirstSlot)), (abuilds, .inl (akbuilds, 400, .inl agbuilds)), (gki, .inr (4, [.ref kw, .ref kf, .int kz])), (kw, .inl (k1, 20, .inr (.inl kgw))), (kf, .inl (k2, 20, .inl kgf))]) hD hS hAA [0, 1, 12, 13, 14, 15, 16, 17, 18, 2, 3, 4, 5, 6, 7, 8, 9, 10, 11] rfl
    refine va_calli (va_runV (As := [.ref pp, .int x_25]) (rest := [.int x_24]) ⟨hx, hb, hml, hown, hA⟩ (c_X6_neededInArms_x l dC dI aK aV h0 nor pp gco gar gki gfu cop ca cb cplace cnext cneeded ckop cka ckb ckplace cknext ckneeded cz ct cgop cga cgb cgplace cgnext cgneeded akind anext abefore aleave afirstSlot abuilds akkind aknext akbefore akleave akfirstSlot akbuilds az agkind agnext agbefore agleave agfirstSlot agbuilds kw kf k1 k2 kz kgw kgf fgf x_25 H.size hcn (by omega) (by omega) hkf hagn hagb hags (by omega) (by omega) hslb) (cwV 2 hA (zw_V wi_1047 wi_1049 wi_37 wi_138 (zw_good wi_1050)) rfl rfl rfl (by decide +kernel) ⟨(Nat.le_of_ble_eq_true rfl), (Nat.le_of_ble_eq_true rfl)⟩) ⟨zP_blind, va_recv hKc hPc (ci := 6) (q0 := 0) rfl rfl, zz_pre hKc hPc hDc hN hT hS hFc⟩ rfl rfl hl.1 rfl (lv_room (Nat.le_of_ble_eq_true rfl)) dX6_neededAt_161 ⟨(Nat.le_of_ble_eq_true rfl), (Nat.le_of_ble_eq_true rfl)⟩) hS (fun q _ h => hFc q h) hFc (fun r_26 u t H1 locs ht hvm hw hB hz1 hk1 hS => ?_)
    obtain ⟨hP1, hK1, hD1⟩ := hB
    rw [ht] at hP1
    have hK1 := va_K.moved hvm.symm hK1
    obtain ⟨hP, hD⟩ := va_join (wr := []) (w1 := [(h0, .inr (6, [.ref nor])), (pp, .inr (9, [.ref gco, .ref gar, .ref gki, .ref gfu])), (gco, .inr (2, [.ref cop, .ref ca, .ref cb, .ref cplace, .ref cnext, .ref cneeded, .int cz, .int ct])), (cop, .inl (ckop, 3000, .inl cgop)), (ca, .inl (cka, 3000, .inl cga)), (cb, .inl (ckb, 3000, .inl cgb)), (cplace, .inl (ckplace, 3000, .inl cgplace)), (cnext, .inl (cknext, 3000, .inl cgnext)), (cneeded, .inl (ckneeded, 3000, .inl cgneeded)), (gar, .inr (0, [.ref akind, .ref anext, .ref abefore, .ref aleave, .ref afirstSlot, .ref abuilds, .int az])), (akind, .inl (akkind, 400, .inl agkind)), (anext, .inl (aknext, 400, .inl agnext)), (abefore, .inl (akbefore, 400, .inl agbefore)), (aleave, .inl (akleave, 400, .inl agleave)), (afirstSlot, .inl (akfirstSlot, 400, .inl agfirstSlot)), (abuilds, .inl (akbuilds, 400, .inl agbuilds)), (gki, .inr (4, [.ref kw, .ref kf, .int kz])), (kw, .inl (k1, 20, .inr (.inl kgw))), (kf, .inl (k2, 20, .inl kgf))]) hP hD [0, 1, 12, 13, 14, 15, 16, 17, 18, 2, 3, 4, 5, 6, 7, 8, 9, 10, 11] [] rfl rfl (by decide) (by decide) hk1 hFc hP1 hD1
    have hK := (hK.sub (tys' := []) [] rfl).app hK1
    generalize H1 = H at hP hS ⊢
    have hP : va_P (dC, dI) vwCl [(h0, .inr (6, [.ref nor])), (pp, .inr (9, [.ref gco, .ref gar, .ref gki, .ref gfu])), (gco, .inr (2, [.ref cop, .ref ca, .ref cb, .ref cplace, .ref cnext, .ref cneeded, .int cz, .int ct])), (cop, .inl (ckop, 3000, .inl cgop)), (ca, .inl (cka, 3000, .inl cga)), (cb, .inl (ckb, 3000, .inl cgb)), (cplace, .inl (ckplace, 3000, .inl cgplace)), (cnext, .inl (cknext, 3000, .inl cgnext)), (cneeded, .inl (ckneeded, 3000, .inl cgneeded)), (gar, .inr (0, [.ref akind, .ref anext, .ref abefore, .ref aleave, .ref afirstSlot, .ref abuilds, .int az])), (akind, .inl (akkind, 400, .inl agkind)), (anext, .inl (aknext, 400, .inl agnext)), (abefore, .inl (akbefore, 400, .inl agbefore)), (aleave, .inl (akleave, 400, .inl agleave)), (afirstSlot, .inl (akfirstSlot, 400, .inl agfirstSlot)), (abuilds, .inl (akbuilds, 400, .inl agbuilds)), (gki, .inr (4, [.ref kw, .ref kf, .int kz])), (kw, .inl (k1, 20, .inr (.inl kgw))), (kf, .inl (k2, 20, .inl kgf))] H := hP
    have hD : va_D A [(h0, .inr (6, [.ref nor])), (pp, .inr (9, [.ref gco, .ref gar, .ref gki, .ref gfu])), (gco, .inr (2, [.ref cop, .ref ca, .ref cb, .ref cplace, .ref cnext, .ref cneeded, .int cz, .int ct])), (cop, .inl (ckop, 3000, .inl cgop)), (ca, .inl (cka, 3000, .inl cga)), (cb, .inl (ckb, 3000, .inl cgb)), (cplace, .inl (ckplace, 3000, .inl cgplace)), (cnext, .inl (cknext, 3000, .inl cgnext)), (cneeded, .inl (ckneeded, 3000, .inl cgneeded)), (gar, .inr (0, [.ref akind, .ref anext, .ref abefore, .ref aleave, .ref afirstSlot, .ref abuilds, .int az])), (akind, .inl (akkind, 400, .inl agkind)), (anext, .inl (aknext, 400, .inl agnext)), (abefore, .inl (akbefore, 400, .inl agbefore)), (aleave, .inl (akleave, 400, .inl agleave)), (afirstSlot, .inl (akfirstSlot, 400, .inl agfirstSlot)), (abuilds, .inl (akbuilds, 400, .inl agbuilds)), (gki, .inr (4, [.ref kw, .ref kf, .int kz])), (kw, .inl (k1, 20, .inr (.inl kgw))), (kf, .inl (k2, 20, .inl kgf))] := hD
    have hK : va_K (dC, dI) vwCl [(ckop, .int), (cka, .int), (ckb, .int), (ckplace, .int), (cknext, .int), (ckneeded, .int), (akkind, .int), (aknext, .int), (akbefore, .int), (akleave, .int), (akfirstSlot, .int), (akbuilds, .int), (k1, .long), (k2, .int)] s := hK
    have hw_r_26 := hw
    try dsimp only at hw_r_26
    have hq_27 := hw
    refine lv_ior hx hb dX6_neededAt_164 ?_
    refine lv_topi (fun x_28 ex_28 => ?_)
    have hP9 := hP.sub (ws' := [(h0, .inr (6, [.ref nor])), (pp, .inr (9, [.ref gco, .ref gar, .ref gki, .ref gfu])), (gco, .inr (2, [.ref cop, .ref ca, .ref cb, .ref cplace, .ref cnext, .ref cneeded, .int cz, .int ct])), (cop, .inl (ckop, 3000, .inl cgop)), (ca, .inl (cka, 3000, .inl cga)), (cb, .inl (ckb, 3000, .inl cgb)), (cplace, .inl (ckplace, 3000, .inl cgplace)), (cnext, .inl (cknext, 3000, .inl cgnext)), (cneeded, .inl (ckneeded, 3000, .inl cgneeded)), (gar, .inr (0, [.ref akind, .ref anext, .ref abefore, .ref aleave, .ref afirstSlot, .ref abuilds, .int az])), (akind, .inl (akkind, 400, .inl agkind)), (anext, .inl (aknext, 400, .inl agnext)), (abefore, .inl (akbefore, 400, .inl agbefore)), (aleave, .inl (akleave, 400, .inl agleave)), (afirstSlot, .inl (akfirstSlot, 400, .inl agfirstSlot)), (abuilds, .inl (akbuilds, 400, .inl agbuilds)), (gki, .inr (4, [.ref kw, .ref kf, .int kz])), (kw, .inl (k1, 20, .inr (.inl kgw))), (kf, .inl (k2, 20, .inl kgf))]) [0, 1, 2, 3, 4, 5, 6, 7, 8, 9, 10, 11, 12, 13, 14, 15, 16, 17, 18] rfl
    have hD9 := hD.sub (ws' := [(h0, .inr (6, [.ref nor])), (pp, .inr (9, [.ref gco, .ref gar, .ref gki, .ref gfu])), (gco, .inr (2, [.ref cop, .ref ca, .ref cb, .ref cplace, .ref cnext, .ref cneeded, .int cz, .int ct])), (cop, .inl (ckop, 3000, .inl cgop)), (ca, .inl (cka, 3000, .inl cga)), (cb, .inl (ckb, 3000, .inl cgb)), (cplace, .inl (ckplace, 3000, .inl cgplace)), (cnext, .inl (cknext, 3000, .inl cgnext)), (cneeded, .inl (ckneeded, 3000, .inl cgneeded)), (gar, .inr (0, [.ref akind, .ref anext, .ref abefore, .ref aleave, .ref afirstSlot, .ref abuilds, .int az])), (akind, .inl (akkind, 400, .inl agkind)), (anext, .inl (aknext, 400, .inl agnext)), (abefore, .inl (akbefore, 400, .inl agbefore)), (aleave, .inl (akleave, 400, .inl agleave)), (afirstSlot, .inl (akfirstSlot, 400, .inl agfirstSlot)), (abuilds, .inl (akbuilds, 400, .inl agbuilds)), (gki, .inr (4, [.ref kw, .ref kf, .int kz])), (kw, .inl (k1, 20, .inr (.inl kgw))), (kf, .inl (k2, 20, .inl kgf))]) [0, 1, 2, 3, 4, 5, 6, 7, 8, 9, 10, 11, 12, 13, 14, 15, 16, 17, 18] (by decide) rfl
    have hK9 := hK.sub (tys' := [(ckop, .int), (cka, .int), (ckb, .int), (ckplace, .int), (cknext, .int), (ckneeded, .int), (akkind, .int), (aknext, .int), (akbefore, .int), (akleave, .int), (akfirstSlot, .int), (akbuilds, .int), (k1, .long), (k2, .int)]) [0, 1, 2, 3, 4, 5, 6, 7, 8, 9, 10, 11, 12, 13] rfl
    exact W.iret (v := x_28) hx hb hr (fun t ht hW => ⟨⟨x_28, (), rfl, (fun k hk => by rw [zn_lit (x := cgop (Int32.toNatClampNeg row)) (n := 15) (by omega)]; show zbit x_28 k = (k == Int32.toNatClampNeg (cga (Int32.toNatClampNeg row)) || zab (zst cgop cga cgb cgnext agkind agnext agbefore agleave agfirstSlot kgf fgf cz ct az kz) cgneeded k 8 (cgb (Int32.toNatClampNeg row))); rw [ex_28, ex_24, zbit_or, zbit_sh (by omega) (by omega) hk, hq_27 k hk, ex_23, ex_25]), by rw [ht]; exact hP9, va_K.moved hW.alike hK9, hD9⟩, hS.F ht⟩) hS.2.2 dX6_neededAt_165
  by_cases hk_29 : x_3.toInt = 17
  · refine lv_tableIn (off := 74) (tgt := 92) hx hb dX6_neededAt_18 (by omega) (by omega) (by rw [hk_29]; rfl) (by decide) ?_
    refine lv_iconst (v := 0) hx hb dX6_neededAt_92 (by decide) ?_
    have hlit : Int32.toInt 0 = 0 := by decide
    have hP9 := hP.sub (ws' := [(h0, .inr (6, [.ref nor])), (pp, .inr (9, [.ref gco, .ref gar, .ref gki, .ref gfu])), (gco, .inr (2, [.ref cop, .ref ca, .ref cb, .ref cplace, .ref cnext, .ref cneeded, .int cz, .int ct])), (cop, .inl (ckop, 3000, .inl cgop)), (ca, .inl (cka, 3000, .inl cga)), (cb, .inl (ckb, 3000, .inl cgb)), (cplace, .inl (ckplace, 3000, .inl cgplace)), (cnext, .inl (cknext, 3000, .inl cgnext)), (cneeded, .inl (ckneeded, 3000, .inl cgneeded)), (gar, .inr (0, [.ref akind, .ref anext, .ref abefore, .ref aleave, .ref afirstSlot, .ref abuilds, .int az])), (akind, .inl (akkind, 400, .inl agkind)), (anext, .inl (aknext, 400, .inl agnext)), (abefore, .inl (akbefore, 400, .inl agbefore)), (aleave, .inl (akleave, 400, .inl agleave)), (afirstSlot, .inl (akfirstSlot, 400, .inl agfirstSlot)), (abuilds, .inl (akbuilds, 400, .inl agbuilds)), (gki, .inr (4, [.ref kw, .ref kf, .int kz])), (kw, .inl (k1, 20, .inr (.inl kgw))), (kf, .inl (k2, 20, .inl kgf))]) [0, 1, 12, 13, 14, 15, 16, 17, 18, 2, 3, 4, 5, 6, 7, 8, 9, 10, 11] rfl
    have hD9 := hD.sub (ws' := [(h0, .inr (6, [.ref nor])), (pp, .inr (9, [.ref gco, .ref gar, .ref gki, .ref gfu])), (gco, .inr (2, [.ref cop, .ref ca, .ref cb, .ref cplace, .ref cnext, .ref cneeded, .int cz, .int ct])), (cop, .inl (ckop, 3000, .inl cgop)), (ca, .inl (cka, 3000, .inl cga)), (cb, .inl (ckb, 3000, .inl cgb)), (cplace, .inl (ckplace, 3000, .inl cgplace)), (cnext, .inl (cknext, 3000, .inl cgnext)), (cneeded, .inl (ckneeded, 3000, .inl cgneeded)), (gar, .inr (0, [.ref akind, .ref anext, .ref abefore, .ref aleave, .ref afirstSlot, .ref abuilds, .int az])), (akind, .inl (akkind, 400, .inl agkind)), (anext, .inl (aknext, 400, .inl agnext)), (abefore, .inl (akbefore, 400, .inl agbefore)), (aleave, .inl (akleave, 400, .inl agleave)), (afirstSlot, .inl (akfirstSlot, 400, .inl agfirstSlot)), (abuilds, .inl (akbuilds, 400, .inl agbuilds)), (gki, .inr (4, [.ref kw, .ref kf, .int kz])), (kw, .inl (k1, 20, .inr (.inl kgw))), (kf, .inl (k2, 20, .inl kgf))]) [0, 1, 12, 13, 14, 15, 16, 17, 18, 2, 3, 4, 5, 6, 7, 8, 9, 10, 11] (by decide) rfl
    have hK9 := hK.sub (tys' := [(ckop, .int), (cka, .int), (ckb, .int), (ckplace, .int), (cknext, .int), (ckneeded, .int), (akkind, .int), (aknext, .int), (akbefore, .int), (akleave, .int), (akfirstSlot, .int), (akbuilds, .int), (k1, .long), (k2, .int)]) [8, 9, 10, 11, 12, 13, 0, 1, 2, 3, 4, 5, 6, 7] rfl
    exact W.iret (v := 0) hx hb hr (fun t ht hW => ⟨⟨0, (), rfl, (fun k hk => by rw [zn_lit (x := cgop (Int32.toNatClampNeg row)) (n := 17) (by omega)]; exact zbit_z hk), by rw [ht]; exact hP9, va_K.moved hW.alike hK9, hD9⟩, hS.F ht⟩) hS.2.2 dX6_neededAt_93
  by_cases hk_30 : x_3.toInt = 4 ∨ x_3.toInt = 5 ∨ x_3.toInt = 6 ∨ x_3.toInt = 7 ∨ x_3.toInt = 8 ∨ x_3.toInt = 9 ∨ x_3.toInt = 10 ∨ x_3.toInt = 11
  · refine lv_tableIn (off := 148) (tgt := 166) hx hb dX6_neededAt_18 (by omega) (by omega) (by rcases hk_30 with hk_30 | hk_30 | hk_30 | hk_30 | hk_30 | hk_30 | hk_30 | hk_30 <;> rw [hk_30] <;> rfl) (by decide) ?_
    refine lv_iload hx hb dX6_neededAt_166 (lv_at hl 0 rfl) ?_
    have hP9 := hP.sub (ws' := [(h0, .inr (6, [.ref nor])), (pp, .inr (9, [.ref gco, .ref gar, .ref gki, .ref gfu])), (gco, .inr (2, [.ref cop, .ref ca, .ref cb, .ref cplace, .ref cnext, .ref cneeded, .int cz, .int ct])), (cop, .inl (ckop, 3000, .inl cgop)), (ca, .inl (cka, 3000, .inl cga)), (cb, .inl (ckb, 3000, .inl cgb)), (cplace, .inl (ckplace, 3000, .inl cgplace)), (cnext, .inl (cknext, 3000, .inl cgnext)), (cneeded, .inl (ckneeded, 3000, .inl cgneeded)), (gar, .inr (0, [.ref akind, .ref anext, .ref abefore, .ref aleave, .ref afirstSlot, .ref abuilds, .int az])), (akind, .inl (akkind, 400, .inl agkind)), (anext, .inl (aknext, 400, .inl agnext)), (abefore, .inl (akbefore, 400, .inl agbefore)), (aleave, .inl (akleave, 400, .inl agleave)), (afirstSlot, .inl (akfirstSlot, 400, .inl agfirstSlot)), (abuilds, .inl (akbuilds, 400, .inl agbuilds)), (gki, .inr (4, [.ref kw, .ref kf, .int kz])), (kw, .inl (k1, 20, .inr (.inl kgw))), (kf, .inl (k2, 20, .inl kgf))]) [0, 1, 12, 13, 14, 15, 16, 17, 18, 2, 3, 4, 5, 6, 7, 8, 9, 10, 11] rfl
    have hD9 := hD.sub (ws' := [(h0, .inr (6, [.ref nor])), (pp, .inr (9, [.ref gco, .ref gar, .ref gki, .ref gfu])), (gco, .inr (2, [.ref cop, .ref ca, .ref cb, .ref cplace, .ref cnext, .ref cneeded, .int cz, .int ct])), (cop, .inl (ckop, 3000, .inl cgop)), (ca, .inl (cka, 3000, .inl cga)), (cb, .inl (ckb, 3000, .inl cgb)), (cplace, .inl (ckplace, 3000, .inl cgplace)), (cnext, .inl (cknext, 3000, .inl cgnext)), (cneeded, .inl (ckneeded, 3000, .inl cgneeded)), (gar, .inr (0, [.ref akind, .ref anext, .ref abefore, .ref aleave, .ref afirstSlot, .ref abuilds, .int az])), (akind, .inl (akkind, 400, .inl agkind)), (anext, .inl (aknext, 400, .inl agnext)), (abefore, .inl (akbefore, 400, .inl agbefore)), (aleave, .inl (akleave, 400, .inl agleave)), (afirstSlot, .inl (akfirstSlot, 400, .inl agfirstSlot)), (abuilds, .inl (akbuilds, 400, .inl agbuilds)), (gki, .inr (4, [.ref kw, .ref kf, .int kz])), (kw, .inl (k1, 20, .inr (.inl kgw))), (kf, .inl (k2, 20, .inl kgf))]) [0, 1, 12, 13, 14, 15, 16, 17, 18, 2, 3, 4, 5, 6, 7, 8, 9, 10, 11] (by decide) rfl
    have hK9 := hK.sub (tys' := [(ckop, .int), (cka, .int), (ckb, .int), (ckplace, .int), (cknext, .int), (ckneeded, .int), (akkind, .int), (aknext, .int), (akbefore, .int), (akleave, .int), (akfirstSlot, .int), (akbuilds, .int), (k1, .long), (k2, .int)]) [8, 9, 10, 11, 12, 13, 0, 1, 2, 3, 4, 5, 6, 7] rfl
    exact W.iret (v := r_1) hx hb hr (fun t ht hW => ⟨⟨r_1, (), rfl, (fun k hk => by rw [znb_d (zn_nlit (n := 3) (by omega) (by decide)) (zn_nlit (n := 12) (by omega) (by decide)) (zn_nlit (n := 13) (by omega) (by decide)) (zn_nlit (n := 14) (by omega) (by decide)) (zn_nlit (n := 15) (by omega) (by decide)) (zn_nlit (n := 16) (by omega) (by decide)) (zn_nlit (n := 17) (by omega) (by decide)), hB]), by rw [ht]; exact hP9, va_K.moved hW.alike hK9, hD9⟩, hS.F ht⟩) hS.2.2 dX6_neededAt_168
  refine lv_tableOut (tgt := 166) hx hb dX6_neededAt_18 (by omega) (by decide) ?_
  refine lv_iload hx hb dX6_neededAt_166 (lv_at hl 0 rfl) ?_
  have hP9 := hP.sub (ws' := [(h0, .inr (6, [.ref nor])), (pp, .inr (9, [.ref gco, .ref gar, .ref gki, .ref gfu])), (gco, .inr (2, [.ref cop, .ref ca, .ref cb, .ref cplace, .ref cnext, .ref cneeded, .int cz, .int ct])), (cop, .inl (ckop, 3000, .inl cgop)), (ca, .inl (cka, 3000, .inl cga)), (cb, .inl (ckb, 3000, .inl cgb)), (cplace, .inl (ckplace, 3000, .inl cgplace)), (cnext, .inl (cknext, 3000, .inl cgnext)), (cneeded, .inl (ckneeded, 3000, .inl cgneeded)), (gar, .inr (0, [.ref akind, .ref anext, .ref abefore, .ref aleave, .ref afirstSlot, .ref abuilds, .int az])), (akind, .inl (akkind, 400, .inl agkind)), (anext, .inl (aknext, 400, .inl agnext)), (abefore, .inl (akbefore, 400, .inl agbefore)), (aleave, .inl (akleave, 400, .inl agleave)), (afirstSlot, .inl (akfirstSlot, 400, .inl agfirstSlot)), (abuilds, .inl (akbuilds, 400, .inl agbuilds)), (gki, .inr (4, [.ref kw, .ref kf, .int kz])), (kw, .inl (k1, 20, .inr (.inl kgw))), (kf, .inl (k2, 20, .inl kgf))]) [0, 1, 12, 13, 14, 15, 16, 17, 18, 2, 3, 4, 5, 6, 7, 8, 9, 10, 11] rfl
  have hD9 := hD.sub (ws' := [(h0, .inr (6, [.ref nor])), (pp, .inr (9, [.ref gco, .ref gar, .ref gki, .ref gfu])), (gco, .inr (2, [.ref cop, .ref ca, .ref cb, .ref cplace, .ref cnext, .ref cneeded, .int cz, .int ct])), (cop, .inl (ckop, 3000, .inl cgop)), (ca, .inl (cka, 3000, .inl cga)), (cb, .inl (ckb, 3000, .inl cgb)), (cplace, .inl (ckplace, 3000, .inl cgplace)), (cnext, .inl (cknext, 3000, .inl cgnext)), (cneeded, .inl (ckneeded, 3000, .inl cgneeded)), (gar, .inr (0, [.ref akind, .ref anext, .ref abefore, .ref aleave, .ref afirstSlot, .ref abuilds, .int az])), (akind, .inl (akkind, 400, .inl agkind)), (anext, .inl (aknext, 400, .inl agnext)), (abefore, .inl (akbefore, 400, .inl agbefore)), (aleave, .inl (akleave, 400, .inl agleave)), (afirstSlot, .inl (akfirstSlot, 400, .inl agfirstSlot)), (abuilds, .inl (akbuilds, 400, .inl agbuilds)), (gki, .inr (4, [.ref kw, .ref kf, .int kz])), (kw, .inl (k1, 20, .inr (.inl kgw))), (kf, .inl (k2, 20, .inl kgf))]) [0, 1, 12, 13, 14, 15, 16, 17, 18, 2, 3, 4, 5, 6, 7, 8, 9, 10, 11] (by decide) rfl
  have hK9 := hK.sub (tys' := [(ckop, .int), (cka, .int), (ckb, .int), (ckplace, .int), (cknext, .int), (ckneeded, .int), (akkind, .int), (aknext, .int), (akbefore, .int), (akleave, .int), (akfirstSlot, .int), (akbuilds, .int), (k1, .long), (k2, .int)]) [8, 9, 10, 11, 12, 13, 0, 1, 2, 3, 4, 5, 6, 7] rfl
  exact W.iret (v := r_1) hx hb hr (fun t ht hW => ⟨⟨r_1, (), rfl, (fun k hk => by rw [znb_d (zn_nlit (n := 3) (by omega) (by decide)) (zn_nlit (n := 12) (by omega) (by decide)) (zn_nlit (n := 13) (by omega) (by decide)) (zn_nlit (n := 14) (by omega) (by decide)) (zn_nlit (n := 15) (by omega) (by decide)) (zn_nlit (n := 16) (by omega) (by decide)) (zn_nlit (n := 17) (by omega) (by decide)), hB]), by rw [ht]; exact hP9, va_K.moved hW.alike hK9, hD9⟩, hS.F ht⟩) hS.2.2 dX6_neededAt_168

end
section
/-- the facts that tell how many names there are stay -/
def zfs (ff ff2 : Nat → Int32) : Prop := ∀ g : Nat, ff2 (5 * g) = ff (5 * g) ∧ ff2 (5 * g + 1) = ff (5 * g + 1)
theorem zfs_rf {ff : Nat → Int32} : zfs ff ff := fun _ => ⟨rfl, rfl⟩
theorem zfs_tr {ff f1 f2 : Nat → Int32} (a : zfs ff f1) (b : zfs f1 f2) : zfs ff f2 := fun g => ⟨(b g).1.trans (a g).1, (b g).2.trans (a g).2⟩
theorem zfs_ge {ff f1 : Nat → Int32} {F w : Nat} {x : Int32} (e : f1 = ff ∨ f1 = upd ff (5 * F + w) x) (h1 : 2 ≤ w) (h2 : w < 5) : zfs ff f1 := fun g => by
  rcases e with e | e
  · rw [e]; exact ⟨rfl, rfl⟩
  · rw [e, zu_n (by omega), zu_n (by omega)]; exact ⟨rfl, rfl⟩
/-- the order so far: the chain's rows one behind another -/
def zod (nx : Nat → Int32) (L : List Nat) (od : Nat → Int32) (row : Int32) (n : Int) : Prop := ∃ D R, L = D ++ R ∧ (D.length : Int) = n ∧ zli nx row R ∧ ∀ j, j < D.length → (od j).toInt = (D.getD j 0 : Nat)
theorem zod_0 {nx : Nat → Int32} {L : List Nat} {od : Nat → Int32} {row : Int32} {n : Int} (h : zli nx row L) (hn : n = 0) : zod nx L od row n := ⟨[], L, rfl, by rw [hn]; rfl, h, fun j hj => absurd hj (by show ¬ j < 0; omega)⟩
theorem zod_in {nx : Nat → Int32} {L : List Nat} {od : Nat → Int32} {row : Int32} {n : Int} (h : zod nx L od row n) (hr : row.toInt ≠ -1) : 0 ≤ row.toInt ∧ Int32.toNatClampNeg row ∈ L ∧ n < (L.length : Int) := by
  obtain ⟨D, R, e, hl, hc, -⟩ := h
  cases R with
  | nil => exact (hr hc).elim
  | cons y R =>
    have h1 : row.toInt = (y : Int) := hc.1
    have := zn_nat (x := row) (by omega)
    refine ⟨by omega, ?_, ?_⟩
    · rw [e, show Int32.toNatClampNeg row = y by omega]; exact List.mem_append.mpr (Or.inr List.mem_cons_self)
    · rw [e, List.length_append, List.length_cons]; omega
theorem zod_st {nx : Nat → Int32} {L : List Nat} {od od2 : Nat → Int32} {row row2 z : Int32} {n2 : Int} (h : zod nx L od row z.toInt) (hr : row.toInt ≠ -1) (e : od2 = upd od (Int32.toNatClampNeg z) row) (e2 : row2 = nx (Int32.toNatClampNeg row)) (en : n2 = z.toInt + 1) : zod nx L od2 row2 n2 := by
  obtain ⟨D, R, eL, hl, hc, ho⟩ := h
  cases R with
  | nil => exact (hr hc).elim
  | cons y R =>
    have h1 : row.toInt = (y : Int) := hc.1
    have hy := zn_nat (x := row) (by omega)
    have hz := zn_nat (x := z) (by omega)
    refine ⟨D ++ [y], R, by rw [eL]; simp, by rw [List.length_append]; show ((D.length + 1 : Nat) : Int) = _; omega, by rw [e2, show Int32.toNatClampNeg row = y by omega]; exact hc.2, fun j hj => ?_⟩
    rw [List.length_append] at hj
    have hj : j < D.length + 1 := hj
    rw [e]
    by_cases u : j = Int32.toNatClampNeg z
    · rw [u, zu_s, h1]
      have : Int32.toNatClampNeg z = D.length := by omega
      rw [this, List.getD_eq_getElem?_getD, List.getElem?_append_right (Nat.le_refl _), Nat.sub_self]; rfl
    · rw [zu_n u, ho j (by omega), List.getD_eq_getElem?_getD, List.getD_eq_getElem?_getD, List.getElem?_append_left (by omega)]
theorem zod_end {nx : Nat → Int32} {L : List Nat} {od : Nat → Int32} {row : Int32} {n : Int} (h : zod nx L od row n) (hx : row.toInt = -1 ∨ (L.length : Int) ≤ n) : (L.length : Int) = n ∧ ∀ j, j < L.length → (od j).toInt = (L.getD j 0 : Nat) := by
  obtain ⟨D, R, e, hl, hc, ho⟩ := h
  cases R with
  | nil => rw [e, List.append_nil]; exact ⟨hl, ho⟩
  | cons y R =>
    exfalso
    have h1 : row.toInt = (y : Int) := hc.1
    rw [e, List.length_append, List.length_cons] at hx
    omega
theorem zli_sf {nx : Nat → Int32} {R : List Nat} : ∀ {D : List Nat} {x : Int32}, zli nx x (D ++ R) → ∃ y, zli nx y R
  | [], x, h => ⟨x, h⟩
  | _ :: _, _, h => zli_sf h.2
theorem zall_sf {S : Nat → Nat → Int32} {G : Nat → Nat → Int} {R : List Nat} : ∀ {D : List Nat}, zall S G (D ++ R) → zall S G R
  | [], h => h
  | _ :: _, h => zall_sf h.2
/-- the rows behind the first n are marked -/
def zmk (S : Nat → Nat → Int32) (nd : Nat → Int32) (L : List Nat) (n : Int) : Prop := ∃ D R, L = D ++ R ∧ (D.length : Int) = n ∧ zeq S nd R
theorem zmk_0 {S : Nat → Nat → Int32} {nd : Nat → Int32} {L : List Nat} {n : Int} (h : (L.length : Int) = n) : zmk S nd L n := ⟨L, [], (List.append_nil L).symm, h, trivial⟩
theorem zmk_end {S : Nat → Nat → Int32} {nd : Nat → Int32} {L : List Nat} {n : Int} (h : zmk S nd L n) (hn : n ≤ 0) : zeq S nd L := by
  obtain ⟨D, R, e, hl, hz⟩ := h
  have : D = [] := List.eq_nil_of_length_eq_zero (by omega)
  rw [e, this]; exact hz
theorem zmk_st {S : Nat → Nat → Int32} {G : Nat → Nat → Int} {nd nd2 : Nat → Int32} {L : List Nat} {n n2 : Int} {x v : Int32} {r : Nat} (h : zmk S nd L n) (hl : zli (S 3) x L) (ha : zall S G L) (h1 : 1 ≤ n) (er : (r : Int) = (L.getD (n - 1).toNat 0 : Nat)) (e : nd2 = upd nd r v) (hv : ∀ k, k < 32 → zbit v k = znb S nd r (zbh S nd r) k (Int32.toNatClampNeg (S 0 r))) (en : n2 = n - 1) : zmk S nd2 L n2 := by
  obtain ⟨D, R, eL, hD, hz⟩ := h
  have hne : D ≠ [] := fun g => by rw [g] at hD; have : ((0 : Nat) : Int) = n := hD; omega
  obtain ⟨D', y, rfl⟩ : ∃ D' y, D = D' ++ [y] := ⟨D.dropLast, D.getLast hne, (List.dropLast_concat_getLast hne).symm⟩
  rw [List.length_append] at hD
  have hD : ((D'.length + 1 : Nat) : Int) = n := hD
  have ey : r = y := by
    have : (n - 1).toNat = D'.length := by omega
    rw [this, eL, List.append_assoc, List.getD_eq_getElem?_getD, List.getElem?_append_right (Nat.le_refl _), Nat.sub_self] at er
    have er : (r : Int) = ((y : Nat) : Int) := er
    omega
  have eL2 : L = D' ++ y :: R := by rw [eL]; simp
  rw [eL2] at hl ha
  obtain ⟨x', hl'⟩ := zli_sf hl
  refine ⟨D', y :: R, eL2, by omega, zeq_st (v := v) hl' (zall_sf ha) hz (by rw [← ey]; exact e) (by rw [← ey]; exact hv)⟩
/-- what Needs asks of a row -/
theorem zq_row {S : Nat → Nat → Int32} {G : Nat → Nat → Int} {L : List Nat} (h24 : ∀ f : Nat, (∃ r ∈ L, G r 4 = (f : Int)) → (S 10 (5 * f + 1)).toInt ≤ 24) (h3 : ∀ r ∈ L, (r : Int) < 3000) (ha4 : (S 13 0).toInt ≤ 400) : ∀ {X : List Nat}, (∀ q ∈ X, q ∈ L) → zall S G X → ∀ r ∈ X, (((S 0 r).toInt = 3 ∨ (S 0 r).toInt = 12 ∨ (S 0 r).toInt = 15) → 0 ≤ (S 1 r).toInt ∧ (S 1 r).toInt < 32) ∧ (((S 0 r).toInt = 13 ∨ (S 0 r).toInt = 14 ∨ (S 0 r).toInt = 16) → -1 ≤ (S 1 r).toInt ∧ (S 1 r).toInt < 3000) ∧ ((S 0 r).toInt = 15 → -1 ≤ (S 2 r).toInt ∧ (S 2 r).toInt < 400) ∧ ((S 0 r).toInt = 15 → zsl (S 5) (S 8) (S 2 r))
  | [], _, _, r, hr => (nomatch hr)
  | y :: X, hX, ⟨⟨f, z⟩, ha⟩, r, hr => by
    rcases List.mem_cons.mp hr with e | e
    · subst e
      have hn := h24 f ⟨r, hX r List.mem_cons_self, z.2.2.2.2.2.2.1⟩
      obtain ⟨z1, z2, z3, z4, z5, z6, z7, z8⟩ := z
      have tgt : ∀ h, ztg S G r X h → -1 ≤ (S 1 r).toInt ∧ (S 1 r).toInt < 3000 := fun h t => by
        rcases t with t | t
        · omega
        · have u := zn_nat t.1
          have v : Int32.toNatClampNeg (S 1 r) ∈ L := by
            rcases List.mem_cons.mp t.2.1 with g | g
            · rw [g]; exact hX r List.mem_cons_self
            · exact hX _ (List.mem_cons_of_mem _ g)
          have := h3 _ v
          omega
      refine ⟨fun g => ?_, fun g => ?_, fun g => ?_, fun g => ?_⟩
      · rcases g with g | g | g
        · rw [zn_lit (n := 3) g] at z8; simp only [zop] at z8; omega
        · rw [zn_lit (n := 12) g] at z8; simp only [zop] at z8; omega
        · rw [zn_lit (n := 15) g] at z8; simp only [zop] at z8; have := z8.1; have := z8.2.1; omega
      · rcases g with g | g | g
        · rw [zn_lit (n := 13) g] at z8; simp only [zop] at z8; exact tgt _ z8.2.2.2
        · rw [zn_lit (n := 14) g] at z8; simp only [zop] at z8; exact tgt _ z8
        · rw [zn_lit (n := 16) g] at z8; simp only [zop] at z8; exact tgt _ z8
      · rw [zn_lit (n := 15) g] at z8; simp only [zop] at z8
        obtain ⟨-, -, AL, -, h4, h5⟩ := z8
        cases AL with
        | nil => have h4 : (S 2 r).toInt = -1 := h4; omega
        | cons a l => have h4 : (S 2 r).toInt = (a : Int) := h4.1; have := (h5 a List.mem_cons_self).1; omega
      · rw [zn_lit (n := 15) g] at z8; simp only [zop] at z8
        obtain ⟨-, -, AL, -, h4, h5⟩ := z8
        exact ⟨AL, h4, fun m hm => by have := (h5 m hm).2.2.2.1; omega⟩
    · exact zq_row h24 h3 ha4 (fun q hq => hX q (List.mem_cons_of_mem _ hq)) ha r e

end
