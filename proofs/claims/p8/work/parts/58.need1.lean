def zfk (kz : Int32) (kf : Nat → Int32) (k : Int32) : Int := if 0 ≤ k.toInt ∧ k.toInt < kz.toInt ∧ 0 < (kf (Int32.toNatClampNeg k)).toInt then (kf (Int32.toNatClampNeg k)).toInt else 0
/-- the arms of a chain have their first slots -/
def zsl (nx af : Nat → Int32) (x : Int32) : Prop := ∃ AL : List Nat, zli nx x AL ∧ ∀ m ∈ AL, 0 ≤ (af m).toInt
theorem zsl_in {nx af : Nat → Int32} {x : Int32} (h : zsl nx af x) (hx : x.toInt ≠ -1) : 0 ≤ x.toInt ∧ 0 ≤ (af (Int32.toNatClampNeg x)).toInt ∧ zsl nx af (nx (Int32.toNatClampNeg x)) := by
  obtain ⟨AL, hl, ha⟩ := h
  cases AL with
  | nil => exact (hx hl).elim
  | cons y l =>
    have h1 : x.toInt = (y : Int) := hl.1
    have := zn_nat (x := x) (by omega)
    have e : Int32.toNatClampNeg x = y := by omega
    rw [e]
    exact ⟨by omega, ha y List.mem_cons_self, l, hl.2, fun m hm => ha m (List.mem_cons_of_mem _ hm)⟩
def znl (S : Nat → Nat → Int32) (nd : Nat → Int32) (fi ne : Int32) (i : Nat) (am : Int32) : Prop := ∀ k, k < 32 → zab S nd k 8 fi = (zbit ne k || zab S nd k (8 - i) am)
theorem znl_0 {S : Nat → Nat → Int32} {nd : Nat → Int32} {fi : Int32} {i : Nat} (hi : i = 0) : znl S nd fi 0 i fi := fun k hk => by rw [zbit_z hk, hi, Bool.false_or]
theorem znl_st {S : Nat → Nat → Int32} {nd : Nat → Int32} {fi ne ne2 am am2 b m : Int32} {i i2 : Nat} (h : znl S nd fi ne i am) (ha : am.toInt ≠ -1) (hi : i < 8) (e1 : ne2 = ne ||| (b &&& (m ^^^ (-1)))) (eb : b = zbe (S 3) nd (S 6 (Int32.toNatClampNeg am))) (em : ∀ k, k < 32 → zbit m k = (decide ((S 8 (Int32.toNatClampNeg am)).toInt ≤ (k : Int)) && decide ((k : Int) < (S 8 (Int32.toNatClampNeg am)).toInt + zfl S (S 4 (Int32.toNatClampNeg am))))) (e2 : am2 = S 5 (Int32.toNatClampNeg am)) (ei : i2 = i + 1) : znl S nd fi ne2 i2 am2 := fun k hk => by
  have e8 : 8 - i = (8 - i2) + 1 := by omega
  have hz : ∀ n, zab S nd k (n + 1) am = if am.toInt = -1 then false else (zbit (zbe (S 3) nd (S 6 (Int32.toNatClampNeg am))) k && !(decide ((S 8 (Int32.toNatClampNeg am)).toInt ≤ (k : Int)) && decide ((k : Int) < (S 8 (Int32.toNatClampNeg am)).toInt + zfl S (S 4 (Int32.toNatClampNeg am))))) || zab S nd k n (S 5 (Int32.toNatClampNeg am)) := fun n => rfl
  rw [h k hk, e8, hz, if_neg ha, e1, zbit_or, zbit_and, zbit_xor1 _ hk, em k hk, eb, e2, Bool.or_assoc]
theorem znl_end {S : Nat → Nat → Int32} {nd : Nat → Int32} {fi ne am : Int32} {i : Nat} (h : znl S nd fi ne i am) (hx : am.toInt = -1 ∨ 8 ≤ i) : ∀ k, k < 32 → zbit ne k = zab S nd k 8 fi := fun k hk => by
  rw [h k hk]
  have : zab S nd k (8 - i) am = false := by
    rcases hx with g | g
    · cases 8 - i with
      | zero => rfl
      | succ n => unfold zab; rw [if_pos g]
    · rw [show 8 - i = 0 by omega]; rfl
  rw [this, Bool.or_false]
theorem znb_d {S : Nat → Nat → Int32} {nd : Nat → Int32} {r : Nat} {b : Int32} {k : Nat} : ∀ {n : Nat}, n ≠ 3 → n ≠ 12 → n ≠ 13 → n ≠ 14 → n ≠ 15 → n ≠ 16 → n ≠ 17 → znb S nd r b k n = zbit b k
  | 0, _, _, _, _, _, _, _ => rfl
  | 1, _, _, _, _, _, _, _ => rfl
  | 2, _, _, _, _, _, _, _ => rfl
  | 3, h, _, _, _, _, _, _ => absurd rfl h
  | 4, _, _, _, _, _, _, _ => rfl
  | 5, _, _, _, _, _, _, _ => rfl
  | 6, _, _, _, _, _, _, _ => rfl
  | 7, _, _, _, _, _, _, _ => rfl
  | 8, _, _, _, _, _, _, _ => rfl
  | 9, _, _, _, _, _, _, _ => rfl
  | 10, _, _, _, _, _, _, _ => rfl
  | 11, _, _, _, _, _, _, _ => rfl
  | 12, _, h, _, _, _, _, _ => absurd rfl h
  | 13, _, _, h, _, _, _, _ => absurd rfl h
  | 14, _, _, _, h, _, _, _ => absurd rfl h
  | 15, _, _, _, _, h, _, _ => absurd rfl h
  | 16, _, _, _, _, _, h, _ => absurd rfl h
  | 17, _, _, _, _, _, _, h => absurd rfl h
  | _ + 18, _, _, _, _, _, _, _ => rfl
theorem zn_lit {x : Int32} {n : Nat} (h : x.toInt = (n : Int)) : Int32.toNatClampNeg x = n := by
  have e : ((Int32.toNatClampNeg x : Nat) : Int) = (x.toInt.toNat : Nat) := rfl
  omega
theorem zn_nlit {x : Int32} {n : Nat} (h : x.toInt ≠ (n : Int)) (hn : n ≠ 0) : Int32.toNatClampNeg x ≠ n := by
  have e : ((Int32.toNatClampNeg x : Nat) : Int) = (x.toInt.toNat : Nat) := rfl
  omega
theorem zbh_be {S : Nat → Nat → Int32} {nd : Nat → Int32} {row : Int32} (h : row.toInt ≠ -1) : zbe (S 3) nd row = zbh S nd (Int32.toNatClampNeg row) := by
  unfold zbe zbh; rw [if_neg h]

set_option maxHeartbeats 4000000 in
set_option maxRecDepth 100000 in
theorem c_X4_fieldsOf_x (l : Launch) (dC : Nat → ClassId) (dI : Nat → Nat → Nat) (aK aV : Nat → Nat) (h0 : Nat) (kw : Nat) (kf : Nat) (k1 : ClassId) (k2 : ClassId) (z : Int32) (gw : Nat → Int64) (gf : Nat → Int32) (k : Int32) (sz : Nat) (hz0 : 0 ≤ z.toInt) (hz1 : z.toInt ≤ 20) (hgf : zx 4 gf) : Met l yX4_fieldsOf (Cond.code yX4_fieldsOf cX4_fieldsOf 2 (some .int) :: zw) ({ frames := 8, cells := 0, slots := 0, locals := 200 }) (va_Pc [.ref h0, .int k] (zP dC dI aK aV sz [(k1, .long), (k2, .int)] [(h0, .inr (4, [.ref kw, .ref kf, .int z])), (kw, .inl (k1, 20, .inr (.inl gw))), (kf, .inl (k2, 20, .inl gf))])) (va_Qi (fun (r : Int32) (u : Unit) => (0 ≤ r.toInt) ∧ (r.toInt ≤ 3) ∧ (r.toInt = zfk z gf k)) (fun u => zQ dC dI (va_A [(h0, .inr (4, [.ref kw, .ref kf, .int z])), (kw, .inl (k1, 20, .inr (.inl gw))), (kf, .inl (k2, 20, .inl gf))] sz) [(k1, .long), (k2, .int)] [(h0, .inr (4, [.ref kw, .ref kf, .int z])), (kw, .inl (k1, 20, .inr (.inl gw))), (kf, .inl (k2, 20, .inl gf))]) (va_A [(h0, .inr (4, [.ref kw, .ref kf, .int z])), (kw, .inl (k1, 20, .inr (.inl gw))), (kf, .inl (k2, 20, .inl gf))] sz)) 0 0 (va_A [(h0, .inr (4, [.ref kw, .ref kf, .int z])), (kw, .inl (k1, 20, .inr (.inl gw))), (kf, .inl (k2, 20, .inl gf))] sz) := by
  refine Met.ofW (cc := cX4_fieldsOf) (maxL := 2) (ret := (some .int)) (by decide) rfl ?_
  intro p e s m args below meth c s₁ B hml hv
  obtain ⟨rfl, hsz, hP, hK, hD0, hN, hT⟩ := hv
  have hx := B.exec
  have hb := B.bytes
  have hr := B.returns
  have hts := atoms_spec (ws := Cond.code yX4_fieldsOf cX4_fieldsOf 2 (some .int) :: zw) B.pre
  have hA : ∀ w ∈ zw, w.before _ s = true := fun w h => hts w (List.mem_cons_of_mem _ h)
  have hown : s.vm.findClass RX4 = some m.cls := findClass_of_methodNamed B.named
  have hlocks := B.notSynchronized
  subst hsz
  have hD := hD0.self (sz := s.heap.size)
  generalize hAe : va_A [(h0, .inr (4, [.ref kw, .ref kf, .int z])), (kw, .inl (k1, 20, .inr (.inl gw))), (kf, .inl (k2, 20, .inl gf))] s.heap.size = A at hD hT ⊢
  have hAA : ∀ q : Nat, s.heap.size ≤ q → A q := fun q h => by rw [← hAe]; exact Or.inr h
  have hS : va_S A s.heap s.heap [] := va_S.rf
  have hl := lv_entry ([.ref h0, .int k]) (n := 2) (Nat.le_of_ble_eq_true rfl)
  rw [lg_entry_eq]
  generalize (lg_sl ([.ref h0, .int k]) ++ List.replicate (2 - (lg_sl ([.ref h0, .int k])).length) Slot.unset).toArray = ls at hl ⊢
  have hl : lv_has ls 2 [(0, .ref h0), (1, .int k)] := hl
  refine lv_iload_n hx hb dX4_fieldsOf_0 rfl (lv_at hl 1 rfl) ?_
  refine lv_if_lt (tgt := 30) hx hb dX4_fieldsOf_1 (by decide) (fun c_1 => ?_) (fun c_1 => ?_)
  · have ic_1 : k.toInt < 0 := zi_lt c_1
    refine lv_iconst (v := 0) hx hb dX4_fieldsOf_30 (by decide) ?_
    have hlit : Int32.toInt 0 = 0 := by decide
    have hP9 := hP.sub (ws' := [(h0, .inr (4, [.ref kw, .ref kf, .int z])), (kw, .inl (k1, 20, .inr (.inl gw))), (kf, .inl (k2, 20, .inl gf))]) [0, 1, 2] rfl
    have hD9 := hD.sub (ws' := [(h0, .inr (4, [.ref kw, .ref kf, .int z])), (kw, .inl (k1, 20, .inr (.inl gw))), (kf, .inl (k2, 20, .inl gf))]) [0, 1, 2] (by decide) rfl
    have hK9 := hK.sub (tys' := [(k1, .long), (k2, .int)]) [0, 1] rfl
    exact W.iret (v := 0) hx hb hr (fun t ht hW => ⟨⟨0, (), rfl, ⟨by omega, by omega, (by unfold zfk; rw [if_neg (by omega)]; rfl)⟩, by rw [ht]; exact hP9, va_K.moved hW.alike hK9, hD9⟩, hS.F ht⟩) hS.2.2 dX4_fieldsOf_31
  · have ic_1 : 0 ≤ k.toInt := zi_nlt c_1
    refine lv_iload_n hx hb dX4_fieldsOf_4 rfl (lv_at hl 1 rfl) ?_
    refine lv_aload_n hx hb dX4_fieldsOf_5 rfl (lv_at hl 0 rfl) ?_
    refine va_get (D := (dC, dI)) (ci := 4) (v := .int z) (C := RX4) (T := TX4) (N := 3) hx hb hA zin_X4 hown hK hP 0 rfl rfl 2 (by decide) (hA _ wi_273) (fun _ h9 => h9) rfl dX4_fieldsOf_6 ?_
    refine lv_icmp_ge (tgt := 30) hx hb dX4_fieldsOf_9 (by decide) (fun c_2 => ?_) (fun c_2 => ?_)
    · have ic_2 : z.toInt ≤ k.toInt := zi_le c_2
      refine lv_iconst (v := 0) hx hb dX4_fieldsOf_30 (by decide) ?_
      have hlit : Int32.toInt 0 = 0 := by decide
      have hP9 := hP.sub (ws' := [(h0, .inr (4, [.ref kw, .ref kf, .int z])), (kw, .inl (k1, 20, .inr (.inl gw))), (kf, .inl (k2, 20, .inl gf))]) [0, 1, 2] rfl
      have hD9 := hD.sub (ws' := [(h0, .inr (4, [.ref kw, .ref kf, .int z])), (kw, .inl (k1, 20, .inr (.inl gw))), (kf, .inl (k2, 20, .inl gf))]) [0, 1, 2] (by decide) rfl
      have hK9 := hK.sub (tys' := [(k1, .long), (k2, .int)]) [0, 1] rfl
      exact W.iret (v := 0) hx hb hr (fun t ht hW => ⟨⟨0, (), rfl, ⟨by omega, by omega, (by unfold zfk; rw [if_neg (by omega)]; rfl)⟩, by rw [ht]; exact hP9, va_K.moved hW.alike hK9, hD9⟩, hS.F ht⟩) hS.2.2 dX4_fieldsOf_31
    · have ic_2 : k.toInt < z.toInt := zi_nle c_2
      refine lv_aload_n hx hb dX4_fieldsOf_12 rfl (lv_at hl 0 rfl) ?_
      refine va_get (D := (dC, dI)) (ci := 4) (v := .ref kf) (C := RX4) (T := TX4) (N := 3) hx hb hA zin_X4 hown hK hP 0 rfl rfl 1 (by decide) (hA _ wi_271) (fun _ h9 => h9) rfl dX4_fieldsOf_13 ?_
      refine lv_iload_n hx hb dX4_fieldsOf_16 rfl (lv_at hl 1 rfl) ?_
      refine va_iald hx hb hK hP 2 1 rfl rfl (vp_in_iff.mpr ⟨by omega, by omega⟩) dX4_fieldsOf_17 ?_
      refine lv_topi (fun x_3 ex_3 => ?_)
      have qx_3 : x_3.toInt = (gf (Int32.toNatClampNeg k)).toInt := by rw [ex_3]
      have zx_3 := hgf (Int32.toNatClampNeg k)
      refine lv_if_le (tgt := 30) hx hb dX4_fieldsOf_18 (by decide) (fun c_4 => ?_) (fun c_4 => ?_)
      · have ic_4 : x_3.toInt ≤ 0 := zi_le c_4
        refine lv_iconst (v := 0) hx hb dX4_fieldsOf_30 (by decide) ?_
        have hlit : Int32.toInt 0 = 0 := by decide
        have hP9 := hP.sub (ws' := [(h0, .inr (4, [.ref kw, .ref kf, .int z])), (kw, .inl (k1, 20, .inr (.inl gw))), (kf, .inl (k2, 20, .inl gf))]) [0, 1, 2] rfl
        have hD9 := hD.sub (ws' := [(h0, .inr (4, [.ref kw, .ref kf, .int z])), (kw, .inl (k1, 20, .inr (.inl gw))), (kf, .inl (k2, 20, .inl gf))]) [0, 1, 2] (by decide) rfl
        have hK9 := hK.sub (tys' := [(k1, .long), (k2, .int)]) [0, 1] rfl
        exact W.iret (v := 0) hx hb hr (fun t ht hW => ⟨⟨0, (), rfl, ⟨by omega, by omega, (by unfold zfk; rw [if_neg (by omega)]; rfl)⟩, by rw [ht]; exact hP9, va_K.moved hW.alike hK9, hD9⟩, hS.F ht⟩) hS.2.2 dX4_fieldsOf_31
      · have ic_4 : 0 < x_3.toInt := zi_nle c_4
        refine lv_aload_n hx hb dX4_fieldsOf_21 rfl (lv_at hl 0 rfl) ?_
        refine va_get (D := (dC, dI)) (ci := 4) (v := .ref kf) (C := RX4) (T := TX4) (N := 3) hx hb hA zin_X4 hown hK hP 0 rfl rfl 1 (by decide) (hA _ wi_271) (fun _ h9 => h9) rfl dX4_fieldsOf_22 ?_
        refine lv_iload_n hx hb dX4_fieldsOf_25 rfl (lv_at hl 1 rfl) ?_
        refine va_iald hx hb hK hP 2 1 rfl rfl (vp_in_iff.mpr ⟨by omega, by omega⟩) dX4_fieldsOf_26 ?_
        refine lv_topi (fun x_5 ex_5 => ?_)
        have jx_5 : x_5.toInt = x_3.toInt := by rw [ex_5, ex_3]
        have qx_5 : x_5.toInt = (gf (Int32.toNatClampNeg k)).toInt := by rw [ex_5]
        have zx_5 := hgf (Int32.toNatClampNeg k)
        refine lv_goto (tgt := 31) hx hb dX4_fieldsOf_27 (by decide) ?_
        have hP9 := hP.sub (ws' := [(h0, .inr (4, [.ref kw, .ref kf, .int z])), (kw, .inl (k1, 20, .inr (.inl gw))), (kf, .inl (k2, 20, .inl gf))]) [0, 1, 2] rfl
        have hD9 := hD.sub (ws' := [(h0, .inr (4, [.ref kw, .ref kf, .int z])), (kw, .inl (k1, 20, .inr (.inl gw))), (kf, .inl (k2, 20, .inl gf))]) [0, 1, 2] (by decide) rfl
        have hK9 := hK.sub (tys' := [(k1, .long), (k2, .int)]) [0, 1] rfl
        exact W.iret (v := x_5) hx hb hr (fun t ht hW => ⟨⟨x_5, (), rfl, ⟨by omega, by omega, (by unfold zfk; rw [if_pos (by omega)]; omega)⟩, by rw [ht]; exact hP9, va_K.moved hW.alike hK9, hD9⟩, hS.F ht⟩) hS.2.2 dX4_fieldsOf_31
set_option maxHeartbeats 4000000 in
set_option maxRecDepth 100000 in
theorem c_X9_armFields_x (l : Launch) (dC : Nat → ClassId) (dI : Nat → Nat → Nat) (aK aV : Nat → Nat) (h0 : Nat) (gco : Nat) (gar : Nat) (gki : Nat) (gfu : Nat) (akind : Nat) (anext : Nat) (abefore : Nat) (aleave : Nat) (afirstSlot : Nat) (abuilds : Nat) (akkind : ClassId) (az : Int32) (agkind : Nat → Int32) (kw : Nat) (kf : Nat) (k1 : ClassId) (k2 : ClassId) (kz : Int32) (kgw : Nat → Int64) (kgf : Nat → Int32) (m9 : Int32) (sz : Nat) (hk0 : 0 ≤ kz.toInt) (hk1 : kz.toInt ≤ 20) (hkf : zx 4 kgf) (hm0 : 0 ≤ m9.toInt) (hm1 : m9.toInt < 400) : Met l yX9_armFields (Cond.code yX9_armFields cX9_armFields 2 (some .int) :: zw) ({ frames := 10, cells := 0, slots := 0, locals := 300 }) (va_Pc [.ref h0, .int m9] (zP dC dI aK aV sz [(akkind, .int), (k1, .long), (k2, .int)] [(h0, .inr (9, [.ref gco, .ref gar, .ref gki, .ref gfu])), (gar, .inr (0, [.ref akind, .ref anext, .ref abefore, .ref aleave, .ref afirstSlot, .ref abuilds, .int az])), (akind, .inl (akkind, 400, .inl agkind)), (gki, .inr (4, [.ref kw, .ref kf, .int kz])), (kw, .inl (k1, 20, .inr (.inl kgw))), (kf, .inl (k2, 20, .inl kgf))])) (va_Qi (fun (r : Int32) (u : Unit) => (0 ≤ r.toInt) ∧ (r.toInt ≤ 3) ∧ (r.toInt = zfk kz kgf (agkind (Int32.toNatClampNeg m9)))) (fun u => zQ dC dI (va_A [(h0, .inr (9, [.ref gco, .ref gar, .ref gki, .ref gfu])), (gar, .inr (0, [.ref akind, .ref anext, .ref abefore, .ref aleave, .ref afirstSlot, .ref abuilds, .int az])), (akind, .inl (akkind, 400, .inl agkind)), (gki, .inr (4, [.ref kw, .ref kf, .int kz])), (kw, .inl (k1, 20, .inr (.inl kgw))), (kf, .inl (k2, 20, .inl kgf))] sz) [(akkind, .int), (k1, .long), (k2, .int)] [(h0, .inr (9, [.ref gco, .ref gar, .ref gki, .ref gfu])), (gar, .inr (0, [.ref akind, .ref anext, .ref abefore, .ref aleave, .ref afirstSlot, .ref abuilds, .int az])), (akind, .inl (akkind, 400, .inl agkind)), (gki, .inr (4, [.ref kw, .ref kf, .int kz])), (kw, .inl (k1, 20, .inr (.inl kgw))), (kf, .inl (k2, 20, .inl kgf))]) (va_A [(h0, .inr (9, [.ref gco, .ref gar, .ref gki, .ref gfu])), (gar, .inr (0, [.ref akind, .ref anext, .ref abefore, .ref aleave, .ref afirstSlot, .ref abuilds, .int az])), (akind, .inl (akkind, 400, .inl agkind)), (gki, .inr (4, [.ref kw, .ref kf, .int kz])), (kw, .inl (k1, 20, .inr (.inl kgw))), (kf, .inl (k2, 20, .inl kgf))] sz)) 0 0 (va_A [(h0, .inr (9, [.ref gco, .ref gar, .ref gki, .ref gfu])), (gar, .inr (0, [.ref akind, .ref anext, .ref abefore, .ref aleave, .ref afirstSlot, .ref abuilds, .int az])), (akind, .inl (akkind, 400, .inl agkind)), (gki, .inr (4, [.ref kw, .ref kf, .int kz])), (kw, .inl (k1, 20, .inr (.inl kgw))), (kf, .inl (k2, 20, .inl kgf))] sz) := by
  refine Met.ofW (cc := cX9_armFields) (maxL := 2) (ret := (some .int)) (by decide) rfl ?_
  intro p e s m args below meth c s₁ B hml hv
  obtain ⟨rfl, hsz, hP, hK, hD0, hN, hT⟩ := hv
  have hx := B.exec
  have hb := B.bytes
  have hr := B.returns
  have hts := atoms_spec (ws := Cond.code yX9_armFields cX9_armFields 2 (some .int) :: zw) B.pre
  have hA : ∀ w ∈ zw, w.before _ s = true := fun w h => hts w (List.mem_cons_of_mem _ h)
  have hown : s.vm.findClass RX9 = some m.cls := findClass_of_methodNamed B.named
  have hlocks := B.notSynchronized
  subst hsz
  have hD := hD0.self (sz := s.heap.size)
  generalize hAe : va_A [(h0, .inr (9, [.ref gco, .ref gar, .ref gki, .ref gfu])), (gar, .inr (0, [.ref akind, .ref anext, .ref abefore, .ref aleave, .ref afirstSlot, .ref abuilds, .int az])), (akind, .inl (akkind, 400, .inl agkind)), (gki, .inr (4, [.ref kw, .ref kf, .int kz])), (kw, .inl (k1, 20, .inr (.inl kgw))), (kf, .inl (k2, 20, .inl kgf))] s.heap.size = A at hD hT ⊢
  have hAA : ∀ q : Nat, s.heap.size ≤ q → A q := fun q h => by rw [← hAe]; exact Or.inr h
  have hS : va_S A s.heap s.heap [] := va_S.rf
  have hl := lv_entry ([.ref h0, .int m9]) (n := 2) (Nat.le_of_ble_eq_true rfl)
  rw [lg_entry_eq]
  generalize (lg_sl ([.ref h0, .int m9]) ++ List.replicate (2 - (lg_sl ([.ref h0, .int m9])).length) Slot.unset).toArray = ls at hl ⊢
  have hl : lv_has ls 2 [(0, .ref h0), (1, .int m9)] := hl
  refine lv_aload_n hx hb dX9_armFields_0 rfl (lv_at hl 0 rfl) ?_
  refine va_get (D := (dC, dI)) (ci := 9) (v := .ref gki) (C := RX9) (T := TX9) (N := 4) hx hb hA zin_X9 hown hK hP 0 rfl rfl 2 (by decide) (hA _ wi_316) (fun _ h9 => h9) rfl dX9_armFields_1 ?_
  refine lv_aload_n hx hb dX9_armFields_4 rfl (lv_at hl 0 rfl) ?_
  refine va_get (D := (dC, dI)) (ci := 9) (v := .ref gar) (C := RX9) (T := TX9) (N := 4) hx hb hA zin_X9 hown hK hP 0 rfl rfl 1 (by decide) (hA _ wi_312) (fun _ h9 => h9) rfl dX9_armFields_5 ?_
  refine va_get (D := (dC, dI)) (ci := 0) (v := .ref akind) (C := RX0) (T := TX0) (N := 7) hx hb hA zin_X0 hown hK hP 1 rfl rfl 0 (by decide) (hA _ wi_228) (fun _ h9 => h9) rfl dX9_armFields_8 ?_
  refine lv_iload_n hx hb dX9_armFields_11 rfl (lv_at hl 1 rfl) ?_
  refine va_iald hx hb hK hP 2 0 rfl rfl (vp_in_iff.mpr ⟨by omega, by omega⟩) dX9_armFields_12 ?_
  refine lv_topi (fun x_1 ex_1 => ?_)
  have hPc := hP.sub (ws' := [(gki, .inr (4, [.ref kw, .ref kf, .int kz])), (kw, .inl (k1, 20, .inr (.inl kgw))), (kf, .inl (k2, 20, .inl kgf))]) [3, 4, 5] rfl
  have hDc := hD.sub (ws' := [(gki, .inr (4, [.ref kw, .ref kf, .int kz])), (kw, .inl (k1, 20, .inr (.inl kgw))), (kf, .inl (k2, 20, .inl kgf))]) [3, 4, 5] (by decide) rfl
  have hKc := hK.sub (tys' := [(k1, .long), (k2, .int)]) [1, 2] rfl
  have hFc := va_free (wc := [(gki, .inr (4, [.ref kw, .ref kf, .int kz])), (kw, .inl (k1, 20, .inr (.inl kgw))), (kf, .inl (k2, 20, .inl kgf))]) hD hS hAA [3, 4, 5] rfl
  refine va_calli (va_runV (As := [.int x_1]) (rest := []) ⟨hx, hb, hml, hown, hA⟩ (c_X4_fieldsOf_x l dC dI aK aV gki kw kf k1 k2 kz kgw kgf x_1 s.heap.size (by omega) (by omega) hkf) (cwV 1 hA (zw_V wi_1055 wi_803 wi_804 wi_134 (zw_good wi_805)) rfl rfl rfl (by decide +kernel) ⟨(Nat.le_of_ble_eq_true rfl), (Nat.le_of_ble_eq_true rfl)⟩) ⟨zP_blind, va_recv hKc hPc (ci := 4) (q0 := 0) rfl rfl, zz_pre hKc hPc hDc hN hT hS hFc⟩ rfl rfl hl.1 rfl (lv_room (Nat.le_of_ble_eq_true rfl)) dX9_armFields_13 ⟨(Nat.le_of_ble_eq_true rfl), (Nat.le_of_ble_eq_true rfl)⟩) hS (fun q _ h => hFc q h) hFc (fun r_2 u t H1 locs ht hvm hw hB hz1 hk1 hS => ?_)
  obtain ⟨hP1, hK1, hD1⟩ := hB
  rw [ht] at hP1
  have hK1 := va_K.moved hvm.symm hK1
  obtain ⟨hP, hD⟩ := va_join (wr := [(h0, .inr (9, [.ref gco, .ref gar, .ref gki, .ref gfu])), (gar, .inr (0, [.ref akind, .ref anext, .ref abefore, .ref aleave, .ref afirstSlot, .ref abuilds, .int az])), (akind, .inl (akkind, 400, .inl agkind))]) (w1 := [(gki, .inr (4, [.ref kw, .ref kf, .int kz])), (kw, .inl (k1, 20, .inr (.inl kgw))), (kf, .inl (k2, 20, .inl kgf))]) hP hD [3, 4, 5] [0, 1, 2] rfl rfl (by decide) (by decide) hk1 hFc hP1 hD1
  have hK := (hK.sub (tys' := [(akkind, .int)]) [0] rfl).app hK1
  generalize H1 = H at hP hS ⊢
  have hP : va_P (dC, dI) vwCl [(h0, .inr (9, [.ref gco, .ref gar, .ref gki, .ref gfu])), (gar, .inr (0, [.ref akind, .ref anext, .ref abefore, .ref aleave, .ref afirstSlot, .ref abuilds, .int az])), (akind, .inl (akkind, 400, .inl agkind)), (gki, .inr (4, [.ref kw, .ref kf, .int kz])), (kw, .inl (k1, 20, .inr (.inl kgw))), (kf, .inl (k2, 20, .inl kgf))] H := hP
  have hD : va_D A [(h0, .inr (9, [.ref gco, .ref gar, .ref gki, .ref gfu])), (gar, .inr (0, [.ref akind, .ref anext, .ref abefore, .ref aleave, .ref afirstSlot, .ref abuilds, .int az])), (akind, .inl (akkind, 400, .inl agkind)), (gki, .inr (4, [.ref kw, .ref kf, .int kz])), (kw, .inl (k1, 20, .inr (.inl kgw))), (kf, .inl (k2, 20, .inl kgf))] := hD
  have hK : va_K (dC, dI) vwCl [(akkind, .int), (k1, .long), (k2, .int)] s := hK
  have hw_r_2 := hw
  try dsimp only at hw_r_2
  obtain ⟨hq_3, hq_4, hq_5⟩ := hw
  have hP9 := hP.sub (ws' := [(h0, .inr (9, [.ref gco, .ref gar, .ref gki, .ref gfu])), (gar, .inr (0, [.ref akind, .ref anext, .ref abefore, .ref aleave, .ref afirstSlot, .ref abuilds, .int az])), (akind, .inl (akkind, 400, .inl agkind)), (gki, .inr (4, [.ref kw, .ref kf, .int kz])), (kw, .inl (k1, 20, .inr (.inl kgw))), (kf, .inl (k2, 20, .inl kgf))]) [0, 1, 2, 3, 4, 5] rfl
  have hD9 := hD.sub (ws' := [(h0, .inr (9, [.ref gco, .ref gar, .ref gki, .ref gfu])), (gar, .inr (0, [.ref akind, .ref anext, .ref abefore, .ref aleave, .ref afirstSlot, .ref abuilds, .int az])), (akind, .inl (akkind, 400, .inl agkind)), (gki, .inr (4, [.ref kw, .ref kf, .int kz])), (kw, .inl (k1, 20, .inr (.inl kgw))), (kf, .inl (k2, 20, .inl kgf))]) [0, 1, 2, 3, 4, 5] (by decide) rfl
  have hK9 := hK.sub (tys' := [(akkind, .int), (k1, .long), (k2, .int)]) [0, 1, 2] rfl
  exact W.iret (v := r_2) hx hb hr (fun t ht hW => ⟨⟨r_2, (), rfl, ⟨by omega, by omega, (by rw [hq_5, ex_1])⟩, by rw [ht]; exact hP9, va_K.moved hW.alike hK9, hD9⟩, hS.F ht⟩) hS.2.2 dX9_armFields_16
set_option maxHeartbeats 4000000 in
set_option maxRecDepth 100000 in
theorem c_X2_neededBehind_x (l : Launch) (dC : Nat → ClassId) (dI : Nat → Nat → Nat) (aK aV : Nat → Nat) (h0 : Nat) (cop : Nat) (ca : Nat) (cb : Nat) (cplace : Nat) (cnext : Nat) (cneeded : Nat) (ckop : ClassId) (cka : ClassId) (ckb : ClassId) (ckplace : ClassId) (cknext : ClassId) (ckneeded : ClassId) (z : Int32) (ta : Int32) (gop : Nat → Int32) (ga : Nat → Int32) (gb : Nat → Int32) (gplace : Nat → Int32) (gnext : Nat → Int32) (gneeded : Nat → Int32) (row : Int32) (sz : Nat) (hgn : zx 3000 gnext) (hb0 : -1 ≤ row.toInt) (hb1 : row.toInt < 3000) : Met l yX2_neededBehind (Cond.code yX2_neededBehind cX2_neededBehind 3 (some .int) :: zw) ({ frames := 8, cells := 0, slots := 0, locals := 200 }) (va_Pc [.ref h0, .int row] (zP dC dI aK aV sz [(ckop, .int), (cka, .int), (ckb, .int), (ckplace, .int), (cknext, .int), (ckneeded, .int)] [(h0, .inr (2, [.ref cop, .ref ca, .ref cb, .ref cplace, .ref cnext, .ref cneeded, .int z, .int ta])), (cop, .inl (ckop, 3000, .inl gop)), (ca, .inl (cka, 3000, .inl ga)), (cb, .inl (ckb, 3000, .inl gb)), (cplace, .inl (ckplace, 3000, .inl gplace)), (cnext, .inl (cknext, 3000, .inl gnext)), (cneeded, .inl (ckneeded, 3000, .inl gneeded))])) (va_Qi (fun (r : Int32) (u : Unit) => (r = zbe gnext gneeded row)) (fun u => zQ dC dI (va_A [(h0, .inr (2, [.ref cop, .ref ca, .ref cb, .ref cplace, .ref cnext, .ref cneeded, .int z, .int ta])), (cop, .inl (ckop, 3000, .inl gop)), (ca, .inl (cka, 3000, .inl ga)), (cb, .inl (ckb, 3000, .inl gb)), (cplace, .inl (ckplace, 3000, .inl gplace)), (cnext, .inl (cknext, 3000, .inl gnext)), (cneeded, .inl (ckneeded, 3000, .inl gneeded))] sz) [(ckop, .int), (cka, .int), (ckb, .int), (ckplace, .int), (cknext, .int), (ckneeded, .int)] [(h0, .inr (2, [.ref cop, .ref ca, .ref cb, .ref cplace, .ref cnext, .ref cneeded, .int z, .int ta])), (cop, .inl (ckop, 3000, .inl gop)), (ca, .inl (cka, 3000, .inl ga)), (cb, .inl (ckb, 3000, .inl gb)), (cplace, .inl (ckplace, 3000, .inl gplace)), (cnext, .inl (cknext, 3000, .inl gnext)), (cneeded, .inl (ckneeded, 3000, .inl gneeded))]) (va_A [(h0, .inr (2, [.ref cop, .ref ca, .ref cb, .ref cplace, .ref cnext, .ref cneeded, .int z, .int ta])), (cop, .inl (ckop, 3000, .inl gop)), (ca, .inl (cka, 3000, .inl ga)), (cb, .inl (ckb, 3000, .inl gb)), (cplace, .inl (ckplace, 3000, .inl gplace)), (cnext, .inl (cknext, 3000, .inl gnext)), (cneeded, .inl (ckneeded, 3000, .inl gneeded))] sz)) 0 0 (va_A [(h0, .inr (2, [.ref cop, .ref ca, .ref cb, .ref cplace, .ref cnext, .ref cneeded, .int z, .int ta])), (cop, .inl (ckop, 3000, .inl gop)), (ca, .inl (cka, 3000, .inl ga)), (cb, .inl (ckb, 3000, .inl gb)), (cplace, .inl (ckplace, 3000, .inl gplace)), (cnext, .inl (cknext, 3000, .inl gnext)), (cneeded, .inl (ckneeded, 3000, .inl gneeded))] sz) := by
  refine Met.ofW (cc := cX2_neededBehind) (maxL := 3) (ret := (some .int)) (by decide) rfl ?_
  intro p e s m args below meth c s₁ B hml hv
  obtain ⟨rfl, hsz, hP, hK, hD0, hN, hT⟩ := hv
  have hx := B.exec
  have hb := B.bytes
  have hr := B.returns
  have hts := atoms_spec (ws := Cond.code yX2_neededBehind cX2_neededBehind 3 (some .int) :: zw) B.pre
  have hA : ∀ w ∈ zw, w.before _ s = true := fun w h => hts w (List.mem_cons_of_mem _ h)
  have hown : s.vm.findClass RX2 = some m.cls := findClass_of_methodNamed B.named
  have hlocks := B.notSynchronized
  subst hsz
  have hD := hD0.self (sz := s.heap.size)
  generalize hAe : va_A [(h0, .inr (2, [.ref cop, .ref ca, .ref cb, .ref cplace, .ref cnext, .ref cneeded, .int z, .int ta])), (cop, .inl (ckop, 3000, .inl gop)), (ca, .inl (cka, 3000, .inl ga)), (cb, .inl (ckb, 3000, .inl gb)), (cplace, .inl (ckplace, 3000, .inl gplace)), (cnext, .inl (cknext, 3000, .inl gnext)), (cneeded, .inl (ckneeded, 3000, .inl gneeded))] s.heap.size = A at hD hT ⊢
  have hAA : ∀ q : Nat, s.heap.size ≤ q → A q := fun q h => by rw [← hAe]; exact Or.inr h
  have hS : va_S A s.heap s.heap [] := va_S.rf
  have hl := lv_entry ([.ref h0, .int row]) (n := 3) (Nat.le_of_ble_eq_true rfl)
  rw [lg_entry_eq]
  generalize (lg_sl ([.ref h0, .int row]) ++ List.replicate (3 - (lg_sl ([.ref h0, .int row])).length) Slot.unset).toArray = ls at hl ⊢
  have hl : lv_has ls 3 [(0, .ref h0), (1, .int row)] := hl
  refine lv_iload_n hx hb dX2_neededBehind_0 rfl (lv_at hl 1 rfl) ?_
  refine lv_iconst (v := (-1)) hx hb dX2_neededBehind_1 (by decide) ?_
  refine lv_icmp_ne (tgt := 9) hx hb dX2_neededBehind_2 (by decide) (fun c_1 => ?_) (fun c_1 => ?_)
  · have ic_1 : row.toInt ≠ (-1) := zi_ne c_1
    refine lv_aload_n hx hb dX2_neededBehind_9 rfl (lv_at hl 0 rfl) ?_
    refine va_get (D := (dC, dI)) (ci := 2) (v := .ref cnext) (C := RX2) (T := TX2) (N := 8) hx hb hA zin_X2 hown hK hP 0 rfl rfl 4 (by decide) (hA _ wi_191) (fun _ h9 => h9) rfl dX2_neededBehind_10 ?_
    refine lv_iload_n hx hb dX2_neededBehind_13 rfl (lv_at hl 1 rfl) ?_
    refine va_iald hx hb hK hP 5 4 rfl rfl (vp_in_iff.mpr ⟨by omega, by omega⟩) dX2_neededBehind_14 ?_
    refine lv_topi (fun x_2 ex_2 => ?_)
    have ix_2 : -1 ≤ x_2.toInt ∧ x_2.toInt < 3000 := by rw [ex_2]; exact hgn _
    refine lv_istore_n (lv' := [(2, .int x_2), (0, .ref h0), (1, .int row)]) hx hb dX2_neededBehind_15 rfl hl (by decide) rfl (fun ls hl => ?_)
    refine lv_iload_n hx hb dX2_neededBehind_16 rfl (lv_at hl 0 rfl) ?_
    refine lv_iconst (v := (-1)) hx hb dX2_neededBehind_17 (by decide) ?_
    refine lv_icmp_ne (tgt := 25) hx hb dX2_neededBehind_18 (by decide) (fun c_3 => ?_) (fun c_3 => ?_)
    · have ic_3 : x_2.toInt ≠ (-1) := zi_ne c_3
      refine lv_aload_n hx hb dX2_neededBehind_25 rfl (lv_at hl 1 rfl) ?_
      refine va_get (D := (dC, dI)) (ci := 2) (v := .ref cneeded) (C := RX2) (T := TX2) (N := 8) hx hb hA zin_X2 hown hK hP 0 rfl rfl 5 (by decide) (hA _ wi_194) (fun _ h9 => h9) rfl dX2_neededBehind_26 ?_
      refine lv_iload_n hx hb dX2_neededBehind_29 rfl (lv_at hl 0 rfl) ?_
      refine va_iald hx hb hK hP 6 5 rfl rfl (vp_in_iff.mpr ⟨by omega, by omega⟩) dX2_neededBehind_30 ?_
      refine lv_topi (fun x_4 ex_4 => ?_)
      have hP9 := hP.sub (ws' := [(h0, .inr (2, [.ref cop, .ref ca, .ref cb, .ref cplace, .ref cnext, .ref cneeded, .int z, .int ta])), (cop, .inl (ckop, 3000, .inl gop)), (ca, .inl (cka, 3000, .inl ga)), (cb, .inl (ckb, 3000, .inl gb)), (cplace, .inl (ckplace, 3000, .inl gplace)), (cnext, .inl (cknext, 3000, .inl gnext)), (cneeded, .inl (ckneeded, 3000, .inl gneeded))]) [0, 1, 2, 3, 4, 5, 6] rfl
      have hD9 := hD.sub (ws' := [(h0, .inr (2, [.ref cop, .ref ca, .ref cb, .ref cplace, .ref cnext, .ref cneeded, .int z, .int ta])), (cop, .inl (ckop, 3000, .inl gop)), (ca, .inl (cka, 3000, .inl ga)), (cb, .inl (ckb, 3000, .inl gb)), (cplace, .inl (ckplace, 3000, .inl gplace)), (cnext, .inl (cknext, 3000, .inl gnext)), (cneeded, .inl (ckneeded, 3000, .inl gneeded))]) [0, 1, 2, 3, 4, 5, 6] (by decide) rfl
      have hK9 := hK.sub (tys' := [(ckop, .int), (cka, .int), (ckb, .int), (ckplace, .int), (cknext, .int), (ckneeded, .int)]) [0, 1, 2, 3, 4, 5] rfl
      exact W.iret (v := x_4) hx hb hr (fun t ht hW => ⟨⟨x_4, (), rfl, (by unfold zbe; rw [if_neg (by omega), if_neg (by rw [← ex_2]; omega), ← ex_2]; exact ex_4), by rw [ht]; exact hP9, va_K.moved hW.alike hK9, hD9⟩, hS.F ht⟩) hS.2.2 dX2_neededBehind_31
    · have ic_3 : x_2.toInt = (-1) := zi_eq c_3
      refine lv_iconst (v := 0) hx hb dX2_neededBehind_21 (by decide) ?_
      refine lv_goto (tgt := 31) hx hb dX2_neededBehind_22 (by decide) ?_
      have hlit : Int32.toInt 0 = 0 := by decide
      have hP9 := hP.sub (ws' := [(h0, .inr (2, [.ref cop, .ref ca, .ref cb, .ref cplace, .ref cnext, .ref cneeded, .int z, .int ta])), (cop, .inl (ckop, 3000, .inl gop)), (ca, .inl (cka, 3000, .inl ga)), (cb, .inl (ckb, 3000, .inl gb)), (cplace, .inl (ckplace, 3000, .inl gplace)), (cnext, .inl (cknext, 3000, .inl gnext)), (cneeded, .inl (ckneeded, 3000, .inl gneeded))]) [0, 1, 2, 3, 4, 5, 6] rfl
      have hD9 := hD.sub (ws' := [(h0, .inr (2, [.ref cop, .ref ca, .ref cb, .ref cplace, .ref cnext, .ref cneeded, .int z, .int ta])), (cop, .inl (ckop, 3000, .inl gop)), (ca, .inl (cka, 3000, .inl ga)), (cb, .inl (ckb, 3000, .inl gb)), (cplace, .inl (ckplace, 3000, .inl gplace)), (cnext, .inl (cknext, 3000, .inl gnext)), (cneeded, .inl (ckneeded, 3000, .inl gneeded))]) [0, 1, 2, 3, 4, 5, 6] (by decide) rfl
      have hK9 := hK.sub (tys' := [(ckop, .int), (cka, .int), (ckb, .int), (ckplace, .int), (cknext, .int), (ckneeded, .int)]) [0, 1, 2, 3, 4, 5] rfl
      exact W.iret (v := 0) hx hb hr (fun t ht hW => ⟨⟨0, (), rfl, (by unfold zbe; rw [if_neg (by omega), if_pos (by rw [← ex_2]; omega)]), by rw [ht]; exact hP9, va_K.moved hW.alike hK9, hD9⟩, hS.F ht⟩) hS.2.2 dX2_neededBehind_31
  · have ic_1 : row.toInt = (-1) := zi_eq c_1
    refine lv_iconst (v := (-1)) hx hb dX2_neededBehind_5 (by decide) ?_
    refine lv_goto (tgt := 15) hx hb dX2_neededBehind_6 (by decide) ?_
    refine lv_istore_n (lv' := [(2, .int (-1)), (0, .ref h0), (1, .int row)]) hx hb dX2_neededBehind_15 rfl hl (by decide) rfl (fun ls hl => ?_)
    refine lv_iload_n hx hb dX2_neededBehind_16 rfl (lv_at hl 0 rfl) ?_
    refine lv_iconst (v := (-1)) hx hb dX2_neededBehind_17 (by decide) ?_
    refine lv_icmp_ne (tgt := 25) hx hb dX2_neededBehind_18 (by decide) (fun c_0 => absurd c_0 (by decide)) (fun _ => ?_)
    refine lv_iconst (v := 0) hx hb dX2_neededBehind_21 (by decide) ?_
    refine lv_goto (tgt := 31) hx hb dX2_neededBehind_22 (by decide) ?_
    have hlit : Int32.toInt 0 = 0 := by decide
    have hP9 := hP.sub (ws' := [(h0, .inr (2, [.ref cop, .ref ca, .ref cb, .ref cplace, .ref cnext, .ref cneeded, .int z, .int ta])), (cop, .inl (ckop, 3000, .inl gop)), (ca, .inl (cka, 3000, .inl ga)), (cb, .inl (ckb, 3000, .inl gb)), (cplace, .inl (ckplace, 3000, .inl gplace)), (cnext, .inl (cknext, 3000, .inl gnext)), (cneeded, .inl (ckneeded, 3000, .inl gneeded))]) [0, 1, 2, 3, 4, 5, 6] rfl
    have hD9 := hD.sub (ws' := [(h0, .inr (2, [.ref cop, .ref ca, .ref cb, .ref cplace, .ref cnext, .ref cneeded, .int z, .int ta])), (cop, .inl (ckop, 3000, .inl gop)), (ca, .inl (cka, 3000, .inl ga)), (cb, .inl (ckb, 3000, .inl gb)), (cplace, .inl (ckplace, 3000, .inl gplace)), (cnext, .inl (cknext, 3000, .inl gnext)), (cneeded, .inl (ckneeded, 3000, .inl gneeded))]) [0, 1, 2, 3, 4, 5, 6] (by decide) rfl
    have hK9 := hK.sub (tys' := [(ckop, .int), (cka, .int), (ckb, .int), (ckplace, .int), (cknext, .int), (ckneeded, .int)]) [0, 1, 2, 3, 4, 5] rfl
    exact W.iret (v := 0) hx hb hr (fun t ht hW => ⟨⟨0, (), rfl, (by unfold zbe; rw [if_pos (by omega)]), by rw [ht]; exact hP9, va_K.moved hW.alike hK9, hD9⟩, hS.F ht⟩) hS.2.2 dX2_neededBehind_31
