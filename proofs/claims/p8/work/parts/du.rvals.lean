theorem zas_b (v : Int64) {i : Nat} (hi : i < 64) : (v >>> ((32 : Int32).toInt64 &&& 63)).toBitVec.getLsbD i = if i < 32 then v.toBitVec.getLsbD (32 + i) else v.toBitVec.getLsbD 63 := by
  have e : ((32 : Int32).toInt64 &&& 63).toBitVec.smod 64 = 32#64 := by decide
  rw [Int64.toBitVec_shiftRight, e]
  show (v.toBitVec.sshiftRight 32).getLsbD i = _
  rw [BitVec.getLsbD_sshiftRight]
  have h1 : decide (64 ≤ i) = false := decide_eq_false (by omega)
  rw [h1]
  by_cases g : i < 32
  · rw [if_pos g, if_pos (by omega)]; simp
  · rw [if_neg g, if_neg (by omega), BitVec.msb_eq_getLsbD_last]; simp
theorem zas_c {v x : Int64} (hx : ∀ i, 31 ≤ i → i < 64 → x.toBitVec.getLsbD i = false) : (v >>> ((32 : Int32).toInt64 &&& 63)) = x ↔ zhs v = x := by
  constructor
  · intro h
    apply z64_ext
    intro i hi
    have h63 : v.toBitVec.getLsbD 63 = false := by
      have := zas_b v (i := 31) (by decide)
      rw [h, hx 31 (by decide) (by decide), if_pos (by decide)] at this
      exact this.symm
    rw [zhs_bit, ← h, zas_b v hi]
    by_cases g : i < 32
    · rw [if_pos g]
    · rw [if_neg g, h63, BitVec.getLsbD_of_ge _ _ (by omega)]
  · intro h
    apply z64_ext
    intro i hi
    have h63 : v.toBitVec.getLsbD 63 = false := by
      have := zhs_bit v 31
      rw [h, hx 31 (by decide) (by decide)] at this
      exact this.symm
    rw [zas_b v hi]
    by_cases g : i < 32
    · rw [if_pos g, ← h, zhs_bit]
    · rw [if_neg g, h63, hx i (by omega) hi]
theorem zas_0b : ∀ i : Fin 64, (0 : Int64).toBitVec.getLsbD i.val = false := by decide +kernel
theorem zas_0 {v : Int64} : (v >>> ((32 : Int32).toInt64 &&& 63)) = 0 ↔ zhs v = 0 := zas_c (fun i _ h => zas_0b ⟨i, h⟩)
theorem zas_2 {v : Int64} : (v >>> ((32 : Int32).toInt64 &&& 63)) = 2 ↔ zhs v = 2 := zas_c (fun i h1 h => by rw [ztwo_b ⟨i, h⟩]; exact decide_eq_false (by show ¬ i = 1; omega))
/-- a value whose cell is one of P -/
def zVo (P : Nat → Prop) (kz : Int32) (v : Int64) : Prop := zhs v = 0 ∨ zhs v = 1 ∧ 0 ≤ v.toInt32.toInt ∧ v.toInt32.toInt < kz.toInt ∨ zhs v = 2 ∧ 0 ≤ v.toInt32.toInt ∧ P (Int32.toNatClampNeg v.toInt32)
/-- the cells of P hold such values -/
def zVc (P : Nat → Prop) (kz : Int32) (fd gk : Nat → Int32) (gv : Nat → Int64) : Prop := ∀ c, P c → c < 4000 ∧ 0 ≤ (gk c).toInt ∧ (gk c).toInt < kz.toInt ∧ 1 ≤ (fd (Int32.toNatClampNeg (gk c))).toInt ∧ (fd (Int32.toNatClampNeg (gk c))).toInt ≤ 3 ∧ ∀ k : Nat, (k : Int) < (fd (Int32.toNatClampNeg (gk c))).toInt → zVo P kz (gv (3 * c + k))
/-- what is to be said -/
def zVs (P : Nat → Prop) (kz : Int32) (sy : Nat → Int64) (n : Int) : Prop := ∀ j : Nat, (j : Int) < n → (sy j).toInt < 0 ∨ zVo P kz (sy j)
theorem zVs_1 {P : Nat → Prop} {kz : Int32} {sy sy2 : Nat → Int64} {n2 : Int} {i : Int32} {v : Int64} (h : zVs P kz sy i.toInt) (h0 : 0 ≤ i.toInt) (e : sy2 = vp_updL sy (Int32.toNatClampNeg i) v) (hv : v.toInt < 0 ∨ zVo P kz v) (hn : n2 = i.toInt + 1) : zVs P kz sy2 n2 := fun j hj => by
  have := zn_nat h0
  rw [e]; unfold vp_updL
  by_cases g : j = Int32.toNatClampNeg i
  · rw [if_pos g]; exact hv
  · rw [if_neg g]; exact h j (by omega)
theorem zVs_m {P : Nat → Prop} {kz : Int32} {sy : Nat → Int64} {n n2 : Int} (h : zVs P kz sy n) (hn : n2 ≤ n) : zVs P kz sy n2 := fun j hj => h j (by omega)

set_option maxHeartbeats 4000000 in
set_option maxRecDepth 100000 in
theorem c_X14_isInt_x (l : Launch) (dC : Nat → ClassId) (dI : Nat → Nat → Nat) (aK aV : Nat → Nat) (va : Int64) (sz : Nat)  : Met l yX14_isInt (Cond.code yX14_isInt cX14_isInt 2 (some .boolean) :: zw) ({ frames := 8, cells := 0, slots := 0, locals := 200 }) (va_Pc [.long va] (zP dC dI aK aV sz [] [])) (va_Qi (fun (r : Int32) (u : Unit) => (r.toInt = 1 ∧ zhs va = 0 ∨ r.toInt = 0 ∧ zhs va ≠ 0)) (fun u => zQ dC dI (va_A [] sz) [] []) (va_A [] sz)) 0 0 (va_A [] sz) := by
  refine Met.ofW (cc := cX14_isInt) (maxL := 2) (ret := (some .boolean)) (by decide) rfl ?_
  intro p e s m args below meth c s₁ B hml hv
  obtain ⟨rfl, hsz, hP, hK, hD0, hN, hT⟩ := hv
  have hx := B.exec
  have hb := B.bytes
  have hr := B.returns
  have hts := atoms_spec (ws := Cond.code yX14_isInt cX14_isInt 2 (some .boolean) :: zw) B.pre
  have hA : ∀ w ∈ zw, w.before _ s = true := fun w h => hts w (List.mem_cons_of_mem _ h)
  have hown : s.vm.findClass RX14 = some m.cls := findClass_of_methodNamed B.named
  have hlocks := B.notSynchronized
  subst hsz
  have hD := hD0.self (sz := s.heap.size)
  generalize hAe : va_A [] s.heap.size = A at hD hT ⊢
  have hAA : ∀ q : Nat, s.heap.size ≤ q → A q := fun q h => by rw [← hAe]; exact Or.inr h
  have hS : va_S A s.heap s.heap [] := va_S.rf
  have hl := lv_entry ([.long va]) (n := 2) (Nat.le_of_ble_eq_true rfl)
  rw [lg_entry_eq]
  generalize (lg_sl ([.long va]) ++ List.replicate (2 - (lg_sl ([.long va])).length) Slot.unset).toArray = ls at hl ⊢
  have hl : lv_has ls 2 [(0, .long va)] := hl
  refine lv_lload_n hx hb dX14_isInt_0 rfl (lv_at hl 0 rfl) ?_
  refine lv_bipush (v := 32) hx hb dX14_isInt_1 (by decide) ?_
  refine lv_lshr hx hb dX14_isInt_3 rfl ?_
  refine lv_topl (fun x_1 ex_1 => ?_)
  refine lv_lconst (v := 0) hx hb dX14_isInt_4 (by decide) ?_
  refine W.lcmp hx hb dX14_isInt_5 ?_
  refine lv_topi (fun x_2 ex_2 => ?_)
  have lx_2 := zl_cmp ex_2
  have hl_3 : Int64.toInt 0 = 0 := by decide
  refine lv_if_ne (tgt := 13) hx hb dX14_isInt_6 (by decide) (fun c_4 => ?_) (fun c_4 => ?_)
  · have ic_4 : x_2.toInt ≠ 0 := zi_ne c_4
    refine lv_iconst (v := 0) hx hb dX14_isInt_13 (by decide) ?_
    have hlit : Int32.toInt 0 = 0 := by decide
    have hP9 := hP.sub (ws' := []) [] rfl
    have hD9 := hD.sub (ws' := []) [] (by decide) rfl
    have hK9 := hK.sub (tys' := []) [] rfl
    exact W.zret (v := 0) hx hb hr rfl (fun t ht hW => ⟨⟨0, (), rfl, Or.inr ⟨by decide, fun g9 => by have g8 := zas_0.mpr g9; rw [← ex_1] at g8; have g7 : x_1.toInt = Int64.toInt 0 := (by rw [g8]); omega⟩, by rw [ht]; exact hP9, va_K.moved hW.alike hK9, hD9⟩, hS.F ht⟩) hS.2.2 dX14_isInt_14
  · have ic_4 : x_2.toInt = 0 := zi_eq c_4
    refine lv_iconst (v := 1) hx hb dX14_isInt_9 (by decide) ?_
    refine lv_goto (tgt := 14) hx hb dX14_isInt_10 (by decide) ?_
    have hlit : Int32.toInt 1 = 1 := by decide
    have hP9 := hP.sub (ws' := []) [] rfl
    have hD9 := hD.sub (ws' := []) [] (by decide) rfl
    have hK9 := hK.sub (tys' := []) [] rfl
    exact W.zret (v := 1) hx hb hr rfl (fun t ht hW => ⟨⟨1, (), rfl, Or.inl ⟨by decide, zas_0.mp (by rw [← ex_1]; exact Int64.toInt_inj.mp (by omega))⟩, by rw [ht]; exact hP9, va_K.moved hW.alike hK9, hD9⟩, hS.F ht⟩) hS.2.2 dX14_isInt_14
set_option maxHeartbeats 4000000 in
set_option maxRecDepth 100000 in
theorem c_X14_isCell_x (l : Launch) (dC : Nat → ClassId) (dI : Nat → Nat → Nat) (aK aV : Nat → Nat) (va : Int64) (sz : Nat)  : Met l yX14_isCell (Cond.code yX14_isCell cX14_isCell 2 (some .boolean) :: zw) ({ frames := 8, cells := 0, slots := 0, locals := 200 }) (va_Pc [.long va] (zP dC dI aK aV sz [] [])) (va_Qi (fun (r : Int32) (u : Unit) => (r.toInt = 1 ∧ zhs va = 2 ∨ r.toInt = 0 ∧ zhs va ≠ 2)) (fun u => zQ dC dI (va_A [] sz) [] []) (va_A [] sz)) 0 0 (va_A [] sz) := by
  refine Met.ofW (cc := cX14_isCell) (maxL := 2) (ret := (some .boolean)) (by decide) rfl ?_
  intro p e s m args below meth c s₁ B hml hv
  obtain ⟨rfl, hsz, hP, hK, hD0, hN, hT⟩ := hv
  have hx := B.exec
  have hb := B.bytes
  have hr := B.returns
  have hts := atoms_spec (ws := Cond.code yX14_isCell cX14_isCell 2 (some .boolean) :: zw) B.pre
  have hA : ∀ w ∈ zw, w.before _ s = true := fun w h => hts w (List.mem_cons_of_mem _ h)
  have hown : s.vm.findClass RX14 = some m.cls := findClass_of_methodNamed B.named
  have hlocks := B.notSynchronized
  subst hsz
  have hD := hD0.self (sz := s.heap.size)
  generalize hAe : va_A [] s.heap.size = A at hD hT ⊢
  have hAA : ∀ q : Nat, s.heap.size ≤ q → A q := fun q h => by rw [← hAe]; exact Or.inr h
  have hS : va_S A s.heap s.heap [] := va_S.rf
  have hl := lv_entry ([.long va]) (n := 2) (Nat.le_of_ble_eq_true rfl)
  rw [lg_entry_eq]
  generalize (lg_sl ([.long va]) ++ List.replicate (2 - (lg_sl ([.long va])).length) Slot.unset).toArray = ls at hl ⊢
  have hl : lv_has ls 2 [(0, .long va)] := hl
  refine lv_lload_n hx hb dX14_isCell_0 rfl (lv_at hl 0 rfl) ?_
  refine lv_bipush (v := 32) hx hb dX14_isCell_1 (by decide) ?_
  refine lv_lshr hx hb dX14_isCell_3 rfl ?_
  refine lv_topl (fun x_1 ex_1 => ?_)
  refine lv_ldc2 (v := 2) hx hb hown (hA _ wi_1920) dX14_isCell_4 ?_
  refine W.lcmp hx hb dX14_isCell_7 ?_
  refine lv_topi (fun x_2 ex_2 => ?_)
  have lx_2 := zl_cmp ex_2
  have hl_3 : Int64.toInt 2 = 2 := by decide
  refine lv_if_ne (tgt := 15) hx hb dX14_isCell_8 (by decide) (fun c_4 => ?_) (fun c_4 => ?_)
  · have ic_4 : x_2.toInt ≠ 0 := zi_ne c_4
    refine lv_iconst (v := 0) hx hb dX14_isCell_15 (by decide) ?_
    have hlit : Int32.toInt 0 = 0 := by decide
    have hP9 := hP.sub (ws' := []) [] rfl
    have hD9 := hD.sub (ws' := []) [] (by decide) rfl
    have hK9 := hK.sub (tys' := []) [] rfl
    exact W.zret (v := 0) hx hb hr rfl (fun t ht hW => ⟨⟨0, (), rfl, Or.inr ⟨by decide, fun g9 => by have g8 := zas_2.mpr g9; rw [← ex_1] at g8; have g7 : x_1.toInt = Int64.toInt 2 := (by rw [g8]); omega⟩, by rw [ht]; exact hP9, va_K.moved hW.alike hK9, hD9⟩, hS.F ht⟩) hS.2.2 dX14_isCell_16
  · have ic_4 : x_2.toInt = 0 := zi_eq c_4
    refine lv_iconst (v := 1) hx hb dX14_isCell_11 (by decide) ?_
    refine lv_goto (tgt := 16) hx hb dX14_isCell_12 (by decide) ?_
    have hlit : Int32.toInt 1 = 1 := by decide
    have hP9 := hP.sub (ws' := []) [] rfl
    have hD9 := hD.sub (ws' := []) [] (by decide) rfl
    have hK9 := hK.sub (tys' := []) [] rfl
    exact W.zret (v := 1) hx hb hr rfl (fun t ht hW => ⟨⟨1, (), rfl, Or.inl ⟨by decide, zas_2.mp (by rw [← ex_1]; exact Int64.toInt_inj.mp (by omega))⟩, by rw [ht]; exact hP9, va_K.moved hW.alike hK9, hD9⟩, hS.F ht⟩) hS.2.2 dX14_isCell_16
