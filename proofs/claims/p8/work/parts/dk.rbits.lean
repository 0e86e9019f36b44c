theorem dX14_functionOf_0 : decode cX14_functionOf 0 = .ok (.iconst 0, 1) := by decide +kernel
theorem dX14_functionOf_1 : decode cX14_functionOf 1 = .ok (.istore_n 3, 1) := by decide +kernel
theorem dX14_functionOf_2 : decode cX14_functionOf 2 = .ok (.iload_n 3, 1) := by decide +kernel
theorem dX14_functionOf_3 : decode cX14_functionOf 3 = .ok (.aload_n 0, 1) := by decide +kernel
theorem dX14_functionOf_4 : decode cX14_functionOf 4 = .ok (.getfield 230, 3) := by decide +kernel
theorem dX14_functionOf_7 : decode cX14_functionOf 7 = .ok (.if_icmp .ge 20, 3) := by decide +kernel
theorem dX14_functionOf_10 : decode cX14_functionOf 10 = .ok (.aload_n 0, 1) := by decide +kernel
theorem dX14_functionOf_11 : decode cX14_functionOf 11 = .ok (.getfield 315, 3) := by decide +kernel
theorem dX14_functionOf_14 : decode cX14_functionOf 14 = .ok (.iload_n 3, 1) := by decide +kernel
theorem dX14_functionOf_15 : decode cX14_functionOf 15 = .ok (.laload, 1) := by decide +kernel
theorem dX14_functionOf_16 : decode cX14_functionOf 16 = .ok (.lload_n 1, 1) := by decide +kernel
theorem dX14_functionOf_17 : decode cX14_functionOf 17 = .ok (.lcmp, 1) := by decide +kernel
theorem dX14_functionOf_18 : decode cX14_functionOf 18 = .ok (.ifCond .eq 9, 3) := by decide +kernel
theorem dX14_functionOf_21 : decode cX14_functionOf 21 = .ok (.iinc 3 1, 3) := by decide +kernel
theorem dX14_functionOf_24 : decode cX14_functionOf 24 = .ok (.goto (-22), 3) := by decide +kernel
theorem dX14_functionOf_27 : decode cX14_functionOf 27 = .ok (.iload_n 3, 1) := by decide +kernel
theorem dX14_functionOf_28 : decode cX14_functionOf 28 = .ok (.aload_n 0, 1) := by decide +kernel
theorem dX14_functionOf_29 : decode cX14_functionOf 29 = .ok (.getfield 230, 3) := by decide +kernel
theorem dX14_functionOf_32 : decode cX14_functionOf 32 = .ok (.if_icmp .ge 7, 3) := by decide +kernel
theorem dX14_functionOf_35 : decode cX14_functionOf 35 = .ok (.iload_n 3, 1) := by decide +kernel
theorem dX14_functionOf_36 : decode cX14_functionOf 36 = .ok (.goto 4, 3) := by decide +kernel
theorem dX14_functionOf_39 : decode cX14_functionOf 39 = .ok (.iconst (-1), 1) := by decide +kernel
theorem dX14_functionOf_40 : decode cX14_functionOf 40 = .ok (.ireturn, 1) := by decide +kernel
theorem dX14_ofArm_0 : decode cX14_ofArm 0 = .ok (.iconst 1, 1) := by decide +kernel
theorem dX14_ofArm_1 : decode cX14_ofArm 1 = .ok (.aload_n 0, 1) := by decide +kernel
theorem dX14_ofArm_2 : decode cX14_ofArm 2 = .ok (.getfield 214, 3) := by decide +kernel
theorem dX14_ofArm_5 : decode cX14_ofArm 5 = .ok (.iload_n 1, 1) := by decide +kernel
theorem dX14_ofArm_6 : decode cX14_ofArm 6 = .ok (.iaload, 1) := by decide +kernel
theorem dX14_ofArm_7 : decode cX14_ofArm 7 = .ok (.ishl, 1) := by decide +kernel
theorem dX14_ofArm_8 : decode cX14_ofArm 8 = .ok (.iconst 1, 1) := by decide +kernel
theorem dX14_ofArm_9 : decode cX14_ofArm 9 = .ok (.isub, 1) := by decide +kernel
theorem dX14_ofArm_10 : decode cX14_ofArm 10 = .ok (.aload_n 0, 1) := by decide +kernel
theorem dX14_ofArm_11 : decode cX14_ofArm 11 = .ok (.getfield 205, 3) := by decide +kernel
theorem dX14_ofArm_14 : decode cX14_ofArm 14 = .ok (.iload_n 1, 1) := by decide +kernel
theorem dX14_ofArm_15 : decode cX14_ofArm 15 = .ok (.iaload, 1) := by decide +kernel
theorem dX14_ofArm_16 : decode cX14_ofArm 16 = .ok (.ishl, 1) := by decide +kernel
theorem dX14_ofArm_17 : decode cX14_ofArm 17 = .ok (.ireturn, 1) := by decide +kernel
/-- the first function of this name -/
def rx_ff (fn : Nat → Int64) (w : Int64) (fz r : Int32) : Prop := (r.toInt = -1 ∧ ∀ j : Nat, (j : Int) < fz.toInt → fn j ≠ w) ∨ (0 ≤ r.toInt ∧ r.toInt < fz.toInt ∧ fn (Int32.toNatClampNeg r) = w ∧ ∀ j : Nat, (j : Int) < r.toInt → fn j ≠ w)

set_option maxHeartbeats 4000000 in
set_option maxRecDepth 100000 in
theorem c_X14_bit_x (l : Launch) (dC : Nat → ClassId) (dI : Nat → Nat → Nat) (aK aV : Nat → Nat) (sl : Int32) (sz : Nat)  : Met l yX14_bit (Cond.code yX14_bit cX14_bit 1 (some .int) :: zw) ({ frames := 8, cells := 0, slots := 0, locals := 200 }) (va_Pc [.int sl] (zP dC dI aK aV sz [] [])) (va_Qi (fun (r : Int32) (u : Unit) => (r = (1 : Int32) <<< (sl &&& 31))) (fun u => zQ dC dI (va_A [] sz) [] []) (va_A [] sz)) 0 0 (va_A [] sz) := by
  refine Met.ofW (cc := cX14_bit) (maxL := 1) (ret := (some .int)) (by decide) rfl ?_
  intro p e s m args below meth c s₁ B hml hv
  obtain ⟨rfl, hsz, hP, hK, hD0, hN, hT⟩ := hv
  have hx := B.exec
  have hb := B.bytes
  have hr := B.returns
  have hts := atoms_spec (ws := Cond.code yX14_bit cX14_bit 1 (some .int) :: zw) B.pre
  have hA : ∀ w ∈ zw, w.before _ s = true := fun w h => hts w (List.mem_cons_of_mem _ h)
  have hown : s.vm.findClass RX14 = some m.cls := findClass_of_methodNamed B.named
  have hlocks := B.notSynchronized
  subst hsz
  have hD := hD0.self (sz := s.heap.size)
  generalize hAe : va_A [] s.heap.size = A at hD hT ⊢
  have hAA : ∀ q : Nat, s.heap.size ≤ q → A q := fun q h => by rw [← hAe]; exact Or.inr h
  have hS : va_S A s.heap s.heap [] := va_S.rf
  have hl := lv_entry ([.int sl]) (n := 1) (Nat.le_of_ble_eq_true rfl)
  rw [lg_entry_eq]
  generalize (lg_sl ([.int sl]) ++ List.replicate (1 - (lg_sl ([.int sl])).length) Slot.unset).toArray = ls at hl ⊢
  have hl : lv_has ls 1 [(0, .int sl)] := hl
  refine lv_iconst (v := 1) hx hb dX14_bit_0 (by decide) ?_
  refine lv_iload_n hx hb dX14_bit_1 rfl (lv_at hl 0 rfl) ?_
  refine lv_ishl hx hb dX14_bit_2 ?_
  refine lv_topi (fun x_1 ex_1 => ?_)
  have hP9 := hP.sub (ws' := []) [] rfl
  have hD9 := hD.sub (ws' := []) [] (by decide) rfl
  have hK9 := hK.sub (tys' := []) [] rfl
  exact W.iret (v := x_1) hx hb hr (fun t ht hW => ⟨⟨x_1, (), rfl, ex_1, by rw [ht]; exact hP9, va_K.moved hW.alike hK9, hD9⟩, hS.F ht⟩) hS.2.2 dX14_bit_3
set_option maxHeartbeats 4000000 in
set_option maxRecDepth 100000 in
theorem c_X14_ofArm_x (l : Launch) (dC : Nat → ClassId) (dI : Nat → Nat → Nat) (aK aV : Nat → Nat) (m_spare : Nat) (pr_what : Nat) (pr_place : Nat) (pr_own : Nat) (pr_one : Nat) (pr_two : Nat) (pr_three : Nat) (pr_beside : Nat) (pr_many : Nat) (pr_uses : Nat) (pr_behind : Nat) (pr_name : Nat) (pr_makes : Nat) (pr_parts : Int32) (pr_functionName : Nat) (pr_kindName : Nat) (pr_told : Nat) (pr_body : Nat) (pr_first : Nat) (pr_widest : Nat) (pr_fields : Nat) (pr_functions : Int32) (pr_kinds : Int32) (rk_two : ClassId) (rk_many : ClassId) (rg_two : Nat → Int32) (rg_many : Nat → Int32) (ar : Int32) (sz : Nat) (har0 : 0 ≤ ar.toInt) (har1 : ar.toInt < 2100) : Met l yX14_ofArm (Cond.code yX14_ofArm cX14_ofArm 2 (some .int) :: zw) ({ frames := 8, cells := 0, slots := 0, locals := 200 }) (va_Pc [.ref m_spare, .int ar] (zP dC dI aK aV sz [(rk_two, .int), (rk_many, .int)] [(m_spare, .inr (12, [.ref pr_what, .ref pr_place, .ref pr_own, .ref pr_one, .ref pr_two, .ref pr_three, .ref pr_beside, .ref pr_many, .ref pr_uses, .ref pr_behind, .ref pr_name, .ref pr_makes, .int pr_parts, .ref pr_functionName, .ref pr_kindName, .ref pr_told, .ref pr_body, .ref pr_first, .ref pr_widest, .ref pr_fields, .int pr_functions, .int pr_kinds])), (pr_two, .inl (rk_two, 2100, .inl rg_two)), (pr_many, .inl (rk_many, 2100, .inl rg_many))])) (va_Qi (fun (r : Int32) (u : Unit) => (r = ((1 : Int32) <<< (rg_many (Int32.toNatClampNeg ar) &&& 31) - 1) <<< (rg_two (Int32.toNatClampNeg ar) &&& 31))) (fun u => zQ dC dI (va_A [(m_spare, .inr (12, [.ref pr_what, .ref pr_place, .ref pr_own, .ref pr_one, .ref pr_two, .ref pr_three, .ref pr_beside, .ref pr_many, .ref pr_uses, .ref pr_behind, .ref pr_name, .ref pr_makes, .int pr_parts, .ref pr_functionName, .ref pr_kindName, .ref pr_told, .ref pr_body, .ref pr_first, .ref pr_widest, .ref pr_fields, .int pr_functions, .int pr_kinds])), (pr_two, .inl (rk_two, 2100, .inl rg_two)), (pr_many, .inl (rk_many, 2100, .inl rg_many))] sz) [(rk_two, .int), (rk_many, .int)] [(m_spare, .inr (12, [.ref pr_what, .ref pr_place, .ref pr_own, .ref pr_one, .ref pr_two, .ref pr_three, .ref pr_beside, .ref pr_many, .ref pr_uses, .ref pr_behind, .ref pr_name, .ref pr_makes, .int pr_parts, .ref pr_functionName, .ref pr_kindName, .ref pr_told, .ref pr_body, .ref pr_first, .ref pr_widest, .ref pr_fields, .int pr_functions, .int pr_kinds])), (pr_two, .inl (rk_two, 2100, .inl rg_two)), (pr_many, .inl (rk_many, 2100, .inl rg_many))]) (va_A [(m_spare, .inr (12, [.ref pr_what, .ref pr_place, .ref pr_own, .ref pr_one, .ref pr_two, .ref pr_three, .ref pr_beside, .ref pr_many, .ref pr_uses, .ref pr_behind, .ref pr_name, .ref pr_makes, .int pr_parts, .ref pr_functionName, .ref pr_kindName, .ref pr_told, .ref pr_body, .ref pr_first, .ref pr_widest, .ref pr_fields, .int pr_functions, .int pr_kinds])), (pr_two, .inl (rk_two, 2100, .inl rg_two)), (pr_many, .inl (rk_many, 2100, .inl rg_many))] sz)) 0 0 (va_A [(m_spare, .inr (12, [.ref pr_what, .ref pr_place, .ref pr_own, .ref pr_one, .ref pr_two, .ref pr_three, .ref pr_beside, .ref pr_many, .ref pr_uses, .ref pr_behind, .ref pr_name, .ref pr_makes, .int pr_parts, .ref pr_functionName, .ref pr_kindName, .ref pr_told, .ref pr_body, .ref pr_first, .ref pr_widest, .ref pr_fields, .int pr_functions, .int pr_kinds])), (pr_two, .inl (rk_two, 2100, .inl rg_two)), (pr_many, .inl (rk_many, 2100, .inl rg_many))] sz) := by
  refine Met.ofW (cc := cX14_ofArm) (maxL := 2) (ret := (some .int)) (by decide) rfl ?_
  intro p e s m args below meth c s₁ B hml hv
  obtain ⟨rfl, hsz, hP, hK, hD0, hN, hT⟩ := hv
  have hx := B.exec
  have hb := B.bytes
  have hr := B.returns
  have hts := atoms_spec (ws := Cond.code yX14_ofArm cX14_ofArm 2 (some .int) :: zw) B.pre
  have hA : ∀ w ∈ zw, w.before _ s = true := fun w h => hts w (List.mem_cons_of_mem _ h)
  have hown : s.vm.findClass RX14 = some m.cls := findClass_of_methodNamed B.named
  have hlocks := B.notSynchronized
  subst hsz
  have hD := hD0.self (sz := s.heap.size)
  generalize hAe : va_A [(m_spare, .inr (12, [.ref pr_what, .ref pr_place, .ref pr_own, .ref pr_one, .ref pr_two, .ref pr_three, .ref pr_beside, .ref pr_many, .ref pr_uses, .ref pr_behind, .ref pr_name, .ref pr_makes, .int pr_parts, .ref pr_functionName, .ref pr_kindName, .ref pr_told, .ref pr_body, .ref pr_first, .ref pr_widest, .ref pr_fields, .int pr_functions, .int pr_kinds])), (pr_two, .inl (rk_two, 2100, .inl rg_two)), (pr_many, .inl (rk_many, 2100, .inl rg_many))] s.heap.size = A at hD hT ⊢
  have hAA : ∀ q : Nat, s.heap.size ≤ q → A q := fun q h => by rw [← hAe]; exact Or.inr h
  have hS : va_S A s.heap s.heap [] := va_S.rf
  have hl := lv_entry ([.ref m_spare, .int ar]) (n := 2) (Nat.le_of_ble_eq_true rfl)
  rw [lg_entry_eq]
  generalize (lg_sl ([.ref m_spare, .int ar]) ++ List.replicate (2 - (lg_sl ([.ref m_spare, .int ar])).length) Slot.unset).toArray = ls at hl ⊢
  have hl : lv_has ls 2 [(0, .ref m_spare), (1, .int ar)] := hl
  refine lv_iconst (v := 1) hx hb dX14_ofArm_0 (by decide) ?_
  refine lv_aload_n hx hb dX14_ofArm_1 rfl (lv_at hl 0 rfl) ?_
  refine va_getN (D := (dC, dI)) (ci := 12) (v := .ref pr_many) (C := RX12) (T := TX12) (N := 22) hx hb hA zin_X12 hown hK hP 0 rfl rfl 7 (by decide) (va_Nw.use rfl (hN.1 ("ReuseHouseModel", 214, "ReuseHouseModel$Program", "many", "[I", "ReuseHouseModel") (by decide +kernel))) (fun _ h9 => h9) rfl dX14_ofArm_2 ?_
  refine lv_iload_n hx hb dX14_ofArm_5 rfl (lv_at hl 1 rfl) ?_
  refine va_iald hx hb hK hP 2 1 rfl rfl (vp_in_iff.mpr ⟨by omega, by omega⟩) dX14_ofArm_6 ?_
  refine lv_topi (fun x_1 ex_1 => ?_)
  refine lv_ishl hx hb dX14_ofArm_7 ?_
  refine lv_topi (fun x_2 ex_2 => ?_)
  refine lv_iconst (v := 1) hx hb dX14_ofArm_8 (by decide) ?_
  refine lv_isub hx hb dX14_ofArm_9 ?_
  refine lv_topi (fun x_3 ex_3 => ?_)
  refine lv_aload_n hx hb dX14_ofArm_10 rfl (lv_at hl 0 rfl) ?_
  refine va_getN (D := (dC, dI)) (ci := 12) (v := .ref pr_two) (C := RX12) (T := TX12) (N := 22) hx hb hA zin_X12 hown hK hP 0 rfl rfl 4 (by decide) (va_Nw.use rfl (hN.1 ("ReuseHouseModel", 205, "ReuseHouseModel$Program", "two", "[I", "ReuseHouseModel") (by decide +kernel))) (fun _ h9 => h9) rfl dX14_ofArm_11 ?_
  refine lv_iload_n hx hb dX14_ofArm_14 rfl (lv_at hl 1 rfl) ?_
  refine va_iald hx hb hK hP 1 0 rfl rfl (vp_in_iff.mpr ⟨by omega, by omega⟩) dX14_ofArm_15 ?_
  refine lv_topi (fun x_4 ex_4 => ?_)
  refine lv_ishl hx hb dX14_ofArm_16 ?_
  refine lv_topi (fun x_5 ex_5 => ?_)
  have hP9 := hP.sub (ws' := [(m_spare, .inr (12, [.ref pr_what, .ref pr_place, .ref pr_own, .ref pr_one, .ref pr_two, .ref pr_three, .ref pr_beside, .ref pr_many, .ref pr_uses, .ref pr_behind, .ref pr_name, .ref pr_makes, .int pr_parts, .ref pr_functionName, .ref pr_kindName, .ref pr_told, .ref pr_body, .ref pr_first, .ref pr_widest, .ref pr_fields, .int pr_functions, .int pr_kinds])), (pr_two, .inl (rk_two, 2100, .inl rg_two)), (pr_many, .inl (rk_many, 2100, .inl rg_many))]) [0, 1, 2] rfl
  have hD9 := hD.sub (ws' := [(m_spare, .inr (12, [.ref pr_what, .ref pr_place, .ref pr_own, .ref pr_one, .ref pr_two, .ref pr_three, .ref pr_beside, .ref pr_many, .ref pr_uses, .ref pr_behind, .ref pr_name, .ref pr_makes, .int pr_parts, .ref pr_functionName, .ref pr_kindName, .ref pr_told, .ref pr_body, .ref pr_first, .ref pr_widest, .ref pr_fields, .int pr_functions, .int pr_kinds])), (pr_two, .inl (rk_two, 2100, .inl rg_two)), (pr_many, .inl (rk_many, 2100, .inl rg_many))]) [0, 1, 2] (by decide) rfl
  have hK9 := hK.sub (tys' := [(rk_two, .int), (rk_many, .int)]) [0, 1] rfl
  exact W.iret (v := x_5) hx hb hr (fun t ht hW => ⟨⟨x_5, (), rfl, (by rw [ex_5, ex_3, ex_2, ex_1, ex_4]), by rw [ht]; exact hP9, va_K.moved hW.alike hK9, hD9⟩, hS.F ht⟩) hS.2.2 dX14_ofArm_17
set_option maxHeartbeats 4000000 in
set_option maxRecDepth 100000 in
theorem c_X14_functionOf_x (l : Launch) (dC : Nat → ClassId) (dI : Nat → Nat → Nat) (aK aV : Nat → Nat) (m_spare : Nat) (pr_what : Nat) (pr_place : Nat) (pr_own : Nat) (pr_one : Nat) (pr_two : Nat) (pr_three : Nat) (pr_beside : Nat) (pr_many : Nat) (pr_uses : Nat) (pr_behind : Nat) (pr_name : Nat) (pr_makes : Nat) (pr_parts : Int32) (pr_functionName : Nat) (pr_kindName : Nat) (pr_told : Nat) (pr_body : Nat) (pr_first : Nat) (pr_widest : Nat) (pr_fields : Nat) (pr_functions : Int32) (pr_kinds : Int32) (rk_functionName : ClassId) (rg_functionName : Nat → Int64) (wo : Int64) (sz : Nat) (hfn0 : 0 ≤ pr_functions.toInt) (hfn1 : pr_functions.toInt ≤ 30) : Met l yX14_functionOf (Cond.code yX14_functionOf cX14_functionOf 4 (some .int) :: zw) ({ frames := 8, cells := 0, slots := 0, locals := 200 }) (va_Pc [.ref m_spare, .long wo] (zP dC dI aK aV sz [(rk_functionName, .long)] [(m_spare, .inr (12, [.ref pr_what, .ref pr_place, .ref pr_own, .ref pr_one, .ref pr_two, .ref pr_three, .ref pr_beside, .ref pr_many, .ref pr_uses, .ref pr_behind, .ref pr_name, .ref pr_makes, .int pr_parts, .ref pr_functionName, .ref pr_kindName, .ref pr_told, .ref pr_body, .ref pr_first, .ref pr_widest, .ref pr_fields, .int pr_functions, .int pr_kinds])), (pr_functionName, .inl (rk_functionName, 30, .inr (.inl rg_functionName)))])) (va_Qi (fun (r : Int32) (u : Unit) => (-1 ≤ r.toInt) ∧ (r.toInt < pr_functions.toInt) ∧ (rx_ff rg_functionName wo pr_functions r)) (fun u => zQ dC dI (va_A [(m_spare, .inr (12, [.ref pr_what, .ref pr_place, .ref pr_own, .ref pr_one, .ref pr_two, .ref pr_three, .ref pr_beside, .ref pr_many, .ref pr_uses, .ref pr_behind, .ref pr_name, .ref pr_makes, .int pr_parts, .ref pr_functionName, .ref pr_kindName, .ref pr_told, .ref pr_body, .ref pr_first, .ref pr_widest, .ref pr_fields, .int pr_functions, .int pr_kinds])), (pr_functionName, .inl (rk_functionName, 30, .inr (.inl rg_functionName)))] sz) [(rk_functionName, .long)] [(m_spare, .inr (12, [.ref pr_what, .ref pr_place, .ref pr_own, .ref pr_one, .ref pr_two, .ref pr_three, .ref pr_beside, .ref pr_many, .ref pr_uses, .ref pr_behind, .ref pr_name, .ref pr_makes, .int pr_parts, .ref pr_functionName, .ref pr_kindName, .ref pr_told, .ref pr_body, .ref pr_first, .ref pr_widest, .ref pr_fields, .int pr_functions, .int pr_kinds])), (pr_functionName, .inl (rk_functionName, 30, .inr (.inl rg_functionName)))]) (va_A [(m_spare, .inr (12, [.ref pr_what, .ref pr_place, .ref pr_own, .ref pr_one, .ref pr_two, .ref pr_three, .ref pr_beside, .ref pr_many, .ref pr_uses, .ref pr_behind, .ref pr_name, .ref pr_makes, .int pr_parts, .ref pr_functionName, .ref pr_kindName, .ref pr_told, .ref pr_body, .ref pr_first, .ref pr_widest, .ref pr_fields, .int pr_functions, .int pr_kinds])), (pr_functionName, .inl (rk_functionName, 30, .inr (.inl rg_functionName)))] sz)) 0 0 (va_A [(m_spare, .inr (12, [.ref pr_what, .ref pr_place, .ref pr_own, .ref pr_one, .ref pr_two, .ref pr_three, .ref pr_beside, .ref pr_many, .ref pr_uses, .ref pr_behind, .ref pr_name, .ref pr_makes, .int pr_parts, .ref pr_functionName, .ref pr_kindName, .ref pr_told, .ref pr_body, .ref pr_first, .ref pr_widest, .ref pr_fields, .int pr_functions, .int pr_kinds])), (pr_functionName, .inl (rk_functionName, 30, .inr (.inl rg_functionName)))] sz) := by
  refine Met.ofW (cc := cX14_functionOf) (maxL := 4) (ret := (some .int)) (by decide) rfl ?_
  intro p e s m args below meth c s₁ B hml hv
  obtain ⟨rfl, hsz, hP, hK, hD0, hN, hT⟩ := hv
  have hx := B.exec
  have hb := B.bytes
  have hr := B.returns
  have hts := atoms_spec (ws := Cond.code yX14_functionOf cX14_functionOf 4 (some .int) :: zw) B.pre
  have hA : ∀ w ∈ zw, w.before _ s = true := fun w h => hts w (List.mem_cons_of_mem _ h)
  have hown : s.vm.findClass RX14 = some m.cls := findClass_of_methodNamed B.named
  have hlocks := B.notSynchronized
  subst hsz
  have hD := hD0.self (sz := s.heap.size)
  generalize hAe : va_A [(m_spare, .inr (12, [.ref pr_what, .ref pr_place, .ref pr_own, .ref pr_one, .ref pr_two, .ref pr_three, .ref pr_beside, .ref pr_many, .ref pr_uses, .ref pr_behind, .ref pr_name, .ref pr_makes, .int pr_parts, .ref pr_functionName, .ref pr_kindName, .ref pr_told, .ref pr_body, .ref pr_first, .ref pr_widest, .ref pr_fields, .int pr_functions, .int pr_kinds])), (pr_functionName, .inl (rk_functionName, 30, .inr (.inl rg_functionName)))] s.heap.size = A at hD hT ⊢
  have hAA : ∀ q : Nat, s.heap.size ≤ q → A q := fun q h => by rw [← hAe]; exact Or.inr h
  have hS : va_S A s.heap s.heap [] := va_S.rf
  have hl := lv_entry ([.ref m_spare, .long wo]) (n := 4) (Nat.le_of_ble_eq_true rfl)
  rw [lg_entry_eq]
  generalize (lg_sl ([.ref m_spare, .long wo]) ++ List.replicate (4 - (lg_sl ([.ref m_spare, .long wo])).length) Slot.unset).toArray = ls at hl ⊢
  have hl : lv_has ls 4 [(0, .ref m_spare), (1, .long wo)] := hl
  refine lv_iconst (v := 0) hx hb dX14_functionOf_0 (by decide) ?_
  refine lv_istore_n (lv' := [(3, .int 0), (0, .ref m_spare), (1, .long wo)]) hx hb dX14_functionOf_1 rfl hl (by decide) rfl (fun ls hl => ?_)
  have loop_2 : ∀ (n9 : Nat) (k : Int32) (H : Heap) (locs : List Loc) (ls : Array Slot), (pr_functions.toInt - k.toInt + 1).toNat ≤ n9 → 0 ≤ k.toInt → k.toInt ≤ pr_functions.toInt → (∀ j : Nat, (j : Int) < Int32.toInt k → rg_functionName j ≠ wo) → va_P (dC, dI) vwCl [(m_spare, .inr (12, [.ref pr_what, .ref pr_place, .ref pr_own, .ref pr_one, .ref pr_two, .ref pr_three, .ref pr_beside, .ref pr_many, .ref pr_uses, .ref pr_behind, .ref pr_name, .ref pr_makes, .int pr_parts, .ref pr_functionName, .ref pr_kindName, .ref pr_told, .ref pr_body, .ref pr_first, .ref pr_widest, .ref pr_fields, .int pr_functions, .int pr_kinds])), (pr_functionName, .inl (rk_functionName, 30, .inr (.inl rg_functionName)))] H → va_D A [(m_spare, .inr (12, [.ref pr_what, .ref pr_place, .ref pr_own, .ref pr_one, .ref pr_two, .ref pr_three, .ref pr_beside, .ref pr_many, .ref pr_uses, .ref pr_behind, .ref pr_name, .ref pr_makes, .int pr_parts, .ref pr_functionName, .ref pr_kindName, .ref pr_told, .ref pr_body, .ref pr_first, .ref pr_widest, .ref pr_fields, .int pr_functions, .int pr_kinds])), (pr_functionName, .inl (rk_functionName, 30, .inr (.inl rg_functionName)))] → va_S A s.heap H locs → lv_has ls 4 [(3, .int k), (0, .ref m_spare), (1, .long wo)] → W p l e (headSpec (Cond.code yX14_functionOf cX14_functionOf 4 (some .int) :: zw) ({ frames := 8, cells := 0, slots := 0, locals := 200 })).room s m #[.ref m_spare, .long wo] below meth c H locs 0 0 (MQ below (va_Qi (fun (r : Int32) (u : Unit) => (-1 ≤ r.toInt) ∧ (r.toInt < pr_functions.toInt) ∧ (rx_ff rg_functionName wo pr_functions r)) (fun u => zQ dC dI A [(rk_functionName, .long)] [(m_spare, .inr (12, [.ref pr_what, .ref pr_place, .ref pr_own, .ref pr_one, .ref pr_two, .ref pr_three, .ref pr_beside, .ref pr_many, .ref pr_uses, .ref pr_behind, .ref pr_name, .ref pr_makes, .int pr_parts, .ref pr_functionName, .ref pr_kindName, .ref pr_told, .ref pr_body, .ref pr_first, .ref pr_widest, .ref pr_fields, .int pr_functions, .int pr_kinds])), (pr_functionName, .inl (rk_functionName, 30, .inr (.inl rg_functionName)))]) A) #[.ref m_spare, .long wo] s 0 0 A) (F0 m 2 ls []) := by
    intro n9
    induction n9 with
    | zero => intro k H locs ls hm hk0 hk1 hno; exfalso; omega
    | succ n9 ih =>
      intro k H locs ls hm hk0 hk1 hno hP hD hS hl
      refine lv_iload_n hx hb dX14_functionOf_2 rfl (lv_at hl 0 rfl) ?_
      refine lv_aload_n hx hb dX14_functionOf_3 rfl (lv_at hl 1 rfl) ?_
      refine va_getN (D := (dC, dI)) (ci := 12) (v := .int pr_functions) (C := RX12) (T := TX12) (N := 22) hx hb hA zin_X12 hown hK hP 0 rfl rfl 20 (by decide) (va_Nw.use rfl (hN.1 ("ReuseHouseModel", 230, "ReuseHouseModel$Program", "functions", "I", "ReuseHouseModel") (by decide +kernel))) (fun _ h9 => h9) rfl dX14_functionOf_4 ?_
      refine lv_icmp_ge (tgt := 27) hx hb dX14_functionOf_7 (by decide) (fun c_1 => ?_) (fun c_1 => ?_)
      · have ic_1 : pr_functions.toInt ≤ k.toInt := zi_le c_1
        refine lv_iload_n hx hb dX14_functionOf_27 rfl (lv_at hl 0 rfl) ?_
        refine lv_aload_n hx hb dX14_functionOf_28 rfl (lv_at hl 1 rfl) ?_
        refine va_getN (D := (dC, dI)) (ci := 12) (v := .int pr_functions) (C := RX12) (T := TX12) (N := 22) hx hb hA zin_X12 hown hK hP 0 rfl rfl 20 (by decide) (va_Nw.use rfl (hN.1 ("ReuseHouseModel", 230, "ReuseHouseModel$Program", "functions", "I", "ReuseHouseModel") (by decide +kernel))) (fun _ h9 => h9) rfl dX14_functionOf_29 ?_
        refine lv_icmp_ge (tgt := 39) hx hb dX14_functionOf_32 (by decide) (fun c_2 => ?_) (fun c_2 => ?_)
        · have ic_2 : pr_functions.toInt ≤ k.toInt := zi_le c_2
          refine lv_iconst (v := (-1)) hx hb dX14_functionOf_39 (by decide) ?_
          have hlit : Int32.toInt (-1) = (-1) := by decide
          have hP9 := hP.sub (ws' := [(m_spare, .inr (12, [.ref pr_what, .ref pr_place, .ref pr_own, .ref pr_one, .ref pr_two, .ref pr_three, .ref pr_beside, .ref pr_many, .ref pr_uses, .ref pr_behind, .ref pr_name, .ref pr_makes, .int pr_parts, .ref pr_functionName, .ref pr_kindName, .ref pr_told, .ref pr_body, .ref pr_first, .ref pr_widest, .ref pr_fields, .int pr_functions, .int pr_kinds])), (pr_functionName, .inl (rk_functionName, 30, .inr (.inl rg_functionName)))]) [0, 1] rfl
          have hD9 := hD.sub (ws' := [(m_spare, .inr (12, [.ref pr_what, .ref pr_place, .ref pr_own, .ref pr_one, .ref pr_two, .ref pr_three, .ref pr_beside, .ref pr_many, .ref pr_uses, .ref pr_behind, .ref pr_name, .ref pr_makes, .int pr_parts, .ref pr_functionName, .ref pr_kindName, .ref pr_told, .ref pr_body, .ref pr_first, .ref pr_widest, .ref pr_fields, .int pr_functions, .int pr_kinds])), (pr_functionName, .inl (rk_functionName, 30, .inr (.inl rg_functionName)))]) [0, 1] (by decide) rfl
          have hK9 := hK.sub (tys' := [(rk_functionName, .long)]) [0] rfl
          exact W.iret (v := (-1)) hx hb hr (fun t ht hW => ⟨⟨(-1), (), rfl, ⟨by omega, by omega, (Or.inl ⟨by decide, fun j hj => hno j (by omega)⟩)⟩, by rw [ht]; exact hP9, va_K.moved hW.alike hK9, hD9⟩, hS.F ht⟩) hS.2.2 dX14_functionOf_40
        · have ic_2 : k.toInt < pr_functions.toInt := zi_nle c_2
          refine lv_iload_n hx hb dX14_functionOf_35 rfl (lv_at hl 0 rfl) ?_
          refine lv_goto (tgt := 40) hx hb dX14_functionOf_36 (by decide) ?_
          have hP9 := hP.sub (ws' := [(m_spare, .inr (12, [.ref pr_what, .ref pr_place, .ref pr_own, .ref pr_one, .ref pr_two, .ref pr_three, .ref pr_beside, .ref pr_many, .ref pr_uses, .ref pr_behind, .ref pr_name, .ref pr_makes, .int pr_parts, .ref pr_functionName, .ref pr_kindName, .ref pr_told, .ref pr_body, .ref pr_first, .ref pr_widest, .ref pr_fields, .int pr_functions, .int pr_kinds])), (pr_functionName, .inl (rk_functionName, 30, .inr (.inl rg_functionName)))]) [0, 1] rfl
          have hD9 := hD.sub (ws' := [(m_spare, .inr (12, [.ref pr_what, .ref pr_place, .ref pr_own, .ref pr_one, .ref pr_two, .ref pr_three, .ref pr_beside, .ref pr_many, .ref pr_uses, .ref pr_behind, .ref pr_name, .ref pr_makes, .int pr_parts, .ref pr_functionName, .ref pr_kindName, .ref pr_told, .ref pr_body, .ref pr_first, .ref pr_widest, .ref pr_fields, .int pr_functions, .int pr_kinds])), (pr_functionName, .inl (rk_functionName, 30, .inr (.inl rg_functionName)))]) [0, 1] (by decide) rfl
          have hK9 := hK.sub (tys' := [(rk_functionName, .long)]) [0] rfl
          exact W.iret (v := k) hx hb hr (fun t ht hW => ⟨⟨k, (), rfl, ⟨by omega, by omega, (by exfalso; omega)⟩, by rw [ht]; exact hP9, va_K.moved hW.alike hK9, hD9⟩, hS.F ht⟩) hS.2.2 dX14_functionOf_40
      · have ic_1 : k.toInt < pr_functions.toInt := zi_nle c_1
        refine lv_aload_n hx hb dX14_functionOf_10 rfl (lv_at hl 1 rfl) ?_
        refine va_getN (D := (dC, dI)) (ci := 12) (v := .ref pr_functionName) (C := RX12) (T := TX12) (N := 22) hx hb hA zin_X12 hown hK hP 0 rfl rfl 13 (by decide) (va_Nw.use rfl (hN.1 ("ReuseHouseModel", 315, "ReuseHouseModel$Program", "functionName", "[J", "ReuseHouseModel") (by decide +kernel))) (fun _ h9 => h9) rfl dX14_functionOf_11 ?_
        refine lv_iload_n hx hb dX14_functionOf_14 rfl (lv_at hl 0 rfl) ?_
        refine va_lald hx hb hK hP 1 0 rfl rfl (vp_in_iff.mpr ⟨by omega, by omega⟩) dX14_functionOf_15 ?_
        refine lv_topl (fun x_3 ex_3 => ?_)
        refine lv_lload_n hx hb dX14_functionOf_16 rfl (lv_at hl 2 rfl) ?_
        refine W.lcmp hx hb dX14_functionOf_17 ?_
        refine lv_topi (fun x_4 ex_4 => ?_)
        refine lv_if_eq (tgt := 27) hx hb dX14_functionOf_18 (by decide) (fun c_5 => ?_) (fun c_5 => ?_)
        · have ic_5 : x_4.toInt = 0 := zi_eq c_5
          refine lv_iload_n hx hb dX14_functionOf_27 rfl (lv_at hl 0 rfl) ?_
          refine lv_aload_n hx hb dX14_functionOf_28 rfl (lv_at hl 1 rfl) ?_
          refine va_getN (D := (dC, dI)) (ci := 12) (v := .int pr_functions) (C := RX12) (T := TX12) (N := 22) hx hb hA zin_X12 hown hK hP 0 rfl rfl 20 (by decide) (va_Nw.use rfl (hN.1 ("ReuseHouseModel", 230, "ReuseHouseModel$Program", "functions", "I", "ReuseHouseModel") (by decide +kernel))) (fun _ h9 => h9) rfl dX14_functionOf_29 ?_
          refine lv_icmp_ge (tgt := 39) hx hb dX14_functionOf_32 (by decide) (fun c_6 => ?_) (fun c_6 => ?_)
          · have ic_6 : pr_functions.toInt ≤ k.toInt := zi_le c_6
            refine lv_iconst (v := (-1)) hx hb dX14_functionOf_39 (by decide) ?_
            have hlit : Int32.toInt (-1) = (-1) := by decide
            have hP9 := hP.sub (ws' := [(m_spare, .inr (12, [.ref pr_what, .ref pr_place, .ref pr_own, .ref pr_one, .ref pr_two, .ref pr_three, .ref pr_beside, .ref pr_many, .ref pr_uses, .ref pr_behind, .ref pr_name, .ref pr_makes, .int pr_parts, .ref pr_functionName, .ref pr_kindName, .ref pr_told, .ref pr_body, .ref pr_first, .ref pr_widest, .ref pr_fields, .int pr_functions, .int pr_kinds])), (pr_functionName, .inl (rk_functionName, 30, .inr (.inl rg_functionName)))]) [0, 1] rfl
            have hD9 := hD.sub (ws' := [(m_spare, .inr (12, [.ref pr_what, .ref pr_place, .ref pr_own, .ref pr_one, .ref pr_two, .ref pr_three, .ref pr_beside, .ref pr_many, .ref pr_uses, .ref pr_behind, .ref pr_name, .ref pr_makes, .int pr_parts, .ref pr_functionName, .ref pr_kindName, .ref pr_told, .ref pr_body, .ref pr_first, .ref pr_widest, .ref pr_fields, .int pr_functions, .int pr_kinds])), (pr_functionName, .inl (rk_functionName, 30, .inr (.inl rg_functionName)))]) [0, 1] (by decide) rfl
            have hK9 := hK.sub (tys' := [(rk_functionName, .long)]) [0] rfl
            exact W.iret (v := (-1)) hx hb hr (fun t ht hW => ⟨⟨(-1), (), rfl, ⟨by omega, by omega, (by exfalso; omega)⟩, by rw [ht]; exact hP9, va_K.moved hW.alike hK9, hD9⟩, hS.F ht⟩) hS.2.2 dX14_functionOf_40
          · have ic_6 : k.toInt < pr_functions.toInt := zi_nle c_6
            refine lv_iload_n hx hb dX14_functionOf_35 rfl (lv_at hl 0 rfl) ?_
            refine lv_goto (tgt := 40) hx hb dX14_functionOf_36 (by decide) ?_
            have hP9 := hP.sub (ws' := [(m_spare, .inr (12, [.ref pr_what, .ref pr_place, .ref pr_own, .ref pr_one, .ref pr_two, .ref pr_three, .ref pr_beside, .ref pr_many, .ref pr_uses, .ref pr_behind, .ref pr_name, .ref pr_makes, .int pr_parts, .ref pr_functionName, .ref pr_kindName, .ref pr_told, .ref pr_body, .ref pr_first, .ref pr_widest, .ref pr_fields, .int pr_functions, .int pr_kinds])), (pr_functionName, .inl (rk_functionName, 30, .inr (.inl rg_functionName)))]) [0, 1] rfl
            have hD9 := hD.sub (ws' := [(m_spare, .inr (12, [.ref pr_what, .ref pr_place, .ref pr_own, .ref pr_one, .ref pr_two, .ref pr_three, .ref pr_beside, .ref pr_many, .ref pr_uses, .ref pr_behind, .ref pr_name, .ref pr_makes, .int pr_parts, .ref pr_functionName, .ref pr_kindName, .ref pr_told, .ref pr_body, .ref pr_first, .ref pr_widest, .ref pr_fields, .int pr_functions, .int pr_kinds])), (pr_functionName, .inl (rk_functionName, 30, .inr (.inl rg_functionName)))]) [0, 1] (by decide) rfl
            have hK9 := hK.sub (tys' := [(rk_functionName, .long)]) [0] rfl
            exact W.iret (v := k) hx hb hr (fun t ht hW => ⟨⟨k, (), rfl, ⟨by omega, by omega, (Or.inr ⟨by omega, by omega, ex_3.symm.trans (lc_eq (by rw [← ex_4]; omega)), hno⟩)⟩, by rw [ht]; exact hP9, va_K.moved hW.alike hK9, hD9⟩, hS.F ht⟩) hS.2.2 dX14_functionOf_40
        · have ic_5 : x_4.toInt ≠ 0 := zi_ne c_5
          obtain ⟨x_7, ex_7⟩ : ∃ y : Int32, y = k + Int32.ofInt 1 := ⟨_, rfl⟩
          refine lv_iinc (v := x_7) (lv' := [(3, .int x_7), (0, .ref m_spare), (1, .long wo)]) hx hb dX14_functionOf_21 hl (k := 0) rfl (by rw [ex_7]) (by decide) rfl (fun ls hl => ?_)
          have ix_7 : x_7.toInt = k.toInt + 1 := by rw [ex_7]; exact zi_addc (by decide) (by omega) (by omega)
          refine lv_goto (tgt := 2) hx hb dX14_functionOf_24 (by decide) ?_
          have hno_8 : ∀ j : Nat, (j : Int) < Int32.toInt x_7 → rg_functionName j ≠ wo := sp_no1 hno (by omega) (by omega) (fun e9 => absurd (show x_4.toInt = 0 by rw [ex_4, ex_3, e9]; exact lc_rf) (by omega))
          exact ih x_7 _ _ _ (by omega) (by omega) (by omega) hno_8 (hP.sub [0, 1] rfl) (hD.sub [0, 1] (by decide) rfl) hS (lv_sub hl [0, 1, 2] rfl)
  have hno_9 : ∀ j : Nat, (j : Int) < Int32.toInt 0 → rg_functionName j ≠ wo := fun j hj => by exfalso; have h9 : Int32.toInt 0 = 0 := (by decide); omega
  exact loop_2 _ 0 _ _ _ (Nat.le_refl _) (by have h9_0 : Int32.toInt 0 = 0 := (by decide); omega) (by have h9_0 : Int32.toInt 0 = 0 := (by decide); omega) hno_9 (hP.sub [0, 1] rfl) (hD.sub [0, 1] (by decide) rfl) hS (lv_sub hl [0, 1, 2] rfl)
