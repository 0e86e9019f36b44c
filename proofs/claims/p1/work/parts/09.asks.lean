theorem wi_321 : Cond.fieldLink RX11 102 "ReuseHouse$Program" "functions" "LReuseHouse$Functions;" ∈ zw := zw_in (List.mem_of_getElem? (i := 321) (by decide +kernel)) (by decide +kernel)
theorem wi_913 : Cond.code yX3_has cX3_has 2 (some .boolean) ∈ zw := zw_in (List.mem_of_getElem? (i := 913) (by decide +kernel)) (by decide +kernel)
theorem wi_1078 : Cond.methodLink RX11 111 yX3_has ∈ zw := zw_in (List.mem_of_getElem? (i := 1078) (by decide +kernel)) (by decide +kernel)
theorem wi_911 : Cond.instanceMethod yX3_has ∈ zw := zw_in (List.mem_of_getElem? (i := 911) (by decide +kernel)) (by decide +kernel)
theorem wi_912 : Cond.selects RX3 yX3_has yX3_has ∈ zw := zw_in (List.mem_of_getElem? (i := 912) (by decide +kernel)) (by decide +kernel)
theorem wi_1087 : Cond.code yX11_mayWork cX11_mayWork 3 (some .boolean) ∈ zw := zw_in (List.mem_of_getElem? (i := 1087) (by decide +kernel)) (by decide +kernel)
theorem wi_1084 : Cond.methodLink RX11 119 yX11_mayWork ∈ zw := zw_in (List.mem_of_getElem? (i := 1084) (by decide +kernel)) (by decide +kernel)
theorem wi_1086 : Cond.instanceMethod yX11_mayWork ∈ zw := zw_in (List.mem_of_getElem? (i := 1086) (by decide +kernel)) (by decide +kernel)
theorem wi_39 : Cond.selects RX11 yX11_mayWork yX11_mayWork ∈ zw := zw_in (List.mem_of_getElem? (i := 39) (by decide +kernel)) (by decide +kernel)
theorem wi_130 : Cond.initialized RX11 ∈ zw := zw_in (List.mem_of_getElem? (i := 130) (by decide +kernel)) (by decide +kernel)
theorem wi_1354 : Cond.code yX8_has cX8_has 2 (some .boolean) ∈ zw := zw_in (List.mem_of_getElem? (i := 1354) (by decide +kernel)) (by decide +kernel)
theorem wi_1351 : Cond.methodLink RX11 169 yX8_has ∈ zw := zw_in (List.mem_of_getElem? (i := 1351) (by decide +kernel)) (by decide +kernel)
theorem wi_1352 : Cond.instanceMethod yX8_has ∈ zw := zw_in (List.mem_of_getElem? (i := 1352) (by decide +kernel)) (by decide +kernel)
theorem wi_1353 : Cond.selects RX8 yX8_has yX8_has ∈ zw := zw_in (List.mem_of_getElem? (i := 1353) (by decide +kernel)) (by decide +kernel)
theorem wi_1355 : Cond.classLink RX11 170 "java/util/NoSuchElementException" ∈ zw := zw_in (List.mem_of_getElem? (i := 1355) (by decide +kernel)) (by decide +kernel)
theorem wi_155 : Cond.initialized "java/util/NoSuchElementException" ∈ zw := zw_in (List.mem_of_getElem? (i := 155) (by decide +kernel)) (by decide +kernel)
theorem dX11_about_0 : decode cX11_about 0 = .ok (.aload_n 0, 1) := by decide +kernel
theorem dX11_about_1 : decode cX11_about 1 = .ok (.getfield 20, 3) := by decide +kernel
theorem dX11_about_4 : decode cX11_about 4 = .ok (.getfield 102, 3) := by decide +kernel
theorem dX11_about_7 : decode cX11_about 7 = .ok (.iload_n 1, 1) := by decide +kernel
theorem dX11_about_8 : decode cX11_about 8 = .ok (.invokevirtual 111, 3) := by decide +kernel
theorem dX11_about_11 : decode cX11_about 11 = .ok (.ifCond .eq 12, 3) := by decide +kernel
theorem dX11_about_23 : decode cX11_about 23 = .ok (.iconst (-1), 1) := by decide +kernel
theorem dX11_about_24 : decode cX11_about 24 = .ok (.ireturn, 1) := by decide +kernel
theorem dX11_count_0 : decode cX11_count 0 = .ok (.aload_n 0, 1) := by decide +kernel
theorem dX11_count_1 : decode cX11_count 1 = .ok (.getfield 65, 3) := by decide +kernel
theorem dX11_count_4 : decode cX11_count 4 = .ok (.ifCond .ne 5, 3) := by decide +kernel
theorem dX11_count_7 : decode cX11_count 7 = .ok (.iconst (-1), 1) := by decide +kernel
theorem dX11_count_8 : decode cX11_count 8 = .ok (.ireturn, 1) := by decide +kernel
theorem dX11_fault_0 : decode cX11_fault 0 = .ok (.aload_n 0, 1) := by decide +kernel
theorem dX11_fault_1 : decode cX11_fault 1 = .ok (.getfield 59, 3) := by decide +kernel
theorem dX11_fault_4 : decode cX11_fault 4 = .ok (.ireturn, 1) := by decide +kernel
theorem dX11_mayWork_0 : decode cX11_mayWork 0 = .ok (.aload_n 0, 1) := by decide +kernel
theorem dX11_mayWork_1 : decode cX11_mayWork 1 = .ok (.getfield 20, 3) := by decide +kernel
theorem dX11_mayWork_4 : decode cX11_mayWork 4 = .ok (.getfield 102, 3) := by decide +kernel
theorem dX11_mayWork_7 : decode cX11_mayWork 7 = .ok (.iload_n 1, 1) := by decide +kernel
theorem dX11_mayWork_8 : decode cX11_mayWork 8 = .ok (.invokevirtual 111, 3) := by decide +kernel
theorem dX11_mayWork_11 : decode cX11_mayWork 11 = .ok (.ifCond .eq 18, 3) := by decide +kernel
theorem dX11_mayWork_29 : decode cX11_mayWork 29 = .ok (.iconst 0, 1) := by decide +kernel
theorem dX11_mayWork_30 : decode cX11_mayWork 30 = .ok (.ireturn, 1) := by decide +kernel
theorem dX11_out_0 : decode cX11_out 0 = .ok (.aload_n 0, 1) := by decide +kernel
theorem dX11_out_1 : decode cX11_out 1 = .ok (.getfield 55, 3) := by decide +kernel
theorem dX11_out_4 : decode cX11_out 4 = .ok (.iload_n 1, 1) := by decide +kernel
theorem dX11_out_5 : decode cX11_out 5 = .ok (.invokevirtual 169, 3) := by decide +kernel
theorem dX11_out_8 : decode cX11_out 8 = .ok (.ifCond .ne 11, 3) := by decide +kernel
theorem dX11_out_11 : decode cX11_out 11 = .ok (.new 170, 3) := by decide +kernel
theorem dX11_out_14 : decode cX11_out 14 = .ok (.dup, 1) := by decide +kernel
theorem dX11_out_15 : decode cX11_out 15 = .ok (.invokespecial 172, 3) := by decide +kernel
theorem dX11_out_18 : decode cX11_out 18 = .ok (.athrow, 1) := by decide +kernel
theorem dX11_plain_0 : decode cX11_plain 0 = .ok (.aload_n 0, 1) := by decide +kernel
theorem dX11_plain_1 : decode cX11_plain 1 = .ok (.iload_n 1, 1) := by decide +kernel
theorem dX11_plain_2 : decode cX11_plain 2 = .ok (.iload_n 2, 1) := by decide +kernel
theorem dX11_plain_3 : decode cX11_plain 3 = .ok (.invokevirtual 119, 3) := by decide +kernel
theorem dX11_plain_6 : decode cX11_plain 6 = .ok (.ifCond .ne 5, 3) := by decide +kernel
theorem dX11_plain_9 : decode cX11_plain 9 = .ok (.iconst (-1), 1) := by decide +kernel
theorem dX11_plain_10 : decode cX11_plain 10 = .ok (.ireturn, 1) := by decide +kernel
theorem dX11_release_0 : decode cX11_release 0 = .ok (.aload_n 0, 1) := by decide +kernel
theorem dX11_release_1 : decode cX11_release 1 = .ok (.getfield 75, 3) := by decide +kernel
theorem dX11_release_4 : decode cX11_release 4 = .ok (.ifCond .ne 5, 3) := by decide +kernel
theorem dX11_release_7 : decode cX11_release 7 = .ok (.iconst (-1), 1) := by decide +kernel
theorem dX11_release_8 : decode cX11_release 8 = .ok (.ireturn, 1) := by decide +kernel
theorem dX11_run_0 : decode cX11_run 0 = .ok (.iload_n 2, 1) := by decide +kernel
theorem dX11_run_1 : decode cX11_run 1 = .ok (.ifCond .lt 19, 3) := by decide +kernel
theorem dX11_run_4 : decode cX11_run 4 = .ok (.iload_n 2, 1) := by decide +kernel
theorem dX11_run_5 : decode cX11_run 5 = .ok (.sipush 400, 3) := by decide +kernel
theorem dX11_run_8 : decode cX11_run 8 = .ok (.if_icmp .gt 12, 3) := by decide +kernel
theorem dX11_run_11 : decode cX11_run 11 = .ok (.aload_n 0, 1) := by decide +kernel
theorem dX11_run_12 : decode cX11_run 12 = .ok (.iload_n 1, 1) := by decide +kernel
theorem dX11_run_13 : decode cX11_run 13 = .ok (.iload_n 3, 1) := by decide +kernel
theorem dX11_run_14 : decode cX11_run 14 = .ok (.invokevirtual 119, 3) := by decide +kernel
theorem dX11_run_17 : decode cX11_run 17 = .ok (.ifCond .ne 5, 3) := by decide +kernel
theorem dX11_run_20 : decode cX11_run 20 = .ok (.iconst (-1), 1) := by decide +kernel
theorem dX11_run_21 : decode cX11_run 21 = .ok (.ireturn, 1) := by decide +kernel
theorem dX11_show_0 : decode cX11_show 0 = .ok (.iload_n 1, 1) := by decide +kernel
theorem dX11_show_1 : decode cX11_show 1 = .ok (.ifCond .eq 30, 3) := by decide +kernel
theorem dX11_show_4 : decode cX11_show 4 = .ok (.aload_n 0, 1) := by decide +kernel
theorem dX11_show_5 : decode cX11_show 5 = .ok (.getfield 82, 3) := by decide +kernel
theorem dX11_show_8 : decode cX11_show 8 = .ok (.ifCond .eq 21, 3) := by decide +kernel
theorem dX11_show_29 : decode cX11_show 29 = .ok (.iconst (-1), 1) := by decide +kernel
theorem dX11_show_30 : decode cX11_show 30 = .ok (.ireturn, 1) := by decide +kernel
theorem dX11_show_31 : decode cX11_show 31 = .ok (.aload_n 0, 1) := by decide +kernel
theorem dX11_show_32 : decode cX11_show 32 = .ok (.getfield 75, 3) := by decide +kernel
theorem dX11_show_35 : decode cX11_show 35 = .ok (.ifCond .eq 21, 3) := by decide +kernel
theorem dX11_show_56 : decode cX11_show 56 = .ok (.iconst (-1), 1) := by decide +kernel
theorem dX11_show_57 : decode cX11_show 57 = .ok (.ireturn, 1) := by decide +kernel
theorem dX11_where_0 : decode cX11_where 0 = .ok (.aload_n 0, 1) := by decide +kernel
theorem dX11_where_1 : decode cX11_where 1 = .ok (.getfield 62, 3) := by decide +kernel
theorem dX11_where_4 : decode cX11_where 4 = .ok (.ireturn, 1) := by decide +kernel
theorem dX3_has_0 : decode cX3_has 0 = .ok (.iload_n 1, 1) := by decide +kernel
theorem dX3_has_1 : decode cX3_has 1 = .ok (.ifCond .lt 15, 3) := by decide +kernel
theorem dX3_has_4 : decode cX3_has 4 = .ok (.iload_n 1, 1) := by decide +kernel
theorem dX3_has_5 : decode cX3_has 5 = .ok (.aload_n 0, 1) := by decide +kernel
theorem dX3_has_6 : decode cX3_has 6 = .ok (.getfield 22, 3) := by decide +kernel
theorem dX3_has_9 : decode cX3_has 9 = .ok (.if_icmp .ge 7, 3) := by decide +kernel
theorem dX3_has_16 : decode cX3_has 16 = .ok (.iconst 0, 1) := by decide +kernel
theorem dX3_has_17 : decode cX3_has 17 = .ok (.ireturn, 1) := by decide +kernel
theorem dX8_has_0 : decode cX8_has 0 = .ok (.iload_n 1, 1) := by decide +kernel
theorem dX8_has_1 : decode cX8_has 1 = .ok (.ifCond .lt 15, 3) := by decide +kernel
theorem dX8_has_4 : decode cX8_has 4 = .ok (.iload_n 1, 1) := by decide +kernel
theorem dX8_has_5 : decode cX8_has 5 = .ok (.aload_n 0, 1) := by decide +kernel
theorem dX8_has_6 : decode cX8_has 6 = .ok (.getfield 15, 3) := by decide +kernel
theorem dX8_has_9 : decode cX8_has 9 = .ok (.if_icmp .ge 7, 3) := by decide +kernel
theorem dX8_has_16 : decode cX8_has 16 = .ok (.iconst 0, 1) := by decide +kernel
theorem dX8_has_17 : decode cX8_has 17 = .ok (.ireturn, 1) := by decide +kernel
set_option maxHeartbeats 4000000 in
set_option maxRecDepth 100000 in
theorem c_X11_fault (l : Launch) (dC : Nat → ClassId) (dI : Nat → Nat → Nat) (h0 : Nat) (xt : Nat) (xk : Nat) (xp : Nat) (xm : Nat) (xc : Nat) (xl : Nat) (xr : Nat) (sz : Nat)  : Met l yX11_fault (Cond.code yX11_fault cX11_fault 1 (some .int) :: zw) ({ frames := 8, cells := 0, slots := 0, locals := 200 }) (va_Pc [.ref h0] (zP dC dI sz [] [(h0, .inr (11, [.ref xt, .int 0, .ref xk, .ref xp, .ref xm, .ref xc, .ref xl, .ref xr, .int 0, .int (-1), .int 0, .int 0, .int 0, .int 0, .long 0, .int 0, .long 0]))])) (va_Qi (fun (r : Int32) (u : Unit) => r = 0) (fun u => zQ dC dI (va_A [(h0, .inr (11, [.ref xt, .int 0, .ref xk, .ref xp, .ref xm, .ref xc, .ref xl, .ref xr, .int 0, .int (-1), .int 0, .int 0, .int 0, .int 0, .long 0, .int 0, .long 0]))] sz) [] []) (va_A [(h0, .inr (11, [.ref xt, .int 0, .ref xk, .ref xp, .ref xm, .ref xc, .ref xl, .ref xr, .int 0, .int (-1), .int 0, .int 0, .int 0, .int 0, .long 0, .int 0, .long 0]))] sz)) 0 0 (va_A [(h0, .inr (11, [.ref xt, .int 0, .ref xk, .ref xp, .ref xm, .ref xc, .ref xl, .ref xr, .int 0, .int (-1), .int 0, .int 0, .int 0, .int 0, .long 0, .int 0, .long 0]))] sz) := by
  refine Met.ofW (cc := cX11_fault) (maxL := 1) (ret := (some .int)) (by decide) rfl ?_
  intro p e s m args below meth c s₁ B hml hv
  obtain ⟨rfl, hsz, hP, hK, hD0, hN, hT⟩ := hv
  have hx := B.exec
  have hb := B.bytes
  have hr := B.returns
  have hts := atoms_spec (ws := Cond.code yX11_fault cX11_fault 1 (some .int) :: zw) B.pre
  have hA : ∀ w ∈ zw, w.before _ s = true := fun w h => hts w (List.mem_cons_of_mem _ h)
  have hown : s.vm.findClass RX11 = some m.cls := findClass_of_methodNamed B.named
  have hlocks := B.notSynchronized
  subst hsz
  have hD := hD0.self (sz := s.heap.size)
  generalize hAe : va_A [(h0, .inr (11, [.ref xt, .int 0, .ref xk, .ref xp, .ref xm, .ref xc, .ref xl, .ref xr, .int 0, .int (-1), .int 0, .int 0, .int 0, .int 0, .long 0, .int 0, .long 0]))] s.heap.size = A at hD hT ⊢
  have hAA : ∀ q : Nat, s.heap.size ≤ q → A q := fun q h => by rw [← hAe]; exact Or.inr h
  have hS : va_S A s.heap s.heap [] := va_S.rf
  have hl := lv_entry ([.ref h0]) (n := 1) (Nat.le_of_ble_eq_true rfl)
  rw [lg_entry_eq]
  generalize (lg_sl ([.ref h0]) ++ List.replicate (1 - (lg_sl ([.ref h0])).length) Slot.unset).toArray = ls at hl ⊢
  have hl : lv_has ls 1 [(0, .ref h0)] := hl
  refine lv_aload_n hx hb dX11_fault_0 rfl (lv_at hl 0 rfl) ?_
  refine va_get (D := (dC, dI)) (ci := 11) (v := .int 0) (C := RX11) (T := TX11) (N := 17) hx hb hA zin_X11 hown hK hP 0 rfl rfl 8 (by decide) (hA _ wi_592) (fun _ h9 => h9) rfl dX11_fault_1 ?_
  have hP9 := hP.sub (ws' := []) [] rfl
  have hD9 := hD.sub (ws' := []) [] (by decide) rfl
  have hK9 := hK.sub (tys' := []) [] rfl
  exact W.iret (v := 0) hx hb hr (fun t ht hW => ⟨⟨0, (), rfl, rfl, by rw [ht]; exact hP9, va_K.moved hW.alike hK9, hD9⟩, hS.F ht⟩) hS.2.2 dX11_fault_4
set_option maxHeartbeats 4000000 in
set_option maxRecDepth 100000 in
theorem c_X11_where (l : Launch) (dC : Nat → ClassId) (dI : Nat → Nat → Nat) (h0 : Nat) (xt : Nat) (xk : Nat) (xp : Nat) (xm : Nat) (xc : Nat) (xl : Nat) (xr : Nat) (sz : Nat)  : Met l yX11_where (Cond.code yX11_where cX11_where 1 (some .int) :: zw) ({ frames := 8, cells := 0, slots := 0, locals := 200 }) (va_Pc [.ref h0] (zP dC dI sz [] [(h0, .inr (11, [.ref xt, .int 0, .ref xk, .ref xp, .ref xm, .ref xc, .ref xl, .ref xr, .int 0, .int (-1), .int 0, .int 0, .int 0, .int 0, .long 0, .int 0, .long 0]))])) (va_Qi (fun (r : Int32) (u : Unit) => r = (-1)) (fun u => zQ dC dI (va_A [(h0, .inr (11, [.ref xt, .int 0, .ref xk, .ref xp, .ref xm, .ref xc, .ref xl, .ref xr, .int 0, .int (-1), .int 0, .int 0, .int 0, .int 0, .long 0, .int 0, .long 0]))] sz) [] []) (va_A [(h0, .inr (11, [.ref xt, .int 0, .ref xk, .ref xp, .ref xm, .ref xc, .ref xl, .ref xr, .int 0, .int (-1), .int 0, .int 0, .int 0, .int 0, .long 0, .int 0, .long 0]))] sz)) 0 0 (va_A [(h0, .inr (11, [.ref xt, .int 0, .ref xk, .ref xp, .ref xm, .ref xc, .ref xl, .ref xr, .int 0, .int (-1), .int 0, .int 0, .int 0, .int 0, .long 0, .int 0, .long 0]))] sz) := by
  refine Met.ofW (cc := cX11_where) (maxL := 1) (ret := (some .int)) (by decide) rfl ?_
  intro p e s m args below meth c s₁ B hml hv
  obtain ⟨rfl, hsz, hP, hK, hD0, hN, hT⟩ := hv
  have hx := B.exec
  have hb := B.bytes
  have hr := B.returns
  have hts := atoms_spec (ws := Cond.code yX11_where cX11_where 1 (some .int) :: zw) B.pre
  have hA : ∀ w ∈ zw, w.before _ s = true := fun w h => hts w (List.mem_cons_of_mem _ h)
  have hown : s.vm.findClass RX11 = some m.cls := findClass_of_methodNamed B.named
  have hlocks := B.notSynchronized
  subst hsz
  have hD := hD0.self (sz := s.heap.size)
  generalize hAe : va_A [(h0, .inr (11, [.ref xt, .int 0, .ref xk, .ref xp, .ref xm, .ref xc, .ref xl, .ref xr, .int 0, .int (-1), .int 0, .int 0, .int 0, .int 0, .long 0, .int 0, .long 0]))] s.heap.size = A at hD hT ⊢
  have hAA : ∀ q : Nat, s.heap.size ≤ q → A q := fun q h => by rw [← hAe]; exact Or.inr h
  have hS : va_S A s.heap s.heap [] := va_S.rf
  have hl := lv_entry ([.ref h0]) (n := 1) (Nat.le_of_ble_eq_true rfl)
  rw [lg_entry_eq]
  generalize (lg_sl ([.ref h0]) ++ List.replicate (1 - (lg_sl ([.ref h0])).length) Slot.unset).toArray = ls at hl ⊢
  have hl : lv_has ls 1 [(0, .ref h0)] := hl
  refine lv_aload_n hx hb dX11_where_0 rfl (lv_at hl 0 rfl) ?_
  refine va_get (D := (dC, dI)) (ci := 11) (v := .int (-1)) (C := RX11) (T := TX11) (N := 17) hx hb hA zin_X11 hown hK hP 0 rfl rfl 9 (by decide) (hA _ wi_593) (fun _ h9 => h9) rfl dX11_where_1 ?_
  have hP9 := hP.sub (ws' := []) [] rfl
  have hD9 := hD.sub (ws' := []) [] (by decide) rfl
  have hK9 := hK.sub (tys' := []) [] rfl
  exact W.iret (v := (-1)) hx hb hr (fun t ht hW => ⟨⟨(-1), (), rfl, rfl, by rw [ht]; exact hP9, va_K.moved hW.alike hK9, hD9⟩, hS.F ht⟩) hS.2.2 dX11_where_4
set_option maxHeartbeats 4000000 in
set_option maxRecDepth 100000 in
theorem c_X3_has (l : Launch) (dC : Nat → ClassId) (dI : Nat → Nat → Nat) (h0 : Nat) (z_word : Nat) (z_enter : Nat) (z_facts : Nat) (i : Int32) (sz : Nat)  : Met l yX3_has (Cond.code yX3_has cX3_has 2 (some .boolean) :: zw) ({ frames := 8, cells := 0, slots := 0, locals := 200 }) (va_Pc [.ref h0, .int i] (zP dC dI sz [] [(h0, .inr (3, [.ref z_word, .ref z_enter, .ref z_facts, .int 0]))])) (va_Qi (fun (r : Int32) (u : Unit) => r = 0) (fun u => zQ dC dI (va_A [(h0, .inr (3, [.ref z_word, .ref z_enter, .ref z_facts, .int 0]))] sz) [] [(h0, .inr (3, [.ref z_word, .ref z_enter, .ref z_facts, .int 0]))]) (va_A [(h0, .inr (3, [.ref z_word, .ref z_enter, .ref z_facts, .int 0]))] sz)) 0 0 (va_A [(h0, .inr (3, [.ref z_word, .ref z_enter, .ref z_facts, .int 0]))] sz) := by
  refine Met.ofW (cc := cX3_has) (maxL := 2) (ret := (some .boolean)) (by decide) rfl ?_
  intro p e s m args below meth c s₁ B hml hv
  obtain ⟨rfl, hsz, hP, hK, hD0, hN, hT⟩ := hv
  have hx := B.exec
  have hb := B.bytes
  have hr := B.returns
  have hts := atoms_spec (ws := Cond.code yX3_has cX3_has 2 (some .boolean) :: zw) B.pre
  have hA : ∀ w ∈ zw, w.before _ s = true := fun w h => hts w (List.mem_cons_of_mem _ h)
  have hown : s.vm.findClass RX3 = some m.cls := findClass_of_methodNamed B.named
  have hlocks := B.notSynchronized
  subst hsz
  have hD := hD0.self (sz := s.heap.size)
  generalize hAe : va_A [(h0, .inr (3, [.ref z_word, .ref z_enter, .ref z_facts, .int 0]))] s.heap.size = A at hD hT ⊢
  have hAA : ∀ q : Nat, s.heap.size ≤ q → A q := fun q h => by rw [← hAe]; exact Or.inr h
  have hS : va_S A s.heap s.heap [] := va_S.rf
  have hl := lv_entry ([.ref h0, .int i]) (n := 2) (Nat.le_of_ble_eq_true rfl)
  rw [lg_entry_eq]
  generalize (lg_sl ([.ref h0, .int i]) ++ List.replicate (2 - (lg_sl ([.ref h0, .int i])).length) Slot.unset).toArray = ls at hl ⊢
  have hl : lv_has ls 2 [(0, .ref h0), (1, .int i)] := hl
  refine lv_iload_n hx hb dX3_has_0 rfl (lv_at hl 1 rfl) ?_
  refine lv_if_lt (tgt := 16) hx hb dX3_has_1 (by decide) (fun c_1 => ?_) (fun c_1 => ?_)
  · refine lv_iconst (v := 0) hx hb dX3_has_16 (by decide) ?_
    have hP9 := hP.sub (ws' := [(h0, .inr (3, [.ref z_word, .ref z_enter, .ref z_facts, .int 0]))]) [0] rfl
    have hD9 := hD.sub (ws' := [(h0, .inr (3, [.ref z_word, .ref z_enter, .ref z_facts, .int 0]))]) [0] (by decide) rfl
    have hK9 := hK.sub (tys' := []) [] rfl
    exact W.zret (v := 0) hx hb hr rfl (fun t ht hW => ⟨⟨0, (), rfl, rfl, by rw [ht]; exact hP9, va_K.moved hW.alike hK9, hD9⟩, hS.F ht⟩) hS.2.2 dX3_has_17
  · refine lv_iload_n hx hb dX3_has_4 rfl (lv_at hl 1 rfl) ?_
    refine lv_aload_n hx hb dX3_has_5 rfl (lv_at hl 0 rfl) ?_
    refine va_get (D := (dC, dI)) (ci := 3) (v := .int 0) (C := RX3) (T := TX3) (N := 4) hx hb hA zin_X3 hown hK hP 0 rfl rfl 3 (by decide) (hA _ wi_295) (fun _ h9 => h9) rfl dX3_has_6 ?_
    refine lv_icmp_ge (tgt := 16) hx hb dX3_has_9 (by decide) (fun _ => ?_) (fun c_0 => absurd (Int32.not_lt.mp c_1) c_0)
    refine lv_iconst (v := 0) hx hb dX3_has_16 (by decide) ?_
    have hP9 := hP.sub (ws' := [(h0, .inr (3, [.ref z_word, .ref z_enter, .ref z_facts, .int 0]))]) [0] rfl
    have hD9 := hD.sub (ws' := [(h0, .inr (3, [.ref z_word, .ref z_enter, .ref z_facts, .int 0]))]) [0] (by decide) rfl
    have hK9 := hK.sub (tys' := []) [] rfl
    exact W.zret (v := 0) hx hb hr rfl (fun t ht hW => ⟨⟨0, (), rfl, rfl, by rw [ht]; exact hP9, va_K.moved hW.alike hK9, hD9⟩, hS.F ht⟩) hS.2.2 dX3_has_17
set_option maxHeartbeats 4000000 in
set_option maxRecDepth 100000 in
theorem c_X8_has (l : Launch) (dC : Nat → ClassId) (dI : Nat → Nat → Nat) (h0 : Nat) (z_bytes : Nat) (z_spare : Nat) (z_openCell : Nat) (z_openField : Nat) (i : Int32) (sz : Nat)  : Met l yX8_has (Cond.code yX8_has cX8_has 2 (some .boolean) :: zw) ({ frames := 8, cells := 0, slots := 0, locals := 200 }) (va_Pc [.ref h0, .int i] (zP dC dI sz [] [(h0, .inr (8, [.ref z_bytes, .int 0, .ref z_spare, .int 0, .int 0, .ref z_openCell, .ref z_openField, .int 0]))])) (va_Qi (fun (r : Int32) (u : Unit) => r = 0) (fun u => zQ dC dI (va_A [(h0, .inr (8, [.ref z_bytes, .int 0, .ref z_spare, .int 0, .int 0, .ref z_openCell, .ref z_openField, .int 0]))] sz) [] [(h0, .inr (8, [.ref z_bytes, .int 0, .ref z_spare, .int 0, .int 0, .ref z_openCell, .ref z_openField, .int 0]))]) (va_A [(h0, .inr (8, [.ref z_bytes, .int 0, .ref z_spare, .int 0, .int 0, .ref z_openCell, .ref z_openField, .int 0]))] sz)) 0 0 (va_A [(h0, .inr (8, [.ref z_bytes, .int 0, .ref z_spare, .int 0, .int 0, .ref z_openCell, .ref z_openField, .int 0]))] sz) := by
  refine Met.ofW (cc := cX8_has) (maxL := 2) (ret := (some .boolean)) (by decide) rfl ?_
  intro p e s m args below meth c s₁ B hml hv
  obtain ⟨rfl, hsz, hP, hK, hD0, hN, hT⟩ := hv
  have hx := B.exec
  have hb := B.bytes
  have hr := B.returns
  have hts := atoms_spec (ws := Cond.code yX8_has cX8_has 2 (some .boolean) :: zw) B.pre
  have hA : ∀ w ∈ zw, w.before _ s = true := fun w h => hts w (List.mem_cons_of_mem _ h)
  have hown : s.vm.findClass RX8 = some m.cls := findClass_of_methodNamed B.named
  have hlocks := B.notSynchronized
  subst hsz
  have hD := hD0.self (sz := s.heap.size)
  generalize hAe : va_A [(h0, .inr (8, [.ref z_bytes, .int 0, .ref z_spare, .int 0, .int 0, .ref z_openCell, .ref z_openField, .int 0]))] s.heap.size = A at hD hT ⊢
  have hAA : ∀ q : Nat, s.heap.size ≤ q → A q := fun q h => by rw [← hAe]; exact Or.inr h
  have hS : va_S A s.heap s.heap [] := va_S.rf
  have hl := lv_entry ([.ref h0, .int i]) (n := 2) (Nat.le_of_ble_eq_true rfl)
  rw [lg_entry_eq]
  generalize (lg_sl ([.ref h0, .int i]) ++ List.replicate (2 - (lg_sl ([.ref h0, .int i])).length) Slot.unset).toArray = ls at hl ⊢
  have hl : lv_has ls 2 [(0, .ref h0), (1, .int i)] := hl
  refine lv_iload_n hx hb dX8_has_0 rfl (lv_at hl 1 rfl) ?_
  refine lv_if_lt (tgt := 16) hx hb dX8_has_1 (by decide) (fun c_1 => ?_) (fun c_1 => ?_)
  · refine lv_iconst (v := 0) hx hb dX8_has_16 (by decide) ?_
    have hP9 := hP.sub (ws' := [(h0, .inr (8, [.ref z_bytes, .int 0, .ref z_spare, .int 0, .int 0, .ref z_openCell, .ref z_openField, .int 0]))]) [0] rfl
    have hD9 := hD.sub (ws' := [(h0, .inr (8, [.ref z_bytes, .int 0, .ref z_spare, .int 0, .int 0, .ref z_openCell, .ref z_openField, .int 0]))]) [0] (by decide) rfl
    have hK9 := hK.sub (tys' := []) [] rfl
    exact W.zret (v := 0) hx hb hr rfl (fun t ht hW => ⟨⟨0, (), rfl, rfl, by rw [ht]; exact hP9, va_K.moved hW.alike hK9, hD9⟩, hS.F ht⟩) hS.2.2 dX8_has_17
  · refine lv_iload_n hx hb dX8_has_4 rfl (lv_at hl 1 rfl) ?_
    refine lv_aload_n hx hb dX8_has_5 rfl (lv_at hl 0 rfl) ?_
    refine va_get (D := (dC, dI)) (ci := 8) (v := .int 0) (C := RX8) (T := TX8) (N := 8) hx hb hA zin_X8 hown hK hP 0 rfl rfl 1 (by decide) (hA _ wi_560) (fun _ h9 => h9) rfl dX8_has_6 ?_
    refine lv_icmp_ge (tgt := 16) hx hb dX8_has_9 (by decide) (fun _ => ?_) (fun c_0 => absurd (Int32.not_lt.mp c_1) c_0)
    refine lv_iconst (v := 0) hx hb dX8_has_16 (by decide) ?_
    have hP9 := hP.sub (ws' := [(h0, .inr (8, [.ref z_bytes, .int 0, .ref z_spare, .int 0, .int 0, .ref z_openCell, .ref z_openField, .int 0]))]) [0] rfl
    have hD9 := hD.sub (ws' := [(h0, .inr (8, [.ref z_bytes, .int 0, .ref z_spare, .int 0, .int 0, .ref z_openCell, .ref z_openField, .int 0]))]) [0] (by decide) rfl
    have hK9 := hK.sub (tys' := []) [] rfl
    exact W.zret (v := 0) hx hb hr rfl (fun t ht hW => ⟨⟨0, (), rfl, rfl, by rw [ht]; exact hP9, va_K.moved hW.alike hK9, hD9⟩, hS.F ht⟩) hS.2.2 dX8_has_17
set_option maxHeartbeats 4000000 in
set_option maxRecDepth 100000 in
theorem c_X11_about (l : Launch) (dC : Nat → ClassId) (dI : Nat → Nat → Nat) (h0 : Nat) (xt : Nat) (xk : Nat) (xp : Nat) (xm : Nat) (xc : Nat) (xl : Nat) (xr : Nat) (xk1 : Nat) (xk2 : Nat) (xk3 : Nat) (xf : Nat) (xf_word : Nat) (xf_enter : Nat) (xf_facts : Nat) (f : Int32) (w : Int32) (sz : Nat)  : Met l yX11_about (Cond.code yX11_about cX11_about 3 (some .int) :: zw) ({ frames := 10, cells := 0, slots := 0, locals := 300 }) (va_Pc [.ref h0, .int f, .int w] (zP dC dI sz [] [(h0, .inr (11, [.ref xt, .int 0, .ref xk, .ref xp, .ref xm, .ref xc, .ref xl, .ref xr, .int 0, .int (-1), .int 0, .int 0, .int 0, .int 0, .long 0, .int 0, .long 0])), (xk, .inr (9, [.ref xk1, .ref xk2, .ref xk3, .ref xf])), (xf, .inr (3, [.ref xf_word, .ref xf_enter, .ref xf_facts, .int 0]))])) (va_Qi (fun (r : Int32) (u : Unit) => r = (-1)) (fun u => zQ dC dI (va_A [(h0, .inr (11, [.ref xt, .int 0, .ref xk, .ref xp, .ref xm, .ref xc, .ref xl, .ref xr, .int 0, .int (-1), .int 0, .int 0, .int 0, .int 0, .long 0, .int 0, .long 0])), (xk, .inr (9, [.ref xk1, .ref xk2, .ref xk3, .ref xf])), (xf, .inr (3, [.ref xf_word, .ref xf_enter, .ref xf_facts, .int 0]))] sz) [] []) (va_A [(h0, .inr (11, [.ref xt, .int 0, .ref xk, .ref xp, .ref xm, .ref xc, .ref xl, .ref xr, .int 0, .int (-1), .int 0, .int 0, .int 0, .int 0, .long 0, .int 0, .long 0])), (xk, .inr (9, [.ref xk1, .ref xk2, .ref xk3, .ref xf])), (xf, .inr (3, [.ref xf_word, .ref xf_enter, .ref xf_facts, .int 0]))] sz)) 0 0 (va_A [(h0, .inr (11, [.ref xt, .int 0, .ref xk, .ref xp, .ref xm, .ref xc, .ref xl, .ref xr, .int 0, .int (-1), .int 0, .int 0, .int 0, .int 0, .long 0, .int 0, .long 0])), (xk, .inr (9, [.ref xk1, .ref xk2, .ref xk3, .ref xf])), (xf, .inr (3, [.ref xf_word, .ref xf_enter, .ref xf_facts, .int 0]))] sz) := by
  refine Met.ofW (cc := cX11_about) (maxL := 3) (ret := (some .int)) (by decide) rfl ?_
  intro p e s m args below meth c s₁ B hml hv
  obtain ⟨rfl, hsz, hP, hK, hD0, hN, hT⟩ := hv
  have hx := B.exec
  have hb := B.bytes
  have hr := B.returns
  have hts := atoms_spec (ws := Cond.code yX11_about cX11_about 3 (some .int) :: zw) B.pre
  have hA : ∀ w ∈ zw, w.before _ s = true := fun w h => hts w (List.mem_cons_of_mem _ h)
  have hown : s.vm.findClass RX11 = some m.cls := findClass_of_methodNamed B.named
  have hlocks := B.notSynchronized
  subst hsz
  have hD := hD0.self (sz := s.heap.size)
  generalize hAe : va_A [(h0, .inr (11, [.ref xt, .int 0, .ref xk, .ref xp, .ref xm, .ref xc, .ref xl, .ref xr, .int 0, .int (-1), .int 0, .int 0, .int 0, .int 0, .long 0, .int 0, .long 0])), (xk, .inr (9, [.ref xk1, .ref xk2, .ref xk3, .ref xf])), (xf, .inr (3, [.ref xf_word, .ref xf_enter, .ref xf_facts, .int 0]))] s.heap.size = A at hD hT ⊢
  have hAA : ∀ q : Nat, s.heap.size ≤ q → A q := fun q h => by rw [← hAe]; exact Or.inr h
  have hS : va_S A s.heap s.heap [] := va_S.rf
  have hl := lv_entry ([.ref h0, .int f, .int w]) (n := 3) (Nat.le_of_ble_eq_true rfl)
  rw [lg_entry_eq]
  generalize (lg_sl ([.ref h0, .int f, .int w]) ++ List.replicate (3 - (lg_sl ([.ref h0, .int f, .int w])).length) Slot.unset).toArray = ls at hl ⊢
  have hl : lv_has ls 3 [(0, .ref h0), (1, .int f), (2, .int w)] := hl
  refine lv_aload_n hx hb dX11_about_0 rfl (lv_at hl 0 rfl) ?_
  refine va_get (D := (dC, dI)) (ci := 11) (v := .ref xk) (C := RX11) (T := TX11) (N := 17) hx hb hA zin_X11 hown hK hP 0 rfl rfl 2 (by decide) (hA _ wi_586) (fun _ h9 => h9) rfl dX11_about_1 ?_
  refine va_get (D := (dC, dI)) (ci := 9) (v := .ref xf) (C := RX9) (T := TX9) (N := 4) hx hb hA zin_X9 hown hK hP 1 rfl rfl 3 (by decide) (hA _ wi_321) (fun _ h9 => h9) rfl dX11_about_4 ?_
  refine lv_iload_n hx hb dX11_about_7 rfl (lv_at hl 1 rfl) ?_
  have hPc := hP.sub (ws' := [(xf, .inr (3, [.ref xf_word, .ref xf_enter, .ref xf_facts, .int 0]))]) [2] rfl
  have hDc := hD.sub (ws' := [(xf, .inr (3, [.ref xf_word, .ref xf_enter, .ref xf_facts, .int 0]))]) [2] (by decide) rfl
  have hKc := hK.sub (tys' := []) [] rfl
  have hFc := va_free (wc := [(xf, .inr (3, [.ref xf_word, .ref xf_enter, .ref xf_facts, .int 0]))]) hD hS hAA [2] rfl
  refine va_calli (va_runV (As := [.int f]) (rest := []) ⟨hx, hb, hml, hown, hA⟩ (c_X3_has l dC dI xf xf_word xf_enter xf_facts f s.heap.size) (cwV 1 hA (zw_V wi_1078 wi_911 wi_912 wi_135 (zw_good wi_913)) rfl rfl rfl (by decide +kernel) ⟨(Nat.le_of_ble_eq_true rfl), (Nat.le_of_ble_eq_true rfl)⟩) ⟨zP_blind, va_recv hKc hPc (ci := 3) (q0 := 0) rfl rfl, zz_pre hKc hPc hDc hN hT hS hFc⟩ rfl rfl hl.1 rfl (lv_room (Nat.le_of_ble_eq_true rfl)) dX11_about_8 ⟨(Nat.le_of_ble_eq_true rfl), (Nat.le_of_ble_eq_true rfl)⟩) hS (fun q _ h => hFc q h) hFc (fun r_1 u t H1 locs ht hvm hw hB hz1 hk1 hS => ?_)
  obtain ⟨hP1, hK1, hD1⟩ := hB
  rw [ht] at hP1
  have hK1 := va_K.moved hvm.symm hK1
  obtain ⟨hP, hD⟩ := va_join (wr := [(h0, .inr (11, [.ref xt, .int 0, .ref xk, .ref xp, .ref xm, .ref xc, .ref xl, .ref xr, .int 0, .int (-1), .int 0, .int 0, .int 0, .int 0, .long 0, .int 0, .long 0])), (xk, .inr (9, [.ref xk1, .ref xk2, .ref xk3, .ref xf]))]) (w1 := [(xf, .inr (3, [.ref xf_word, .ref xf_enter, .ref xf_facts, .int 0]))]) hP hD [2] [0, 1] rfl rfl (by decide) (by decide) hk1 hFc hP1 hD1
  have hK := (hK.sub (tys' := []) [] rfl).app hK1
  generalize H1 = H at hP hS ⊢
  have hP : va_P (dC, dI) vwCl [(h0, .inr (11, [.ref xt, .int 0, .ref xk, .ref xp, .ref xm, .ref xc, .ref xl, .ref xr, .int 0, .int (-1), .int 0, .int 0, .int 0, .int 0, .long 0, .int 0, .long 0])), (xk, .inr (9, [.ref xk1, .ref xk2, .ref xk3, .ref xf])), (xf, .inr (3, [.ref xf_word, .ref xf_enter, .ref xf_facts, .int 0]))] H := hP
  have hD : va_D A [(h0, .inr (11, [.ref xt, .int 0, .ref xk, .ref xp, .ref xm, .ref xc, .ref xl, .ref xr, .int 0, .int (-1), .int 0, .int 0, .int 0, .int 0, .long 0, .int 0, .long 0])), (xk, .inr (9, [.ref xk1, .ref xk2, .ref xk3, .ref xf])), (xf, .inr (3, [.ref xf_word, .ref xf_enter, .ref xf_facts, .int 0]))] := hD
  have hK : va_K (dC, dI) vwCl [] s := hK
  obtain rfl : r_1 = 0 := hw
  refine lv_if_eq (tgt := 23) hx hb dX11_about_11 (by decide) (fun _ => ?_) (fun c_0 => absurd (by decide) c_0)
  refine lv_iconst (v := (-1)) hx hb dX11_about_23 (by decide) ?_
  have hP9 := hP.sub (ws' := []) [] rfl
  have hD9 := hD.sub (ws' := []) [] (by decide) rfl
  have hK9 := hK.sub (tys' := []) [] rfl
  exact W.iret (v := (-1)) hx hb hr (fun t ht hW => ⟨⟨(-1), (), rfl, rfl, by rw [ht]; exact hP9, va_K.moved hW.alike hK9, hD9⟩, hS.F ht⟩) hS.2.2 dX11_about_24
set_option maxHeartbeats 4000000 in
set_option maxRecDepth 100000 in
theorem c_X11_mayWork (l : Launch) (dC : Nat → ClassId) (dI : Nat → Nat → Nat) (h0 : Nat) (xt : Nat) (xk : Nat) (xp : Nat) (xm : Nat) (xc : Nat) (xl : Nat) (xr : Nat) (xk1 : Nat) (xk2 : Nat) (xk3 : Nat) (xf : Nat) (xf_word : Nat) (xf_enter : Nat) (xf_facts : Nat) (f : Int32) (w : Int32) (sz : Nat)  : Met l yX11_mayWork (Cond.code yX11_mayWork cX11_mayWork 3 (some .boolean) :: zw) ({ frames := 10, cells := 0, slots := 0, locals := 300 }) (va_Pc [.ref h0, .int f, .int w] (zP dC dI sz [] [(h0, .inr (11, [.ref xt, .int 0, .ref xk, .ref xp, .ref xm, .ref xc, .ref xl, .ref xr, .int 0, .int (-1), .int 0, .int 0, .int 0, .int 0, .long 0, .int 0, .long 0])), (xk, .inr (9, [.ref xk1, .ref xk2, .ref xk3, .ref xf])), (xf, .inr (3, [.ref xf_word, .ref xf_enter, .ref xf_facts, .int 0]))])) (va_Qi (fun (r : Int32) (u : Unit) => r = 0) (fun u => zQ dC dI (va_A [(h0, .inr (11, [.ref xt, .int 0, .ref xk, .ref xp, .ref xm, .ref xc, .ref xl, .ref xr, .int 0, .int (-1), .int 0, .int 0, .int 0, .int 0, .long 0, .int 0, .long 0])), (xk, .inr (9, [.ref xk1, .ref xk2, .ref xk3, .ref xf])), (xf, .inr (3, [.ref xf_word, .ref xf_enter, .ref xf_facts, .int 0]))] sz) [] []) (va_A [(h0, .inr (11, [.ref xt, .int 0, .ref xk, .ref xp, .ref xm, .ref xc, .ref xl, .ref xr, .int 0, .int (-1), .int 0, .int 0, .int 0, .int 0, .long 0, .int 0, .long 0])), (xk, .inr (9, [.ref xk1, .ref xk2, .ref xk3, .ref xf])), (xf, .inr (3, [.ref xf_word, .ref xf_enter, .ref xf_facts, .int 0]))] sz)) 0 0 (va_A [(h0, .inr (11, [.ref xt, .int 0, .ref xk, .ref xp, .ref xm, .ref xc, .ref xl, .ref xr, .int 0, .int (-1), .int 0, .int 0, .int 0, .int 0, .long 0, .int 0, .long 0])), (xk, .inr (9, [.ref xk1, .ref xk2, .ref xk3, .ref xf])), (xf, .inr (3, [.ref xf_word, .ref xf_enter, .ref xf_facts, .int 0]))] sz) := by
  refine Met.ofW (cc := cX11_mayWork) (maxL := 3) (ret := (some .boolean)) (by decide) rfl ?_
  intro p e s m args below meth c s₁ B hml hv
  obtain ⟨rfl, hsz, hP, hK, hD0, hN, hT⟩ := hv
  have hx := B.exec
  have hb := B.bytes
  have hr := B.returns
  have hts := atoms_spec (ws := Cond.code yX11_mayWork cX11_mayWork 3 (some .boolean) :: zw) B.pre
  have hA : ∀ w ∈ zw, w.before _ s = true := fun w h => hts w (List.mem_cons_of_mem _ h)
  have hown : s.vm.findClass RX11 = some m.cls := findClass_of_methodNamed B.named
  have hlocks := B.notSynchronized
  subst hsz
  have hD := hD0.self (sz := s.heap.size)
  generalize hAe : va_A [(h0, .inr (11, [.ref xt, .int 0, .ref xk, .ref xp, .ref xm, .ref xc, .ref xl, .ref xr, .int 0, .int (-1), .int 0, .int 0, .int 0, .int 0, .long 0, .int 0, .long 0])), (xk, .inr (9, [.ref xk1, .ref xk2, .ref xk3, .ref xf])), (xf, .inr (3, [.ref xf_word, .ref xf_enter, .ref xf_facts, .int 0]))] s.heap.size = A at hD hT ⊢
  have hAA : ∀ q : Nat, s.heap.size ≤ q → A q := fun q h => by rw [← hAe]; exact Or.inr h
  have hS : va_S A s.heap s.heap [] := va_S.rf
  have hl := lv_entry ([.ref h0, .int f, .int w]) (n := 3) (Nat.le_of_ble_eq_true rfl)
  rw [lg_entry_eq]
  generalize (lg_sl ([.ref h0, .int f, .int w]) ++ List.replicate (3 - (lg_sl ([.ref h0, .int f, .int w])).length) Slot.unset).toArray = ls at hl ⊢
  have hl : lv_has ls 3 [(0, .ref h0), (1, .int f), (2, .int w)] := hl
  refine lv_aload_n hx hb dX11_mayWork_0 rfl (lv_at hl 0 rfl) ?_
  refine va_get (D := (dC, dI)) (ci := 11) (v := .ref xk) (C := RX11) (T := TX11) (N := 17) hx hb hA zin_X11 hown hK hP 0 rfl rfl 2 (by decide) (hA _ wi_586) (fun _ h9 => h9) rfl dX11_mayWork_1 ?_
  refine va_get (D := (dC, dI)) (ci := 9) (v := .ref xf) (C := RX9) (T := TX9) (N := 4) hx hb hA zin_X9 hown hK hP 1 rfl rfl 3 (by decide) (hA _ wi_321) (fun _ h9 => h9) rfl dX11_mayWork_4 ?_
  refine lv_iload_n hx hb dX11_mayWork_7 rfl (lv_at hl 1 rfl) ?_
  have hPc := hP.sub (ws' := [(xf, .inr (3, [.ref xf_word, .ref xf_enter, .ref xf_facts, .int 0]))]) [2] rfl
  have hDc := hD.sub (ws' := [(xf, .inr (3, [.ref xf_word, .ref xf_enter, .ref xf_facts, .int 0]))]) [2] (by decide) rfl
  have hKc := hK.sub (tys' := []) [] rfl
  have hFc := va_free (wc := [(xf, .inr (3, [.ref xf_word, .ref xf_enter, .ref xf_facts, .int 0]))]) hD hS hAA [2] rfl
  refine va_calli (va_runV (As := [.int f]) (rest := []) ⟨hx, hb, hml, hown, hA⟩ (c_X3_has l dC dI xf xf_word xf_enter xf_facts f s.heap.size) (cwV 1 hA (zw_V wi_1078 wi_911 wi_912 wi_135 (zw_good wi_913)) rfl rfl rfl (by decide +kernel) ⟨(Nat.le_of_ble_eq_true rfl), (Nat.le_of_ble_eq_true rfl)⟩) ⟨zP_blind, va_recv hKc hPc (ci := 3) (q0 := 0) rfl rfl, zz_pre hKc hPc hDc hN hT hS hFc⟩ rfl rfl hl.1 rfl (lv_room (Nat.le_of_ble_eq_true rfl)) dX11_mayWork_8 ⟨(Nat.le_of_ble_eq_true rfl), (Nat.le_of_ble_eq_true rfl)⟩) hS (fun q _ h => hFc q h) hFc (fun r_1 u t H1 locs ht hvm hw hB hz1 hk1 hS => ?_)
  obtain ⟨hP1, hK1, hD1⟩ := hB
  rw [ht] at hP1
  have hK1 := va_K.moved hvm.symm hK1
  obtain ⟨hP, hD⟩ := va_join (wr := [(h0, .inr (11, [.ref xt, .int 0, .ref xk, .ref xp, .ref xm, .ref xc, .ref xl, .ref xr, .int 0, .int (-1), .int 0, .int 0, .int 0, .int 0, .long 0, .int 0, .long 0])), (xk, .inr (9, [.ref xk1, .ref xk2, .ref xk3, .ref xf]))]) (w1 := [(xf, .inr (3, [.ref xf_word, .ref xf_enter, .ref xf_facts, .int 0]))]) hP hD [2] [0, 1] rfl rfl (by decide) (by decide) hk1 hFc hP1 hD1
  have hK := (hK.sub (tys' := []) [] rfl).app hK1
  generalize H1 = H at hP hS ⊢
  have hP : va_P (dC, dI) vwCl [(h0, .inr (11, [.ref xt, .int 0, .ref xk, .ref xp, .ref xm, .ref xc, .ref xl, .ref xr, .int 0, .int (-1), .int 0, .int 0, .int 0, .int 0, .long 0, .int 0, .long 0])), (xk, .inr (9, [.ref xk1, .ref xk2, .ref xk3, .ref xf])), (xf, .inr (3, [.ref xf_word, .ref xf_enter, .ref xf_facts, .int 0]))] H := hP
  have hD : va_D A [(h0, .inr (11, [.ref xt, .int 0, .ref xk, .ref xp, .ref xm, .ref xc, .ref xl, .ref xr, .int 0, .int (-1), .int 0, .int 0, .int 0, .int 0, .long 0, .int 0, .long 0])), (xk, .inr (9, [.ref xk1, .ref xk2, .ref xk3, .ref xf])), (xf, .inr (3, [.ref xf_word, .ref xf_enter, .ref xf_facts, .int 0]))] := hD
  have hK : va_K (dC, dI) vwCl [] s := hK
  obtain rfl : r_1 = 0 := hw
  refine lv_if_eq (tgt := 29) hx hb dX11_mayWork_11 (by decide) (fun _ => ?_) (fun c_0 => absurd (by decide) c_0)
  refine lv_iconst (v := 0) hx hb dX11_mayWork_29 (by decide) ?_
  have hP9 := hP.sub (ws' := []) [] rfl
  have hD9 := hD.sub (ws' := []) [] (by decide) rfl
  have hK9 := hK.sub (tys' := []) [] rfl
  exact W.zret (v := 0) hx hb hr rfl (fun t ht hW => ⟨⟨0, (), rfl, rfl, by rw [ht]; exact hP9, va_K.moved hW.alike hK9, hD9⟩, hS.F ht⟩) hS.2.2 dX11_mayWork_30
set_option maxHeartbeats 4000000 in
set_option maxRecDepth 100000 in
theorem c_X11_run (l : Launch) (dC : Nat → ClassId) (dI : Nat → Nat → Nat) (h0 : Nat) (xt : Nat) (xk : Nat) (xp : Nat) (xm : Nat) (xc : Nat) (xl : Nat) (xr : Nat) (xk1 : Nat) (xk2 : Nat) (xk3 : Nat) (xf : Nat) (xf_word : Nat) (xf_enter : Nat) (xf_facts : Nat) (f : Int32) (w : Int32) (v : Int32) (a1 : Int32) (a2 : Int32) (a3 : Int32) (a4 : Int32) (sz : Nat)  : Met l yX11_run (Cond.code yX11_run cX11_run 8 (some .int) :: zw) ({ frames := 12, cells := 0, slots := 0, locals := 400 }) (va_Pc [.ref h0, .int f, .int w, .int v, .int a1, .int a2, .int a3, .int a4] (zP dC dI sz [] [(h0, .inr (11, [.ref xt, .int 0, .ref xk, .ref xp, .ref xm, .ref xc, .ref xl, .ref xr, .int 0, .int (-1), .int 0, .int 0, .int 0, .int 0, .long 0, .int 0, .long 0])), (xk, .inr (9, [.ref xk1, .ref xk2, .ref xk3, .ref xf])), (xf, .inr (3, [.ref xf_word, .ref xf_enter, .ref xf_facts, .int 0]))])) (va_Qi (fun (r : Int32) (u : Unit) => r = (-1)) (fun u => zQ dC dI (va_A [(h0, .inr (11, [.ref xt, .int 0, .ref xk, .ref xp, .ref xm, .ref xc, .ref xl, .ref xr, .int 0, .int (-1), .int 0, .int 0, .int 0, .int 0, .long 0, .int 0, .long 0])), (xk, .inr (9, [.ref xk1, .ref xk2, .ref xk3, .ref xf])), (xf, .inr (3, [.ref xf_word, .ref xf_enter, .ref xf_facts, .int 0]))] sz) [] []) (va_A [(h0, .inr (11, [.ref xt, .int 0, .ref xk, .ref xp, .ref xm, .ref xc, .ref xl, .ref xr, .int 0, .int (-1), .int 0, .int 0, .int 0, .int 0, .long 0, .int 0, .long 0])), (xk, .inr (9, [.ref xk1, .ref xk2, .ref xk3, .ref xf])), (xf, .inr (3, [.ref xf_word, .ref xf_enter, .ref xf_facts, .int 0]))] sz)) 0 0 (va_A [(h0, .inr (11, [.ref xt, .int 0, .ref xk, .ref xp, .ref xm, .ref xc, .ref xl, .ref xr, .int 0, .int (-1), .int 0, .int 0, .int 0, .int 0, .long 0, .int 0, .long 0])), (xk, .inr (9, [.ref xk1, .ref xk2, .ref xk3, .ref xf])), (xf, .inr (3, [.ref xf_word, .ref xf_enter, .ref xf_facts, .int 0]))] sz) := by
  refine Met.ofW (cc := cX11_run) (maxL := 8) (ret := (some .int)) (by decide) rfl ?_
  intro p e s m args below meth c s₁ B hml hv
  obtain ⟨rfl, hsz, hP, hK, hD0, hN, hT⟩ := hv
  have hx := B.exec
  have hb := B.bytes
  have hr := B.returns
  have hts := atoms_spec (ws := Cond.code yX11_run cX11_run 8 (some .int) :: zw) B.pre
  have hA : ∀ w ∈ zw, w.before _ s = true := fun w h => hts w (List.mem_cons_of_mem _ h)
  have hown : s.vm.findClass RX11 = some m.cls := findClass_of_methodNamed B.named
  have hlocks := B.notSynchronized
  subst hsz
  have hD := hD0.self (sz := s.heap.size)
  generalize hAe : va_A [(h0, .inr (11, [.ref xt, .int 0, .ref xk, .ref xp, .ref xm, .ref xc, .ref xl, .ref xr, .int 0, .int (-1), .int 0, .int 0, .int 0, .int 0, .long 0, .int 0, .long 0])), (xk, .inr (9, [.ref xk1, .ref xk2, .ref xk3, .ref xf])), (xf, .inr (3, [.ref xf_word, .ref xf_enter, .ref xf_facts, .int 0]))] s.heap.size = A at hD hT ⊢
  have hAA : ∀ q : Nat, s.heap.size ≤ q → A q := fun q h => by rw [← hAe]; exact Or.inr h
  have hS : va_S A s.heap s.heap [] := va_S.rf
  have hl := lv_entry ([.ref h0, .int f, .int w, .int v, .int a1, .int a2, .int a3, .int a4]) (n := 8) (Nat.le_of_ble_eq_true rfl)
  rw [lg_entry_eq]
  generalize (lg_sl ([.ref h0, .int f, .int w, .int v, .int a1, .int a2, .int a3, .int a4]) ++ List.replicate (8 - (lg_sl ([.ref h0, .int f, .int w, .int v, .int a1, .int a2, .int a3, .int a4])).length) Slot.unset).toArray = ls at hl ⊢
  have hl : lv_has ls 8 [(0, .ref h0), (1, .int f), (2, .int w), (3, .int v), (4, .int a1), (5, .int a2), (6, .int a3), (7, .int a4)] := hl
  refine lv_iload_n hx hb dX11_run_0 rfl (lv_at hl 2 rfl) ?_
  refine lv_if_lt (tgt := 20) hx hb dX11_run_1 (by decide) (fun c_1 => ?_) (fun c_1 => ?_)
  · refine lv_iconst (v := (-1)) hx hb dX11_run_20 (by decide) ?_
    have hP9 := hP.sub (ws' := []) [] rfl
    have hD9 := hD.sub (ws' := []) [] (by decide) rfl
    have hK9 := hK.sub (tys' := []) [] rfl
    exact W.iret (v := (-1)) hx hb hr (fun t ht hW => ⟨⟨(-1), (), rfl, rfl, by rw [ht]; exact hP9, va_K.moved hW.alike hK9, hD9⟩, hS.F ht⟩) hS.2.2 dX11_run_21
  · refine lv_iload_n hx hb dX11_run_4 rfl (lv_at hl 2 rfl) ?_
    refine lv_sipush (v := 400) hx hb dX11_run_5 (by decide) ?_
    refine lv_icmp_gt (tgt := 20) hx hb dX11_run_8 (by decide) (fun c_2 => ?_) (fun c_2 => ?_)
    · refine lv_iconst (v := (-1)) hx hb dX11_run_20 (by decide) ?_
      have hP9 := hP.sub (ws' := []) [] rfl
      have hD9 := hD.sub (ws' := []) [] (by decide) rfl
      have hK9 := hK.sub (tys' := []) [] rfl
      exact W.iret (v := (-1)) hx hb hr (fun t ht hW => ⟨⟨(-1), (), rfl, rfl, by rw [ht]; exact hP9, va_K.moved hW.alike hK9, hD9⟩, hS.F ht⟩) hS.2.2 dX11_run_21
    · refine lv_aload_n hx hb dX11_run_11 rfl (lv_at hl 0 rfl) ?_
      refine lv_iload_n hx hb dX11_run_12 rfl (lv_at hl 1 rfl) ?_
      refine lv_iload_n hx hb dX11_run_13 rfl (lv_at hl 3 rfl) ?_
      have hPc := hP.sub (ws' := [(h0, .inr (11, [.ref xt, .int 0, .ref xk, .ref xp, .ref xm, .ref xc, .ref xl, .ref xr, .int 0, .int (-1), .int 0, .int 0, .int 0, .int 0, .long 0, .int 0, .long 0])), (xk, .inr (9, [.ref xk1, .ref xk2, .ref xk3, .ref xf])), (xf, .inr (3, [.ref xf_word, .ref xf_enter, .ref xf_facts, .int 0]))]) [0, 1, 2] rfl
      have hDc := hD.sub (ws' := [(h0, .inr (11, [.ref xt, .int 0, .ref xk, .ref xp, .ref xm, .ref xc, .ref xl, .ref xr, .int 0, .int (-1), .int 0, .int 0, .int 0, .int 0, .long 0, .int 0, .long 0])), (xk, .inr (9, [.ref xk1, .ref xk2, .ref xk3, .ref xf])), (xf, .inr (3, [.ref xf_word, .ref xf_enter, .ref xf_facts, .int 0]))]) [0, 1, 2] (by decide) rfl
      have hKc := hK.sub (tys' := []) [] rfl
      have hFc := va_free (wc := [(h0, .inr (11, [.ref xt, .int 0, .ref xk, .ref xp, .ref xm, .ref xc, .ref xl, .ref xr, .int 0, .int (-1), .int 0, .int 0, .int 0, .int 0, .long 0, .int 0, .long 0])), (xk, .inr (9, [.ref xk1, .ref xk2, .ref xk3, .ref xf])), (xf, .inr (3, [.ref xf_word, .ref xf_enter, .ref xf_facts, .int 0]))]) hD hS hAA [0, 1, 2] rfl
      refine va_calli (va_runV (As := [.int f, .int v]) (rest := []) ⟨hx, hb, hml, hown, hA⟩ (c_X11_mayWork l dC dI h0 xt xk xp xm xc xl xr xk1 xk2 xk3 xf xf_word xf_enter xf_facts f v s.heap.size) (cwV 2 hA (zw_V wi_1084 wi_1086 wi_39 wi_130 (zw_good wi_1087)) rfl rfl rfl (by decide +kernel) ⟨(Nat.le_of_ble_eq_true rfl), (Nat.le_of_ble_eq_true rfl)⟩) ⟨zP_blind, va_recv hKc hPc (ci := 11) (q0 := 0) rfl rfl, zz_pre hKc hPc hDc hN hT hS hFc⟩ rfl rfl hl.1 rfl (lv_room (Nat.le_of_ble_eq_true rfl)) dX11_run_14 ⟨(Nat.le_of_ble_eq_true rfl), (Nat.le_of_ble_eq_true rfl)⟩) hS (fun q _ h => hFc q h) hFc (fun r_3 u t H1 locs ht hvm hw hB hz1 hk1 hS => ?_)
      obtain ⟨hP1, hK1, hD1⟩ := hB
      rw [ht] at hP1
      have hK1 := va_K.moved hvm.symm hK1
      obtain ⟨hP, hD⟩ := va_join (wr := []) (w1 := []) hP hD [0, 1, 2] [] rfl rfl (by decide) (by decide) hk1 hFc hP1 hD1
      have hK := (hK.sub (tys' := []) [] rfl).app hK1
      generalize H1 = H at hP hS ⊢
      have hP : va_P (dC, dI) vwCl [] H := hP
      have hD : va_D A [] := hD
      have hK : va_K (dC, dI) vwCl [] s := hK
      obtain rfl : r_3 = 0 := hw
      refine lv_if_ne (tgt := 22) hx hb dX11_run_17 (by decide) (fun c_0 => absurd c_0 (by decide)) (fun _ => ?_)
      refine lv_iconst (v := (-1)) hx hb dX11_run_20 (by decide) ?_
      have hP9 := hP.sub (ws' := []) [] rfl
      have hD9 := hD.sub (ws' := []) [] (by decide) rfl
      have hK9 := hK.sub (tys' := []) [] rfl
      exact W.iret (v := (-1)) hx hb hr (fun t ht hW => ⟨⟨(-1), (), rfl, rfl, by rw [ht]; exact hP9, va_K.moved hW.alike hK9, hD9⟩, hS.F ht⟩) hS.2.2 dX11_run_21
set_option maxHeartbeats 4000000 in
set_option maxRecDepth 100000 in
theorem c_X11_plain (l : Launch) (dC : Nat → ClassId) (dI : Nat → Nat → Nat) (h0 : Nat) (xt : Nat) (xk : Nat) (xp : Nat) (xm : Nat) (xc : Nat) (xl : Nat) (xr : Nat) (xk1 : Nat) (xk2 : Nat) (xk3 : Nat) (xf : Nat) (xf_word : Nat) (xf_enter : Nat) (xf_facts : Nat) (f : Int32) (w : Int32) (a1 : Int32) (a2 : Int32) (a3 : Int32) (a4 : Int32) (sz : Nat)  : Met l yX11_plain (Cond.code yX11_plain cX11_plain 7 (some .int) :: zw) ({ frames := 12, cells := 0, slots := 0, locals := 400 }) (va_Pc [.ref h0, .int f, .int w, .int a1, .int a2, .int a3, .int a4] (zP dC dI sz [] [(h0, .inr (11, [.ref xt, .int 0, .ref xk, .ref xp, .ref xm, .ref xc, .ref xl, .ref xr, .int 0, .int (-1), .int 0, .int 0, .int 0, .int 0, .long 0, .int 0, .long 0])), (xk, .inr (9, [.ref xk1, .ref xk2, .ref xk3, .ref xf])), (xf, .inr (3, [.ref xf_word, .ref xf_enter, .ref xf_facts, .int 0]))])) (va_Qi (fun (r : Int32) (u : Unit) => r = (-1)) (fun u => zQ dC dI (va_A [(h0, .inr (11, [.ref xt, .int 0, .ref xk, .ref xp, .ref xm, .ref xc, .ref xl, .ref xr, .int 0, .int (-1), .int 0, .int 0, .int 0, .int 0, .long 0, .int 0, .long 0])), (xk, .inr (9, [.ref xk1, .ref xk2, .ref xk3, .ref xf])), (xf, .inr (3, [.ref xf_word, .ref xf_enter, .ref xf_facts, .int 0]))] sz) [] []) (va_A [(h0, .inr (11, [.ref xt, .int 0, .ref xk, .ref xp, .ref xm, .ref xc, .ref xl, .ref xr, .int 0, .int (-1), .int 0, .int 0, .int 0, .int 0, .long 0, .int 0, .long 0])), (xk, .inr (9, [.ref xk1, .ref xk2, .ref xk3, .ref xf])), (xf, .inr (3, [.ref xf_word, .ref xf_enter, .ref xf_facts, .int 0]))] sz)) 0 0 (va_A [(h0, .inr (11, [.ref xt, .int 0, .ref xk, .ref xp, .ref xm, .ref xc, .ref xl, .ref xr, .int 0, .int (-1), .int 0, .int 0, .int 0, .int 0, .long 0, .int 0, .long 0])), (xk, .inr (9, [.ref xk1, .ref xk2, .ref xk3, .ref xf])), (xf, .inr (3, [.ref xf_word, .ref xf_enter, .ref xf_facts, .int 0]))] sz) := by
  refine Met.ofW (cc := cX11_plain) (maxL := 7) (ret := (some .int)) (by decide) rfl ?_
  intro p e s m args below meth c s₁ B hml hv
  obtain ⟨rfl, hsz, hP, hK, hD0, hN, hT⟩ := hv
  have hx := B.exec
  have hb := B.bytes
  have hr := B.returns
  have hts := atoms_spec (ws := Cond.code yX11_plain cX11_plain 7 (some .int) :: zw) B.pre
  have hA : ∀ w ∈ zw, w.before _ s = true := fun w h => hts w (List.mem_cons_of_mem _ h)
  have hown : s.vm.findClass RX11 = some m.cls := findClass_of_methodNamed B.named
  have hlocks := B.notSynchronized
  subst hsz
  have hD := hD0.self (sz := s.heap.size)
  generalize hAe : va_A [(h0, .inr (11, [.ref xt, .int 0, .ref xk, .ref xp, .ref xm, .ref xc, .ref xl, .ref xr, .int 0, .int (-1), .int 0, .int 0, .int 0, .int 0, .long 0, .int 0, .long 0])), (xk, .inr (9, [.ref xk1, .ref xk2, .ref xk3, .ref xf])), (xf, .inr (3, [.ref xf_word, .ref xf_enter, .ref xf_facts, .int 0]))] s.heap.size = A at hD hT ⊢
  have hAA : ∀ q : Nat, s.heap.size ≤ q → A q := fun q h => by rw [← hAe]; exact Or.inr h
  have hS : va_S A s.heap s.heap [] := va_S.rf
  have hl := lv_entry ([.ref h0, .int f, .int w, .int a1, .int a2, .int a3, .int a4]) (n := 7) (Nat.le_of_ble_eq_true rfl)
  rw [lg_entry_eq]
  generalize (lg_sl ([.ref h0, .int f, .int w, .int a1, .int a2, .int a3, .int a4]) ++ List.replicate (7 - (lg_sl ([.ref h0, .int f, .int w, .int a1, .int a2, .int a3, .int a4])).length) Slot.unset).toArray = ls at hl ⊢
  have hl : lv_has ls 7 [(0, .ref h0), (1, .int f), (2, .int w), (3, .int a1), (4, .int a2), (5, .int a3), (6, .int a4)] := hl
  refine lv_aload_n hx hb dX11_plain_0 rfl (lv_at hl 0 rfl) ?_
  refine lv_iload_n hx hb dX11_plain_1 rfl (lv_at hl 1 rfl) ?_
  refine lv_iload_n hx hb dX11_plain_2 rfl (lv_at hl 2 rfl) ?_
  have hPc := hP.sub (ws' := [(h0, .inr (11, [.ref xt, .int 0, .ref xk, .ref xp, .ref xm, .ref xc, .ref xl, .ref xr, .int 0, .int (-1), .int 0, .int 0, .int 0, .int 0, .long 0, .int 0, .long 0])), (xk, .inr (9, [.ref xk1, .ref xk2, .ref xk3, .ref xf])), (xf, .inr (3, [.ref xf_word, .ref xf_enter, .ref xf_facts, .int 0]))]) [0, 1, 2] rfl
  have hDc := hD.sub (ws' := [(h0, .inr (11, [.ref xt, .int 0, .ref xk, .ref xp, .ref xm, .ref xc, .ref xl, .ref xr, .int 0, .int (-1), .int 0, .int 0, .int 0, .int 0, .long 0, .int 0, .long 0])), (xk, .inr (9, [.ref xk1, .ref xk2, .ref xk3, .ref xf])), (xf, .inr (3, [.ref xf_word, .ref xf_enter, .ref xf_facts, .int 0]))]) [0, 1, 2] (by decide) rfl
  have hKc := hK.sub (tys' := []) [] rfl
  have hFc := va_free (wc := [(h0, .inr (11, [.ref xt, .int 0, .ref xk, .ref xp, .ref xm, .ref xc, .ref xl, .ref xr, .int 0, .int (-1), .int 0, .int 0, .int 0, .int 0, .long 0, .int 0, .long 0])), (xk, .inr (9, [.ref xk1, .ref xk2, .ref xk3, .ref xf])), (xf, .inr (3, [.ref xf_word, .ref xf_enter, .ref xf_facts, .int 0]))]) hD hS hAA [0, 1, 2] rfl
  refine va_calli (va_runV (As := [.int f, .int w]) (rest := []) ⟨hx, hb, hml, hown, hA⟩ (c_X11_mayWork l dC dI h0 xt xk xp xm xc xl xr xk1 xk2 xk3 xf xf_word xf_enter xf_facts f w s.heap.size) (cwV 2 hA (zw_V wi_1084 wi_1086 wi_39 wi_130 (zw_good wi_1087)) rfl rfl rfl (by decide +kernel) ⟨(Nat.le_of_ble_eq_true rfl), (Nat.le_of_ble_eq_true rfl)⟩) ⟨zP_blind, va_recv hKc hPc (ci := 11) (q0 := 0) rfl rfl, zz_pre hKc hPc hDc hN hT hS hFc⟩ rfl rfl hl.1 rfl (lv_room (Nat.le_of_ble_eq_true rfl)) dX11_plain_3 ⟨(Nat.le_of_ble_eq_true rfl), (Nat.le_of_ble_eq_true rfl)⟩) hS (fun q _ h => hFc q h) hFc (fun r_1 u t H1 locs ht hvm hw hB hz1 hk1 hS => ?_)
  obtain ⟨hP1, hK1, hD1⟩ := hB
  rw [ht] at hP1
  have hK1 := va_K.moved hvm.symm hK1
  obtain ⟨hP, hD⟩ := va_join (wr := []) (w1 := []) hP hD [0, 1, 2] [] rfl rfl (by decide) (by decide) hk1 hFc hP1 hD1
  have hK := (hK.sub (tys' := []) [] rfl).app hK1
  generalize H1 = H at hP hS ⊢
  have hP : va_P (dC, dI) vwCl [] H := hP
  have hD : va_D A [] := hD
  have hK : va_K (dC, dI) vwCl [] s := hK
  obtain rfl : r_1 = 0 := hw
  refine lv_if_ne (tgt := 11) hx hb dX11_plain_6 (by decide) (fun c_0 => absurd c_0 (by decide)) (fun _ => ?_)
  refine lv_iconst (v := (-1)) hx hb dX11_plain_9 (by decide) ?_
  have hP9 := hP.sub (ws' := []) [] rfl
  have hD9 := hD.sub (ws' := []) [] (by decide) rfl
  have hK9 := hK.sub (tys' := []) [] rfl
  exact W.iret (v := (-1)) hx hb hr (fun t ht hW => ⟨⟨(-1), (), rfl, rfl, by rw [ht]; exact hP9, va_K.moved hW.alike hK9, hD9⟩, hS.F ht⟩) hS.2.2 dX11_plain_10
set_option maxHeartbeats 4000000 in
set_option maxRecDepth 100000 in
theorem c_X11_show (l : Launch) (dC : Nat → ClassId) (dI : Nat → Nat → Nat) (h0 : Nat) (xt : Nat) (xk : Nat) (xp : Nat) (xm : Nat) (xc : Nat) (xl : Nat) (xr : Nat) (w : Int32) (sz : Nat)  : Met l yX11_show (Cond.code yX11_show cX11_show 2 (some .int) :: zw) ({ frames := 8, cells := 0, slots := 0, locals := 200 }) (va_Pc [.ref h0, .int w] (zP dC dI sz [] [(h0, .inr (11, [.ref xt, .int 0, .ref xk, .ref xp, .ref xm, .ref xc, .ref xl, .ref xr, .int 0, .int (-1), .int 0, .int 0, .int 0, .int 0, .long 0, .int 0, .long 0]))])) (va_Qi (fun (r : Int32) (u : Unit) => r = (-1)) (fun u => zQ dC dI (va_A [(h0, .inr (11, [.ref xt, .int 0, .ref xk, .ref xp, .ref xm, .ref xc, .ref xl, .ref xr, .int 0, .int (-1), .int 0, .int 0, .int 0, .int 0, .long 0, .int 0, .long 0]))] sz) [] []) (va_A [(h0, .inr (11, [.ref xt, .int 0, .ref xk, .ref xp, .ref xm, .ref xc, .ref xl, .ref xr, .int 0, .int (-1), .int 0, .int 0, .int 0, .int 0, .long 0, .int 0, .long 0]))] sz)) 0 0 (va_A [(h0, .inr (11, [.ref xt, .int 0, .ref xk, .ref xp, .ref xm, .ref xc, .ref xl, .ref xr, .int 0, .int (-1), .int 0, .int 0, .int 0, .int 0, .long 0, .int 0, .long 0]))] sz) := by
  refine Met.ofW (cc := cX11_show) (maxL := 2) (ret := (some .int)) (by decide) rfl ?_
  intro p e s m args below meth c s₁ B hml hv
  obtain ⟨rfl, hsz, hP, hK, hD0, hN, hT⟩ := hv
  have hx := B.exec
  have hb := B.bytes
  have hr := B.returns
  have hts := atoms_spec (ws := Cond.code yX11_show cX11_show 2 (some .int) :: zw) B.pre
  have hA : ∀ w ∈ zw, w.before _ s = true := fun w h => hts w (List.mem_cons_of_mem _ h)
  have hown : s.vm.findClass RX11 = some m.cls := findClass_of_methodNamed B.named
  have hlocks := B.notSynchronized
  subst hsz
  have hD := hD0.self (sz := s.heap.size)
  generalize hAe : va_A [(h0, .inr (11, [.ref xt, .int 0, .ref xk, .ref xp, .ref xm, .ref xc, .ref xl, .ref xr, .int 0, .int (-1), .int 0, .int 0, .int 0, .int 0, .long 0, .int 0, .long 0]))] s.heap.size = A at hD hT ⊢
  have hAA : ∀ q : Nat, s.heap.size ≤ q → A q := fun q h => by rw [← hAe]; exact Or.inr h
  have hS : va_S A s.heap s.heap [] := va_S.rf
  have hl := lv_entry ([.ref h0, .int w]) (n := 2) (Nat.le_of_ble_eq_true rfl)
  rw [lg_entry_eq]
  generalize (lg_sl ([.ref h0, .int w]) ++ List.replicate (2 - (lg_sl ([.ref h0, .int w])).length) Slot.unset).toArray = ls at hl ⊢
  have hl : lv_has ls 2 [(0, .ref h0), (1, .int w)] := hl
  refine lv_iload_n hx hb dX11_show_0 rfl (lv_at hl 1 rfl) ?_
  refine lv_if_eq (tgt := 31) hx hb dX11_show_1 (by decide) (fun c_1 => ?_) (fun c_1 => ?_)
  · refine lv_aload_n hx hb dX11_show_31 rfl (lv_at hl 0 rfl) ?_
    refine va_get (D := (dC, dI)) (ci := 11) (v := .int 0) (C := RX11) (T := TX11) (N := 17) hx hb hA zin_X11 hown hK hP 0 rfl rfl 13 (by decide) (hA _ wi_597) (fun _ h9 => h9) rfl dX11_show_32 ?_
    refine lv_if_eq (tgt := 56) hx hb dX11_show_35 (by decide) (fun _ => ?_) (fun c_0 => absurd (by decide) c_0)
    refine lv_iconst (v := (-1)) hx hb dX11_show_56 (by decide) ?_
    have hP9 := hP.sub (ws' := []) [] rfl
    have hD9 := hD.sub (ws' := []) [] (by decide) rfl
    have hK9 := hK.sub (tys' := []) [] rfl
    exact W.iret (v := (-1)) hx hb hr (fun t ht hW => ⟨⟨(-1), (), rfl, rfl, by rw [ht]; exact hP9, va_K.moved hW.alike hK9, hD9⟩, hS.F ht⟩) hS.2.2 dX11_show_57
  · refine lv_aload_n hx hb dX11_show_4 rfl (lv_at hl 0 rfl) ?_
    refine va_get (D := (dC, dI)) (ci := 11) (v := .int 0) (C := RX11) (T := TX11) (N := 17) hx hb hA zin_X11 hown hK hP 0 rfl rfl 15 (by decide) (hA _ wi_599) (fun _ h9 => h9) rfl dX11_show_5 ?_
    refine lv_if_eq (tgt := 29) hx hb dX11_show_8 (by decide) (fun _ => ?_) (fun c_0 => absurd (by decide) c_0)
    refine lv_iconst (v := (-1)) hx hb dX11_show_29 (by decide) ?_
    have hP9 := hP.sub (ws' := []) [] rfl
    have hD9 := hD.sub (ws' := []) [] (by decide) rfl
    have hK9 := hK.sub (tys' := []) [] rfl
    exact W.iret (v := (-1)) hx hb hr (fun t ht hW => ⟨⟨(-1), (), rfl, rfl, by rw [ht]; exact hP9, va_K.moved hW.alike hK9, hD9⟩, hS.F ht⟩) hS.2.2 dX11_show_30
set_option maxHeartbeats 4000000 in
set_option maxRecDepth 100000 in
theorem c_X11_release (l : Launch) (dC : Nat → ClassId) (dI : Nat → Nat → Nat) (h0 : Nat) (xt : Nat) (xk : Nat) (xp : Nat) (xm : Nat) (xc : Nat) (xl : Nat) (xr : Nat) (sz : Nat)  : Met l yX11_release (Cond.code yX11_release cX11_release 2 (some .int) :: zw) ({ frames := 8, cells := 0, slots := 0, locals := 200 }) (va_Pc [.ref h0] (zP dC dI sz [] [(h0, .inr (11, [.ref xt, .int 0, .ref xk, .ref xp, .ref xm, .ref xc, .ref xl, .ref xr, .int 0, .int (-1), .int 0, .int 0, .int 0, .int 0, .long 0, .int 0, .long 0]))])) (va_Qi (fun (r : Int32) (u : Unit) => r = (-1)) (fun u => zQ dC dI (va_A [(h0, .inr (11, [.ref xt, .int 0, .ref xk, .ref xp, .ref xm, .ref xc, .ref xl, .ref xr, .int 0, .int (-1), .int 0, .int 0, .int 0, .int 0, .long 0, .int 0, .long 0]))] sz) [] []) (va_A [(h0, .inr (11, [.ref xt, .int 0, .ref xk, .ref xp, .ref xm, .ref xc, .ref xl, .ref xr, .int 0, .int (-1), .int 0, .int 0, .int 0, .int 0, .long 0, .int 0, .long 0]))] sz)) 0 0 (va_A [(h0, .inr (11, [.ref xt, .int 0, .ref xk, .ref xp, .ref xm, .ref xc, .ref xl, .ref xr, .int 0, .int (-1), .int 0, .int 0, .int 0, .int 0, .long 0, .int 0, .long 0]))] sz) := by
  refine Met.ofW (cc := cX11_release) (maxL := 2) (ret := (some .int)) (by decide) rfl ?_
  intro p e s m args below meth c s₁ B hml hv
  obtain ⟨rfl, hsz, hP, hK, hD0, hN, hT⟩ := hv
  have hx := B.exec
  have hb := B.bytes
  have hr := B.returns
  have hts := atoms_spec (ws := Cond.code yX11_release cX11_release 2 (some .int) :: zw) B.pre
  have hA : ∀ w ∈ zw, w.before _ s = true := fun w h => hts w (List.mem_cons_of_mem _ h)
  have hown : s.vm.findClass RX11 = some m.cls := findClass_of_methodNamed B.named
  have hlocks := B.notSynchronized
  subst hsz
  have hD := hD0.self (sz := s.heap.size)
  generalize hAe : va_A [(h0, .inr (11, [.ref xt, .int 0, .ref xk, .ref xp, .ref xm, .ref xc, .ref xl, .ref xr, .int 0, .int (-1), .int 0, .int 0, .int 0, .int 0, .long 0, .int 0, .long 0]))] s.heap.size = A at hD hT ⊢
  have hAA : ∀ q : Nat, s.heap.size ≤ q → A q := fun q h => by rw [← hAe]; exact Or.inr h
  have hS : va_S A s.heap s.heap [] := va_S.rf
  have hl := lv_entry ([.ref h0]) (n := 2) (Nat.le_of_ble_eq_true rfl)
  rw [lg_entry_eq]
  generalize (lg_sl ([.ref h0]) ++ List.replicate (2 - (lg_sl ([.ref h0])).length) Slot.unset).toArray = ls at hl ⊢
  have hl : lv_has ls 2 [(0, .ref h0)] := hl
  refine lv_aload_n hx hb dX11_release_0 rfl (lv_at hl 0 rfl) ?_
  refine va_get (D := (dC, dI)) (ci := 11) (v := .int 0) (C := RX11) (T := TX11) (N := 17) hx hb hA zin_X11 hown hK hP 0 rfl rfl 13 (by decide) (hA _ wi_597) (fun _ h9 => h9) rfl dX11_release_1 ?_
  refine lv_if_ne (tgt := 9) hx hb dX11_release_4 (by decide) (fun c_0 => absurd c_0 (by decide)) (fun _ => ?_)
  refine lv_iconst (v := (-1)) hx hb dX11_release_7 (by decide) ?_
  have hP9 := hP.sub (ws' := []) [] rfl
  have hD9 := hD.sub (ws' := []) [] (by decide) rfl
  have hK9 := hK.sub (tys' := []) [] rfl
  exact W.iret (v := (-1)) hx hb hr (fun t ht hW => ⟨⟨(-1), (), rfl, rfl, by rw [ht]; exact hP9, va_K.moved hW.alike hK9, hD9⟩, hS.F ht⟩) hS.2.2 dX11_release_8
set_option maxHeartbeats 4000000 in
set_option maxRecDepth 100000 in
theorem c_X11_count (l : Launch) (dC : Nat → ClassId) (dI : Nat → Nat → Nat) (h0 : Nat) (xt : Nat) (xk : Nat) (xp : Nat) (xm : Nat) (xc : Nat) (xl : Nat) (xr : Nat) (w : Int32) (sz : Nat)  : Met l yX11_count (Cond.code yX11_count cX11_count 2 (some .int) :: zw) ({ frames := 8, cells := 0, slots := 0, locals := 200 }) (va_Pc [.ref h0, .int w] (zP dC dI sz [] [(h0, .inr (11, [.ref xt, .int 0, .ref xk, .ref xp, .ref xm, .ref xc, .ref xl, .ref xr, .int 0, .int (-1), .int 0, .int 0, .int 0, .int 0, .long 0, .int 0, .long 0]))])) (va_Qi (fun (r : Int32) (u : Unit) => r = (-1)) (fun u => zQ dC dI (va_A [(h0, .inr (11, [.ref xt, .int 0, .ref xk, .ref xp, .ref xm, .ref xc, .ref xl, .ref xr, .int 0, .int (-1), .int 0, .int 0, .int 0, .int 0, .long 0, .int 0, .long 0]))] sz) [] []) (va_A [(h0, .inr (11, [.ref xt, .int 0, .ref xk, .ref xp, .ref xm, .ref xc, .ref xl, .ref xr, .int 0, .int (-1), .int 0, .int 0, .int 0, .int 0, .long 0, .int 0, .long 0]))] sz)) 0 0 (va_A [(h0, .inr (11, [.ref xt, .int 0, .ref xk, .ref xp, .ref xm, .ref xc, .ref xl, .ref xr, .int 0, .int (-1), .int 0, .int 0, .int 0, .int 0, .long 0, .int 0, .long 0]))] sz) := by
  refine Met.ofW (cc := cX11_count) (maxL := 2) (ret := (some .int)) (by decide) rfl ?_
  intro p e s m args below meth c s₁ B hml hv
  obtain ⟨rfl, hsz, hP, hK, hD0, hN, hT⟩ := hv
  have hx := B.exec
  have hb := B.bytes
  have hr := B.returns
  have hts := atoms_spec (ws := Cond.code yX11_count cX11_count 2 (some .int) :: zw) B.pre
  have hA : ∀ w ∈ zw, w.before _ s = true := fun w h => hts w (List.mem_cons_of_mem _ h)
  have hown : s.vm.findClass RX11 = some m.cls := findClass_of_methodNamed B.named
  have hlocks := B.notSynchronized
  subst hsz
  have hD := hD0.self (sz := s.heap.size)
  generalize hAe : va_A [(h0, .inr (11, [.ref xt, .int 0, .ref xk, .ref xp, .ref xm, .ref xc, .ref xl, .ref xr, .int 0, .int (-1), .int 0, .int 0, .int 0, .int 0, .long 0, .int 0, .long 0]))] s.heap.size = A at hD hT ⊢
  have hAA : ∀ q : Nat, s.heap.size ≤ q → A q := fun q h => by rw [← hAe]; exact Or.inr h
  have hS : va_S A s.heap s.heap [] := va_S.rf
  have hl := lv_entry ([.ref h0, .int w]) (n := 2) (Nat.le_of_ble_eq_true rfl)
  rw [lg_entry_eq]
  generalize (lg_sl ([.ref h0, .int w]) ++ List.replicate (2 - (lg_sl ([.ref h0, .int w])).length) Slot.unset).toArray = ls at hl ⊢
  have hl : lv_has ls 2 [(0, .ref h0), (1, .int w)] := hl
  refine lv_aload_n hx hb dX11_count_0 rfl (lv_at hl 0 rfl) ?_
  refine va_get (D := (dC, dI)) (ci := 11) (v := .int 0) (C := RX11) (T := TX11) (N := 17) hx hb hA zin_X11 hown hK hP 0 rfl rfl 10 (by decide) (hA _ wi_594) (fun _ h9 => h9) rfl dX11_count_1 ?_
  refine lv_if_ne (tgt := 9) hx hb dX11_count_4 (by decide) (fun c_0 => absurd c_0 (by decide)) (fun _ => ?_)
  refine lv_iconst (v := (-1)) hx hb dX11_count_7 (by decide) ?_
  have hP9 := hP.sub (ws' := []) [] rfl
  have hD9 := hD.sub (ws' := []) [] (by decide) rfl
  have hK9 := hK.sub (tys' := []) [] rfl
  exact W.iret (v := (-1)) hx hb hr (fun t ht hW => ⟨⟨(-1), (), rfl, rfl, by rw [ht]; exact hP9, va_K.moved hW.alike hK9, hD9⟩, hS.F ht⟩) hS.2.2 dX11_count_8
set_option maxHeartbeats 4000000 in
set_option maxRecDepth 100000 in
theorem c_X11_out (l : Launch) (dC : Nat → ClassId) (dI : Nat → Nat → Nat) (h0 : Nat) (xt : Nat) (xk : Nat) (xp : Nat) (xm : Nat) (xc : Nat) (xl : Nat) (xr : Nat) (xr_bytes : Nat) (xr_spare : Nat) (xr_openCell : Nat) (xr_openField : Nat) (i : Int32) (sz : Nat) (hlt : l.stackTraces = false) : vx_Met l yX11_out (Cond.code yX11_out cX11_out 2 (some .int) :: zw) ({ frames := 12, cells := 1, slots := 6, locals := 400 }) (va_Pc [.ref h0, .int i] (zP dC dI sz [] [(h0, .inr (11, [.ref xt, .int 0, .ref xk, .ref xp, .ref xm, .ref xc, .ref xl, .ref xr, .int 0, .int (-1), .int 0, .int 0, .int 0, .int 0, .long 0, .int 0, .long 0])), (xr, .inr (8, [.ref xr_bytes, .int 0, .ref xr_spare, .int 0, .int 0, .ref xr_openCell, .ref xr_openField, .int 0]))])) (va_Qi (fun (r : Int32) (u : Unit) => False) (fun u => zQ dC dI (va_A [(h0, .inr (11, [.ref xt, .int 0, .ref xk, .ref xp, .ref xm, .ref xc, .ref xl, .ref xr, .int 0, .int (-1), .int 0, .int 0, .int 0, .int 0, .long 0, .int 0, .long 0])), (xr, .inr (8, [.ref xr_bytes, .int 0, .ref xr_spare, .int 0, .int 0, .ref xr_openCell, .ref xr_openField, .int 0]))] sz) [] []) (va_A [(h0, .inr (11, [.ref xt, .int 0, .ref xk, .ref xp, .ref xm, .ref xc, .ref xl, .ref xr, .int 0, .int (-1), .int 0, .int 0, .int 0, .int 0, .long 0, .int 0, .long 0])), (xr, .inr (8, [.ref xr_bytes, .int 0, .ref xr_spare, .int 0, .int 0, .ref xr_openCell, .ref xr_openField, .int 0]))] sz)) (vx_X (fun _ : Unit => True) (fun E u t => E = "java/util/NoSuchElementException" ∧ zQ dC dI (va_A [(h0, .inr (11, [.ref xt, .int 0, .ref xk, .ref xp, .ref xm, .ref xc, .ref xl, .ref xr, .int 0, .int (-1), .int 0, .int 0, .int 0, .int 0, .long 0, .int 0, .long 0])), (xr, .inr (8, [.ref xr_bytes, .int 0, .ref xr_spare, .int 0, .int 0, .ref xr_openCell, .ref xr_openField, .int 0]))] sz) [] [] t) (va_A [(h0, .inr (11, [.ref xt, .int 0, .ref xk, .ref xp, .ref xm, .ref xc, .ref xl, .ref xr, .int 0, .int (-1), .int 0, .int 0, .int 0, .int 0, .long 0, .int 0, .long 0])), (xr, .inr (8, [.ref xr_bytes, .int 0, .ref xr_spare, .int 0, .int 0, .ref xr_openCell, .ref xr_openField, .int 0]))] sz)) 1 6 (va_A [(h0, .inr (11, [.ref xt, .int 0, .ref xk, .ref xp, .ref xm, .ref xc, .ref xl, .ref xr, .int 0, .int (-1), .int 0, .int 0, .int 0, .int 0, .long 0, .int 0, .long 0])), (xr, .inr (8, [.ref xr_bytes, .int 0, .ref xr_spare, .int 0, .int 0, .ref xr_openCell, .ref xr_openField, .int 0]))] sz) := by
  refine vx_ofW (cc := cX11_out) (maxL := 2) (ret := (some .int)) (by decide) rfl ?_
  intro p e s m args below meth c s₁ B hml hnh hv
  obtain ⟨rfl, hsz, hP, hK, hD0, hN, hT⟩ := hv
  have hx := B.exec
  have hb := B.bytes
  have hr := B.returns
  have hts := atoms_spec (ws := Cond.code yX11_out cX11_out 2 (some .int) :: zw) B.pre
  have hA : ∀ w ∈ zw, w.before _ s = true := fun w h => hts w (List.mem_cons_of_mem _ h)
  have hown : s.vm.findClass RX11 = some m.cls := findClass_of_methodNamed B.named
  have hlocks := B.notSynchronized
  subst hsz
  have hD := hD0.self (sz := s.heap.size)
  generalize hAe : va_A [(h0, .inr (11, [.ref xt, .int 0, .ref xk, .ref xp, .ref xm, .ref xc, .ref xl, .ref xr, .int 0, .int (-1), .int 0, .int 0, .int 0, .int 0, .long 0, .int 0, .long 0])), (xr, .inr (8, [.ref xr_bytes, .int 0, .ref xr_spare, .int 0, .int 0, .ref xr_openCell, .ref xr_openField, .int 0]))] s.heap.size = A at hD hT ⊢
  have hAA : ∀ q : Nat, s.heap.size ≤ q → A q := fun q h => by rw [← hAe]; exact Or.inr h
  have hS : va_S A s.heap s.heap [] := va_S.rf
  have hl := lv_entry ([.ref h0, .int i]) (n := 2) (Nat.le_of_ble_eq_true rfl)
  rw [lg_entry_eq]
  generalize (lg_sl ([.ref h0, .int i]) ++ List.replicate (2 - (lg_sl ([.ref h0, .int i])).length) Slot.unset).toArray = ls at hl ⊢
  have hl : lv_has ls 2 [(0, .ref h0), (1, .int i)] := hl
  refine lv_aload_n hx hb dX11_out_0 rfl (lv_at hl 0 rfl) ?_
  refine va_get (D := (dC, dI)) (ci := 11) (v := .ref xr) (C := RX11) (T := TX11) (N := 17) hx hb hA zin_X11 hown hK hP 0 rfl rfl 7 (by decide) (hA _ wi_591) (fun _ h9 => h9) rfl dX11_out_1 ?_
  refine lv_iload_n hx hb dX11_out_4 rfl (lv_at hl 1 rfl) ?_
  have hPc := hP.sub (ws' := [(xr, .inr (8, [.ref xr_bytes, .int 0, .ref xr_spare, .int 0, .int 0, .ref xr_openCell, .ref xr_openField, .int 0]))]) [1] rfl
  have hDc := hD.sub (ws' := [(xr, .inr (8, [.ref xr_bytes, .int 0, .ref xr_spare, .int 0, .int 0, .ref xr_openCell, .ref xr_openField, .int 0]))]) [1] (by decide) rfl
  have hKc := hK.sub (tys' := []) [] rfl
  have hFc := va_free (wc := [(xr, .inr (8, [.ref xr_bytes, .int 0, .ref xr_spare, .int 0, .int 0, .ref xr_openCell, .ref xr_openField, .int 0]))]) hD hS hAA [1] rfl
  refine va_calli (va_runV (As := [.int i]) (rest := []) ⟨hx, hb, hml, hown, hA⟩ (c_X8_has l dC dI xr xr_bytes xr_spare xr_openCell xr_openField i s.heap.size) (cwV 1 hA (zw_V wi_1351 wi_1352 wi_1353 wi_142 (zw_good wi_1354)) rfl rfl rfl (by decide +kernel) ⟨(Nat.le_of_ble_eq_true rfl), (Nat.le_of_ble_eq_true rfl)⟩) ⟨zP_blind, va_recv hKc hPc (ci := 8) (q0 := 0) rfl rfl, zz_pre hKc hPc hDc hN hT hS hFc⟩ rfl rfl hl.1 rfl (lv_room (Nat.le_of_ble_eq_true rfl)) dX11_out_5 ⟨(Nat.le_of_ble_eq_true rfl), (Nat.le_of_ble_eq_true rfl)⟩) hS (fun q _ h => hFc q h) hFc (fun r_1 u t H1 locs ht hvm hw hB hz1 hk1 hS => ?_)
  obtain ⟨hP1, hK1, hD1⟩ := hB
  rw [ht] at hP1
  have hK1 := va_K.moved hvm.symm hK1
  obtain ⟨hP, hD⟩ := va_join (wr := [(h0, .inr (11, [.ref xt, .int 0, .ref xk, .ref xp, .ref xm, .ref xc, .ref xl, .ref xr, .int 0, .int (-1), .int 0, .int 0, .int 0, .int 0, .long 0, .int 0, .long 0]))]) (w1 := [(xr, .inr (8, [.ref xr_bytes, .int 0, .ref xr_spare, .int 0, .int 0, .ref xr_openCell, .ref xr_openField, .int 0]))]) hP hD [1] [0] rfl rfl (by decide) (by decide) hk1 hFc hP1 hD1
  have hK := (hK.sub (tys' := []) [] rfl).app hK1
  generalize H1 = H at hP hS ⊢
  have hP : va_P (dC, dI) vwCl [(h0, .inr (11, [.ref xt, .int 0, .ref xk, .ref xp, .ref xm, .ref xc, .ref xl, .ref xr, .int 0, .int (-1), .int 0, .int 0, .int 0, .int 0, .long 0, .int 0, .long 0])), (xr, .inr (8, [.ref xr_bytes, .int 0, .ref xr_spare, .int 0, .int 0, .ref xr_openCell, .ref xr_openField, .int 0]))] H := hP
  have hD : va_D A [(h0, .inr (11, [.ref xt, .int 0, .ref xk, .ref xp, .ref xm, .ref xc, .ref xl, .ref xr, .int 0, .int (-1), .int 0, .int 0, .int 0, .int 0, .long 0, .int 0, .long 0])), (xr, .inr (8, [.ref xr_bytes, .int 0, .ref xr_spare, .int 0, .int 0, .ref xr_openCell, .ref xr_openField, .int 0]))] := hD
  have hK : va_K (dC, dI) vwCl [] s := hK
  obtain rfl : r_1 = 0 := hw
  refine lv_if_ne (tgt := 19) hx hb dX11_out_8 (by decide) (fun c_0 => absurd c_0 (by decide)) (fun _ => ?_)
  have hP9 := hP.sub (ws' := []) [] rfl
  have hD9 := hD.sub (ws' := []) [] (by decide) rfl
  have hK9 := hK.sub (tys' := []) [] rfl
  exact vx_throw0 (cls := "java/util/NoSuchElementException") (names := ["java/lang/RuntimeException", "java/lang/Exception"]) hx hb hlt hown (by decide +kernel) (by decide +kernel) (hA _ wi_1355) (hA _ wi_155) (vx_hat (fun w hw => hA w (zat_n_g w hw)) zat_n_b (vx_c (va_Nw.use rfl (hN.2.2.1 ("java/util/NoSuchElementException", "java/util/NoSuchElementException") (by decide +kernel))) (vx_c (va_Nw.use rfl (hN.2.2.2.1 ⟨"java/lang/RuntimeException", "<init>", "()V"⟩ (by decide +kernel))) (vx_c (va_Nw.use rfl (hN.2.2.2.1 ⟨"java/lang/Exception", "<init>", "()V"⟩ (by decide +kernel))) (vx_c (va_Nw.use rfl (hN.2.2.2.1 ⟨"java/lang/Throwable", "<init>", "()V"⟩ (by decide +kernel))) vx_n))))) (by decide +kernel) hT.1 hT.2 hS (by rw [hml]; exact hl.1) dX11_out_11 dX11_out_14 dX11_out_15 dX11_out_18 (fun x hx => (hnh x hx).elim) (Nat.le_of_ble_eq_true rfl) (Nat.le_of_ble_eq_true rfl) (Nat.le_of_ble_eq_true rfl) (Nat.le_of_ble_eq_true rfl) hlocks (fun t hvm hle hq => ⟨(), trivial, ⟨rfl, va_P.kept hP9 (fun k q hk => hq q.1 (vx_lt hP9 hk)), va_K.moved hvm hK9, hD9⟩, Nat.le_trans hS.1 hle, fun q h1 h2 => (hq q (Nat.lt_of_lt_of_le h1 hS.1)).trans (hS.2.1 q h1 h2)⟩) hS.2.2 (Nat.le_of_ble_eq_true rfl) (Nat.le_of_ble_eq_true rfl)
