theorem wi_295 : Cond.fieldLink RX3 22 "ReuseHouse$Functions" "size" "I" ∈ zw := zw_in (List.mem_of_getElem? (i := 295) (by decide +kernel)) (by decide +kernel)
theorem wi_290 : Cond.fieldLink RX3 9 "ReuseHouse$Functions" "word" "[J" ∈ zw := zw_in (List.mem_of_getElem? (i := 290) (by decide +kernel)) (by decide +kernel)
theorem wi_291 : Cond.fieldLink RX3 15 "ReuseHouse$Functions" "enter" "[I" ∈ zw := zw_in (List.mem_of_getElem? (i := 291) (by decide +kernel)) (by decide +kernel)
theorem wi_294 : Cond.fieldLink RX3 19 "ReuseHouse$Functions" "facts" "[I" ∈ zw := zw_in (List.mem_of_getElem? (i := 294) (by decide +kernel)) (by decide +kernel)
theorem wi_913 : Cond.code yX3_has cX3_has 2 (some .boolean) ∈ zw := zw_in (List.mem_of_getElem? (i := 913) (by decide +kernel)) (by decide +kernel)
theorem wi_910 : Cond.methodLink RX3 26 yX3_has ∈ zw := zw_in (List.mem_of_getElem? (i := 910) (by decide +kernel)) (by decide +kernel)
theorem wi_911 : Cond.instanceMethod yX3_has ∈ zw := zw_in (List.mem_of_getElem? (i := 911) (by decide +kernel)) (by decide +kernel)
theorem wi_912 : Cond.selects RX3 yX3_has yX3_has ∈ zw := zw_in (List.mem_of_getElem? (i := 912) (by decide +kernel)) (by decide +kernel)
theorem wi_135 : Cond.initialized RX3 ∈ zw := zw_in (List.mem_of_getElem? (i := 135) (by decide +kernel)) (by decide +kernel)
theorem dX3_add_0 : decode cX3_add 0 = .ok (.aload_n 0, 1) := by decide +kernel
theorem dX3_add_1 : decode cX3_add 1 = .ok (.getfield 22, 3) := by decide +kernel
theorem dX3_add_4 : decode cX3_add 4 = .ok (.bipush 30, 2) := by decide +kernel
theorem dX3_add_6 : decode cX3_add 6 = .ok (.if_icmp .lt 6, 3) := by decide +kernel
theorem dX3_add_9 : decode cX3_add 9 = .ok (.bipush 29, 2) := by decide +kernel
theorem dX3_add_11 : decode cX3_add 11 = .ok (.ireturn, 1) := by decide +kernel
theorem dX3_add_12 : decode cX3_add 12 = .ok (.aload_n 0, 1) := by decide +kernel
theorem dX3_add_13 : decode cX3_add 13 = .ok (.getfield 22, 3) := by decide +kernel
theorem dX3_add_16 : decode cX3_add 16 = .ok (.istore_n 3, 1) := by decide +kernel
theorem dX3_add_17 : decode cX3_add 17 = .ok (.aload_n 0, 1) := by decide +kernel
theorem dX3_add_18 : decode cX3_add 18 = .ok (.dup, 1) := by decide +kernel
theorem dX3_add_19 : decode cX3_add 19 = .ok (.getfield 22, 3) := by decide +kernel
theorem dX3_add_22 : decode cX3_add 22 = .ok (.iconst 1, 1) := by decide +kernel
theorem dX3_add_23 : decode cX3_add 23 = .ok (.iadd, 1) := by decide +kernel
theorem dX3_add_24 : decode cX3_add 24 = .ok (.putfield 22, 3) := by decide +kernel
theorem dX3_add_27 : decode cX3_add 27 = .ok (.aload_n 0, 1) := by decide +kernel
theorem dX3_add_28 : decode cX3_add 28 = .ok (.getfield 9, 3) := by decide +kernel
theorem dX3_add_31 : decode cX3_add 31 = .ok (.iload_n 3, 1) := by decide +kernel
theorem dX3_add_32 : decode cX3_add 32 = .ok (.lload_n 1, 1) := by decide +kernel
theorem dX3_add_33 : decode cX3_add 33 = .ok (.lastore, 1) := by decide +kernel
theorem dX3_add_34 : decode cX3_add 34 = .ok (.aload_n 0, 1) := by decide +kernel
theorem dX3_add_35 : decode cX3_add 35 = .ok (.getfield 15, 3) := by decide +kernel
theorem dX3_add_38 : decode cX3_add 38 = .ok (.iload_n 3, 1) := by decide +kernel
theorem dX3_add_39 : decode cX3_add 39 = .ok (.iconst (-1), 1) := by decide +kernel
theorem dX3_add_40 : decode cX3_add 40 = .ok (.iastore, 1) := by decide +kernel
theorem dX3_add_41 : decode cX3_add 41 = .ok (.iconst 0, 1) := by decide +kernel
theorem dX3_add_42 : decode cX3_add 42 = .ok (.istore 4, 2) := by decide +kernel
theorem dX3_add_44 : decode cX3_add 44 = .ok (.iload 4, 2) := by decide +kernel
theorem dX3_add_46 : decode cX3_add 46 = .ok (.iconst 5, 1) := by decide +kernel
theorem dX3_add_47 : decode cX3_add 47 = .ok (.if_icmp .ge 21, 3) := by decide +kernel
theorem dX3_add_50 : decode cX3_add 50 = .ok (.aload_n 0, 1) := by decide +kernel
theorem dX3_add_51 : decode cX3_add 51 = .ok (.getfield 19, 3) := by decide +kernel
theorem dX3_add_54 : decode cX3_add 54 = .ok (.iload_n 3, 1) := by decide +kernel
theorem dX3_add_55 : decode cX3_add 55 = .ok (.iconst 5, 1) := by decide +kernel
theorem dX3_add_56 : decode cX3_add 56 = .ok (.imul, 1) := by decide +kernel
theorem dX3_add_57 : decode cX3_add 57 = .ok (.iload 4, 2) := by decide +kernel
theorem dX3_add_59 : decode cX3_add 59 = .ok (.iadd, 1) := by decide +kernel
theorem dX3_add_60 : decode cX3_add 60 = .ok (.iconst 0, 1) := by decide +kernel
theorem dX3_add_61 : decode cX3_add 61 = .ok (.iastore, 1) := by decide +kernel
theorem dX3_add_62 : decode cX3_add 62 = .ok (.iinc 4 1, 3) := by decide +kernel
theorem dX3_add_65 : decode cX3_add 65 = .ok (.goto (-21), 3) := by decide +kernel
theorem dX3_add_68 : decode cX3_add 68 = .ok (.iload_n 3, 1) := by decide +kernel
theorem dX3_add_69 : decode cX3_add 69 = .ok (.ireturn, 1) := by decide +kernel
theorem dX3_fact_0 : decode cX3_fact 0 = .ok (.aload_n 0, 1) := by decide +kernel
theorem dX3_fact_1 : decode cX3_fact 1 = .ok (.iload_n 1, 1) := by decide +kernel
theorem dX3_fact_2 : decode cX3_fact 2 = .ok (.invokevirtual 26, 3) := by decide +kernel
theorem dX3_fact_5 : decode cX3_fact 5 = .ok (.ifCond .eq 16, 3) := by decide +kernel
theorem dX3_fact_8 : decode cX3_fact 8 = .ok (.aload_n 0, 1) := by decide +kernel
theorem dX3_fact_9 : decode cX3_fact 9 = .ok (.getfield 19, 3) := by decide +kernel
theorem dX3_fact_12 : decode cX3_fact 12 = .ok (.iload_n 1, 1) := by decide +kernel
theorem dX3_fact_13 : decode cX3_fact 13 = .ok (.iconst 5, 1) := by decide +kernel
theorem dX3_fact_14 : decode cX3_fact 14 = .ok (.imul, 1) := by decide +kernel
theorem dX3_fact_15 : decode cX3_fact 15 = .ok (.iload_n 2, 1) := by decide +kernel
theorem dX3_fact_16 : decode cX3_fact 16 = .ok (.iadd, 1) := by decide +kernel
theorem dX3_fact_17 : decode cX3_fact 17 = .ok (.iaload, 1) := by decide +kernel
theorem dX3_fact_18 : decode cX3_fact 18 = .ok (.goto 4, 3) := by decide +kernel
theorem dX3_fact_21 : decode cX3_fact 21 = .ok (.iconst 0, 1) := by decide +kernel
theorem dX3_fact_22 : decode cX3_fact 22 = .ok (.ireturn, 1) := by decide +kernel
theorem dX3_find_0 : decode cX3_find 0 = .ok (.iconst 0, 1) := by decide +kernel
theorem dX3_find_1 : decode cX3_find 1 = .ok (.istore_n 3, 1) := by decide +kernel
theorem dX3_find_2 : decode cX3_find 2 = .ok (.iload_n 3, 1) := by decide +kernel
theorem dX3_find_3 : decode cX3_find 3 = .ok (.aload_n 0, 1) := by decide +kernel
theorem dX3_find_4 : decode cX3_find 4 = .ok (.getfield 22, 3) := by decide +kernel
theorem dX3_find_7 : decode cX3_find 7 = .ok (.if_icmp .ge 22, 3) := by decide +kernel
theorem dX3_find_10 : decode cX3_find 10 = .ok (.aload_n 0, 1) := by decide +kernel
theorem dX3_find_11 : decode cX3_find 11 = .ok (.getfield 9, 3) := by decide +kernel
theorem dX3_find_14 : decode cX3_find 14 = .ok (.iload_n 3, 1) := by decide +kernel
theorem dX3_find_15 : decode cX3_find 15 = .ok (.laload, 1) := by decide +kernel
theorem dX3_find_16 : decode cX3_find 16 = .ok (.lload_n 1, 1) := by decide +kernel
theorem dX3_find_17 : decode cX3_find 17 = .ok (.lcmp, 1) := by decide +kernel
theorem dX3_find_18 : decode cX3_find 18 = .ok (.ifCond .ne 5, 3) := by decide +kernel
theorem dX3_find_21 : decode cX3_find 21 = .ok (.iload_n 3, 1) := by decide +kernel
theorem dX3_find_22 : decode cX3_find 22 = .ok (.ireturn, 1) := by decide +kernel
theorem dX3_find_23 : decode cX3_find 23 = .ok (.iinc 3 1, 3) := by decide +kernel
theorem dX3_find_26 : decode cX3_find 26 = .ok (.goto (-24), 3) := by decide +kernel
theorem dX3_find_29 : decode cX3_find 29 = .ok (.iconst (-1), 1) := by decide +kernel
theorem dX3_find_30 : decode cX3_find 30 = .ok (.ireturn, 1) := by decide +kernel
theorem dX3_has_0 : decode cX3_has 0 = .ok (.iload_n 1, 1) := by decide +kernel
theorem dX3_has_1 : decode cX3_has 1 = .ok (.ifCond .lt 15, 3) := by decide +kernel
theorem dX3_has_4 : decode cX3_has 4 = .ok (.iload_n 1, 1) := by decide +kernel
theorem dX3_has_5 : decode cX3_has 5 = .ok (.aload_n 0, 1) := by decide +kernel
theorem dX3_has_6 : decode cX3_has 6 = .ok (.getfield 22, 3) := by decide +kernel
theorem dX3_has_9 : decode cX3_has 9 = .ok (.if_icmp .ge 7, 3) := by decide +kernel
theorem dX3_has_12 : decode cX3_has 12 = .ok (.iconst 1, 1) := by decide +kernel
theorem dX3_has_13 : decode cX3_has 13 = .ok (.goto 4, 3) := by decide +kernel
theorem dX3_has_16 : decode cX3_has 16 = .ok (.iconst 0, 1) := by decide +kernel
theorem dX3_has_17 : decode cX3_has 17 = .ok (.ireturn, 1) := by decide +kernel
theorem dX3_oneMore_0 : decode cX3_oneMore 0 = .ok (.aload_n 0, 1) := by decide +kernel
theorem dX3_oneMore_1 : decode cX3_oneMore 1 = .ok (.iload_n 1, 1) := by decide +kernel
theorem dX3_oneMore_2 : decode cX3_oneMore 2 = .ok (.invokevirtual 26, 3) := by decide +kernel
theorem dX3_oneMore_5 : decode cX3_oneMore 5 = .ok (.ifCond .eq 17, 3) := by decide +kernel
theorem dX3_oneMore_8 : decode cX3_oneMore 8 = .ok (.aload_n 0, 1) := by decide +kernel
theorem dX3_oneMore_9 : decode cX3_oneMore 9 = .ok (.getfield 19, 3) := by decide +kernel
theorem dX3_oneMore_12 : decode cX3_oneMore 12 = .ok (.iload_n 1, 1) := by decide +kernel
theorem dX3_oneMore_13 : decode cX3_oneMore 13 = .ok (.iconst 5, 1) := by decide +kernel
theorem dX3_oneMore_14 : decode cX3_oneMore 14 = .ok (.imul, 1) := by decide +kernel
theorem dX3_oneMore_15 : decode cX3_oneMore 15 = .ok (.iload_n 2, 1) := by decide +kernel
theorem dX3_oneMore_16 : decode cX3_oneMore 16 = .ok (.iadd, 1) := by decide +kernel
theorem dX3_oneMore_17 : decode cX3_oneMore 17 = .ok (.dup2, 1) := by decide +kernel
theorem dX3_oneMore_18 : decode cX3_oneMore 18 = .ok (.iaload, 1) := by decide +kernel
theorem dX3_oneMore_19 : decode cX3_oneMore 19 = .ok (.iconst 1, 1) := by decide +kernel
theorem dX3_oneMore_20 : decode cX3_oneMore 20 = .ok (.iadd, 1) := by decide +kernel
theorem dX3_oneMore_21 : decode cX3_oneMore 21 = .ok (.iastore, 1) := by decide +kernel
theorem dX3_oneMore_22 : decode cX3_oneMore 22 = .ok (.return_, 1) := by decide +kernel
set_option maxHeartbeats 4000000 in
set_option maxRecDepth 100000 in
theorem c_X3_has (l : Launch) (dC : Nat → ClassId) (dI : Nat → Nat → Nat) (aK aV : Nat → Nat) (h0 : Nat) (fw : Nat) (fe : Nat) (ff : Nat) (z : Int32) (i : Int32) (sz : Nat)  : Met l yX3_has (Cond.code yX3_has cX3_has 2 (some .boolean) :: zw) ({ frames := 8, cells := 0, slots := 0, locals := 200 }) (va_Pc [.ref h0, .int i] (zP dC dI aK aV sz [] [(h0, .inr (3, [.ref fw, .ref fe, .ref ff, .int z]))])) (va_Qi (fun (r : Int32) (u : Unit) => (r.toInt = 0 ∨ r.toInt = 1 ∧ 0 ≤ i.toInt ∧ i.toInt < z.toInt)) (fun u => zQ dC dI (va_A [(h0, .inr (3, [.ref fw, .ref fe, .ref ff, .int z]))] sz) [] [(h0, .inr (3, [.ref fw, .ref fe, .ref ff, .int z]))]) (va_A [(h0, .inr (3, [.ref fw, .ref fe, .ref ff, .int z]))] sz)) 0 0 (va_A [(h0, .inr (3, [.ref fw, .ref fe, .ref ff, .int z]))] sz) := by
  refine Met.ofW (cc := cX3_has) (maxL := 2) (ret := (some .boolean)) (by decide) rfl ?_
  intro p e s m args below meth c s₁ B hml hv
  obtain ⟨rfl, hsz, hP, hK, hD0, hN, hT⟩ := hv
  have hx := B.exec
  have hb := B.bytes
  have hr := B.returns
  have hts := atoms_spec (ws := Cond.code yX3_has cX3_has 2 (some .boolean) :: zw) B.pre
  have hA : ∀ w ∈ zw, w.before _ s = true := fun w h => hts w (List.mem_cons_of_mem _ h)
  have hown : s.vm.findClass RX3 = some m.cls := findClass_of_methodNamed B.named
  have hlocks := B.notSynchronized
  subst hsz
  have hD := hD0.self (sz := s.heap.size)
  generalize hAe : va_A [(h0, .inr (3, [.ref fw, .ref fe, .ref ff, .int z]))] s.heap.size = A at hD hT ⊢
  have hAA : ∀ q : Nat, s.heap.size ≤ q → A q := fun q h => by rw [← hAe]; exact Or.inr h
  have hS : va_S A s.heap s.heap [] := va_S.rf
  have hl := lv_entry ([.ref h0, .int i]) (n := 2) (Nat.le_of_ble_eq_true rfl)
  rw [lg_entry_eq]
  generalize (lg_sl ([.ref h0, .int i]) ++ List.replicate (2 - (lg_sl ([.ref h0, .int i])).length) Slot.unset).toArray = ls at hl ⊢
  have hl : lv_has ls 2 [(0, .ref h0), (1, .int i)] := hl
  refine lv_iload_n hx hb dX3_has_0 rfl (lv_at hl 1 rfl) ?_
  refine lv_if_lt (tgt := 16) hx hb dX3_has_1 (by decide) (fun c_1 => ?_) (fun c_1 => ?_)
  · have ic_1 : i.toInt < 0 := zi_lt c_1
    refine lv_iconst (v := 0) hx hb dX3_has_16 (by decide) ?_
    have hlit : Int32.toInt 0 = 0 := by decide
    have hP9 := hP.sub (ws' := [(h0, .inr (3, [.ref fw, .ref fe, .ref ff, .int z]))]) [0] rfl
    have hD9 := hD.sub (ws' := [(h0, .inr (3, [.ref fw, .ref fe, .ref ff, .int z]))]) [0] (by decide) rfl
    have hK9 := hK.sub (tys' := []) [] rfl
    exact W.zret (v := 0) hx hb hr rfl (fun t ht hW => ⟨⟨0, (), rfl, by omega, by rw [ht]; exact hP9, va_K.moved hW.alike hK9, hD9⟩, hS.F ht⟩) hS.2.2 dX3_has_17
  · have ic_1 : 0 ≤ i.toInt := zi_nlt c_1
    refine lv_iload_n hx hb dX3_has_4 rfl (lv_at hl 1 rfl) ?_
    refine lv_aload_n hx hb dX3_has_5 rfl (lv_at hl 0 rfl) ?_
    refine va_get (D := (dC, dI)) (ci := 3) (v := .int z) (C := RX3) (T := TX3) (N := 4) hx hb hA zin_X3 hown hK hP 0 rfl rfl 3 (by decide) (hA _ wi_295) (fun _ h9 => h9) rfl dX3_has_6 ?_
    refine lv_icmp_ge (tgt := 16) hx hb dX3_has_9 (by decide) (fun c_2 => ?_) (fun c_2 => ?_)
    · have ic_2 : z.toInt ≤ i.toInt := zi_le c_2
      refine lv_iconst (v := 0) hx hb dX3_has_16 (by decide) ?_
      have hlit : Int32.toInt 0 = 0 := by decide
      have hP9 := hP.sub (ws' := [(h0, .inr (3, [.ref fw, .ref fe, .ref ff, .int z]))]) [0] rfl
      have hD9 := hD.sub (ws' := [(h0, .inr (3, [.ref fw, .ref fe, .ref ff, .int z]))]) [0] (by decide) rfl
      have hK9 := hK.sub (tys' := []) [] rfl
      exact W.zret (v := 0) hx hb hr rfl (fun t ht hW => ⟨⟨0, (), rfl, by omega, by rw [ht]; exact hP9, va_K.moved hW.alike hK9, hD9⟩, hS.F ht⟩) hS.2.2 dX3_has_17
    · have ic_2 : i.toInt < z.toInt := zi_nle c_2
      refine lv_iconst (v := 1) hx hb dX3_has_12 (by decide) ?_
      refine lv_goto (tgt := 17) hx hb dX3_has_13 (by decide) ?_
      have hlit : Int32.toInt 1 = 1 := by decide
      have hP9 := hP.sub (ws' := [(h0, .inr (3, [.ref fw, .ref fe, .ref ff, .int z]))]) [0] rfl
      have hD9 := hD.sub (ws' := [(h0, .inr (3, [.ref fw, .ref fe, .ref ff, .int z]))]) [0] (by decide) rfl
      have hK9 := hK.sub (tys' := []) [] rfl
      exact W.zret (v := 1) hx hb hr rfl (fun t ht hW => ⟨⟨1, (), rfl, by omega, by rw [ht]; exact hP9, va_K.moved hW.alike hK9, hD9⟩, hS.F ht⟩) hS.2.2 dX3_has_17
set_option maxHeartbeats 4000000 in
set_option maxRecDepth 100000 in
theorem c_X3_find (l : Launch) (dC : Nat → ClassId) (dI : Nat → Nat → Nat) (aK aV : Nat → Nat) (h0 : Nat) (fw : Nat) (fe : Nat) (ff : Nat) (f1 : ClassId) (f2 : ClassId) (f3 : ClassId) (z : Int32) (gw : Nat → Int64) (ge : Nat → Int32) (gf : Nat → Int32) (nm : Int64) (sz : Nat) (hz0 : 0 ≤ z.toInt) (hz1 : z.toInt ≤ 30) : Met l yX3_find (Cond.code yX3_find cX3_find 4 (some .int) :: zw) ({ frames := 8, cells := 0, slots := 0, locals := 200 }) (va_Pc [.ref h0, .long nm] (zP dC dI aK aV sz [(f1, .long), (f2, .int), (f3, .int)] [(h0, .inr (3, [.ref fw, .ref fe, .ref ff, .int z])), (fw, .inl (f1, 30, .inr (.inl gw))), (fe, .inl (f2, 30, .inl ge)), (ff, .inl (f3, 150, .inl gf))])) (va_Qi (fun (r : Int32) (u : Unit) => (-1 ≤ r.toInt) ∧ (r.toInt < z.toInt)) (fun u => zQ dC dI (va_A [(h0, .inr (3, [.ref fw, .ref fe, .ref ff, .int z])), (fw, .inl (f1, 30, .inr (.inl gw))), (fe, .inl (f2, 30, .inl ge)), (ff, .inl (f3, 150, .inl gf))] sz) [(f1, .long), (f2, .int), (f3, .int)] [(h0, .inr (3, [.ref fw, .ref fe, .ref ff, .int z])), (fw, .inl (f1, 30, .inr (.inl gw))), (fe, .inl (f2, 30, .inl ge)), (ff, .inl (f3, 150, .inl gf))]) (va_A [(h0, .inr (3, [.ref fw, .ref fe, .ref ff, .int z])), (fw, .inl (f1, 30, .inr (.inl gw))), (fe, .inl (f2, 30, .inl ge)), (ff, .inl (f3, 150, .inl gf))] sz)) 0 0 (va_A [(h0, .inr (3, [.ref fw, .ref fe, .ref ff, .int z])), (fw, .inl (f1, 30, .inr (.inl gw))), (fe, .inl (f2, 30, .inl ge)), (ff, .inl (f3, 150, .inl gf))] sz) := by
  refine Met.ofW (cc := cX3_find) (maxL := 4) (ret := (some .int)) (by decide) rfl ?_
  intro p e s m args below meth c s₁ B hml hv
  obtain ⟨rfl, hsz, hP, hK, hD0, hN, hT⟩ := hv
  have hx := B.exec
  have hb := B.bytes
  have hr := B.returns
  have hts := atoms_spec (ws := Cond.code yX3_find cX3_find 4 (some .int) :: zw) B.pre
  have hA : ∀ w ∈ zw, w.before _ s = true := fun w h => hts w (List.mem_cons_of_mem _ h)
  have hown : s.vm.findClass RX3 = some m.cls := findClass_of_methodNamed B.named
  have hlocks := B.notSynchronized
  subst hsz
  have hD := hD0.self (sz := s.heap.size)
  generalize hAe : va_A [(h0, .inr (3, [.ref fw, .ref fe, .ref ff, .int z])), (fw, .inl (f1, 30, .inr (.inl gw))), (fe, .inl (f2, 30, .inl ge)), (ff, .inl (f3, 150, .inl gf))] s.heap.size = A at hD hT ⊢
  have hAA : ∀ q : Nat, s.heap.size ≤ q → A q := fun q h => by rw [← hAe]; exact Or.inr h
  have hS : va_S A s.heap s.heap [] := va_S.rf
  have hl := lv_entry ([.ref h0, .long nm]) (n := 4) (Nat.le_of_ble_eq_true rfl)
  rw [lg_entry_eq]
  generalize (lg_sl ([.ref h0, .long nm]) ++ List.replicate (4 - (lg_sl ([.ref h0, .long nm])).length) Slot.unset).toArray = ls at hl ⊢
  have hl : lv_has ls 4 [(0, .ref h0), (1, .long nm)] := hl
  refine lv_iconst (v := 0) hx hb dX3_find_0 (by decide) ?_
  refine lv_istore_n (lv' := [(3, .int 0), (0, .ref h0), (1, .long nm)]) hx hb dX3_find_1 rfl hl (by decide) rfl (fun ls hl => ?_)
  have loop_2 : ∀ (n9 : Nat) (i : Int32) (H : Heap) (locs : List Loc) (ls : Array Slot), (z.toInt - i.toInt + 1).toNat ≤ n9 → 0 ≤ i.toInt → i.toInt ≤ z.toInt → va_P (dC, dI) vwCl [(h0, .inr (3, [.ref fw, .ref fe, .ref ff, .int z])), (fw, .inl (f1, 30, .inr (.inl gw))), (fe, .inl (f2, 30, .inl ge)), (ff, .inl (f3, 150, .inl gf))] H → va_D A [(h0, .inr (3, [.ref fw, .ref fe, .ref ff, .int z])), (fw, .inl (f1, 30, .inr (.inl gw))), (fe, .inl (f2, 30, .inl ge)), (ff, .inl (f3, 150, .inl gf))] → va_S A s.heap H locs → lv_has ls 4 [(3, .int i), (0, .ref h0), (1, .long nm)] → W p l e (headSpec (Cond.code yX3_find cX3_find 4 (some .int) :: zw) ({ frames := 8, cells := 0, slots := 0, locals := 200 })).room s m #[.ref h0, .long nm] below meth c H locs 0 0 (MQ below (va_Qi (fun (r : Int32) (u : Unit) => (-1 ≤ r.toInt) ∧ (r.toInt < z.toInt)) (fun u => zQ dC dI A [(f1, .long), (f2, .int), (f3, .int)] [(h0, .inr (3, [.ref fw, .ref fe, .ref ff, .int z])), (fw, .inl (f1, 30, .inr (.inl gw))), (fe, .inl (f2, 30, .inl ge)), (ff, .inl (f3, 150, .inl gf))]) A) #[.ref h0, .long nm] s 0 0 A) (F0 m 2 ls []) := by
    intro n9
    induction n9 with
    | zero => intro i H locs ls hm hi0 hi1; exfalso; omega
    | succ n9 ih =>
      intro i H locs ls hm hi0 hi1 hP hD hS hl
      refine lv_iload_n hx hb dX3_find_2 rfl (lv_at hl 0 rfl) ?_
      refine lv_aload_n hx hb dX3_find_3 rfl (lv_at hl 1 rfl) ?_
      refine va_get (D := (dC, dI)) (ci := 3) (v := .int z) (C := RX3) (T := TX3) (N := 4) hx hb hA zin_X3 hown hK hP 0 rfl rfl 3 (by decide) (hA _ wi_295) (fun _ h9 => h9) rfl dX3_find_4 ?_
      refine lv_icmp_ge (tgt := 29) hx hb dX3_find_7 (by decide) (fun c_1 => ?_) (fun c_1 => ?_)
      · have ic_1 : z.toInt ≤ i.toInt := zi_le c_1
        refine lv_iconst (v := (-1)) hx hb dX3_find_29 (by decide) ?_
        have hlit : Int32.toInt (-1) = (-1) := by decide
        have hP9 := hP.sub (ws' := [(h0, .inr (3, [.ref fw, .ref fe, .ref ff, .int z])), (fw, .inl (f1, 30, .inr (.inl gw))), (fe, .inl (f2, 30, .inl ge)), (ff, .inl (f3, 150, .inl gf))]) [0, 1, 2, 3] rfl
        have hD9 := hD.sub (ws' := [(h0, .inr (3, [.ref fw, .ref fe, .ref ff, .int z])), (fw, .inl (f1, 30, .inr (.inl gw))), (fe, .inl (f2, 30, .inl ge)), (ff, .inl (f3, 150, .inl gf))]) [0, 1, 2, 3] (by decide) rfl
        have hK9 := hK.sub (tys' := [(f1, .long), (f2, .int), (f3, .int)]) [0, 1, 2] rfl
        exact W.iret (v := (-1)) hx hb hr (fun t ht hW => ⟨⟨(-1), (), rfl, ⟨by omega, by omega⟩, by rw [ht]; exact hP9, va_K.moved hW.alike hK9, hD9⟩, hS.F ht⟩) hS.2.2 dX3_find_30
      · have ic_1 : i.toInt < z.toInt := zi_nle c_1
        refine lv_aload_n hx hb dX3_find_10 rfl (lv_at hl 1 rfl) ?_
        refine va_get (D := (dC, dI)) (ci := 3) (v := .ref fw) (C := RX3) (T := TX3) (N := 4) hx hb hA zin_X3 hown hK hP 0 rfl rfl 0 (by decide) (hA _ wi_290) (fun _ h9 => h9) rfl dX3_find_11 ?_
        refine lv_iload_n hx hb dX3_find_14 rfl (lv_at hl 0 rfl) ?_
        refine va_lald hx hb hK hP 1 0 rfl rfl (vp_in_iff.mpr ⟨by omega, by omega⟩) dX3_find_15 ?_
        refine lv_topl (fun x_2 ex_2 => ?_)
        refine lv_lload_n hx hb dX3_find_16 rfl (lv_at hl 2 rfl) ?_
        refine W.lcmp hx hb dX3_find_17 ?_
        refine lv_topi (fun x_3 ex_3 => ?_)
        refine lv_if_ne (tgt := 23) hx hb dX3_find_18 (by decide) (fun c_4 => ?_) (fun c_4 => ?_)
        · have ic_4 : x_3.toInt ≠ 0 := zi_ne c_4
          obtain ⟨x_5, ex_5⟩ : ∃ y : Int32, y = i + Int32.ofInt 1 := ⟨_, rfl⟩
          refine lv_iinc (v := x_5) (lv' := [(3, .int x_5), (0, .ref h0), (1, .long nm)]) hx hb dX3_find_23 hl (k := 0) rfl (by rw [ex_5]) (by decide) rfl (fun ls hl => ?_)
          have ix_5 : x_5.toInt = i.toInt + 1 := by rw [ex_5]; exact zi_addc (by decide) (by omega) (by omega)
          refine lv_goto (tgt := 2) hx hb dX3_find_26 (by decide) ?_
          exact ih x_5 _ _ _ (by omega) (by omega) (by omega) (hP.sub [0, 1, 2, 3] rfl) (hD.sub [0, 1, 2, 3] (by decide) rfl) hS (lv_sub hl [0, 1, 2] rfl)
        · have ic_4 : x_3.toInt = 0 := zi_eq c_4
          refine lv_iload_n hx hb dX3_find_21 rfl (lv_at hl 0 rfl) ?_
          have hP9 := hP.sub (ws' := [(h0, .inr (3, [.ref fw, .ref fe, .ref ff, .int z])), (fw, .inl (f1, 30, .inr (.inl gw))), (fe, .inl (f2, 30, .inl ge)), (ff, .inl (f3, 150, .inl gf))]) [0, 1, 2, 3] rfl
          have hD9 := hD.sub (ws' := [(h0, .inr (3, [.ref fw, .ref fe, .ref ff, .int z])), (fw, .inl (f1, 30, .inr (.inl gw))), (fe, .inl (f2, 30, .inl ge)), (ff, .inl (f3, 150, .inl gf))]) [0, 1, 2, 3] (by decide) rfl
          have hK9 := hK.sub (tys' := [(f1, .long), (f2, .int), (f3, .int)]) [0, 1, 2] rfl
          exact W.iret (v := i) hx hb hr (fun t ht hW => ⟨⟨i, (), rfl, ⟨by omega, by omega⟩, by rw [ht]; exact hP9, va_K.moved hW.alike hK9, hD9⟩, hS.F ht⟩) hS.2.2 dX3_find_22
  exact loop_2 _ 0 _ _ _ (Nat.le_refl _) (by have h9_0 : Int32.toInt 0 = 0 := (by decide); omega) (by have h9_0 : Int32.toInt 0 = 0 := (by decide); omega) (hP.sub [0, 1, 2, 3] rfl) (hD.sub [0, 1, 2, 3] (by decide) rfl) hS (lv_sub hl [0, 1, 2] rfl)
set_option maxHeartbeats 4000000 in
set_option maxRecDepth 100000 in
theorem c_X3_add (l : Launch) (dC : Nat → ClassId) (dI : Nat → Nat → Nat) (aK aV : Nat → Nat) (h0 : Nat) (fw : Nat) (fe : Nat) (ff : Nat) (f1 : ClassId) (f2 : ClassId) (f3 : ClassId) (z : Int32) (gw : Nat → Int64) (ge : Nat → Int32) (gf : Nat → Int32) (nm : Int64) (sz : Nat) (hz0 : 0 ≤ z.toInt) (hz1 : z.toInt ≤ 30) (hge : zx 3000 ge) : Met l yX3_add (Cond.code yX3_add cX3_add 5 (some .int) :: zw) ({ frames := 8, cells := 0, slots := 0, locals := 200 }) (va_Pc [.ref h0, .long nm] (zP dC dI aK aV sz [(f1, .long), (f2, .int), (f3, .int)] [(h0, .inr (3, [.ref fw, .ref fe, .ref ff, .int z])), (fw, .inl (f1, 30, .inr (.inl gw))), (fe, .inl (f2, 30, .inl ge)), (ff, .inl (f3, 150, .inl gf))])) (va_Qi (fun (r : Int32) (u : Int32 × (Nat → Int64) × (Nat → Int32) × (Nat → Int32)) => match u with | (z2, gw2, ge2, gf2) => (0 ≤ r.toInt) ∧ (r.toInt < 30) ∧ (r.toInt < z2.toInt ∨ z.toInt = 30) ∧ (z.toInt ≤ z2.toInt) ∧ (z2.toInt ≤ 30) ∧ (zx 3000 ge2)) (fun u => match u with | (z2, gw2, ge2, gf2) => zQ dC dI (va_A [(h0, .inr (3, [.ref fw, .ref fe, .ref ff, .int z])), (fw, .inl (f1, 30, .inr (.inl gw))), (fe, .inl (f2, 30, .inl ge)), (ff, .inl (f3, 150, .inl gf))] sz) [(f1, .long), (f2, .int), (f3, .int)] [(h0, .inr (3, [.ref fw, .ref fe, .ref ff, .int z2])), (fw, .inl (f1, 30, .inr (.inl gw2))), (fe, .inl (f2, 30, .inl ge2)), (ff, .inl (f3, 150, .inl gf2))]) (va_A [(h0, .inr (3, [.ref fw, .ref fe, .ref ff, .int z])), (fw, .inl (f1, 30, .inr (.inl gw))), (fe, .inl (f2, 30, .inl ge)), (ff, .inl (f3, 150, .inl gf))] sz)) 0 0 (va_A [(h0, .inr (3, [.ref fw, .ref fe, .ref ff, .int z])), (fw, .inl (f1, 30, .inr (.inl gw))), (fe, .inl (f2, 30, .inl ge)), (ff, .inl (f3, 150, .inl gf))] sz) := by
  refine Met.ofW (cc := cX3_add) (maxL := 5) (ret := (some .int)) (by decide) rfl ?_
  intro p e s m args below meth c s₁ B hml hv
  obtain ⟨rfl, hsz, hP, hK, hD0, hN, hT⟩ := hv
  have hx := B.exec
  have hb := B.bytes
  have hr := B.returns
  have hts := atoms_spec (ws := Cond.code yX3_add cX3_add 5 (some .int) :: zw) B.pre
  have hA : ∀ w ∈ zw, w.before _ s = true := fun w h => hts w (List.mem_cons_of_mem _ h)
  have hown : s.vm.findClass RX3 = some m.cls := findClass_of_methodNamed B.named
  have hlocks := B.notSynchronized
  subst hsz
  have hD := hD0.self (sz := s.heap.size)
  generalize hAe : va_A [(h0, .inr (3, [.ref fw, .ref fe, .ref ff, .int z])), (fw, .inl (f1, 30, .inr (.inl gw))), (fe, .inl (f2, 30, .inl ge)), (ff, .inl (f3, 150, .inl gf))] s.heap.size = A at hD hT ⊢
  have hAA : ∀ q : Nat, s.heap.size ≤ q → A q := fun q h => by rw [← hAe]; exact Or.inr h
  have hS : va_S A s.heap s.heap [] := va_S.rf
  have hl := lv_entry ([.ref h0, .long nm]) (n := 5) (Nat.le_of_ble_eq_true rfl)
  rw [lg_entry_eq]
  generalize (lg_sl ([.ref h0, .long nm]) ++ List.replicate (5 - (lg_sl ([.ref h0, .long nm])).length) Slot.unset).toArray = ls at hl ⊢
  have hl : lv_has ls 5 [(0, .ref h0), (1, .long nm)] := hl
  refine lv_aload_n hx hb dX3_add_0 rfl (lv_at hl 0 rfl) ?_
  refine va_get (D := (dC, dI)) (ci := 3) (v := .int z) (C := RX3) (T := TX3) (N := 4) hx hb hA zin_X3 hown hK hP 0 rfl rfl 3 (by decide) (hA _ wi_295) (fun _ h9 => h9) rfl dX3_add_1 ?_
  refine lv_bipush (v := 30) hx hb dX3_add_4 (by decide) ?_
  refine lv_icmp_lt (tgt := 12) hx hb dX3_add_6 (by decide) (fun c_1 => ?_) (fun c_1 => ?_)
  · have ic_1 : z.toInt < 30 := zi_lt c_1
    refine lv_aload_n hx hb dX3_add_12 rfl (lv_at hl 0 rfl) ?_
    refine va_get (D := (dC, dI)) (ci := 3) (v := .int z) (C := RX3) (T := TX3) (N := 4) hx hb hA zin_X3 hown hK hP 0 rfl rfl 3 (by decide) (hA _ wi_295) (fun _ h9 => h9) rfl dX3_add_13 ?_
    refine lv_istore_n (lv' := [(3, .int z), (0, .ref h0), (1, .long nm)]) hx hb dX3_add_16 rfl hl (by decide) rfl (fun ls hl => ?_)
    refine lv_aload_n hx hb dX3_add_17 rfl (lv_at hl 1 rfl) ?_
    refine lv_dup hx hb dX3_add_18 rfl ?_
    refine va_get (D := (dC, dI)) (ci := 3) (v := .int z) (C := RX3) (T := TX3) (N := 4) hx hb hA zin_X3 hown hK hP 0 rfl rfl 3 (by decide) (hA _ wi_295) (fun _ h9 => h9) rfl dX3_add_19 ?_
    refine lv_iconst (v := 1) hx hb dX3_add_22 (by decide) ?_
    refine lv_iadd hx hb dX3_add_23 ?_
    refine lv_topi (fun x_2 ex_2 => ?_)
    have ix_2 : x_2.toInt = z.toInt + 1 := by rw [ex_2]; exact zi_addc (by decide) (by omega) (by omega)
    refine va_put (D := (dC, dI)) (ci := 3) (v := .int x_2) (ty := .int) (C := RX3) (T := TX3) (N := 4) hx hb hA zin_X3 tyX3 tyX3_ok nmX3 hown hK hP hD hS 0 rfl rfl 3 (by decide) (hA _ wi_295) (fun _ h9 => h9) rfl (by decide +kernel) rfl rfl (Nat.le_of_ble_eq_true rfl) dX3_add_24 (fun H locs hP hD hS => ?_)
    have hP : va_P (dC, dI) vwCl [(h0, .inr (3, [.ref fw, .ref fe, .ref ff, .int x_2])), (fw, .inl (f1, 30, .inr (.inl gw))), (fe, .inl (f2, 30, .inl ge)), (ff, .inl (f3, 150, .inl gf))] H := hP
    have hD : va_D A [(h0, .inr (3, [.ref fw, .ref fe, .ref ff, .int x_2])), (fw, .inl (f1, 30, .inr (.inl gw))), (fe, .inl (f2, 30, .inl ge)), (ff, .inl (f3, 150, .inl gf))] := hD
    refine lv_aload_n hx hb dX3_add_27 rfl (lv_at hl 1 rfl) ?_
    refine va_get (D := (dC, dI)) (ci := 3) (v := .ref fw) (C := RX3) (T := TX3) (N := 4) hx hb hA zin_X3 hown hK hP 0 rfl rfl 0 (by decide) (hA _ wi_290) (fun _ h9 => h9) rfl dX3_add_28 ?_
    refine lv_iload_n hx hb dX3_add_31 rfl (lv_at hl 0 rfl) ?_
    refine lv_lload_n hx hb dX3_add_32 rfl (lv_at hl 2 rfl) ?_
    refine va_last hx hb hK hP hD hS 1 0 rfl rfl (vp_in_iff.mpr ⟨by omega, by omega⟩) dX3_add_33 (fun H locs hP hD hS => ?_)
    obtain ⟨f_3, ef_3⟩ : ∃ gz9 : Nat → Int64, gz9 = vp_updL gw (Int32.toNatClampNeg z) nm := ⟨_, rfl⟩
    rw [← ef_3] at hP hD
    have hP : va_P (dC, dI) vwCl [(h0, .inr (3, [.ref fw, .ref fe, .ref ff, .int x_2])), (fw, .inl (f1, 30, .inr (.inl f_3))), (fe, .inl (f2, 30, .inl ge)), (ff, .inl (f3, 150, .inl gf))] H := hP
    have hD : va_D A [(h0, .inr (3, [.ref fw, .ref fe, .ref ff, .int x_2])), (fw, .inl (f1, 30, .inr (.inl f_3))), (fe, .inl (f2, 30, .inl ge)), (ff, .inl (f3, 150, .inl gf))] := hD
    refine lv_aload_n hx hb dX3_add_34 rfl (lv_at hl 1 rfl) ?_
    refine va_get (D := (dC, dI)) (ci := 3) (v := .ref fe) (C := RX3) (T := TX3) (N := 4) hx hb hA zin_X3 hown hK hP 0 rfl rfl 1 (by decide) (hA _ wi_291) (fun _ h9 => h9) rfl dX3_add_35 ?_
    refine lv_iload_n hx hb dX3_add_38 rfl (lv_at hl 0 rfl) ?_
    refine lv_iconst (v := (-1)) hx hb dX3_add_39 (by decide) ?_
    refine va_iast hx hb hK hP hD hS 2 1 rfl rfl (vp_in_iff.mpr ⟨by omega, by omega⟩) dX3_add_40 (fun H locs hP hD hS => ?_)
    obtain ⟨f_4, ef_4⟩ : ∃ gz9 : Nat → Int32, gz9 = upd ge (Int32.toNatClampNeg z) (-1) := ⟨_, rfl⟩
    rw [← ef_4] at hP hD
    have hp_f_4 : zx 3000 f_4 := by rw [ef_4]; exact zx_upd hge (by have h9 : Int32.toInt (-1) = (-1) := (by decide); omega) (by have h9 : Int32.toInt (-1) = (-1) := (by decide); omega)
    have hP : va_P (dC, dI) vwCl [(h0, .inr (3, [.ref fw, .ref fe, .ref ff, .int x_2])), (fw, .inl (f1, 30, .inr (.inl f_3))), (fe, .inl (f2, 30, .inl f_4)), (ff, .inl (f3, 150, .inl gf))] H := hP
    have hD : va_D A [(h0, .inr (3, [.ref fw, .ref fe, .ref ff, .int x_2])), (fw, .inl (f1, 30, .inr (.inl f_3))), (fe, .inl (f2, 30, .inl f_4)), (ff, .inl (f3, 150, .inl gf))] := hD
    refine lv_iconst (v := 0) hx hb dX3_add_41 (by decide) ?_
    refine lv_istore (lv' := [(4, .int 0), (3, .int z), (0, .ref h0), (1, .long nm)]) hx hb dX3_add_42 hl (by decide) rfl (fun ls hl => ?_)
    have loop_44 : ∀ (n9 : Nat) (i : Int32) (gl : Nat → Int32) (H : Heap) (locs : List Loc) (ls : Array Slot), (5 - i.toInt + 1).toNat ≤ n9 → 0 ≤ i.toInt → i.toInt ≤ 5 → va_P (dC, dI) vwCl [(h0, .inr (3, [.ref fw, .ref fe, .ref ff, .int x_2])), (fw, .inl (f1, 30, .inr (.inl f_3))), (fe, .inl (f2, 30, .inl f_4)), (ff, .inl (f3, 150, .inl gl))] H → va_D A [(h0, .inr (3, [.ref fw, .ref fe, .ref ff, .int x_2])), (fw, .inl (f1, 30, .inr (.inl f_3))), (fe, .inl (f2, 30, .inl f_4)), (ff, .inl (f3, 150, .inl gl))] → va_S A s.heap H locs → lv_has ls 5 [(4, .int i), (3, .int z), (0, .ref h0), (1, .long nm)] → W p l e (headSpec (Cond.code yX3_add cX3_add 5 (some .int) :: zw) ({ frames := 8, cells := 0, slots := 0, locals := 200 })).room s m #[.ref h0, .long nm] below meth c H locs 0 0 (MQ below (va_Qi (fun (r : Int32) (u : Int32 × (Nat → Int64) × (Nat → Int32) × (Nat → Int32)) => match u with | (z2, gw2, ge2, gf2) => (0 ≤ r.toInt) ∧ (r.toInt < 30) ∧ (r.toInt < z2.toInt ∨ z.toInt = 30) ∧ (z.toInt ≤ z2.toInt) ∧ (z2.toInt ≤ 30) ∧ (zx 3000 ge2)) (fun u => match u with | (z2, gw2, ge2, gf2) => zQ dC dI A [(f1, .long), (f2, .int), (f3, .int)] [(h0, .inr (3, [.ref fw, .ref fe, .ref ff, .int z2])), (fw, .inl (f1, 30, .inr (.inl gw2))), (fe, .inl (f2, 30, .inl ge2)), (ff, .inl (f3, 150, .inl gf2))]) A) #[.ref h0, .long nm] s 0 0 A) (F0 m 44 ls []) := by
      intro n9
      induction n9 with
      | zero => intro i gl H locs ls hm hi0 hi1; exfalso; omega
      | succ n9 ih =>
        intro i gl H locs ls hm hi0 hi1 hP hD hS hl
        refine lv_iload hx hb dX3_add_44 (lv_at hl 0 rfl) ?_
        refine lv_iconst (v := 5) hx hb dX3_add_46 (by decide) ?_
        refine lv_icmp_ge (tgt := 68) hx hb dX3_add_47 (by decide) (fun c_5 => ?_) (fun c_5 => ?_)
        · have ic_5 : 5 ≤ i.toInt := zi_le c_5
          refine lv_iload_n hx hb dX3_add_68 rfl (lv_at hl 1 rfl) ?_
          have hP9 := hP.sub (ws' := [(h0, .inr (3, [.ref fw, .ref fe, .ref ff, .int x_2])), (fw, .inl (f1, 30, .inr (.inl f_3))), (fe, .inl (f2, 30, .inl f_4)), (ff, .inl (f3, 150, .inl gl))]) [0, 1, 2, 3] rfl
          have hD9 := hD.sub (ws' := [(h0, .inr (3, [.ref fw, .ref fe, .ref ff, .int x_2])), (fw, .inl (f1, 30, .inr (.inl f_3))), (fe, .inl (f2, 30, .inl f_4)), (ff, .inl (f3, 150, .inl gl))]) [0, 1, 2, 3] (by decide) rfl
          have hK9 := hK.sub (tys' := [(f1, .long), (f2, .int), (f3, .int)]) [0, 1, 2] rfl
          exact W.iret (v := z) hx hb hr (fun t ht hW => ⟨⟨z, (x_2, f_3, f_4, gl), rfl, ⟨by omega, by omega, by omega, by omega, by omega, hp_f_4⟩, by rw [ht]; exact hP9, va_K.moved hW.alike hK9, hD9⟩, hS.F ht⟩) hS.2.2 dX3_add_69
        · have ic_5 : i.toInt < 5 := zi_nle c_5
          refine lv_aload_n hx hb dX3_add_50 rfl (lv_at hl 2 rfl) ?_
          refine va_get (D := (dC, dI)) (ci := 3) (v := .ref ff) (C := RX3) (T := TX3) (N := 4) hx hb hA zin_X3 hown hK hP 0 rfl rfl 2 (by decide) (hA _ wi_294) (fun _ h9 => h9) rfl dX3_add_51 ?_
          refine lv_iload_n hx hb dX3_add_54 rfl (lv_at hl 1 rfl) ?_
          refine lv_iconst (v := 5) hx hb dX3_add_55 (by decide) ?_
          refine lv_imul hx hb dX3_add_56 ?_
          refine lv_topi (fun x_6 ex_6 => ?_)
          have ix_6 : x_6.toInt = z.toInt * 5 := by rw [ex_6]; exact zi_mulc (by decide) (by omega) (by omega)
          refine lv_iload hx hb dX3_add_57 (lv_at hl 0 rfl) ?_
          refine lv_iadd hx hb dX3_add_59 ?_
          refine lv_topi (fun x_7 ex_7 => ?_)
          have ix_7 : x_7.toInt = x_6.toInt + i.toInt := by rw [ex_7]; exact zi_addc rfl (by omega) (by omega)
          refine lv_iconst (v := 0) hx hb dX3_add_60 (by decide) ?_
          refine va_iast hx hb hK hP hD hS 3 2 rfl rfl (vp_in_iff.mpr ⟨by omega, by omega⟩) dX3_add_61 (fun H locs hP hD hS => ?_)
          obtain ⟨f_8, ef_8⟩ : ∃ gz9 : Nat → Int32, gz9 = upd gl (Int32.toNatClampNeg x_7) 0 := ⟨_, rfl⟩
          rw [← ef_8] at hP hD
          have hP : va_P (dC, dI) vwCl [(h0, .inr (3, [.ref fw, .ref fe, .ref ff, .int x_2])), (fw, .inl (f1, 30, .inr (.inl f_3))), (fe, .inl (f2, 30, .inl f_4)), (ff, .inl (f3, 150, .inl f_8))] H := hP
          have hD : va_D A [(h0, .inr (3, [.ref fw, .ref fe, .ref ff, .int x_2])), (fw, .inl (f1, 30, .inr (.inl f_3))), (fe, .inl (f2, 30, .inl f_4)), (ff, .inl (f3, 150, .inl f_8))] := hD
          obtain ⟨x_9, ex_9⟩ : ∃ y : Int32, y = i + Int32.ofInt 1 := ⟨_, rfl⟩
          refine lv_iinc (v := x_9) (lv' := [(4, .int x_9), (3, .int z), (0, .ref h0), (1, .long nm)]) hx hb dX3_add_62 hl (k := 0) rfl (by rw [ex_9]) (by decide) rfl (fun ls hl => ?_)
          have ix_9 : x_9.toInt = i.toInt + 1 := by rw [ex_9]; exact zi_addc (by decide) (by omega) (by omega)
          refine lv_goto (tgt := 44) hx hb dX3_add_65 (by decide) ?_
          exact ih x_9 f_8 _ _ _ (by omega) (by omega) (by omega) (hP.sub [0, 1, 2, 3] rfl) (hD.sub [0, 1, 2, 3] (by decide) rfl) hS (lv_sub hl [0, 1, 2, 3] rfl)
    exact loop_44 _ 0 gf _ _ _ (Nat.le_refl _) (by have h9_0 : Int32.toInt 0 = 0 := (by decide); omega) (by have h9_0 : Int32.toInt 0 = 0 := (by decide); omega) (hP.sub [0, 1, 2, 3] rfl) (hD.sub [0, 1, 2, 3] (by decide) rfl) hS (lv_sub hl [0, 1, 2, 3] rfl)
  · have ic_1 : 30 ≤ z.toInt := zi_nlt c_1
    refine lv_bipush (v := 29) hx hb dX3_add_9 (by decide) ?_
    have hlit : Int32.toInt 29 = 29 := by decide
    have hP9 := hP.sub (ws' := [(h0, .inr (3, [.ref fw, .ref fe, .ref ff, .int z])), (fw, .inl (f1, 30, .inr (.inl gw))), (fe, .inl (f2, 30, .inl ge)), (ff, .inl (f3, 150, .inl gf))]) [0, 1, 2, 3] rfl
    have hD9 := hD.sub (ws' := [(h0, .inr (3, [.ref fw, .ref fe, .ref ff, .int z])), (fw, .inl (f1, 30, .inr (.inl gw))), (fe, .inl (f2, 30, .inl ge)), (ff, .inl (f3, 150, .inl gf))]) [0, 1, 2, 3] (by decide) rfl
    have hK9 := hK.sub (tys' := [(f1, .long), (f2, .int), (f3, .int)]) [0, 1, 2] rfl
    exact W.iret (v := 29) hx hb hr (fun t ht hW => ⟨⟨29, (z, gw, ge, gf), rfl, ⟨by omega, by omega, by omega, by omega, by omega, hge⟩, by rw [ht]; exact hP9, va_K.moved hW.alike hK9, hD9⟩, hS.F ht⟩) hS.2.2 dX3_add_11
set_option maxHeartbeats 4000000 in
set_option maxRecDepth 100000 in
theorem c_X3_fact (l : Launch) (dC : Nat → ClassId) (dI : Nat → Nat → Nat) (aK aV : Nat → Nat) (h0 : Nat) (fw : Nat) (fe : Nat) (ff : Nat) (f1 : ClassId) (f2 : ClassId) (f3 : ClassId) (z : Int32) (gw : Nat → Int64) (ge : Nat → Int32) (gf : Nat → Int32) (i : Int32) (w : Int32) (sz : Nat) (hz0 : 0 ≤ z.toInt) (hz1 : z.toInt ≤ 30) (hw0 : 0 ≤ w.toInt) (hw1 : w.toInt < 5) : Met l yX3_fact (Cond.code yX3_fact cX3_fact 3 (some .int) :: zw) ({ frames := 10, cells := 0, slots := 0, locals := 300 }) (va_Pc [.ref h0, .int i, .int w] (zP dC dI aK aV sz [(f1, .long), (f2, .int), (f3, .int)] [(h0, .inr (3, [.ref fw, .ref fe, .ref ff, .int z])), (fw, .inl (f1, 30, .inr (.inl gw))), (fe, .inl (f2, 30, .inl ge)), (ff, .inl (f3, 150, .inl gf))])) (va_Qi (fun (r : Int32) (u : Unit) => True) (fun u => zQ dC dI (va_A [(h0, .inr (3, [.ref fw, .ref fe, .ref ff, .int z])), (fw, .inl (f1, 30, .inr (.inl gw))), (fe, .inl (f2, 30, .inl ge)), (ff, .inl (f3, 150, .inl gf))] sz) [(f1, .long), (f2, .int), (f3, .int)] [(h0, .inr (3, [.ref fw, .ref fe, .ref ff, .int z])), (fw, .inl (f1, 30, .inr (.inl gw))), (fe, .inl (f2, 30, .inl ge)), (ff, .inl (f3, 150, .inl gf))]) (va_A [(h0, .inr (3, [.ref fw, .ref fe, .ref ff, .int z])), (fw, .inl (f1, 30, .inr (.inl gw))), (fe, .inl (f2, 30, .inl ge)), (ff, .inl (f3, 150, .inl gf))] sz)) 0 0 (va_A [(h0, .inr (3, [.ref fw, .ref fe, .ref ff, .int z])), (fw, .inl (f1, 30, .inr (.inl gw))), (fe, .inl (f2, 30, .inl ge)), (ff, .inl (f3, 150, .inl gf))] sz) := by
  refine Met.ofW (cc := cX3_fact) (maxL := 3) (ret := (some .int)) (by decide) rfl ?_
  intro p e s m args below meth c s₁ B hml hv
  obtain ⟨rfl, hsz, hP, hK, hD0, hN, hT⟩ := hv
  have hx := B.exec
  have hb := B.bytes
  have hr := B.returns
  have hts := atoms_spec (ws := Cond.code yX3_fact cX3_fact 3 (some .int) :: zw) B.pre
  have hA : ∀ w ∈ zw, w.before _ s = true := fun w h => hts w (List.mem_cons_of_mem _ h)
  have hown : s.vm.findClass RX3 = some m.cls := findClass_of_methodNamed B.named
  have hlocks := B.notSynchronized
  subst hsz
  have hD := hD0.self (sz := s.heap.size)
  generalize hAe : va_A [(h0, .inr (3, [.ref fw, .ref fe, .ref ff, .int z])), (fw, .inl (f1, 30, .inr (.inl gw))), (fe, .inl (f2, 30, .inl ge)), (ff, .inl (f3, 150, .inl gf))] s.heap.size = A at hD hT ⊢
  have hAA : ∀ q : Nat, s.heap.size ≤ q → A q := fun q h => by rw [← hAe]; exact Or.inr h
  have hS : va_S A s.heap s.heap [] := va_S.rf
  have hl := lv_entry ([.ref h0, .int i, .int w]) (n := 3) (Nat.le_of_ble_eq_true rfl)
  rw [lg_entry_eq]
  generalize (lg_sl ([.ref h0, .int i, .int w]) ++ List.replicate (3 - (lg_sl ([.ref h0, .int i, .int w])).length) Slot.unset).toArray = ls at hl ⊢
  have hl : lv_has ls 3 [(0, .ref h0), (1, .int i), (2, .int w)] := hl
  refine lv_aload_n hx hb dX3_fact_0 rfl (lv_at hl 0 rfl) ?_
  refine lv_iload_n hx hb dX3_fact_1 rfl (lv_at hl 1 rfl) ?_
  have hPc := hP.sub (ws' := [(h0, .inr (3, [.ref fw, .ref fe, .ref ff, .int z]))]) [0] rfl
  have hDc := hD.sub (ws' := [(h0, .inr (3, [.ref fw, .ref fe, .ref ff, .int z]))]) [0] (by decide) rfl
  have hKc := hK.sub (tys' := []) [] rfl
  have hFc := va_free (wc := [(h0, .inr (3, [.ref fw, .ref fe, .ref ff, .int z]))]) hD hS hAA [0] rfl
  refine va_calli (va_runV (As := [.int i]) (rest := []) ⟨hx, hb, hml, hown, hA⟩ (c_X3_has l dC dI aK aV h0 fw fe ff z i s.heap.size) (cwV 1 hA (zw_V wi_910 wi_911 wi_912 wi_135 (zw_good wi_913)) rfl rfl rfl (by decide +kernel) ⟨(Nat.le_of_ble_eq_true rfl), (Nat.le_of_ble_eq_true rfl)⟩) ⟨zP_blind, va_recv hKc hPc (ci := 3) (q0 := 0) rfl rfl, zz_pre hKc hPc hDc hN hT hS hFc⟩ rfl rfl hl.1 rfl (lv_room (Nat.le_of_ble_eq_true rfl)) dX3_fact_2 ⟨(Nat.le_of_ble_eq_true rfl), (Nat.le_of_ble_eq_true rfl)⟩) hS (fun q _ h => hFc q h) hFc (fun r_1 u t H1 locs ht hvm hw hB hz1 hk1 hS => ?_)
  obtain ⟨hP1, hK1, hD1⟩ := hB
  rw [ht] at hP1
  have hK1 := va_K.moved hvm.symm hK1
  obtain ⟨hP, hD⟩ := va_join (wr := [(fw, .inl (f1, 30, .inr (.inl gw))), (fe, .inl (f2, 30, .inl ge)), (ff, .inl (f3, 150, .inl gf))]) (w1 := [(h0, .inr (3, [.ref fw, .ref fe, .ref ff, .int z]))]) hP hD [0] [1, 2, 3] rfl rfl (by decide) (by decide) hk1 hFc hP1 hD1
  have hK := (hK.sub (tys' := [(f1, .long), (f2, .int), (f3, .int)]) [0, 1, 2] rfl).app hK1
  generalize H1 = H at hP hS ⊢
  have hP : va_P (dC, dI) vwCl [(fw, .inl (f1, 30, .inr (.inl gw))), (fe, .inl (f2, 30, .inl ge)), (ff, .inl (f3, 150, .inl gf)), (h0, .inr (3, [.ref fw, .ref fe, .ref ff, .int z]))] H := hP
  have hD : va_D A [(fw, .inl (f1, 30, .inr (.inl gw))), (fe, .inl (f2, 30, .inl ge)), (ff, .inl (f3, 150, .inl gf)), (h0, .inr (3, [.ref fw, .ref fe, .ref ff, .int z]))] := hD
  have hK : va_K (dC, dI) vwCl [(f1, .long), (f2, .int), (f3, .int)] s := hK
  have hw_r_1 := hw
  try dsimp only at hw_r_1
  have hq_2 := hw
  refine lv_if_eq (tgt := 21) hx hb dX3_fact_5 (by decide) (fun c_3 => ?_) (fun c_3 => ?_)
  · have ic_3 : r_1.toInt = 0 := zi_eq c_3
    refine lv_iconst (v := 0) hx hb dX3_fact_21 (by decide) ?_
    have hlit : Int32.toInt 0 = 0 := by decide
    have hP9 := hP.sub (ws' := [(h0, .inr (3, [.ref fw, .ref fe, .ref ff, .int z])), (fw, .inl (f1, 30, .inr (.inl gw))), (fe, .inl (f2, 30, .inl ge)), (ff, .inl (f3, 150, .inl gf))]) [3, 0, 1, 2] rfl
    have hD9 := hD.sub (ws' := [(h0, .inr (3, [.ref fw, .ref fe, .ref ff, .int z])), (fw, .inl (f1, 30, .inr (.inl gw))), (fe, .inl (f2, 30, .inl ge)), (ff, .inl (f3, 150, .inl gf))]) [3, 0, 1, 2] (by decide) rfl
    have hK9 := hK.sub (tys' := [(f1, .long), (f2, .int), (f3, .int)]) [0, 1, 2] rfl
    exact W.iret (v := 0) hx hb hr (fun t ht hW => ⟨⟨0, (), rfl, trivial, by rw [ht]; exact hP9, va_K.moved hW.alike hK9, hD9⟩, hS.F ht⟩) hS.2.2 dX3_fact_22
  · have ic_3 : r_1.toInt ≠ 0 := zi_ne c_3
    refine lv_aload_n hx hb dX3_fact_8 rfl (lv_at hl 0 rfl) ?_
    refine va_get (D := (dC, dI)) (ci := 3) (v := .ref ff) (C := RX3) (T := TX3) (N := 4) hx hb hA zin_X3 hown hK hP 3 rfl rfl 2 (by decide) (hA _ wi_294) (fun _ h9 => h9) rfl dX3_fact_9 ?_
    refine lv_iload_n hx hb dX3_fact_12 rfl (lv_at hl 1 rfl) ?_
    refine lv_iconst (v := 5) hx hb dX3_fact_13 (by decide) ?_
    refine lv_imul hx hb dX3_fact_14 ?_
    refine lv_topi (fun x_4 ex_4 => ?_)
    have ix_4 : x_4.toInt = i.toInt * 5 := by rw [ex_4]; exact zi_mulc (by decide) (by omega) (by omega)
    refine lv_iload_n hx hb dX3_fact_15 rfl (lv_at hl 2 rfl) ?_
    refine lv_iadd hx hb dX3_fact_16 ?_
    refine lv_topi (fun x_5 ex_5 => ?_)
    have ix_5 : x_5.toInt = x_4.toInt + w.toInt := by rw [ex_5]; exact zi_addc rfl (by omega) (by omega)
    refine va_iald hx hb hK hP 2 2 rfl rfl (vp_in_iff.mpr ⟨by omega, by omega⟩) dX3_fact_17 ?_
    refine lv_topi (fun x_6 ex_6 => ?_)
    refine lv_goto (tgt := 22) hx hb dX3_fact_18 (by decide) ?_
    have hP9 := hP.sub (ws' := [(h0, .inr (3, [.ref fw, .ref fe, .ref ff, .int z])), (fw, .inl (f1, 30, .inr (.inl gw))), (fe, .inl (f2, 30, .inl ge)), (ff, .inl (f3, 150, .inl gf))]) [3, 0, 1, 2] rfl
    have hD9 := hD.sub (ws' := [(h0, .inr (3, [.ref fw, .ref fe, .ref ff, .int z])), (fw, .inl (f1, 30, .inr (.inl gw))), (fe, .inl (f2, 30, .inl ge)), (ff, .inl (f3, 150, .inl gf))]) [3, 0, 1, 2] (by decide) rfl
    have hK9 := hK.sub (tys' := [(f1, .long), (f2, .int), (f3, .int)]) [0, 1, 2] rfl
    exact W.iret (v := x_6) hx hb hr (fun t ht hW => ⟨⟨x_6, (), rfl, trivial, by rw [ht]; exact hP9, va_K.moved hW.alike hK9, hD9⟩, hS.F ht⟩) hS.2.2 dX3_fact_22
set_option maxHeartbeats 4000000 in
set_option maxRecDepth 100000 in
theorem c_X3_oneMore (l : Launch) (dC : Nat → ClassId) (dI : Nat → Nat → Nat) (aK aV : Nat → Nat) (h0 : Nat) (fw : Nat) (fe : Nat) (ff : Nat) (f1 : ClassId) (f2 : ClassId) (f3 : ClassId) (z : Int32) (gw : Nat → Int64) (ge : Nat → Int32) (gf : Nat → Int32) (i : Int32) (w : Int32) (sz : Nat) (hz0 : 0 ≤ z.toInt) (hz1 : z.toInt ≤ 30) (hw0 : 0 ≤ w.toInt) (hw1 : w.toInt < 5) : Met l yX3_oneMore (Cond.code yX3_oneMore cX3_oneMore 3 none :: zw) ({ frames := 10, cells := 0, slots := 0, locals := 300 }) (va_Pc [.ref h0, .int i, .int w] (zP dC dI aK aV sz [(f1, .long), (f2, .int), (f3, .int)] [(h0, .inr (3, [.ref fw, .ref fe, .ref ff, .int z])), (fw, .inl (f1, 30, .inr (.inl gw))), (fe, .inl (f2, 30, .inl ge)), (ff, .inl (f3, 150, .inl gf))])) (va_Qv (fun u : (Nat → Int32) => match u with | gf2 => True) (fun u => match u with | gf2 => zQ dC dI (va_A [(h0, .inr (3, [.ref fw, .ref fe, .ref ff, .int z])), (fw, .inl (f1, 30, .inr (.inl gw))), (fe, .inl (f2, 30, .inl ge)), (ff, .inl (f3, 150, .inl gf))] sz) [(f1, .long), (f2, .int), (f3, .int)] [(h0, .inr (3, [.ref fw, .ref fe, .ref ff, .int z])), (fw, .inl (f1, 30, .inr (.inl gw))), (fe, .inl (f2, 30, .inl ge)), (ff, .inl (f3, 150, .inl gf2))]) (va_A [(h0, .inr (3, [.ref fw, .ref fe, .ref ff, .int z])), (fw, .inl (f1, 30, .inr (.inl gw))), (fe, .inl (f2, 30, .inl ge)), (ff, .inl (f3, 150, .inl gf))] sz)) 0 0 (va_A [(h0, .inr (3, [.ref fw, .ref fe, .ref ff, .int z])), (fw, .inl (f1, 30, .inr (.inl gw))), (fe, .inl (f2, 30, .inl ge)), (ff, .inl (f3, 150, .inl gf))] sz) := by
  refine Met.ofW (cc := cX3_oneMore) (maxL := 3) (ret := none) (by decide) rfl ?_
  intro p e s m args below meth c s₁ B hml hv
  obtain ⟨rfl, hsz, hP, hK, hD0, hN, hT⟩ := hv
  have hx := B.exec
  have hb := B.bytes
  have hr := B.returns
  have hts := atoms_spec (ws := Cond.code yX3_oneMore cX3_oneMore 3 none :: zw) B.pre
  have hA : ∀ w ∈ zw, w.before _ s = true := fun w h => hts w (List.mem_cons_of_mem _ h)
  have hown : s.vm.findClass RX3 = some m.cls := findClass_of_methodNamed B.named
  have hlocks := B.notSynchronized
  subst hsz
  have hD := hD0.self (sz := s.heap.size)
  generalize hAe : va_A [(h0, .inr (3, [.ref fw, .ref fe, .ref ff, .int z])), (fw, .inl (f1, 30, .inr (.inl gw))), (fe, .inl (f2, 30, .inl ge)), (ff, .inl (f3, 150, .inl gf))] s.heap.size = A at hD hT ⊢
  have hAA : ∀ q : Nat, s.heap.size ≤ q → A q := fun q h => by rw [← hAe]; exact Or.inr h
  have hS : va_S A s.heap s.heap [] := va_S.rf
  have hl := lv_entry ([.ref h0, .int i, .int w]) (n := 3) (Nat.le_of_ble_eq_true rfl)
  rw [lg_entry_eq]
  generalize (lg_sl ([.ref h0, .int i, .int w]) ++ List.replicate (3 - (lg_sl ([.ref h0, .int i, .int w])).length) Slot.unset).toArray = ls at hl ⊢
  have hl : lv_has ls 3 [(0, .ref h0), (1, .int i), (2, .int w)] := hl
  refine lv_aload_n hx hb dX3_oneMore_0 rfl (lv_at hl 0 rfl) ?_
  refine lv_iload_n hx hb dX3_oneMore_1 rfl (lv_at hl 1 rfl) ?_
  have hPc := hP.sub (ws' := [(h0, .inr (3, [.ref fw, .ref fe, .ref ff, .int z]))]) [0] rfl
  have hDc := hD.sub (ws' := [(h0, .inr (3, [.ref fw, .ref fe, .ref ff, .int z]))]) [0] (by decide) rfl
  have hKc := hK.sub (tys' := []) [] rfl
  have hFc := va_free (wc := [(h0, .inr (3, [.ref fw, .ref fe, .ref ff, .int z]))]) hD hS hAA [0] rfl
  refine va_calli (va_runV (As := [.int i]) (rest := []) ⟨hx, hb, hml, hown, hA⟩ (c_X3_has l dC dI aK aV h0 fw fe ff z i s.heap.size) (cwV 1 hA (zw_V wi_910 wi_911 wi_912 wi_135 (zw_good wi_913)) rfl rfl rfl (by decide +kernel) ⟨(Nat.le_of_ble_eq_true rfl), (Nat.le_of_ble_eq_true rfl)⟩) ⟨zP_blind, va_recv hKc hPc (ci := 3) (q0 := 0) rfl rfl, zz_pre hKc hPc hDc hN hT hS hFc⟩ rfl rfl hl.1 rfl (lv_room (Nat.le_of_ble_eq_true rfl)) dX3_oneMore_2 ⟨(Nat.le_of_ble_eq_true rfl), (Nat.le_of_ble_eq_true rfl)⟩) hS (fun q _ h => hFc q h) hFc (fun r_1 u t H1 locs ht hvm hw hB hz1 hk1 hS => ?_)
  obtain ⟨hP1, hK1, hD1⟩ := hB
  rw [ht] at hP1
  have hK1 := va_K.moved hvm.symm hK1
  obtain ⟨hP, hD⟩ := va_join (wr := [(fw, .inl (f1, 30, .inr (.inl gw))), (fe, .inl (f2, 30, .inl ge)), (ff, .inl (f3, 150, .inl gf))]) (w1 := [(h0, .inr (3, [.ref fw, .ref fe, .ref ff, .int z]))]) hP hD [0] [1, 2, 3] rfl rfl (by decide) (by decide) hk1 hFc hP1 hD1
  have hK := (hK.sub (tys' := [(f1, .long), (f2, .int), (f3, .int)]) [0, 1, 2] rfl).app hK1
  generalize H1 = H at hP hS ⊢
  have hP : va_P (dC, dI) vwCl [(fw, .inl (f1, 30, .inr (.inl gw))), (fe, .inl (f2, 30, .inl ge)), (ff, .inl (f3, 150, .inl gf)), (h0, .inr (3, [.ref fw, .ref fe, .ref ff, .int z]))] H := hP
  have hD : va_D A [(fw, .inl (f1, 30, .inr (.inl gw))), (fe, .inl (f2, 30, .inl ge)), (ff, .inl (f3, 150, .inl gf)), (h0, .inr (3, [.ref fw, .ref fe, .ref ff, .int z]))] := hD
  have hK : va_K (dC, dI) vwCl [(f1, .long), (f2, .int), (f3, .int)] s := hK
  have hw_r_1 := hw
  try dsimp only at hw_r_1
  have hq_2 := hw
  refine lv_if_eq (tgt := 22) hx hb dX3_oneMore_5 (by decide) (fun c_3 => ?_) (fun c_3 => ?_)
  · have ic_3 : r_1.toInt = 0 := zi_eq c_3
    have hP9 := hP.sub (ws' := [(h0, .inr (3, [.ref fw, .ref fe, .ref ff, .int z])), (fw, .inl (f1, 30, .inr (.inl gw))), (fe, .inl (f2, 30, .inl ge)), (ff, .inl (f3, 150, .inl gf))]) [3, 0, 1, 2] rfl
    have hD9 := hD.sub (ws' := [(h0, .inr (3, [.ref fw, .ref fe, .ref ff, .int z])), (fw, .inl (f1, 30, .inr (.inl gw))), (fe, .inl (f2, 30, .inl ge)), (ff, .inl (f3, 150, .inl gf))]) [3, 0, 1, 2] (by decide) rfl
    have hK9 := hK.sub (tys' := [(f1, .long), (f2, .int), (f3, .int)]) [0, 1, 2] rfl
    exact W.vret hx hb hr (fun t ht hW => ⟨⟨(gf), rfl, trivial, by rw [ht]; exact hP9, va_K.moved hW.alike hK9, hD9⟩, hS.F ht⟩) hS.2.2 dX3_oneMore_22
  · have ic_3 : r_1.toInt ≠ 0 := zi_ne c_3
    refine lv_aload_n hx hb dX3_oneMore_8 rfl (lv_at hl 0 rfl) ?_
    refine va_get (D := (dC, dI)) (ci := 3) (v := .ref ff) (C := RX3) (T := TX3) (N := 4) hx hb hA zin_X3 hown hK hP 3 rfl rfl 2 (by decide) (hA _ wi_294) (fun _ h9 => h9) rfl dX3_oneMore_9 ?_
    refine lv_iload_n hx hb dX3_oneMore_12 rfl (lv_at hl 1 rfl) ?_
    refine lv_iconst (v := 5) hx hb dX3_oneMore_13 (by decide) ?_
    refine lv_imul hx hb dX3_oneMore_14 ?_
    refine lv_topi (fun x_4 ex_4 => ?_)
    have ix_4 : x_4.toInt = i.toInt * 5 := by rw [ex_4]; exact zi_mulc (by decide) (by omega) (by omega)
    refine lv_iload_n hx hb dX3_oneMore_15 rfl (lv_at hl 2 rfl) ?_
    refine lv_iadd hx hb dX3_oneMore_16 ?_
    refine lv_topi (fun x_5 ex_5 => ?_)
    have ix_5 : x_5.toInt = x_4.toInt + w.toInt := by rw [ex_5]; exact zi_addc rfl (by omega) (by omega)
    refine lv_dup2_11 hx hb dX3_oneMore_17 rfl rfl ?_
    refine va_iald hx hb hK hP 2 2 rfl rfl (vp_in_iff.mpr ⟨by omega, by omega⟩) dX3_oneMore_18 ?_
    refine lv_topi (fun x_6 ex_6 => ?_)
    refine lv_iconst (v := 1) hx hb dX3_oneMore_19 (by decide) ?_
    refine lv_iadd hx hb dX3_oneMore_20 ?_
    refine lv_topi (fun x_7 ex_7 => ?_)
    refine va_iast hx hb hK hP hD hS 2 2 rfl rfl (vp_in_iff.mpr ⟨by omega, by omega⟩) dX3_oneMore_21 (fun H locs hP hD hS => ?_)
    obtain ⟨f_8, ef_8⟩ : ∃ gz9 : Nat → Int32, gz9 = upd gf (Int32.toNatClampNeg x_5) x_7 := ⟨_, rfl⟩
    rw [← ef_8] at hP hD
    have hP : va_P (dC, dI) vwCl [(fw, .inl (f1, 30, .inr (.inl gw))), (fe, .inl (f2, 30, .inl ge)), (ff, .inl (f3, 150, .inl f_8)), (h0, .inr (3, [.ref fw, .ref fe, .ref ff, .int z]))] H := hP
    have hD : va_D A [(fw, .inl (f1, 30, .inr (.inl gw))), (fe, .inl (f2, 30, .inl ge)), (ff, .inl (f3, 150, .inl f_8)), (h0, .inr (3, [.ref fw, .ref fe, .ref ff, .int z]))] := hD
    have hP9 := hP.sub (ws' := [(h0, .inr (3, [.ref fw, .ref fe, .ref ff, .int z])), (fw, .inl (f1, 30, .inr (.inl gw))), (fe, .inl (f2, 30, .inl ge)), (ff, .inl (f3, 150, .inl f_8))]) [3, 0, 1, 2] rfl
    have hD9 := hD.sub (ws' := [(h0, .inr (3, [.ref fw, .ref fe, .ref ff, .int z])), (fw, .inl (f1, 30, .inr (.inl gw))), (fe, .inl (f2, 30, .inl ge)), (ff, .inl (f3, 150, .inl f_8))]) [3, 0, 1, 2] (by decide) rfl
    have hK9 := hK.sub (tys' := [(f1, .long), (f2, .int), (f3, .int)]) [0, 1, 2] rfl
    exact W.vret hx hb hr (fun t ht hW => ⟨⟨(f_8), rfl, trivial, by rw [ht]; exact hP9, va_K.moved hW.alike hK9, hD9⟩, hS.F ht⟩) hS.2.2 dX3_oneMore_22
