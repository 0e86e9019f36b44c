theorem wi_226 : Cond.methodLink RX0 3 objectInit ∈ zw := zw_in (List.mem_of_getElem? (i := 226) (by decide +kernel)) (by decide +kernel)
theorem wi_175 : Cond.methodLink RX2 3 objectInit ∈ zw := zw_in (List.mem_of_getElem? (i := 175) (by decide +kernel)) (by decide +kernel)
theorem wi_289 : Cond.methodLink RX3 3 objectInit ∈ zw := zw_in (List.mem_of_getElem? (i := 289) (by decide +kernel)) (by decide +kernel)
theorem wi_269 : Cond.methodLink RX4 3 objectInit ∈ zw := zw_in (List.mem_of_getElem? (i := 269) (by decide +kernel)) (by decide +kernel)
theorem wi_557 : Cond.methodLink RX8 3 objectInit ∈ zw := zw_in (List.mem_of_getElem? (i := 557) (by decide +kernel)) (by decide +kernel)
theorem wi_380 : Cond.methodLink RX6 3 objectInit ∈ zw := zw_in (List.mem_of_getElem? (i := 380) (by decide +kernel)) (by decide +kernel)
theorem wi_345 : Cond.methodLink RX10 3 objectInit ∈ zw := zw_in (List.mem_of_getElem? (i := 345) (by decide +kernel)) (by decide +kernel)
theorem dX0_init_0 : decode cX0_init 0 = .ok (.aload_n 0, 1) := by decide +kernel
theorem dX0_init_1 : decode cX0_init 1 = .ok (.invokespecial 3, 3) := by decide +kernel
theorem dX0_init_4 : decode cX0_init 4 = .ok (.aload_n 0, 1) := by decide +kernel
theorem dX0_init_5 : decode cX0_init 5 = .ok (.sipush 400, 3) := by decide +kernel
theorem dX0_init_8 : decode cX0_init 8 = .ok (.newarray .int, 2) := by decide +kernel
theorem dX0_init_10 : decode cX0_init 10 = .ok (.putfield 9, 3) := by decide +kernel
theorem dX0_init_13 : decode cX0_init 13 = .ok (.aload_n 0, 1) := by decide +kernel
theorem dX0_init_14 : decode cX0_init 14 = .ok (.sipush 400, 3) := by decide +kernel
theorem dX0_init_17 : decode cX0_init 17 = .ok (.newarray .int, 2) := by decide +kernel
theorem dX0_init_19 : decode cX0_init 19 = .ok (.putfield 15, 3) := by decide +kernel
theorem dX0_init_22 : decode cX0_init 22 = .ok (.aload_n 0, 1) := by decide +kernel
theorem dX0_init_23 : decode cX0_init 23 = .ok (.sipush 400, 3) := by decide +kernel
theorem dX0_init_26 : decode cX0_init 26 = .ok (.newarray .int, 2) := by decide +kernel
theorem dX0_init_28 : decode cX0_init 28 = .ok (.putfield 18, 3) := by decide +kernel
theorem dX0_init_31 : decode cX0_init 31 = .ok (.aload_n 0, 1) := by decide +kernel
theorem dX0_init_32 : decode cX0_init 32 = .ok (.sipush 400, 3) := by decide +kernel
theorem dX0_init_35 : decode cX0_init 35 = .ok (.newarray .int, 2) := by decide +kernel
theorem dX0_init_37 : decode cX0_init 37 = .ok (.putfield 21, 3) := by decide +kernel
theorem dX0_init_40 : decode cX0_init 40 = .ok (.aload_n 0, 1) := by decide +kernel
theorem dX0_init_41 : decode cX0_init 41 = .ok (.sipush 400, 3) := by decide +kernel
theorem dX0_init_44 : decode cX0_init 44 = .ok (.newarray .int, 2) := by decide +kernel
theorem dX0_init_46 : decode cX0_init 46 = .ok (.putfield 24, 3) := by decide +kernel
theorem dX0_init_49 : decode cX0_init 49 = .ok (.aload_n 0, 1) := by decide +kernel
theorem dX0_init_50 : decode cX0_init 50 = .ok (.sipush 400, 3) := by decide +kernel
theorem dX0_init_53 : decode cX0_init 53 = .ok (.newarray .int, 2) := by decide +kernel
theorem dX0_init_55 : decode cX0_init 55 = .ok (.putfield 27, 3) := by decide +kernel
theorem dX0_init_58 : decode cX0_init 58 = .ok (.aload_n 0, 1) := by decide +kernel
theorem dX0_init_59 : decode cX0_init 59 = .ok (.iconst 0, 1) := by decide +kernel
theorem dX0_init_60 : decode cX0_init 60 = .ok (.putfield 30, 3) := by decide +kernel
theorem dX0_init_63 : decode cX0_init 63 = .ok (.return_, 1) := by decide +kernel
theorem dX10_init_0 : decode cX10_init 0 = .ok (.aload_n 0, 1) := by decide +kernel
theorem dX10_init_1 : decode cX10_init 1 = .ok (.invokespecial 3, 3) := by decide +kernel
theorem dX10_init_4 : decode cX10_init 4 = .ok (.aload_n 0, 1) := by decide +kernel
theorem dX10_init_5 : decode cX10_init 5 = .ok (.sipush 2001, 3) := by decide +kernel
theorem dX10_init_8 : decode cX10_init 8 = .ok (.newarray .int, 2) := by decide +kernel
theorem dX10_init_10 : decode cX10_init 10 = .ok (.putfield 9, 3) := by decide +kernel
theorem dX10_init_13 : decode cX10_init 13 = .ok (.aload_n 0, 1) := by decide +kernel
theorem dX10_init_14 : decode cX10_init 14 = .ok (.sipush 2001, 3) := by decide +kernel
theorem dX10_init_17 : decode cX10_init 17 = .ok (.newarray .int, 2) := by decide +kernel
theorem dX10_init_19 : decode cX10_init 19 = .ok (.putfield 15, 3) := by decide +kernel
theorem dX10_init_22 : decode cX10_init 22 = .ok (.aload_n 0, 1) := by decide +kernel
theorem dX10_init_23 : decode cX10_init 23 = .ok (.sipush 2001, 3) := by decide +kernel
theorem dX10_init_26 : decode cX10_init 26 = .ok (.newarray .long, 2) := by decide +kernel
theorem dX10_init_28 : decode cX10_init 28 = .ok (.putfield 18, 3) := by decide +kernel
theorem dX10_init_31 : decode cX10_init 31 = .ok (.aload_n 0, 1) := by decide +kernel
theorem dX10_init_32 : decode cX10_init 32 = .ok (.iconst 0, 1) := by decide +kernel
theorem dX10_init_33 : decode cX10_init 33 = .ok (.putfield 22, 3) := by decide +kernel
theorem dX10_init_36 : decode cX10_init 36 = .ok (.aload_n 0, 1) := by decide +kernel
theorem dX10_init_37 : decode cX10_init 37 = .ok (.iconst 0, 1) := by decide +kernel
theorem dX10_init_38 : decode cX10_init 38 = .ok (.putfield 26, 3) := by decide +kernel
theorem dX10_init_41 : decode cX10_init 41 = .ok (.aload_n 0, 1) := by decide +kernel
theorem dX10_init_42 : decode cX10_init 42 = .ok (.sipush 256, 3) := by decide +kernel
theorem dX10_init_45 : decode cX10_init 45 = .ok (.putfield 29, 3) := by decide +kernel
theorem dX10_init_48 : decode cX10_init 48 = .ok (.aload_n 0, 1) := by decide +kernel
theorem dX10_init_49 : decode cX10_init 49 = .ok (.iconst 0, 1) := by decide +kernel
theorem dX10_init_50 : decode cX10_init 50 = .ok (.putfield 32, 3) := by decide +kernel
theorem dX10_init_53 : decode cX10_init 53 = .ok (.aload_n 0, 1) := by decide +kernel
theorem dX10_init_54 : decode cX10_init 54 = .ok (.lconst 0, 1) := by decide +kernel
theorem dX10_init_55 : decode cX10_init 55 = .ok (.putfield 35, 3) := by decide +kernel
theorem dX10_init_58 : decode cX10_init 58 = .ok (.return_, 1) := by decide +kernel
theorem dX2_init_0 : decode cX2_init 0 = .ok (.aload_n 0, 1) := by decide +kernel
theorem dX2_init_1 : decode cX2_init 1 = .ok (.invokespecial 3, 3) := by decide +kernel
theorem dX2_init_4 : decode cX2_init 4 = .ok (.aload_n 0, 1) := by decide +kernel
theorem dX2_init_5 : decode cX2_init 5 = .ok (.sipush 3000, 3) := by decide +kernel
theorem dX2_init_8 : decode cX2_init 8 = .ok (.newarray .int, 2) := by decide +kernel
theorem dX2_init_10 : decode cX2_init 10 = .ok (.putfield 9, 3) := by decide +kernel
theorem dX2_init_13 : decode cX2_init 13 = .ok (.aload_n 0, 1) := by decide +kernel
theorem dX2_init_14 : decode cX2_init 14 = .ok (.sipush 3000, 3) := by decide +kernel
theorem dX2_init_17 : decode cX2_init 17 = .ok (.newarray .int, 2) := by decide +kernel
theorem dX2_init_19 : decode cX2_init 19 = .ok (.putfield 15, 3) := by decide +kernel
theorem dX2_init_22 : decode cX2_init 22 = .ok (.aload_n 0, 1) := by decide +kernel
theorem dX2_init_23 : decode cX2_init 23 = .ok (.sipush 3000, 3) := by decide +kernel
theorem dX2_init_26 : decode cX2_init 26 = .ok (.newarray .int, 2) := by decide +kernel
theorem dX2_init_28 : decode cX2_init 28 = .ok (.putfield 18, 3) := by decide +kernel
theorem dX2_init_31 : decode cX2_init 31 = .ok (.aload_n 0, 1) := by decide +kernel
theorem dX2_init_32 : decode cX2_init 32 = .ok (.sipush 3000, 3) := by decide +kernel
theorem dX2_init_35 : decode cX2_init 35 = .ok (.newarray .int, 2) := by decide +kernel
theorem dX2_init_37 : decode cX2_init 37 = .ok (.putfield 21, 3) := by decide +kernel
theorem dX2_init_40 : decode cX2_init 40 = .ok (.aload_n 0, 1) := by decide +kernel
theorem dX2_init_41 : decode cX2_init 41 = .ok (.sipush 3000, 3) := by decide +kernel
theorem dX2_init_44 : decode cX2_init 44 = .ok (.newarray .int, 2) := by decide +kernel
theorem dX2_init_46 : decode cX2_init 46 = .ok (.putfield 24, 3) := by decide +kernel
theorem dX2_init_49 : decode cX2_init 49 = .ok (.aload_n 0, 1) := by decide +kernel
theorem dX2_init_50 : decode cX2_init 50 = .ok (.sipush 3000, 3) := by decide +kernel
theorem dX2_init_53 : decode cX2_init 53 = .ok (.newarray .int, 2) := by decide +kernel
theorem dX2_init_55 : decode cX2_init 55 = .ok (.putfield 27, 3) := by decide +kernel
theorem dX2_init_58 : decode cX2_init 58 = .ok (.aload_n 0, 1) := by decide +kernel
theorem dX2_init_59 : decode cX2_init 59 = .ok (.iconst 0, 1) := by decide +kernel
theorem dX2_init_60 : decode cX2_init 60 = .ok (.putfield 30, 3) := by decide +kernel
theorem dX2_init_63 : decode cX2_init 63 = .ok (.aload_n 0, 1) := by decide +kernel
theorem dX2_init_64 : decode cX2_init 64 = .ok (.iconst (-1), 1) := by decide +kernel
theorem dX2_init_65 : decode cX2_init 65 = .ok (.putfield 34, 3) := by decide +kernel
theorem dX2_init_68 : decode cX2_init 68 = .ok (.return_, 1) := by decide +kernel
theorem dX3_init_0 : decode cX3_init 0 = .ok (.aload_n 0, 1) := by decide +kernel
theorem dX3_init_1 : decode cX3_init 1 = .ok (.invokespecial 3, 3) := by decide +kernel
theorem dX3_init_4 : decode cX3_init 4 = .ok (.aload_n 0, 1) := by decide +kernel
theorem dX3_init_5 : decode cX3_init 5 = .ok (.bipush 30, 2) := by decide +kernel
theorem dX3_init_7 : decode cX3_init 7 = .ok (.newarray .long, 2) := by decide +kernel
theorem dX3_init_9 : decode cX3_init 9 = .ok (.putfield 9, 3) := by decide +kernel
theorem dX3_init_12 : decode cX3_init 12 = .ok (.aload_n 0, 1) := by decide +kernel
theorem dX3_init_13 : decode cX3_init 13 = .ok (.bipush 30, 2) := by decide +kernel
theorem dX3_init_15 : decode cX3_init 15 = .ok (.newarray .int, 2) := by decide +kernel
theorem dX3_init_17 : decode cX3_init 17 = .ok (.putfield 15, 3) := by decide +kernel
theorem dX3_init_20 : decode cX3_init 20 = .ok (.aload_n 0, 1) := by decide +kernel
theorem dX3_init_21 : decode cX3_init 21 = .ok (.sipush 150, 3) := by decide +kernel
theorem dX3_init_24 : decode cX3_init 24 = .ok (.newarray .int, 2) := by decide +kernel
theorem dX3_init_26 : decode cX3_init 26 = .ok (.putfield 19, 3) := by decide +kernel
theorem dX3_init_29 : decode cX3_init 29 = .ok (.aload_n 0, 1) := by decide +kernel
theorem dX3_init_30 : decode cX3_init 30 = .ok (.iconst 0, 1) := by decide +kernel
theorem dX3_init_31 : decode cX3_init 31 = .ok (.putfield 22, 3) := by decide +kernel
theorem dX3_init_34 : decode cX3_init 34 = .ok (.return_, 1) := by decide +kernel
theorem dX4_init_0 : decode cX4_init 0 = .ok (.aload_n 0, 1) := by decide +kernel
theorem dX4_init_1 : decode cX4_init 1 = .ok (.invokespecial 3, 3) := by decide +kernel
theorem dX4_init_4 : decode cX4_init 4 = .ok (.aload_n 0, 1) := by decide +kernel
theorem dX4_init_5 : decode cX4_init 5 = .ok (.bipush 20, 2) := by decide +kernel
theorem dX4_init_7 : decode cX4_init 7 = .ok (.newarray .long, 2) := by decide +kernel
theorem dX4_init_9 : decode cX4_init 9 = .ok (.putfield 9, 3) := by decide +kernel
theorem dX4_init_12 : decode cX4_init 12 = .ok (.aload_n 0, 1) := by decide +kernel
theorem dX4_init_13 : decode cX4_init 13 = .ok (.bipush 20, 2) := by decide +kernel
theorem dX4_init_15 : decode cX4_init 15 = .ok (.newarray .int, 2) := by decide +kernel
theorem dX4_init_17 : decode cX4_init 17 = .ok (.putfield 15, 3) := by decide +kernel
theorem dX4_init_20 : decode cX4_init 20 = .ok (.aload_n 0, 1) := by decide +kernel
theorem dX4_init_21 : decode cX4_init 21 = .ok (.iconst 0, 1) := by decide +kernel
theorem dX4_init_22 : decode cX4_init 22 = .ok (.putfield 19, 3) := by decide +kernel
theorem dX4_init_25 : decode cX4_init 25 = .ok (.return_, 1) := by decide +kernel
theorem dX6_init_0 : decode cX6_init 0 = .ok (.aload_n 0, 1) := by decide +kernel
theorem dX6_init_1 : decode cX6_init 1 = .ok (.invokespecial 3, 3) := by decide +kernel
theorem dX6_init_4 : decode cX6_init 4 = .ok (.aload_n 0, 1) := by decide +kernel
theorem dX6_init_5 : decode cX6_init 5 = .ok (.sipush 3000, 3) := by decide +kernel
theorem dX6_init_8 : decode cX6_init 8 = .ok (.newarray .int, 2) := by decide +kernel
theorem dX6_init_10 : decode cX6_init 10 = .ok (.putfield 9, 3) := by decide +kernel
theorem dX6_init_13 : decode cX6_init 13 = .ok (.return_, 1) := by decide +kernel
theorem dX8_init_0 : decode cX8_init 0 = .ok (.aload_n 0, 1) := by decide +kernel
theorem dX8_init_1 : decode cX8_init 1 = .ok (.invokespecial 3, 3) := by decide +kernel
theorem dX8_init_4 : decode cX8_init 4 = .ok (.aload_n 0, 1) := by decide +kernel
theorem dX8_init_5 : decode cX8_init 5 = .ok (.sipush 4000, 3) := by decide +kernel
theorem dX8_init_8 : decode cX8_init 8 = .ok (.newarray .byte, 2) := by decide +kernel
theorem dX8_init_10 : decode cX8_init 10 = .ok (.putfield 9, 3) := by decide +kernel
theorem dX8_init_13 : decode cX8_init 13 = .ok (.aload_n 0, 1) := by decide +kernel
theorem dX8_init_14 : decode cX8_init 14 = .ok (.iconst 0, 1) := by decide +kernel
theorem dX8_init_15 : decode cX8_init 15 = .ok (.putfield 15, 3) := by decide +kernel
theorem dX8_init_18 : decode cX8_init 18 = .ok (.aload_n 0, 1) := by decide +kernel
theorem dX8_init_19 : decode cX8_init 19 = .ok (.sipush 4000, 3) := by decide +kernel
theorem dX8_init_22 : decode cX8_init 22 = .ok (.newarray .byte, 2) := by decide +kernel
theorem dX8_init_24 : decode cX8_init 24 = .ok (.putfield 19, 3) := by decide +kernel
theorem dX8_init_27 : decode cX8_init 27 = .ok (.aload_n 0, 1) := by decide +kernel
theorem dX8_init_28 : decode cX8_init 28 = .ok (.iconst 0, 1) := by decide +kernel
theorem dX8_init_29 : decode cX8_init 29 = .ok (.putfield 22, 3) := by decide +kernel
theorem dX8_init_32 : decode cX8_init 32 = .ok (.aload_n 0, 1) := by decide +kernel
theorem dX8_init_33 : decode cX8_init 33 = .ok (.iconst 0, 1) := by decide +kernel
theorem dX8_init_34 : decode cX8_init 34 = .ok (.putfield 25, 3) := by decide +kernel
theorem dX8_init_37 : decode cX8_init 37 = .ok (.aload_n 0, 1) := by decide +kernel
theorem dX8_init_38 : decode cX8_init 38 = .ok (.sipush 2000, 3) := by decide +kernel
theorem dX8_init_41 : decode cX8_init 41 = .ok (.newarray .int, 2) := by decide +kernel
theorem dX8_init_43 : decode cX8_init 43 = .ok (.putfield 29, 3) := by decide +kernel
theorem dX8_init_46 : decode cX8_init 46 = .ok (.aload_n 0, 1) := by decide +kernel
theorem dX8_init_47 : decode cX8_init 47 = .ok (.sipush 2000, 3) := by decide +kernel
theorem dX8_init_50 : decode cX8_init 50 = .ok (.newarray .int, 2) := by decide +kernel
theorem dX8_init_52 : decode cX8_init 52 = .ok (.putfield 33, 3) := by decide +kernel
theorem dX8_init_55 : decode cX8_init 55 = .ok (.aload_n 0, 1) := by decide +kernel
theorem dX8_init_56 : decode cX8_init 56 = .ok (.iconst 0, 1) := by decide +kernel
theorem dX8_init_57 : decode cX8_init 57 = .ok (.putfield 36, 3) := by decide +kernel
theorem dX8_init_60 : decode cX8_init 60 = .ok (.return_, 1) := by decide +kernel
set_option maxHeartbeats 4000000 in
set_option maxRecDepth 100000 in
theorem c_X0_init (l : Launch) (dC : Nat → ClassId) (dI : Nat → Nat → Nat) (aK aV : Nat → Nat) (h0 : Nat) (sz : Nat)  : Met l yX0_init (Cond.code yX0_init cX0_init 1 none :: zw) ({ frames := 8, cells := 6, slots := 2400, locals := 200 }) (va_Pc [.ref h0] (zP dC dI aK aV sz [] [(h0, .inr (0, [.null, .null, .null, .null, .null, .null, .int 0]))])) (va_Qv (fun u : Nat × Nat × Nat × Nat × Nat × Nat × ClassId × ClassId × ClassId × ClassId × ClassId × ClassId => match u with | (z_kind, z_next, z_before, z_leave, z_firstSlot, z_builds, k_kind, k_next, k_before, k_leave, k_firstSlot, k_builds) => True) (fun u => match u with | (z_kind, z_next, z_before, z_leave, z_firstSlot, z_builds, k_kind, k_next, k_before, k_leave, k_firstSlot, k_builds) => zQ dC dI (va_A [(h0, .inr (0, [.null, .null, .null, .null, .null, .null, .int 0]))] sz) [(k_kind, .int), (k_next, .int), (k_before, .int), (k_leave, .int), (k_firstSlot, .int), (k_builds, .int)] [(h0, .inr (0, [.ref z_kind, .ref z_next, .ref z_before, .ref z_leave, .ref z_firstSlot, .ref z_builds, .int 0])), (z_kind, .inl (k_kind, 400, .inl (fun _ => 0))), (z_next, .inl (k_next, 400, .inl (fun _ => 0))), (z_before, .inl (k_before, 400, .inl (fun _ => 0))), (z_leave, .inl (k_leave, 400, .inl (fun _ => 0))), (z_firstSlot, .inl (k_firstSlot, 400, .inl (fun _ => 0))), (z_builds, .inl (k_builds, 400, .inl (fun _ => 0)))]) (va_A [(h0, .inr (0, [.null, .null, .null, .null, .null, .null, .int 0]))] sz)) 6 2400 (va_A [(h0, .inr (0, [.null, .null, .null, .null, .null, .null, .int 0]))] sz) := by
  refine Met.ofW (cc := cX0_init) (maxL := 1) (ret := none) (by decide) rfl ?_
  intro p e s m args below meth c s₁ B hml hv
  obtain ⟨rfl, hsz, hP, hK, hD0, hN, hT⟩ := hv
  have hx := B.exec
  have hb := B.bytes
  have hr := B.returns
  have hts := atoms_spec (ws := Cond.code yX0_init cX0_init 1 none :: zw) B.pre
  have hA : ∀ w ∈ zw, w.before _ s = true := fun w h => hts w (List.mem_cons_of_mem _ h)
  have hown : s.vm.findClass RX0 = some m.cls := findClass_of_methodNamed B.named
  have hlocks := B.notSynchronized
  have hin : meth.name = "<init>" := (name_of_methodNamed B.named B.method).1
  subst hsz
  have hD := hD0.self (sz := s.heap.size)
  generalize hAe : va_A [(h0, .inr (0, [.null, .null, .null, .null, .null, .null, .int 0]))] s.heap.size = A at hD hT ⊢
  have hAA : ∀ q : Nat, s.heap.size ≤ q → A q := fun q h => by rw [← hAe]; exact Or.inr h
  have hS : va_S A s.heap s.heap [] := va_S.rf
  have hl := lv_entry ([.ref h0]) (n := 1) (Nat.le_of_ble_eq_true rfl)
  rw [lg_entry_eq]
  generalize (lg_sl ([.ref h0]) ++ List.replicate (1 - (lg_sl ([.ref h0])).length) Slot.unset).toArray = ls at hl ⊢
  have hl : lv_has ls 1 [(0, .ref h0)] := hl
  refine lv_aload_n hx hb dX0_init_0 rfl (lv_at hl 0 rfl) ?_
  refine W.objInit hx hb hown (hA _ wi_226) (hA _ wi_162) (hA _ wi_163) rfl (by rw [hml]; exact hl.1) rfl dX0_init_1 (Nat.le_of_ble_eq_true rfl) (Nat.le_of_ble_eq_true rfl) ?_
  refine W.eq (g2 := F0 m 4 ls []) rfl ?_
  refine lv_aload_n hx hb dX0_init_4 rfl (lv_at hl 0 rfl) ?_
  refine lv_sipush (v := 400) hx hb dX0_init_5 (by decide) ?_
  refine va_newa (atype := .int) (ty := .int) (a0 := (400, .inl (fun _ => 0))) (N' := 400) hx hb (hA _ wi_220) rfl hK hP hD hS hAA (fun _ => rfl) (by decide) (by decide) (by decide) (Nat.le_of_ble_eq_true rfl) (Nat.le_of_ble_eq_true rfl) dX0_init_8 (fun q_1 cA_2 H hK hP hD hS => ?_)
  have hP : va_P (dC, dI) vwCl [(h0, .inr (0, [.null, .null, .null, .null, .null, .null, .int 0])), (q_1, .inl (cA_2, 400, .inl (fun _ => 0)))] H := hP
  have hD : va_D A [(h0, .inr (0, [.null, .null, .null, .null, .null, .null, .int 0])), (q_1, .inl (cA_2, 400, .inl (fun _ => 0)))] := hD
  have hK : va_K (dC, dI) vwCl [(cA_2, .int)] s := hK
  refine W.widen (k := 1) (n := 400) (Nat.le_of_ble_eq_true rfl) (Nat.le_of_ble_eq_true rfl) ?_
  refine va_putF (D := (dC, dI)) (ci := 0) (v := .ref q_1) (ty := .array .int) (C := RX0) (T := TX0) (N := 7) hx hb hA zin_X0 tyX0 tyX0_ok nmX0 hown hK hP hD hS 0 rfl rfl 0 (by decide) (hA _ wi_227) (fun _ h9 => h9) rfl hin rfl (by decide +kernel) rfl rfl (Nat.le_of_ble_eq_true rfl) dX0_init_10 (fun H locs hP hD hS => ?_)
  have hP : va_P (dC, dI) vwCl [(h0, .inr (0, [.ref q_1, .null, .null, .null, .null, .null, .int 0])), (q_1, .inl (cA_2, 400, .inl (fun _ => 0)))] H := hP
  have hD : va_D A [(h0, .inr (0, [.ref q_1, .null, .null, .null, .null, .null, .int 0])), (q_1, .inl (cA_2, 400, .inl (fun _ => 0)))] := hD
  refine lv_aload_n hx hb dX0_init_13 rfl (lv_at hl 0 rfl) ?_
  refine lv_sipush (v := 400) hx hb dX0_init_14 (by decide) ?_
  refine va_newa (atype := .int) (ty := .int) (a0 := (400, .inl (fun _ => 0))) (N' := 400) hx hb (hA _ wi_220) rfl hK hP hD hS hAA (fun _ => rfl) (by decide) (by decide) (by decide) (Nat.le_of_ble_eq_true rfl) (Nat.le_of_ble_eq_true rfl) dX0_init_17 (fun q_3 cA_4 H hK hP hD hS => ?_)
  have hP : va_P (dC, dI) vwCl [(h0, .inr (0, [.ref q_1, .null, .null, .null, .null, .null, .int 0])), (q_1, .inl (cA_2, 400, .inl (fun _ => 0))), (q_3, .inl (cA_4, 400, .inl (fun _ => 0)))] H := hP
  have hD : va_D A [(h0, .inr (0, [.ref q_1, .null, .null, .null, .null, .null, .int 0])), (q_1, .inl (cA_2, 400, .inl (fun _ => 0))), (q_3, .inl (cA_4, 400, .inl (fun _ => 0)))] := hD
  have hK : va_K (dC, dI) vwCl [(cA_2, .int), (cA_4, .int)] s := hK
  refine W.widen (k := 2) (n := 800) (Nat.le_of_ble_eq_true rfl) (Nat.le_of_ble_eq_true rfl) ?_
  refine va_putF (D := (dC, dI)) (ci := 0) (v := .ref q_3) (ty := .array .int) (C := RX0) (T := TX0) (N := 7) hx hb hA zin_X0 tyX0 tyX0_ok nmX0 hown hK hP hD hS 0 rfl rfl 1 (by decide) (hA _ wi_231) (fun _ h9 => h9) rfl hin rfl (by decide +kernel) rfl rfl (Nat.le_of_ble_eq_true rfl) dX0_init_19 (fun H locs hP hD hS => ?_)
  have hP : va_P (dC, dI) vwCl [(h0, .inr (0, [.ref q_1, .ref q_3, .null, .null, .null, .null, .int 0])), (q_1, .inl (cA_2, 400, .inl (fun _ => 0))), (q_3, .inl (cA_4, 400, .inl (fun _ => 0)))] H := hP
  have hD : va_D A [(h0, .inr (0, [.ref q_1, .ref q_3, .null, .null, .null, .null, .int 0])), (q_1, .inl (cA_2, 400, .inl (fun _ => 0))), (q_3, .inl (cA_4, 400, .inl (fun _ => 0)))] := hD
  refine lv_aload_n hx hb dX0_init_22 rfl (lv_at hl 0 rfl) ?_
  refine lv_sipush (v := 400) hx hb dX0_init_23 (by decide) ?_
  refine va_newa (atype := .int) (ty := .int) (a0 := (400, .inl (fun _ => 0))) (N' := 400) hx hb (hA _ wi_220) rfl hK hP hD hS hAA (fun _ => rfl) (by decide) (by decide) (by decide) (Nat.le_of_ble_eq_true rfl) (Nat.le_of_ble_eq_true rfl) dX0_init_26 (fun q_5 cA_6 H hK hP hD hS => ?_)
  have hP : va_P (dC, dI) vwCl [(h0, .inr (0, [.ref q_1, .ref q_3, .null, .null, .null, .null, .int 0])), (q_1, .inl (cA_2, 400, .inl (fun _ => 0))), (q_3, .inl (cA_4, 400, .inl (fun _ => 0))), (q_5, .inl (cA_6, 400, .inl (fun _ => 0)))] H := hP
  have hD : va_D A [(h0, .inr (0, [.ref q_1, .ref q_3, .null, .null, .null, .null, .int 0])), (q_1, .inl (cA_2, 400, .inl (fun _ => 0))), (q_3, .inl (cA_4, 400, .inl (fun _ => 0))), (q_5, .inl (cA_6, 400, .inl (fun _ => 0)))] := hD
  have hK : va_K (dC, dI) vwCl [(cA_2, .int), (cA_4, .int), (cA_6, .int)] s := hK
  refine W.widen (k := 3) (n := 1200) (Nat.le_of_ble_eq_true rfl) (Nat.le_of_ble_eq_true rfl) ?_
  refine va_putF (D := (dC, dI)) (ci := 0) (v := .ref q_5) (ty := .array .int) (C := RX0) (T := TX0) (N := 7) hx hb hA zin_X0 tyX0 tyX0_ok nmX0 hown hK hP hD hS 0 rfl rfl 2 (by decide) (hA _ wi_235) (fun _ h9 => h9) rfl hin rfl (by decide +kernel) rfl rfl (Nat.le_of_ble_eq_true rfl) dX0_init_28 (fun H locs hP hD hS => ?_)
  have hP : va_P (dC, dI) vwCl [(h0, .inr (0, [.ref q_1, .ref q_3, .ref q_5, .null, .null, .null, .int 0])), (q_1, .inl (cA_2, 400, .inl (fun _ => 0))), (q_3, .inl (cA_4, 400, .inl (fun _ => 0))), (q_5, .inl (cA_6, 400, .inl (fun _ => 0)))] H := hP
  have hD : va_D A [(h0, .inr (0, [.ref q_1, .ref q_3, .ref q_5, .null, .null, .null, .int 0])), (q_1, .inl (cA_2, 400, .inl (fun _ => 0))), (q_3, .inl (cA_4, 400, .inl (fun _ => 0))), (q_5, .inl (cA_6, 400, .inl (fun _ => 0)))] := hD
  refine lv_aload_n hx hb dX0_init_31 rfl (lv_at hl 0 rfl) ?_
  refine lv_sipush (v := 400) hx hb dX0_init_32 (by decide) ?_
  refine va_newa (atype := .int) (ty := .int) (a0 := (400, .inl (fun _ => 0))) (N' := 400) hx hb (hA _ wi_220) rfl hK hP hD hS hAA (fun _ => rfl) (by decide) (by decide) (by decide) (Nat.le_of_ble_eq_true rfl) (Nat.le_of_ble_eq_true rfl) dX0_init_35 (fun q_7 cA_8 H hK hP hD hS => ?_)
  have hP : va_P (dC, dI) vwCl [(h0, .inr (0, [.ref q_1, .ref q_3, .ref q_5, .null, .null, .null, .int 0])), (q_1, .inl (cA_2, 400, .inl (fun _ => 0))), (q_3, .inl (cA_4, 400, .inl (fun _ => 0))), (q_5, .inl (cA_6, 400, .inl (fun _ => 0))), (q_7, .inl (cA_8, 400, .inl (fun _ => 0)))] H := hP
  have hD : va_D A [(h0, .inr (0, [.ref q_1, .ref q_3, .ref q_5, .null, .null, .null, .int 0])), (q_1, .inl (cA_2, 400, .inl (fun _ => 0))), (q_3, .inl (cA_4, 400, .inl (fun _ => 0))), (q_5, .inl (cA_6, 400, .inl (fun _ => 0))), (q_7, .inl (cA_8, 400, .inl (fun _ => 0)))] := hD
  have hK : va_K (dC, dI) vwCl [(cA_2, .int), (cA_4, .int), (cA_6, .int), (cA_8, .int)] s := hK
  refine W.widen (k := 4) (n := 1600) (Nat.le_of_ble_eq_true rfl) (Nat.le_of_ble_eq_true rfl) ?_
  refine va_putF (D := (dC, dI)) (ci := 0) (v := .ref q_7) (ty := .array .int) (C := RX0) (T := TX0) (N := 7) hx hb hA zin_X0 tyX0 tyX0_ok nmX0 hown hK hP hD hS 0 rfl rfl 3 (by decide) (hA _ wi_239) (fun _ h9 => h9) rfl hin rfl (by decide +kernel) rfl rfl (Nat.le_of_ble_eq_true rfl) dX0_init_37 (fun H locs hP hD hS => ?_)
  have hP : va_P (dC, dI) vwCl [(h0, .inr (0, [.ref q_1, .ref q_3, .ref q_5, .ref q_7, .null, .null, .int 0])), (q_1, .inl (cA_2, 400, .inl (fun _ => 0))), (q_3, .inl (cA_4, 400, .inl (fun _ => 0))), (q_5, .inl (cA_6, 400, .inl (fun _ => 0))), (q_7, .inl (cA_8, 400, .inl (fun _ => 0)))] H := hP
  have hD : va_D A [(h0, .inr (0, [.ref q_1, .ref q_3, .ref q_5, .ref q_7, .null, .null, .int 0])), (q_1, .inl (cA_2, 400, .inl (fun _ => 0))), (q_3, .inl (cA_4, 400, .inl (fun _ => 0))), (q_5, .inl (cA_6, 400, .inl (fun _ => 0))), (q_7, .inl (cA_8, 400, .inl (fun _ => 0)))] := hD
  refine lv_aload_n hx hb dX0_init_40 rfl (lv_at hl 0 rfl) ?_
  refine lv_sipush (v := 400) hx hb dX0_init_41 (by decide) ?_
  refine va_newa (atype := .int) (ty := .int) (a0 := (400, .inl (fun _ => 0))) (N' := 400) hx hb (hA _ wi_220) rfl hK hP hD hS hAA (fun _ => rfl) (by decide) (by decide) (by decide) (Nat.le_of_ble_eq_true rfl) (Nat.le_of_ble_eq_true rfl) dX0_init_44 (fun q_9 cA_10 H hK hP hD hS => ?_)
  have hP : va_P (dC, dI) vwCl [(h0, .inr (0, [.ref q_1, .ref q_3, .ref q_5, .ref q_7, .null, .null, .int 0])), (q_1, .inl (cA_2, 400, .inl (fun _ => 0))), (q_3, .inl (cA_4, 400, .inl (fun _ => 0))), (q_5, .inl (cA_6, 400, .inl (fun _ => 0))), (q_7, .inl (cA_8, 400, .inl (fun _ => 0))), (q_9, .inl (cA_10, 400, .inl (fun _ => 0)))] H := hP
  have hD : va_D A [(h0, .inr (0, [.ref q_1, .ref q_3, .ref q_5, .ref q_7, .null, .null, .int 0])), (q_1, .inl (cA_2, 400, .inl (fun _ => 0))), (q_3, .inl (cA_4, 400, .inl (fun _ => 0))), (q_5, .inl (cA_6, 400, .inl (fun _ => 0))), (q_7, .inl (cA_8, 400, .inl (fun _ => 0))), (q_9, .inl (cA_10, 400, .inl (fun _ => 0)))] := hD
  have hK : va_K (dC, dI) vwCl [(cA_2, .int), (cA_4, .int), (cA_6, .int), (cA_8, .int), (cA_10, .int)] s := hK
  refine W.widen (k := 5) (n := 2000) (Nat.le_of_ble_eq_true rfl) (Nat.le_of_ble_eq_true rfl) ?_
  refine va_putF (D := (dC, dI)) (ci := 0) (v := .ref q_9) (ty := .array .int) (C := RX0) (T := TX0) (N := 7) hx hb hA zin_X0 tyX0 tyX0_ok nmX0 hown hK hP hD hS 0 rfl rfl 4 (by decide) (hA _ wi_241) (fun _ h9 => h9) rfl hin rfl (by decide +kernel) rfl rfl (Nat.le_of_ble_eq_true rfl) dX0_init_46 (fun H locs hP hD hS => ?_)
  have hP : va_P (dC, dI) vwCl [(h0, .inr (0, [.ref q_1, .ref q_3, .ref q_5, .ref q_7, .ref q_9, .null, .int 0])), (q_1, .inl (cA_2, 400, .inl (fun _ => 0))), (q_3, .inl (cA_4, 400, .inl (fun _ => 0))), (q_5, .inl (cA_6, 400, .inl (fun _ => 0))), (q_7, .inl (cA_8, 400, .inl (fun _ => 0))), (q_9, .inl (cA_10, 400, .inl (fun _ => 0)))] H := hP
  have hD : va_D A [(h0, .inr (0, [.ref q_1, .ref q_3, .ref q_5, .ref q_7, .ref q_9, .null, .int 0])), (q_1, .inl (cA_2, 400, .inl (fun _ => 0))), (q_3, .inl (cA_4, 400, .inl (fun _ => 0))), (q_5, .inl (cA_6, 400, .inl (fun _ => 0))), (q_7, .inl (cA_8, 400, .inl (fun _ => 0))), (q_9, .inl (cA_10, 400, .inl (fun _ => 0)))] := hD
  refine lv_aload_n hx hb dX0_init_49 rfl (lv_at hl 0 rfl) ?_
  refine lv_sipush (v := 400) hx hb dX0_init_50 (by decide) ?_
  refine va_newa (atype := .int) (ty := .int) (a0 := (400, .inl (fun _ => 0))) (N' := 400) hx hb (hA _ wi_220) rfl hK hP hD hS hAA (fun _ => rfl) (by decide) (by decide) (by decide) (Nat.le_of_ble_eq_true rfl) (Nat.le_of_ble_eq_true rfl) dX0_init_53 (fun q_11 cA_12 H hK hP hD hS => ?_)
  have hP : va_P (dC, dI) vwCl [(h0, .inr (0, [.ref q_1, .ref q_3, .ref q_5, .ref q_7, .ref q_9, .null, .int 0])), (q_1, .inl (cA_2, 400, .inl (fun _ => 0))), (q_3, .inl (cA_4, 400, .inl (fun _ => 0))), (q_5, .inl (cA_6, 400, .inl (fun _ => 0))), (q_7, .inl (cA_8, 400, .inl (fun _ => 0))), (q_9, .inl (cA_10, 400, .inl (fun _ => 0))), (q_11, .inl (cA_12, 400, .inl (fun _ => 0)))] H := hP
  have hD : va_D A [(h0, .inr (0, [.ref q_1, .ref q_3, .ref q_5, .ref q_7, .ref q_9, .null, .int 0])), (q_1, .inl (cA_2, 400, .inl (fun _ => 0))), (q_3, .inl (cA_4, 400, .inl (fun _ => 0))), (q_5, .inl (cA_6, 400, .inl (fun _ => 0))), (q_7, .inl (cA_8, 400, .inl (fun _ => 0))), (q_9, .inl (cA_10, 400, .inl (fun _ => 0))), (q_11, .inl (cA_12, 400, .inl (fun _ => 0)))] := hD
  have hK : va_K (dC, dI) vwCl [(cA_2, .int), (cA_4, .int), (cA_6, .int), (cA_8, .int), (cA_10, .int), (cA_12, .int)] s := hK
  refine W.widen (k := 6) (n := 2400) (Nat.le_of_ble_eq_true rfl) (Nat.le_of_ble_eq_true rfl) ?_
  refine va_putF (D := (dC, dI)) (ci := 0) (v := .ref q_11) (ty := .array .int) (C := RX0) (T := TX0) (N := 7) hx hb hA zin_X0 tyX0 tyX0_ok nmX0 hown hK hP hD hS 0 rfl rfl 5 (by decide) (hA _ wi_244) (fun _ h9 => h9) rfl hin rfl (by decide +kernel) rfl rfl (Nat.le_of_ble_eq_true rfl) dX0_init_55 (fun H locs hP hD hS => ?_)
  have hP : va_P (dC, dI) vwCl [(h0, .inr (0, [.ref q_1, .ref q_3, .ref q_5, .ref q_7, .ref q_9, .ref q_11, .int 0])), (q_1, .inl (cA_2, 400, .inl (fun _ => 0))), (q_3, .inl (cA_4, 400, .inl (fun _ => 0))), (q_5, .inl (cA_6, 400, .inl (fun _ => 0))), (q_7, .inl (cA_8, 400, .inl (fun _ => 0))), (q_9, .inl (cA_10, 400, .inl (fun _ => 0))), (q_11, .inl (cA_12, 400, .inl (fun _ => 0)))] H := hP
  have hD : va_D A [(h0, .inr (0, [.ref q_1, .ref q_3, .ref q_5, .ref q_7, .ref q_9, .ref q_11, .int 0])), (q_1, .inl (cA_2, 400, .inl (fun _ => 0))), (q_3, .inl (cA_4, 400, .inl (fun _ => 0))), (q_5, .inl (cA_6, 400, .inl (fun _ => 0))), (q_7, .inl (cA_8, 400, .inl (fun _ => 0))), (q_9, .inl (cA_10, 400, .inl (fun _ => 0))), (q_11, .inl (cA_12, 400, .inl (fun _ => 0)))] := hD
  refine lv_aload_n hx hb dX0_init_58 rfl (lv_at hl 0 rfl) ?_
  refine lv_iconst (v := 0) hx hb dX0_init_59 (by decide) ?_
  refine va_put (D := (dC, dI)) (ci := 0) (v := .int 0) (ty := .int) (C := RX0) (T := TX0) (N := 7) hx hb hA zin_X0 tyX0 tyX0_ok nmX0 hown hK hP hD hS 0 rfl rfl 6 (by decide) (hA _ wi_247) (fun _ h9 => h9) rfl (by decide +kernel) rfl rfl (Nat.le_of_ble_eq_true rfl) dX0_init_60 (fun H locs hP hD hS => ?_)
  have hP : va_P (dC, dI) vwCl [(h0, .inr (0, [.ref q_1, .ref q_3, .ref q_5, .ref q_7, .ref q_9, .ref q_11, .int 0])), (q_1, .inl (cA_2, 400, .inl (fun _ => 0))), (q_3, .inl (cA_4, 400, .inl (fun _ => 0))), (q_5, .inl (cA_6, 400, .inl (fun _ => 0))), (q_7, .inl (cA_8, 400, .inl (fun _ => 0))), (q_9, .inl (cA_10, 400, .inl (fun _ => 0))), (q_11, .inl (cA_12, 400, .inl (fun _ => 0)))] H := hP
  have hD : va_D A [(h0, .inr (0, [.ref q_1, .ref q_3, .ref q_5, .ref q_7, .ref q_9, .ref q_11, .int 0])), (q_1, .inl (cA_2, 400, .inl (fun _ => 0))), (q_3, .inl (cA_4, 400, .inl (fun _ => 0))), (q_5, .inl (cA_6, 400, .inl (fun _ => 0))), (q_7, .inl (cA_8, 400, .inl (fun _ => 0))), (q_9, .inl (cA_10, 400, .inl (fun _ => 0))), (q_11, .inl (cA_12, 400, .inl (fun _ => 0)))] := hD
  have hP9 := hP.sub (ws' := [(h0, .inr (0, [.ref q_1, .ref q_3, .ref q_5, .ref q_7, .ref q_9, .ref q_11, .int 0])), (q_1, .inl (cA_2, 400, .inl (fun _ => 0))), (q_3, .inl (cA_4, 400, .inl (fun _ => 0))), (q_5, .inl (cA_6, 400, .inl (fun _ => 0))), (q_7, .inl (cA_8, 400, .inl (fun _ => 0))), (q_9, .inl (cA_10, 400, .inl (fun _ => 0))), (q_11, .inl (cA_12, 400, .inl (fun _ => 0)))]) [0, 1, 2, 3, 4, 5, 6] rfl
  have hD9 := hD.sub (ws' := [(h0, .inr (0, [.ref q_1, .ref q_3, .ref q_5, .ref q_7, .ref q_9, .ref q_11, .int 0])), (q_1, .inl (cA_2, 400, .inl (fun _ => 0))), (q_3, .inl (cA_4, 400, .inl (fun _ => 0))), (q_5, .inl (cA_6, 400, .inl (fun _ => 0))), (q_7, .inl (cA_8, 400, .inl (fun _ => 0))), (q_9, .inl (cA_10, 400, .inl (fun _ => 0))), (q_11, .inl (cA_12, 400, .inl (fun _ => 0)))]) [0, 1, 2, 3, 4, 5, 6] (by decide) rfl
  have hK9 := hK.sub (tys' := [(cA_2, .int), (cA_4, .int), (cA_6, .int), (cA_8, .int), (cA_10, .int), (cA_12, .int)]) [0, 1, 2, 3, 4, 5] rfl
  exact W.vret hx hb hr (fun t ht hW => ⟨⟨(q_1, q_3, q_5, q_7, q_9, q_11, cA_2, cA_4, cA_6, cA_8, cA_10, cA_12), rfl, trivial, by rw [ht]; exact hP9, va_K.moved hW.alike hK9, hD9⟩, hS.F ht⟩) hS.2.2 dX0_init_63
set_option maxHeartbeats 4000000 in
set_option maxRecDepth 100000 in
theorem c_X2_init (l : Launch) (dC : Nat → ClassId) (dI : Nat → Nat → Nat) (aK aV : Nat → Nat) (h0 : Nat) (sz : Nat)  : Met l yX2_init (Cond.code yX2_init cX2_init 1 none :: zw) ({ frames := 8, cells := 6, slots := 18000, locals := 200 }) (va_Pc [.ref h0] (zP dC dI aK aV sz [] [(h0, .inr (2, [.null, .null, .null, .null, .null, .null, .int 0, .int 0]))])) (va_Qv (fun u : Nat × Nat × Nat × Nat × Nat × Nat × ClassId × ClassId × ClassId × ClassId × ClassId × ClassId => match u with | (z_op, z_a, z_b, z_place, z_next, z_needed, k_op, k_a, k_b, k_place, k_next, k_needed) => True) (fun u => match u with | (z_op, z_a, z_b, z_place, z_next, z_needed, k_op, k_a, k_b, k_place, k_next, k_needed) => zQ dC dI (va_A [(h0, .inr (2, [.null, .null, .null, .null, .null, .null, .int 0, .int 0]))] sz) [(k_op, .int), (k_a, .int), (k_b, .int), (k_place, .int), (k_next, .int), (k_needed, .int)] [(h0, .inr (2, [.ref z_op, .ref z_a, .ref z_b, .ref z_place, .ref z_next, .ref z_needed, .int 0, .int (-1)])), (z_op, .inl (k_op, 3000, .inl (fun _ => 0))), (z_a, .inl (k_a, 3000, .inl (fun _ => 0))), (z_b, .inl (k_b, 3000, .inl (fun _ => 0))), (z_place, .inl (k_place, 3000, .inl (fun _ => 0))), (z_next, .inl (k_next, 3000, .inl (fun _ => 0))), (z_needed, .inl (k_needed, 3000, .inl (fun _ => 0)))]) (va_A [(h0, .inr (2, [.null, .null, .null, .null, .null, .null, .int 0, .int 0]))] sz)) 6 18000 (va_A [(h0, .inr (2, [.null, .null, .null, .null, .null, .null, .int 0, .int 0]))] sz) := by
  refine Met.ofW (cc := cX2_init) (maxL := 1) (ret := none) (by decide) rfl ?_
  intro p e s m args below meth c s₁ B hml hv
  obtain ⟨rfl, hsz, hP, hK, hD0, hN, hT⟩ := hv
  have hx := B.exec
  have hb := B.bytes
  have hr := B.returns
  have hts := atoms_spec (ws := Cond.code yX2_init cX2_init 1 none :: zw) B.pre
  have hA : ∀ w ∈ zw, w.before _ s = true := fun w h => hts w (List.mem_cons_of_mem _ h)
  have hown : s.vm.findClass RX2 = some m.cls := findClass_of_methodNamed B.named
  have hlocks := B.notSynchronized
  have hin : meth.name = "<init>" := (name_of_methodNamed B.named B.method).1
  subst hsz
  have hD := hD0.self (sz := s.heap.size)
  generalize hAe : va_A [(h0, .inr (2, [.null, .null, .null, .null, .null, .null, .int 0, .int 0]))] s.heap.size = A at hD hT ⊢
  have hAA : ∀ q : Nat, s.heap.size ≤ q → A q := fun q h => by rw [← hAe]; exact Or.inr h
  have hS : va_S A s.heap s.heap [] := va_S.rf
  have hl := lv_entry ([.ref h0]) (n := 1) (Nat.le_of_ble_eq_true rfl)
  rw [lg_entry_eq]
  generalize (lg_sl ([.ref h0]) ++ List.replicate (1 - (lg_sl ([.ref h0])).length) Slot.unset).toArray = ls at hl ⊢
  have hl : lv_has ls 1 [(0, .ref h0)] := hl
  refine lv_aload_n hx hb dX2_init_0 rfl (lv_at hl 0 rfl) ?_
  refine W.objInit hx hb hown (hA _ wi_175) (hA _ wi_162) (hA _ wi_163) rfl (by rw [hml]; exact hl.1) rfl dX2_init_1 (Nat.le_of_ble_eq_true rfl) (Nat.le_of_ble_eq_true rfl) ?_
  refine W.eq (g2 := F0 m 4 ls []) rfl ?_
  refine lv_aload_n hx hb dX2_init_4 rfl (lv_at hl 0 rfl) ?_
  refine lv_sipush (v := 3000) hx hb dX2_init_5 (by decide) ?_
  refine va_newa (atype := .int) (ty := .int) (a0 := (3000, .inl (fun _ => 0))) (N' := 3000) hx hb (hA _ wi_220) rfl hK hP hD hS hAA (fun _ => rfl) (by decide) (by decide) (by decide) (Nat.le_of_ble_eq_true rfl) (Nat.le_of_ble_eq_true rfl) dX2_init_8 (fun q_1 cA_2 H hK hP hD hS => ?_)
  have hP : va_P (dC, dI) vwCl [(h0, .inr (2, [.null, .null, .null, .null, .null, .null, .int 0, .int 0])), (q_1, .inl (cA_2, 3000, .inl (fun _ => 0)))] H := hP
  have hD : va_D A [(h0, .inr (2, [.null, .null, .null, .null, .null, .null, .int 0, .int 0])), (q_1, .inl (cA_2, 3000, .inl (fun _ => 0)))] := hD
  have hK : va_K (dC, dI) vwCl [(cA_2, .int)] s := hK
  refine W.widen (k := 1) (n := 3000) (Nat.le_of_ble_eq_true rfl) (Nat.le_of_ble_eq_true rfl) ?_
  refine va_putF (D := (dC, dI)) (ci := 2) (v := .ref q_1) (ty := .array .int) (C := RX2) (T := TX2) (N := 8) hx hb hA zin_X2 tyX2 tyX2_ok nmX2 hown hK hP hD hS 0 rfl rfl 0 (by decide) (hA _ wi_176) (fun _ h9 => h9) rfl hin rfl (by decide +kernel) rfl rfl (Nat.le_of_ble_eq_true rfl) dX2_init_10 (fun H locs hP hD hS => ?_)
  have hP : va_P (dC, dI) vwCl [(h0, .inr (2, [.ref q_1, .null, .null, .null, .null, .null, .int 0, .int 0])), (q_1, .inl (cA_2, 3000, .inl (fun _ => 0)))] H := hP
  have hD : va_D A [(h0, .inr (2, [.ref q_1, .null, .null, .null, .null, .null, .int 0, .int 0])), (q_1, .inl (cA_2, 3000, .inl (fun _ => 0)))] := hD
  refine lv_aload_n hx hb dX2_init_13 rfl (lv_at hl 0 rfl) ?_
  refine lv_sipush (v := 3000) hx hb dX2_init_14 (by decide) ?_
  refine va_newa (atype := .int) (ty := .int) (a0 := (3000, .inl (fun _ => 0))) (N' := 3000) hx hb (hA _ wi_220) rfl hK hP hD hS hAA (fun _ => rfl) (by decide) (by decide) (by decide) (Nat.le_of_ble_eq_true rfl) (Nat.le_of_ble_eq_true rfl) dX2_init_17 (fun q_3 cA_4 H hK hP hD hS => ?_)
  have hP : va_P (dC, dI) vwCl [(h0, .inr (2, [.ref q_1, .null, .null, .null, .null, .null, .int 0, .int 0])), (q_1, .inl (cA_2, 3000, .inl (fun _ => 0))), (q_3, .inl (cA_4, 3000, .inl (fun _ => 0)))] H := hP
  have hD : va_D A [(h0, .inr (2, [.ref q_1, .null, .null, .null, .null, .null, .int 0, .int 0])), (q_1, .inl (cA_2, 3000, .inl (fun _ => 0))), (q_3, .inl (cA_4, 3000, .inl (fun _ => 0)))] := hD
  have hK : va_K (dC, dI) vwCl [(cA_2, .int), (cA_4, .int)] s := hK
  refine W.widen (k := 2) (n := 6000) (Nat.le_of_ble_eq_true rfl) (Nat.le_of_ble_eq_true rfl) ?_
  refine va_putF (D := (dC, dI)) (ci := 2) (v := .ref q_3) (ty := .array .int) (C := RX2) (T := TX2) (N := 8) hx hb hA zin_X2 tyX2 tyX2_ok nmX2 hown hK hP hD hS 0 rfl rfl 1 (by decide) (hA _ wi_180) (fun _ h9 => h9) rfl hin rfl (by decide +kernel) rfl rfl (Nat.le_of_ble_eq_true rfl) dX2_init_19 (fun H locs hP hD hS => ?_)
  have hP : va_P (dC, dI) vwCl [(h0, .inr (2, [.ref q_1, .ref q_3, .null, .null, .null, .null, .int 0, .int 0])), (q_1, .inl (cA_2, 3000, .inl (fun _ => 0))), (q_3, .inl (cA_4, 3000, .inl (fun _ => 0)))] H := hP
  have hD : va_D A [(h0, .inr (2, [.ref q_1, .ref q_3, .null, .null, .null, .null, .int 0, .int 0])), (q_1, .inl (cA_2, 3000, .inl (fun _ => 0))), (q_3, .inl (cA_4, 3000, .inl (fun _ => 0)))] := hD
  refine lv_aload_n hx hb dX2_init_22 rfl (lv_at hl 0 rfl) ?_
  refine lv_sipush (v := 3000) hx hb dX2_init_23 (by decide) ?_
  refine va_newa (atype := .int) (ty := .int) (a0 := (3000, .inl (fun _ => 0))) (N' := 3000) hx hb (hA _ wi_220) rfl hK hP hD hS hAA (fun _ => rfl) (by decide) (by decide) (by decide) (Nat.le_of_ble_eq_true rfl) (Nat.le_of_ble_eq_true rfl) dX2_init_26 (fun q_5 cA_6 H hK hP hD hS => ?_)
  have hP : va_P (dC, dI) vwCl [(h0, .inr (2, [.ref q_1, .ref q_3, .null, .null, .null, .null, .int 0, .int 0])), (q_1, .inl (cA_2, 3000, .inl (fun _ => 0))), (q_3, .inl (cA_4, 3000, .inl (fun _ => 0))), (q_5, .inl (cA_6, 3000, .inl (fun _ => 0)))] H := hP
  have hD : va_D A [(h0, .inr (2, [.ref q_1, .ref q_3, .null, .null, .null, .null, .int 0, .int 0])), (q_1, .inl (cA_2, 3000, .inl (fun _ => 0))), (q_3, .inl (cA_4, 3000, .inl (fun _ => 0))), (q_5, .inl (cA_6, 3000, .inl (fun _ => 0)))] := hD
  have hK : va_K (dC, dI) vwCl [(cA_2, .int), (cA_4, .int), (cA_6, .int)] s := hK
  refine W.widen (k := 3) (n := 9000) (Nat.le_of_ble_eq_true rfl) (Nat.le_of_ble_eq_true rfl) ?_
  refine va_putF (D := (dC, dI)) (ci := 2) (v := .ref q_5) (ty := .array .int) (C := RX2) (T := TX2) (N := 8) hx hb hA zin_X2 tyX2 tyX2_ok nmX2 hown hK hP hD hS 0 rfl rfl 2 (by decide) (hA _ wi_184) (fun _ h9 => h9) rfl hin rfl (by decide +kernel) rfl rfl (Nat.le_of_ble_eq_true rfl) dX2_init_28 (fun H locs hP hD hS => ?_)
  have hP : va_P (dC, dI) vwCl [(h0, .inr (2, [.ref q_1, .ref q_3, .ref q_5, .null, .null, .null, .int 0, .int 0])), (q_1, .inl (cA_2, 3000, .inl (fun _ => 0))), (q_3, .inl (cA_4, 3000, .inl (fun _ => 0))), (q_5, .inl (cA_6, 3000, .inl (fun _ => 0)))] H := hP
  have hD : va_D A [(h0, .inr (2, [.ref q_1, .ref q_3, .ref q_5, .null, .null, .null, .int 0, .int 0])), (q_1, .inl (cA_2, 3000, .inl (fun _ => 0))), (q_3, .inl (cA_4, 3000, .inl (fun _ => 0))), (q_5, .inl (cA_6, 3000, .inl (fun _ => 0)))] := hD
  refine lv_aload_n hx hb dX2_init_31 rfl (lv_at hl 0 rfl) ?_
  refine lv_sipush (v := 3000) hx hb dX2_init_32 (by decide) ?_
  refine va_newa (atype := .int) (ty := .int) (a0 := (3000, .inl (fun _ => 0))) (N' := 3000) hx hb (hA _ wi_220) rfl hK hP hD hS hAA (fun _ => rfl) (by decide) (by decide) (by decide) (Nat.le_of_ble_eq_true rfl) (Nat.le_of_ble_eq_true rfl) dX2_init_35 (fun q_7 cA_8 H hK hP hD hS => ?_)
  have hP : va_P (dC, dI) vwCl [(h0, .inr (2, [.ref q_1, .ref q_3, .ref q_5, .null, .null, .null, .int 0, .int 0])), (q_1, .inl (cA_2, 3000, .inl (fun _ => 0))), (q_3, .inl (cA_4, 3000, .inl (fun _ => 0))), (q_5, .inl (cA_6, 3000, .inl (fun _ => 0))), (q_7, .inl (cA_8, 3000, .inl (fun _ => 0)))] H := hP
  have hD : va_D A [(h0, .inr (2, [.ref q_1, .ref q_3, .ref q_5, .null, .null, .null, .int 0, .int 0])), (q_1, .inl (cA_2, 3000, .inl (fun _ => 0))), (q_3, .inl (cA_4, 3000, .inl (fun _ => 0))), (q_5, .inl (cA_6, 3000, .inl (fun _ => 0))), (q_7, .inl (cA_8, 3000, .inl (fun _ => 0)))] := hD
  have hK : va_K (dC, dI) vwCl [(cA_2, .int), (cA_4, .int), (cA_6, .int), (cA_8, .int)] s := hK
  refine W.widen (k := 4) (n := 12000) (Nat.le_of_ble_eq_true rfl) (Nat.le_of_ble_eq_true rfl) ?_
  refine va_putF (D := (dC, dI)) (ci := 2) (v := .ref q_7) (ty := .array .int) (C := RX2) (T := TX2) (N := 8) hx hb hA zin_X2 tyX2 tyX2_ok nmX2 hown hK hP hD hS 0 rfl rfl 3 (by decide) (hA _ wi_188) (fun _ h9 => h9) rfl hin rfl (by decide +kernel) rfl rfl (Nat.le_of_ble_eq_true rfl) dX2_init_37 (fun H locs hP hD hS => ?_)
  have hP : va_P (dC, dI) vwCl [(h0, .inr (2, [.ref q_1, .ref q_3, .ref q_5, .ref q_7, .null, .null, .int 0, .int 0])), (q_1, .inl (cA_2, 3000, .inl (fun _ => 0))), (q_3, .inl (cA_4, 3000, .inl (fun _ => 0))), (q_5, .inl (cA_6, 3000, .inl (fun _ => 0))), (q_7, .inl (cA_8, 3000, .inl (fun _ => 0)))] H := hP
  have hD : va_D A [(h0, .inr (2, [.ref q_1, .ref q_3, .ref q_5, .ref q_7, .null, .null, .int 0, .int 0])), (q_1, .inl (cA_2, 3000, .inl (fun _ => 0))), (q_3, .inl (cA_4, 3000, .inl (fun _ => 0))), (q_5, .inl (cA_6, 3000, .inl (fun _ => 0))), (q_7, .inl (cA_8, 3000, .inl (fun _ => 0)))] := hD
  refine lv_aload_n hx hb dX2_init_40 rfl (lv_at hl 0 rfl) ?_
  refine lv_sipush (v := 3000) hx hb dX2_init_41 (by decide) ?_
  refine va_newa (atype := .int) (ty := .int) (a0 := (3000, .inl (fun _ => 0))) (N' := 3000) hx hb (hA _ wi_220) rfl hK hP hD hS hAA (fun _ => rfl) (by decide) (by decide) (by decide) (Nat.le_of_ble_eq_true rfl) (Nat.le_of_ble_eq_true rfl) dX2_init_44 (fun q_9 cA_10 H hK hP hD hS => ?_)
  have hP : va_P (dC, dI) vwCl [(h0, .inr (2, [.ref q_1, .ref q_3, .ref q_5, .ref q_7, .null, .null, .int 0, .int 0])), (q_1, .inl (cA_2, 3000, .inl (fun _ => 0))), (q_3, .inl (cA_4, 3000, .inl (fun _ => 0))), (q_5, .inl (cA_6, 3000, .inl (fun _ => 0))), (q_7, .inl (cA_8, 3000, .inl (fun _ => 0))), (q_9, .inl (cA_10, 3000, .inl (fun _ => 0)))] H := hP
  have hD : va_D A [(h0, .inr (2, [.ref q_1, .ref q_3, .ref q_5, .ref q_7, .null, .null, .int 0, .int 0])), (q_1, .inl (cA_2, 3000, .inl (fun _ => 0))), (q_3, .inl (cA_4, 3000, .inl (fun _ => 0))), (q_5, .inl (cA_6, 3000, .inl (fun _ => 0))), (q_7, .inl (cA_8, 3000, .inl (fun _ => 0))), (q_9, .inl (cA_10, 3000, .inl (fun _ => 0)))] := hD
  have hK : va_K (dC, dI) vwCl [(cA_2, .int), (cA_4, .int), (cA_6, .int), (cA_8, .int), (cA_10, .int)] s := hK
  refine W.widen (k := 5) (n := 15000) (Nat.le_of_ble_eq_true rfl) (Nat.le_of_ble_eq_true rfl) ?_
  refine va_putF (D := (dC, dI)) (ci := 2) (v := .ref q_9) (ty := .array .int) (C := RX2) (T := TX2) (N := 8) hx hb hA zin_X2 tyX2 tyX2_ok nmX2 hown hK hP hD hS 0 rfl rfl 4 (by decide) (hA _ wi_191) (fun _ h9 => h9) rfl hin rfl (by decide +kernel) rfl rfl (Nat.le_of_ble_eq_true rfl) dX2_init_46 (fun H locs hP hD hS => ?_)
  have hP : va_P (dC, dI) vwCl [(h0, .inr (2, [.ref q_1, .ref q_3, .ref q_5, .ref q_7, .ref q_9, .null, .int 0, .int 0])), (q_1, .inl (cA_2, 3000, .inl (fun _ => 0))), (q_3, .inl (cA_4, 3000, .inl (fun _ => 0))), (q_5, .inl (cA_6, 3000, .inl (fun _ => 0))), (q_7, .inl (cA_8, 3000, .inl (fun _ => 0))), (q_9, .inl (cA_10, 3000, .inl (fun _ => 0)))] H := hP
  have hD : va_D A [(h0, .inr (2, [.ref q_1, .ref q_3, .ref q_5, .ref q_7, .ref q_9, .null, .int 0, .int 0])), (q_1, .inl (cA_2, 3000, .inl (fun _ => 0))), (q_3, .inl (cA_4, 3000, .inl (fun _ => 0))), (q_5, .inl (cA_6, 3000, .inl (fun _ => 0))), (q_7, .inl (cA_8, 3000, .inl (fun _ => 0))), (q_9, .inl (cA_10, 3000, .inl (fun _ => 0)))] := hD
  refine lv_aload_n hx hb dX2_init_49 rfl (lv_at hl 0 rfl) ?_
  refine lv_sipush (v := 3000) hx hb dX2_init_50 (by decide) ?_
  refine va_newa (atype := .int) (ty := .int) (a0 := (3000, .inl (fun _ => 0))) (N' := 3000) hx hb (hA _ wi_220) rfl hK hP hD hS hAA (fun _ => rfl) (by decide) (by decide) (by decide) (Nat.le_of_ble_eq_true rfl) (Nat.le_of_ble_eq_true rfl) dX2_init_53 (fun q_11 cA_12 H hK hP hD hS => ?_)
  have hP : va_P (dC, dI) vwCl [(h0, .inr (2, [.ref q_1, .ref q_3, .ref q_5, .ref q_7, .ref q_9, .null, .int 0, .int 0])), (q_1, .inl (cA_2, 3000, .inl (fun _ => 0))), (q_3, .inl (cA_4, 3000, .inl (fun _ => 0))), (q_5, .inl (cA_6, 3000, .inl (fun _ => 0))), (q_7, .inl (cA_8, 3000, .inl (fun _ => 0))), (q_9, .inl (cA_10, 3000, .inl (fun _ => 0))), (q_11, .inl (cA_12, 3000, .inl (fun _ => 0)))] H := hP
  have hD : va_D A [(h0, .inr (2, [.ref q_1, .ref q_3, .ref q_5, .ref q_7, .ref q_9, .null, .int 0, .int 0])), (q_1, .inl (cA_2, 3000, .inl (fun _ => 0))), (q_3, .inl (cA_4, 3000, .inl (fun _ => 0))), (q_5, .inl (cA_6, 3000, .inl (fun _ => 0))), (q_7, .inl (cA_8, 3000, .inl (fun _ => 0))), (q_9, .inl (cA_10, 3000, .inl (fun _ => 0))), (q_11, .inl (cA_12, 3000, .inl (fun _ => 0)))] := hD
  have hK : va_K (dC, dI) vwCl [(cA_2, .int), (cA_4, .int), (cA_6, .int), (cA_8, .int), (cA_10, .int), (cA_12, .int)] s := hK
  refine W.widen (k := 6) (n := 18000) (Nat.le_of_ble_eq_true rfl) (Nat.le_of_ble_eq_true rfl) ?_
  refine va_putF (D := (dC, dI)) (ci := 2) (v := .ref q_11) (ty := .array .int) (C := RX2) (T := TX2) (N := 8) hx hb hA zin_X2 tyX2 tyX2_ok nmX2 hown hK hP hD hS 0 rfl rfl 5 (by decide) (hA _ wi_194) (fun _ h9 => h9) rfl hin rfl (by decide +kernel) rfl rfl (Nat.le_of_ble_eq_true rfl) dX2_init_55 (fun H locs hP hD hS => ?_)
  have hP : va_P (dC, dI) vwCl [(h0, .inr (2, [.ref q_1, .ref q_3, .ref q_5, .ref q_7, .ref q_9, .ref q_11, .int 0, .int 0])), (q_1, .inl (cA_2, 3000, .inl (fun _ => 0))), (q_3, .inl (cA_4, 3000, .inl (fun _ => 0))), (q_5, .inl (cA_6, 3000, .inl (fun _ => 0))), (q_7, .inl (cA_8, 3000, .inl (fun _ => 0))), (q_9, .inl (cA_10, 3000, .inl (fun _ => 0))), (q_11, .inl (cA_12, 3000, .inl (fun _ => 0)))] H := hP
  have hD : va_D A [(h0, .inr (2, [.ref q_1, .ref q_3, .ref q_5, .ref q_7, .ref q_9, .ref q_11, .int 0, .int 0])), (q_1, .inl (cA_2, 3000, .inl (fun _ => 0))), (q_3, .inl (cA_4, 3000, .inl (fun _ => 0))), (q_5, .inl (cA_6, 3000, .inl (fun _ => 0))), (q_7, .inl (cA_8, 3000, .inl (fun _ => 0))), (q_9, .inl (cA_10, 3000, .inl (fun _ => 0))), (q_11, .inl (cA_12, 3000, .inl (fun _ => 0)))] := hD
  refine lv_aload_n hx hb dX2_init_58 rfl (lv_at hl 0 rfl) ?_
  refine lv_iconst (v := 0) hx hb dX2_init_59 (by decide) ?_
  refine va_put (D := (dC, dI)) (ci := 2) (v := .int 0) (ty := .int) (C := RX2) (T := TX2) (N := 8) hx hb hA zin_X2 tyX2 tyX2_ok nmX2 hown hK hP hD hS 0 rfl rfl 6 (by decide) (hA _ wi_197) (fun _ h9 => h9) rfl (by decide +kernel) rfl rfl (Nat.le_of_ble_eq_true rfl) dX2_init_60 (fun H locs hP hD hS => ?_)
  have hP : va_P (dC, dI) vwCl [(h0, .inr (2, [.ref q_1, .ref q_3, .ref q_5, .ref q_7, .ref q_9, .ref q_11, .int 0, .int 0])), (q_1, .inl (cA_2, 3000, .inl (fun _ => 0))), (q_3, .inl (cA_4, 3000, .inl (fun _ => 0))), (q_5, .inl (cA_6, 3000, .inl (fun _ => 0))), (q_7, .inl (cA_8, 3000, .inl (fun _ => 0))), (q_9, .inl (cA_10, 3000, .inl (fun _ => 0))), (q_11, .inl (cA_12, 3000, .inl (fun _ => 0)))] H := hP
  have hD : va_D A [(h0, .inr (2, [.ref q_1, .ref q_3, .ref q_5, .ref q_7, .ref q_9, .ref q_11, .int 0, .int 0])), (q_1, .inl (cA_2, 3000, .inl (fun _ => 0))), (q_3, .inl (cA_4, 3000, .inl (fun _ => 0))), (q_5, .inl (cA_6, 3000, .inl (fun _ => 0))), (q_7, .inl (cA_8, 3000, .inl (fun _ => 0))), (q_9, .inl (cA_10, 3000, .inl (fun _ => 0))), (q_11, .inl (cA_12, 3000, .inl (fun _ => 0)))] := hD
  refine lv_aload_n hx hb dX2_init_63 rfl (lv_at hl 0 rfl) ?_
  refine lv_iconst (v := (-1)) hx hb dX2_init_64 (by decide) ?_
  refine va_put (D := (dC, dI)) (ci := 2) (v := .int (-1)) (ty := .int) (C := RX2) (T := TX2) (N := 8) hx hb hA zin_X2 tyX2 tyX2_ok nmX2 hown hK hP hD hS 0 rfl rfl 7 (by decide) (hA _ wi_200) (fun _ h9 => h9) rfl (by decide +kernel) rfl rfl (Nat.le_of_ble_eq_true rfl) dX2_init_65 (fun H locs hP hD hS => ?_)
  have hP : va_P (dC, dI) vwCl [(h0, .inr (2, [.ref q_1, .ref q_3, .ref q_5, .ref q_7, .ref q_9, .ref q_11, .int 0, .int (-1)])), (q_1, .inl (cA_2, 3000, .inl (fun _ => 0))), (q_3, .inl (cA_4, 3000, .inl (fun _ => 0))), (q_5, .inl (cA_6, 3000, .inl (fun _ => 0))), (q_7, .inl (cA_8, 3000, .inl (fun _ => 0))), (q_9, .inl (cA_10, 3000, .inl (fun _ => 0))), (q_11, .inl (cA_12, 3000, .inl (fun _ => 0)))] H := hP
  have hD : va_D A [(h0, .inr (2, [.ref q_1, .ref q_3, .ref q_5, .ref q_7, .ref q_9, .ref q_11, .int 0, .int (-1)])), (q_1, .inl (cA_2, 3000, .inl (fun _ => 0))), (q_3, .inl (cA_4, 3000, .inl (fun _ => 0))), (q_5, .inl (cA_6, 3000, .inl (fun _ => 0))), (q_7, .inl (cA_8, 3000, .inl (fun _ => 0))), (q_9, .inl (cA_10, 3000, .inl (fun _ => 0))), (q_11, .inl (cA_12, 3000, .inl (fun _ => 0)))] := hD
  have hP9 := hP.sub (ws' := [(h0, .inr (2, [.ref q_1, .ref q_3, .ref q_5, .ref q_7, .ref q_9, .ref q_11, .int 0, .int (-1)])), (q_1, .inl (cA_2, 3000, .inl (fun _ => 0))), (q_3, .inl (cA_4, 3000, .inl (fun _ => 0))), (q_5, .inl (cA_6, 3000, .inl (fun _ => 0))), (q_7, .inl (cA_8, 3000, .inl (fun _ => 0))), (q_9, .inl (cA_10, 3000, .inl (fun _ => 0))), (q_11, .inl (cA_12, 3000, .inl (fun _ => 0)))]) [0, 1, 2, 3, 4, 5, 6] rfl
  have hD9 := hD.sub (ws' := [(h0, .inr (2, [.ref q_1, .ref q_3, .ref q_5, .ref q_7, .ref q_9, .ref q_11, .int 0, .int (-1)])), (q_1, .inl (cA_2, 3000, .inl (fun _ => 0))), (q_3, .inl (cA_4, 3000, .inl (fun _ => 0))), (q_5, .inl (cA_6, 3000, .inl (fun _ => 0))), (q_7, .inl (cA_8, 3000, .inl (fun _ => 0))), (q_9, .inl (cA_10, 3000, .inl (fun _ => 0))), (q_11, .inl (cA_12, 3000, .inl (fun _ => 0)))]) [0, 1, 2, 3, 4, 5, 6] (by decide) rfl
  have hK9 := hK.sub (tys' := [(cA_2, .int), (cA_4, .int), (cA_6, .int), (cA_8, .int), (cA_10, .int), (cA_12, .int)]) [0, 1, 2, 3, 4, 5] rfl
  exact W.vret hx hb hr (fun t ht hW => ⟨⟨(q_1, q_3, q_5, q_7, q_9, q_11, cA_2, cA_4, cA_6, cA_8, cA_10, cA_12), rfl, trivial, by rw [ht]; exact hP9, va_K.moved hW.alike hK9, hD9⟩, hS.F ht⟩) hS.2.2 dX2_init_68
set_option maxHeartbeats 4000000 in
set_option maxRecDepth 100000 in
theorem c_X3_init (l : Launch) (dC : Nat → ClassId) (dI : Nat → Nat → Nat) (aK aV : Nat → Nat) (h0 : Nat) (sz : Nat)  : Met l yX3_init (Cond.code yX3_init cX3_init 1 none :: zw) ({ frames := 8, cells := 3, slots := 210, locals := 200 }) (va_Pc [.ref h0] (zP dC dI aK aV sz [] [(h0, .inr (3, [.null, .null, .null, .int 0]))])) (va_Qv (fun u : Nat × Nat × Nat × ClassId × ClassId × ClassId => match u with | (z_word, z_enter, z_facts, k_word, k_enter, k_facts) => True) (fun u => match u with | (z_word, z_enter, z_facts, k_word, k_enter, k_facts) => zQ dC dI (va_A [(h0, .inr (3, [.null, .null, .null, .int 0]))] sz) [(k_word, .long), (k_enter, .int), (k_facts, .int)] [(h0, .inr (3, [.ref z_word, .ref z_enter, .ref z_facts, .int 0])), (z_word, .inl (k_word, 30, .inr (.inl (fun _ => 0)))), (z_enter, .inl (k_enter, 30, .inl (fun _ => 0))), (z_facts, .inl (k_facts, 150, .inl (fun _ => 0)))]) (va_A [(h0, .inr (3, [.null, .null, .null, .int 0]))] sz)) 3 210 (va_A [(h0, .inr (3, [.null, .null, .null, .int 0]))] sz) := by
  refine Met.ofW (cc := cX3_init) (maxL := 1) (ret := none) (by decide) rfl ?_
  intro p e s m args below meth c s₁ B hml hv
  obtain ⟨rfl, hsz, hP, hK, hD0, hN, hT⟩ := hv
  have hx := B.exec
  have hb := B.bytes
  have hr := B.returns
  have hts := atoms_spec (ws := Cond.code yX3_init cX3_init 1 none :: zw) B.pre
  have hA : ∀ w ∈ zw, w.before _ s = true := fun w h => hts w (List.mem_cons_of_mem _ h)
  have hown : s.vm.findClass RX3 = some m.cls := findClass_of_methodNamed B.named
  have hlocks := B.notSynchronized
  have hin : meth.name = "<init>" := (name_of_methodNamed B.named B.method).1
  subst hsz
  have hD := hD0.self (sz := s.heap.size)
  generalize hAe : va_A [(h0, .inr (3, [.null, .null, .null, .int 0]))] s.heap.size = A at hD hT ⊢
  have hAA : ∀ q : Nat, s.heap.size ≤ q → A q := fun q h => by rw [← hAe]; exact Or.inr h
  have hS : va_S A s.heap s.heap [] := va_S.rf
  have hl := lv_entry ([.ref h0]) (n := 1) (Nat.le_of_ble_eq_true rfl)
  rw [lg_entry_eq]
  generalize (lg_sl ([.ref h0]) ++ List.replicate (1 - (lg_sl ([.ref h0])).length) Slot.unset).toArray = ls at hl ⊢
  have hl : lv_has ls 1 [(0, .ref h0)] := hl
  refine lv_aload_n hx hb dX3_init_0 rfl (lv_at hl 0 rfl) ?_
  refine W.objInit hx hb hown (hA _ wi_289) (hA _ wi_162) (hA _ wi_163) rfl (by rw [hml]; exact hl.1) rfl dX3_init_1 (Nat.le_of_ble_eq_true rfl) (Nat.le_of_ble_eq_true rfl) ?_
  refine W.eq (g2 := F0 m 4 ls []) rfl ?_
  refine lv_aload_n hx hb dX3_init_4 rfl (lv_at hl 0 rfl) ?_
  refine lv_bipush (v := 30) hx hb dX3_init_5 (by decide) ?_
  refine va_newa (atype := .long) (ty := .long) (a0 := (30, .inr (.inl (fun _ => 0)))) (N' := 30) hx hb (hA _ wi_283) rfl hK hP hD hS hAA (fun _ => rfl) (by decide) (by decide) (by decide) (Nat.le_of_ble_eq_true rfl) (Nat.le_of_ble_eq_true rfl) dX3_init_7 (fun q_1 cA_2 H hK hP hD hS => ?_)
  have hP : va_P (dC, dI) vwCl [(h0, .inr (3, [.null, .null, .null, .int 0])), (q_1, .inl (cA_2, 30, .inr (.inl (fun _ => 0))))] H := hP
  have hD : va_D A [(h0, .inr (3, [.null, .null, .null, .int 0])), (q_1, .inl (cA_2, 30, .inr (.inl (fun _ => 0))))] := hD
  have hK : va_K (dC, dI) vwCl [(cA_2, .long)] s := hK
  refine W.widen (k := 1) (n := 30) (Nat.le_of_ble_eq_true rfl) (Nat.le_of_ble_eq_true rfl) ?_
  refine va_putF (D := (dC, dI)) (ci := 3) (v := .ref q_1) (ty := .array .long) (C := RX3) (T := TX3) (N := 4) hx hb hA zin_X3 tyX3 tyX3_ok nmX3 hown hK hP hD hS 0 rfl rfl 0 (by decide) (hA _ wi_290) (fun _ h9 => h9) rfl hin rfl (by decide +kernel) rfl rfl (Nat.le_of_ble_eq_true rfl) dX3_init_9 (fun H locs hP hD hS => ?_)
  have hP : va_P (dC, dI) vwCl [(h0, .inr (3, [.ref q_1, .null, .null, .int 0])), (q_1, .inl (cA_2, 30, .inr (.inl (fun _ => 0))))] H := hP
  have hD : va_D A [(h0, .inr (3, [.ref q_1, .null, .null, .int 0])), (q_1, .inl (cA_2, 30, .inr (.inl (fun _ => 0))))] := hD
  refine lv_aload_n hx hb dX3_init_12 rfl (lv_at hl 0 rfl) ?_
  refine lv_bipush (v := 30) hx hb dX3_init_13 (by decide) ?_
  refine va_newa (atype := .int) (ty := .int) (a0 := (30, .inl (fun _ => 0))) (N' := 30) hx hb (hA _ wi_220) rfl hK hP hD hS hAA (fun _ => rfl) (by decide) (by decide) (by decide) (Nat.le_of_ble_eq_true rfl) (Nat.le_of_ble_eq_true rfl) dX3_init_15 (fun q_3 cA_4 H hK hP hD hS => ?_)
  have hP : va_P (dC, dI) vwCl [(h0, .inr (3, [.ref q_1, .null, .null, .int 0])), (q_1, .inl (cA_2, 30, .inr (.inl (fun _ => 0)))), (q_3, .inl (cA_4, 30, .inl (fun _ => 0)))] H := hP
  have hD : va_D A [(h0, .inr (3, [.ref q_1, .null, .null, .int 0])), (q_1, .inl (cA_2, 30, .inr (.inl (fun _ => 0)))), (q_3, .inl (cA_4, 30, .inl (fun _ => 0)))] := hD
  have hK : va_K (dC, dI) vwCl [(cA_2, .long), (cA_4, .int)] s := hK
  refine W.widen (k := 2) (n := 60) (Nat.le_of_ble_eq_true rfl) (Nat.le_of_ble_eq_true rfl) ?_
  refine va_putF (D := (dC, dI)) (ci := 3) (v := .ref q_3) (ty := .array .int) (C := RX3) (T := TX3) (N := 4) hx hb hA zin_X3 tyX3 tyX3_ok nmX3 hown hK hP hD hS 0 rfl rfl 1 (by decide) (hA _ wi_291) (fun _ h9 => h9) rfl hin rfl (by decide +kernel) rfl rfl (Nat.le_of_ble_eq_true rfl) dX3_init_17 (fun H locs hP hD hS => ?_)
  have hP : va_P (dC, dI) vwCl [(h0, .inr (3, [.ref q_1, .ref q_3, .null, .int 0])), (q_1, .inl (cA_2, 30, .inr (.inl (fun _ => 0)))), (q_3, .inl (cA_4, 30, .inl (fun _ => 0)))] H := hP
  have hD : va_D A [(h0, .inr (3, [.ref q_1, .ref q_3, .null, .int 0])), (q_1, .inl (cA_2, 30, .inr (.inl (fun _ => 0)))), (q_3, .inl (cA_4, 30, .inl (fun _ => 0)))] := hD
  refine lv_aload_n hx hb dX3_init_20 rfl (lv_at hl 0 rfl) ?_
  refine lv_sipush (v := 150) hx hb dX3_init_21 (by decide) ?_
  refine va_newa (atype := .int) (ty := .int) (a0 := (150, .inl (fun _ => 0))) (N' := 150) hx hb (hA _ wi_220) rfl hK hP hD hS hAA (fun _ => rfl) (by decide) (by decide) (by decide) (Nat.le_of_ble_eq_true rfl) (Nat.le_of_ble_eq_true rfl) dX3_init_24 (fun q_5 cA_6 H hK hP hD hS => ?_)
  have hP : va_P (dC, dI) vwCl [(h0, .inr (3, [.ref q_1, .ref q_3, .null, .int 0])), (q_1, .inl (cA_2, 30, .inr (.inl (fun _ => 0)))), (q_3, .inl (cA_4, 30, .inl (fun _ => 0))), (q_5, .inl (cA_6, 150, .inl (fun _ => 0)))] H := hP
  have hD : va_D A [(h0, .inr (3, [.ref q_1, .ref q_3, .null, .int 0])), (q_1, .inl (cA_2, 30, .inr (.inl (fun _ => 0)))), (q_3, .inl (cA_4, 30, .inl (fun _ => 0))), (q_5, .inl (cA_6, 150, .inl (fun _ => 0)))] := hD
  have hK : va_K (dC, dI) vwCl [(cA_2, .long), (cA_4, .int), (cA_6, .int)] s := hK
  refine W.widen (k := 3) (n := 210) (Nat.le_of_ble_eq_true rfl) (Nat.le_of_ble_eq_true rfl) ?_
  refine va_putF (D := (dC, dI)) (ci := 3) (v := .ref q_5) (ty := .array .int) (C := RX3) (T := TX3) (N := 4) hx hb hA zin_X3 tyX3 tyX3_ok nmX3 hown hK hP hD hS 0 rfl rfl 2 (by decide) (hA _ wi_294) (fun _ h9 => h9) rfl hin rfl (by decide +kernel) rfl rfl (Nat.le_of_ble_eq_true rfl) dX3_init_26 (fun H locs hP hD hS => ?_)
  have hP : va_P (dC, dI) vwCl [(h0, .inr (3, [.ref q_1, .ref q_3, .ref q_5, .int 0])), (q_1, .inl (cA_2, 30, .inr (.inl (fun _ => 0)))), (q_3, .inl (cA_4, 30, .inl (fun _ => 0))), (q_5, .inl (cA_6, 150, .inl (fun _ => 0)))] H := hP
  have hD : va_D A [(h0, .inr (3, [.ref q_1, .ref q_3, .ref q_5, .int 0])), (q_1, .inl (cA_2, 30, .inr (.inl (fun _ => 0)))), (q_3, .inl (cA_4, 30, .inl (fun _ => 0))), (q_5, .inl (cA_6, 150, .inl (fun _ => 0)))] := hD
  refine lv_aload_n hx hb dX3_init_29 rfl (lv_at hl 0 rfl) ?_
  refine lv_iconst (v := 0) hx hb dX3_init_30 (by decide) ?_
  refine va_put (D := (dC, dI)) (ci := 3) (v := .int 0) (ty := .int) (C := RX3) (T := TX3) (N := 4) hx hb hA zin_X3 tyX3 tyX3_ok nmX3 hown hK hP hD hS 0 rfl rfl 3 (by decide) (hA _ wi_295) (fun _ h9 => h9) rfl (by decide +kernel) rfl rfl (Nat.le_of_ble_eq_true rfl) dX3_init_31 (fun H locs hP hD hS => ?_)
  have hP : va_P (dC, dI) vwCl [(h0, .inr (3, [.ref q_1, .ref q_3, .ref q_5, .int 0])), (q_1, .inl (cA_2, 30, .inr (.inl (fun _ => 0)))), (q_3, .inl (cA_4, 30, .inl (fun _ => 0))), (q_5, .inl (cA_6, 150, .inl (fun _ => 0)))] H := hP
  have hD : va_D A [(h0, .inr (3, [.ref q_1, .ref q_3, .ref q_5, .int 0])), (q_1, .inl (cA_2, 30, .inr (.inl (fun _ => 0)))), (q_3, .inl (cA_4, 30, .inl (fun _ => 0))), (q_5, .inl (cA_6, 150, .inl (fun _ => 0)))] := hD
  have hP9 := hP.sub (ws' := [(h0, .inr (3, [.ref q_1, .ref q_3, .ref q_5, .int 0])), (q_1, .inl (cA_2, 30, .inr (.inl (fun _ => 0)))), (q_3, .inl (cA_4, 30, .inl (fun _ => 0))), (q_5, .inl (cA_6, 150, .inl (fun _ => 0)))]) [0, 1, 2, 3] rfl
  have hD9 := hD.sub (ws' := [(h0, .inr (3, [.ref q_1, .ref q_3, .ref q_5, .int 0])), (q_1, .inl (cA_2, 30, .inr (.inl (fun _ => 0)))), (q_3, .inl (cA_4, 30, .inl (fun _ => 0))), (q_5, .inl (cA_6, 150, .inl (fun _ => 0)))]) [0, 1, 2, 3] (by decide) rfl
  have hK9 := hK.sub (tys' := [(cA_2, .long), (cA_4, .int), (cA_6, .int)]) [0, 1, 2] rfl
  exact W.vret hx hb hr (fun t ht hW => ⟨⟨(q_1, q_3, q_5, cA_2, cA_4, cA_6), rfl, trivial, by rw [ht]; exact hP9, va_K.moved hW.alike hK9, hD9⟩, hS.F ht⟩) hS.2.2 dX3_init_34
set_option maxHeartbeats 4000000 in
set_option maxRecDepth 100000 in
theorem c_X4_init (l : Launch) (dC : Nat → ClassId) (dI : Nat → Nat → Nat) (aK aV : Nat → Nat) (h0 : Nat) (sz : Nat)  : Met l yX4_init (Cond.code yX4_init cX4_init 1 none :: zw) ({ frames := 8, cells := 2, slots := 40, locals := 200 }) (va_Pc [.ref h0] (zP dC dI aK aV sz [] [(h0, .inr (4, [.null, .null, .int 0]))])) (va_Qv (fun u : Nat × Nat × ClassId × ClassId => match u with | (z_word, z_fields, k_word, k_fields) => True) (fun u => match u with | (z_word, z_fields, k_word, k_fields) => zQ dC dI (va_A [(h0, .inr (4, [.null, .null, .int 0]))] sz) [(k_word, .long), (k_fields, .int)] [(h0, .inr (4, [.ref z_word, .ref z_fields, .int 0])), (z_word, .inl (k_word, 20, .inr (.inl (fun _ => 0)))), (z_fields, .inl (k_fields, 20, .inl (fun _ => 0)))]) (va_A [(h0, .inr (4, [.null, .null, .int 0]))] sz)) 2 40 (va_A [(h0, .inr (4, [.null, .null, .int 0]))] sz) := by
  refine Met.ofW (cc := cX4_init) (maxL := 1) (ret := none) (by decide) rfl ?_
  intro p e s m args below meth c s₁ B hml hv
  obtain ⟨rfl, hsz, hP, hK, hD0, hN, hT⟩ := hv
  have hx := B.exec
  have hb := B.bytes
  have hr := B.returns
  have hts := atoms_spec (ws := Cond.code yX4_init cX4_init 1 none :: zw) B.pre
  have hA : ∀ w ∈ zw, w.before _ s = true := fun w h => hts w (List.mem_cons_of_mem _ h)
  have hown : s.vm.findClass RX4 = some m.cls := findClass_of_methodNamed B.named
  have hlocks := B.notSynchronized
  have hin : meth.name = "<init>" := (name_of_methodNamed B.named B.method).1
  subst hsz
  have hD := hD0.self (sz := s.heap.size)
  generalize hAe : va_A [(h0, .inr (4, [.null, .null, .int 0]))] s.heap.size = A at hD hT ⊢
  have hAA : ∀ q : Nat, s.heap.size ≤ q → A q := fun q h => by rw [← hAe]; exact Or.inr h
  have hS : va_S A s.heap s.heap [] := va_S.rf
  have hl := lv_entry ([.ref h0]) (n := 1) (Nat.le_of_ble_eq_true rfl)
  rw [lg_entry_eq]
  generalize (lg_sl ([.ref h0]) ++ List.replicate (1 - (lg_sl ([.ref h0])).length) Slot.unset).toArray = ls at hl ⊢
  have hl : lv_has ls 1 [(0, .ref h0)] := hl
  refine lv_aload_n hx hb dX4_init_0 rfl (lv_at hl 0 rfl) ?_
  refine W.objInit hx hb hown (hA _ wi_269) (hA _ wi_162) (hA _ wi_163) rfl (by rw [hml]; exact hl.1) rfl dX4_init_1 (Nat.le_of_ble_eq_true rfl) (Nat.le_of_ble_eq_true rfl) ?_
  refine W.eq (g2 := F0 m 4 ls []) rfl ?_
  refine lv_aload_n hx hb dX4_init_4 rfl (lv_at hl 0 rfl) ?_
  refine lv_bipush (v := 20) hx hb dX4_init_5 (by decide) ?_
  refine va_newa (atype := .long) (ty := .long) (a0 := (20, .inr (.inl (fun _ => 0)))) (N' := 20) hx hb (hA _ wi_283) rfl hK hP hD hS hAA (fun _ => rfl) (by decide) (by decide) (by decide) (Nat.le_of_ble_eq_true rfl) (Nat.le_of_ble_eq_true rfl) dX4_init_7 (fun q_1 cA_2 H hK hP hD hS => ?_)
  have hP : va_P (dC, dI) vwCl [(h0, .inr (4, [.null, .null, .int 0])), (q_1, .inl (cA_2, 20, .inr (.inl (fun _ => 0))))] H := hP
  have hD : va_D A [(h0, .inr (4, [.null, .null, .int 0])), (q_1, .inl (cA_2, 20, .inr (.inl (fun _ => 0))))] := hD
  have hK : va_K (dC, dI) vwCl [(cA_2, .long)] s := hK
  refine W.widen (k := 1) (n := 20) (Nat.le_of_ble_eq_true rfl) (Nat.le_of_ble_eq_true rfl) ?_
  refine va_putF (D := (dC, dI)) (ci := 4) (v := .ref q_1) (ty := .array .long) (C := RX4) (T := TX4) (N := 3) hx hb hA zin_X4 tyX4 tyX4_ok nmX4 hown hK hP hD hS 0 rfl rfl 0 (by decide) (hA _ wi_270) (fun _ h9 => h9) rfl hin rfl (by decide +kernel) rfl rfl (Nat.le_of_ble_eq_true rfl) dX4_init_9 (fun H locs hP hD hS => ?_)
  have hP : va_P (dC, dI) vwCl [(h0, .inr (4, [.ref q_1, .null, .int 0])), (q_1, .inl (cA_2, 20, .inr (.inl (fun _ => 0))))] H := hP
  have hD : va_D A [(h0, .inr (4, [.ref q_1, .null, .int 0])), (q_1, .inl (cA_2, 20, .inr (.inl (fun _ => 0))))] := hD
  refine lv_aload_n hx hb dX4_init_12 rfl (lv_at hl 0 rfl) ?_
  refine lv_bipush (v := 20) hx hb dX4_init_13 (by decide) ?_
  refine va_newa (atype := .int) (ty := .int) (a0 := (20, .inl (fun _ => 0))) (N' := 20) hx hb (hA _ wi_220) rfl hK hP hD hS hAA (fun _ => rfl) (by decide) (by decide) (by decide) (Nat.le_of_ble_eq_true rfl) (Nat.le_of_ble_eq_true rfl) dX4_init_15 (fun q_3 cA_4 H hK hP hD hS => ?_)
  have hP : va_P (dC, dI) vwCl [(h0, .inr (4, [.ref q_1, .null, .int 0])), (q_1, .inl (cA_2, 20, .inr (.inl (fun _ => 0)))), (q_3, .inl (cA_4, 20, .inl (fun _ => 0)))] H := hP
  have hD : va_D A [(h0, .inr (4, [.ref q_1, .null, .int 0])), (q_1, .inl (cA_2, 20, .inr (.inl (fun _ => 0)))), (q_3, .inl (cA_4, 20, .inl (fun _ => 0)))] := hD
  have hK : va_K (dC, dI) vwCl [(cA_2, .long), (cA_4, .int)] s := hK
  refine W.widen (k := 2) (n := 40) (Nat.le_of_ble_eq_true rfl) (Nat.le_of_ble_eq_true rfl) ?_
  refine va_putF (D := (dC, dI)) (ci := 4) (v := .ref q_3) (ty := .array .int) (C := RX4) (T := TX4) (N := 3) hx hb hA zin_X4 tyX4 tyX4_ok nmX4 hown hK hP hD hS 0 rfl rfl 1 (by decide) (hA _ wi_271) (fun _ h9 => h9) rfl hin rfl (by decide +kernel) rfl rfl (Nat.le_of_ble_eq_true rfl) dX4_init_17 (fun H locs hP hD hS => ?_)
  have hP : va_P (dC, dI) vwCl [(h0, .inr (4, [.ref q_1, .ref q_3, .int 0])), (q_1, .inl (cA_2, 20, .inr (.inl (fun _ => 0)))), (q_3, .inl (cA_4, 20, .inl (fun _ => 0)))] H := hP
  have hD : va_D A [(h0, .inr (4, [.ref q_1, .ref q_3, .int 0])), (q_1, .inl (cA_2, 20, .inr (.inl (fun _ => 0)))), (q_3, .inl (cA_4, 20, .inl (fun _ => 0)))] := hD
  refine lv_aload_n hx hb dX4_init_20 rfl (lv_at hl 0 rfl) ?_
  refine lv_iconst (v := 0) hx hb dX4_init_21 (by decide) ?_
  refine va_put (D := (dC, dI)) (ci := 4) (v := .int 0) (ty := .int) (C := RX4) (T := TX4) (N := 3) hx hb hA zin_X4 tyX4 tyX4_ok nmX4 hown hK hP hD hS 0 rfl rfl 2 (by decide) (hA _ wi_273) (fun _ h9 => h9) rfl (by decide +kernel) rfl rfl (Nat.le_of_ble_eq_true rfl) dX4_init_22 (fun H locs hP hD hS => ?_)
  have hP : va_P (dC, dI) vwCl [(h0, .inr (4, [.ref q_1, .ref q_3, .int 0])), (q_1, .inl (cA_2, 20, .inr (.inl (fun _ => 0)))), (q_3, .inl (cA_4, 20, .inl (fun _ => 0)))] H := hP
  have hD : va_D A [(h0, .inr (4, [.ref q_1, .ref q_3, .int 0])), (q_1, .inl (cA_2, 20, .inr (.inl (fun _ => 0)))), (q_3, .inl (cA_4, 20, .inl (fun _ => 0)))] := hD
  have hP9 := hP.sub (ws' := [(h0, .inr (4, [.ref q_1, .ref q_3, .int 0])), (q_1, .inl (cA_2, 20, .inr (.inl (fun _ => 0)))), (q_3, .inl (cA_4, 20, .inl (fun _ => 0)))]) [0, 1, 2] rfl
  have hD9 := hD.sub (ws' := [(h0, .inr (4, [.ref q_1, .ref q_3, .int 0])), (q_1, .inl (cA_2, 20, .inr (.inl (fun _ => 0)))), (q_3, .inl (cA_4, 20, .inl (fun _ => 0)))]) [0, 1, 2] (by decide) rfl
  have hK9 := hK.sub (tys' := [(cA_2, .long), (cA_4, .int)]) [0, 1] rfl
  exact W.vret hx hb hr (fun t ht hW => ⟨⟨(q_1, q_3, cA_2, cA_4), rfl, trivial, by rw [ht]; exact hP9, va_K.moved hW.alike hK9, hD9⟩, hS.F ht⟩) hS.2.2 dX4_init_25
set_option maxHeartbeats 4000000 in
set_option maxRecDepth 100000 in
theorem c_X8_init (l : Launch) (dC : Nat → ClassId) (dI : Nat → Nat → Nat) (aK aV : Nat → Nat) (h0 : Nat) (sz : Nat)  : Met l yX8_init (Cond.code yX8_init cX8_init 1 none :: zw) ({ frames := 8, cells := 4, slots := 12000, locals := 200 }) (va_Pc [.ref h0] (zP dC dI aK aV sz [] [(h0, .inr (8, [.null, .int 0, .null, .int 0, .int 0, .null, .null, .int 0]))])) (va_Qv (fun u : Nat × Nat × Nat × Nat × ClassId × ClassId × ClassId × ClassId => match u with | (z_bytes, z_spare, z_openCell, z_openField, k_bytes, k_spare, k_openCell, k_openField) => True) (fun u => match u with | (z_bytes, z_spare, z_openCell, z_openField, k_bytes, k_spare, k_openCell, k_openField) => zQ dC dI (va_A [(h0, .inr (8, [.null, .int 0, .null, .int 0, .int 0, .null, .null, .int 0]))] sz) [(k_bytes, .byte), (k_spare, .byte), (k_openCell, .int), (k_openField, .int)] [(h0, .inr (8, [.ref z_bytes, .int 0, .ref z_spare, .int 0, .int 0, .ref z_openCell, .ref z_openField, .int 0])), (z_bytes, .inl (k_bytes, 4000, .inl (fun _ => 0))), (z_spare, .inl (k_spare, 4000, .inl (fun _ => 0))), (z_openCell, .inl (k_openCell, 2000, .inl (fun _ => 0))), (z_openField, .inl (k_openField, 2000, .inl (fun _ => 0)))]) (va_A [(h0, .inr (8, [.null, .int 0, .null, .int 0, .int 0, .null, .null, .int 0]))] sz)) 4 12000 (va_A [(h0, .inr (8, [.null, .int 0, .null, .int 0, .int 0, .null, .null, .int 0]))] sz) := by
  refine Met.ofW (cc := cX8_init) (maxL := 1) (ret := none) (by decide) rfl ?_
  intro p e s m args below meth c s₁ B hml hv
  obtain ⟨rfl, hsz, hP, hK, hD0, hN, hT⟩ := hv
  have hx := B.exec
  have hb := B.bytes
  have hr := B.returns
  have hts := atoms_spec (ws := Cond.code yX8_init cX8_init 1 none :: zw) B.pre
  have hA : ∀ w ∈ zw, w.before _ s = true := fun w h => hts w (List.mem_cons_of_mem _ h)
  have hown : s.vm.findClass RX8 = some m.cls := findClass_of_methodNamed B.named
  have hlocks := B.notSynchronized
  have hin : meth.name = "<init>" := (name_of_methodNamed B.named B.method).1
  subst hsz
  have hD := hD0.self (sz := s.heap.size)
  generalize hAe : va_A [(h0, .inr (8, [.null, .int 0, .null, .int 0, .int 0, .null, .null, .int 0]))] s.heap.size = A at hD hT ⊢
  have hAA : ∀ q : Nat, s.heap.size ≤ q → A q := fun q h => by rw [← hAe]; exact Or.inr h
  have hS : va_S A s.heap s.heap [] := va_S.rf
  have hl := lv_entry ([.ref h0]) (n := 1) (Nat.le_of_ble_eq_true rfl)
  rw [lg_entry_eq]
  generalize (lg_sl ([.ref h0]) ++ List.replicate (1 - (lg_sl ([.ref h0])).length) Slot.unset).toArray = ls at hl ⊢
  have hl : lv_has ls 1 [(0, .ref h0)] := hl
  refine lv_aload_n hx hb dX8_init_0 rfl (lv_at hl 0 rfl) ?_
  refine W.objInit hx hb hown (hA _ wi_557) (hA _ wi_162) (hA _ wi_163) rfl (by rw [hml]; exact hl.1) rfl dX8_init_1 (Nat.le_of_ble_eq_true rfl) (Nat.le_of_ble_eq_true rfl) ?_
  refine W.eq (g2 := F0 m 4 ls []) rfl ?_
  refine lv_aload_n hx hb dX8_init_4 rfl (lv_at hl 0 rfl) ?_
  refine lv_sipush (v := 4000) hx hb dX8_init_5 (by decide) ?_
  refine va_newa (atype := .byte) (ty := .byte) (a0 := (4000, .inl (fun _ => 0))) (N' := 4000) hx hb (hA _ wi_219) rfl hK hP hD hS hAA (fun _ => rfl) (by decide) (by decide) (by decide) (Nat.le_of_ble_eq_true rfl) (Nat.le_of_ble_eq_true rfl) dX8_init_8 (fun q_1 cA_2 H hK hP hD hS => ?_)
  have hP : va_P (dC, dI) vwCl [(h0, .inr (8, [.null, .int 0, .null, .int 0, .int 0, .null, .null, .int 0])), (q_1, .inl (cA_2, 4000, .inl (fun _ => 0)))] H := hP
  have hD : va_D A [(h0, .inr (8, [.null, .int 0, .null, .int 0, .int 0, .null, .null, .int 0])), (q_1, .inl (cA_2, 4000, .inl (fun _ => 0)))] := hD
  have hK : va_K (dC, dI) vwCl [(cA_2, .byte)] s := hK
  refine W.widen (k := 1) (n := 4000) (Nat.le_of_ble_eq_true rfl) (Nat.le_of_ble_eq_true rfl) ?_
  refine va_put (D := (dC, dI)) (ci := 8) (v := .ref q_1) (ty := .array .byte) (C := RX8) (T := TX8) (N := 8) hx hb hA zin_X8 tyX8 tyX8_ok nmX8 hown hK hP hD hS 0 rfl rfl 0 (by decide) (hA _ wi_558) (fun _ h9 => h9) rfl (by decide +kernel) rfl rfl (Nat.le_of_ble_eq_true rfl) dX8_init_10 (fun H locs hP hD hS => ?_)
  have hP : va_P (dC, dI) vwCl [(h0, .inr (8, [.ref q_1, .int 0, .null, .int 0, .int 0, .null, .null, .int 0])), (q_1, .inl (cA_2, 4000, .inl (fun _ => 0)))] H := hP
  have hD : va_D A [(h0, .inr (8, [.ref q_1, .int 0, .null, .int 0, .int 0, .null, .null, .int 0])), (q_1, .inl (cA_2, 4000, .inl (fun _ => 0)))] := hD
  refine lv_aload_n hx hb dX8_init_13 rfl (lv_at hl 0 rfl) ?_
  refine lv_iconst (v := 0) hx hb dX8_init_14 (by decide) ?_
  refine va_put (D := (dC, dI)) (ci := 8) (v := .int 0) (ty := .int) (C := RX8) (T := TX8) (N := 8) hx hb hA zin_X8 tyX8 tyX8_ok nmX8 hown hK hP hD hS 0 rfl rfl 1 (by decide) (hA _ wi_560) (fun _ h9 => h9) rfl (by decide +kernel) rfl rfl (Nat.le_of_ble_eq_true rfl) dX8_init_15 (fun H locs hP hD hS => ?_)
  have hP : va_P (dC, dI) vwCl [(h0, .inr (8, [.ref q_1, .int 0, .null, .int 0, .int 0, .null, .null, .int 0])), (q_1, .inl (cA_2, 4000, .inl (fun _ => 0)))] H := hP
  have hD : va_D A [(h0, .inr (8, [.ref q_1, .int 0, .null, .int 0, .int 0, .null, .null, .int 0])), (q_1, .inl (cA_2, 4000, .inl (fun _ => 0)))] := hD
  refine lv_aload_n hx hb dX8_init_18 rfl (lv_at hl 0 rfl) ?_
  refine lv_sipush (v := 4000) hx hb dX8_init_19 (by decide) ?_
  refine va_newa (atype := .byte) (ty := .byte) (a0 := (4000, .inl (fun _ => 0))) (N' := 4000) hx hb (hA _ wi_219) rfl hK hP hD hS hAA (fun _ => rfl) (by decide) (by decide) (by decide) (Nat.le_of_ble_eq_true rfl) (Nat.le_of_ble_eq_true rfl) dX8_init_22 (fun q_3 cA_4 H hK hP hD hS => ?_)
  have hP : va_P (dC, dI) vwCl [(h0, .inr (8, [.ref q_1, .int 0, .null, .int 0, .int 0, .null, .null, .int 0])), (q_1, .inl (cA_2, 4000, .inl (fun _ => 0))), (q_3, .inl (cA_4, 4000, .inl (fun _ => 0)))] H := hP
  have hD : va_D A [(h0, .inr (8, [.ref q_1, .int 0, .null, .int 0, .int 0, .null, .null, .int 0])), (q_1, .inl (cA_2, 4000, .inl (fun _ => 0))), (q_3, .inl (cA_4, 4000, .inl (fun _ => 0)))] := hD
  have hK : va_K (dC, dI) vwCl [(cA_2, .byte), (cA_4, .byte)] s := hK
  refine W.widen (k := 2) (n := 8000) (Nat.le_of_ble_eq_true rfl) (Nat.le_of_ble_eq_true rfl) ?_
  refine va_put (D := (dC, dI)) (ci := 8) (v := .ref q_3) (ty := .array .byte) (C := RX8) (T := TX8) (N := 8) hx hb hA zin_X8 tyX8 tyX8_ok nmX8 hown hK hP hD hS 0 rfl rfl 2 (by decide) (hA _ wi_561) (fun _ h9 => h9) rfl (by decide +kernel) rfl rfl (Nat.le_of_ble_eq_true rfl) dX8_init_24 (fun H locs hP hD hS => ?_)
  have hP : va_P (dC, dI) vwCl [(h0, .inr (8, [.ref q_1, .int 0, .ref q_3, .int 0, .int 0, .null, .null, .int 0])), (q_1, .inl (cA_2, 4000, .inl (fun _ => 0))), (q_3, .inl (cA_4, 4000, .inl (fun _ => 0)))] H := hP
  have hD : va_D A [(h0, .inr (8, [.ref q_1, .int 0, .ref q_3, .int 0, .int 0, .null, .null, .int 0])), (q_1, .inl (cA_2, 4000, .inl (fun _ => 0))), (q_3, .inl (cA_4, 4000, .inl (fun _ => 0)))] := hD
  refine lv_aload_n hx hb dX8_init_27 rfl (lv_at hl 0 rfl) ?_
  refine lv_iconst (v := 0) hx hb dX8_init_28 (by decide) ?_
  refine va_put (D := (dC, dI)) (ci := 8) (v := .int 0) (ty := .int) (C := RX8) (T := TX8) (N := 8) hx hb hA zin_X8 tyX8 tyX8_ok nmX8 hown hK hP hD hS 0 rfl rfl 3 (by decide) (hA _ wi_562) (fun _ h9 => h9) rfl (by decide +kernel) rfl rfl (Nat.le_of_ble_eq_true rfl) dX8_init_29 (fun H locs hP hD hS => ?_)
  have hP : va_P (dC, dI) vwCl [(h0, .inr (8, [.ref q_1, .int 0, .ref q_3, .int 0, .int 0, .null, .null, .int 0])), (q_1, .inl (cA_2, 4000, .inl (fun _ => 0))), (q_3, .inl (cA_4, 4000, .inl (fun _ => 0)))] H := hP
  have hD : va_D A [(h0, .inr (8, [.ref q_1, .int 0, .ref q_3, .int 0, .int 0, .null, .null, .int 0])), (q_1, .inl (cA_2, 4000, .inl (fun _ => 0))), (q_3, .inl (cA_4, 4000, .inl (fun _ => 0)))] := hD
  refine lv_aload_n hx hb dX8_init_32 rfl (lv_at hl 0 rfl) ?_
  refine lv_iconst (v := 0) hx hb dX8_init_33 (by decide) ?_
  refine va_put (D := (dC, dI)) (ci := 8) (v := .int 0) (ty := .boolean) (C := RX8) (T := TX8) (N := 8) hx hb hA zin_X8 tyX8 tyX8_ok nmX8 hown hK hP hD hS 0 rfl rfl 4 (by decide) (hA _ wi_563) (fun _ h9 => h9) rfl (by decide +kernel) rfl rfl (Nat.le_of_ble_eq_true rfl) dX8_init_34 (fun H locs hP hD hS => ?_)
  have hP : va_P (dC, dI) vwCl [(h0, .inr (8, [.ref q_1, .int 0, .ref q_3, .int 0, .int 0, .null, .null, .int 0])), (q_1, .inl (cA_2, 4000, .inl (fun _ => 0))), (q_3, .inl (cA_4, 4000, .inl (fun _ => 0)))] H := hP
  have hD : va_D A [(h0, .inr (8, [.ref q_1, .int 0, .ref q_3, .int 0, .int 0, .null, .null, .int 0])), (q_1, .inl (cA_2, 4000, .inl (fun _ => 0))), (q_3, .inl (cA_4, 4000, .inl (fun _ => 0)))] := hD
  refine lv_aload_n hx hb dX8_init_37 rfl (lv_at hl 0 rfl) ?_
  refine lv_sipush (v := 2000) hx hb dX8_init_38 (by decide) ?_
  refine va_newa (atype := .int) (ty := .int) (a0 := (2000, .inl (fun _ => 0))) (N' := 2000) hx hb (hA _ wi_220) rfl hK hP hD hS hAA (fun _ => rfl) (by decide) (by decide) (by decide) (Nat.le_of_ble_eq_true rfl) (Nat.le_of_ble_eq_true rfl) dX8_init_41 (fun q_5 cA_6 H hK hP hD hS => ?_)
  have hP : va_P (dC, dI) vwCl [(h0, .inr (8, [.ref q_1, .int 0, .ref q_3, .int 0, .int 0, .null, .null, .int 0])), (q_1, .inl (cA_2, 4000, .inl (fun _ => 0))), (q_3, .inl (cA_4, 4000, .inl (fun _ => 0))), (q_5, .inl (cA_6, 2000, .inl (fun _ => 0)))] H := hP
  have hD : va_D A [(h0, .inr (8, [.ref q_1, .int 0, .ref q_3, .int 0, .int 0, .null, .null, .int 0])), (q_1, .inl (cA_2, 4000, .inl (fun _ => 0))), (q_3, .inl (cA_4, 4000, .inl (fun _ => 0))), (q_5, .inl (cA_6, 2000, .inl (fun _ => 0)))] := hD
  have hK : va_K (dC, dI) vwCl [(cA_2, .byte), (cA_4, .byte), (cA_6, .int)] s := hK
  refine W.widen (k := 3) (n := 10000) (Nat.le_of_ble_eq_true rfl) (Nat.le_of_ble_eq_true rfl) ?_
  refine va_putF (D := (dC, dI)) (ci := 8) (v := .ref q_5) (ty := .array .int) (C := RX8) (T := TX8) (N := 8) hx hb hA zin_X8 tyX8 tyX8_ok nmX8 hown hK hP hD hS 0 rfl rfl 5 (by decide) (hA _ wi_564) (fun _ h9 => h9) rfl hin rfl (by decide +kernel) rfl rfl (Nat.le_of_ble_eq_true rfl) dX8_init_43 (fun H locs hP hD hS => ?_)
  have hP : va_P (dC, dI) vwCl [(h0, .inr (8, [.ref q_1, .int 0, .ref q_3, .int 0, .int 0, .ref q_5, .null, .int 0])), (q_1, .inl (cA_2, 4000, .inl (fun _ => 0))), (q_3, .inl (cA_4, 4000, .inl (fun _ => 0))), (q_5, .inl (cA_6, 2000, .inl (fun _ => 0)))] H := hP
  have hD : va_D A [(h0, .inr (8, [.ref q_1, .int 0, .ref q_3, .int 0, .int 0, .ref q_5, .null, .int 0])), (q_1, .inl (cA_2, 4000, .inl (fun _ => 0))), (q_3, .inl (cA_4, 4000, .inl (fun _ => 0))), (q_5, .inl (cA_6, 2000, .inl (fun _ => 0)))] := hD
  refine lv_aload_n hx hb dX8_init_46 rfl (lv_at hl 0 rfl) ?_
  refine lv_sipush (v := 2000) hx hb dX8_init_47 (by decide) ?_
  refine va_newa (atype := .int) (ty := .int) (a0 := (2000, .inl (fun _ => 0))) (N' := 2000) hx hb (hA _ wi_220) rfl hK hP hD hS hAA (fun _ => rfl) (by decide) (by decide) (by decide) (Nat.le_of_ble_eq_true rfl) (Nat.le_of_ble_eq_true rfl) dX8_init_50 (fun q_7 cA_8 H hK hP hD hS => ?_)
  have hP : va_P (dC, dI) vwCl [(h0, .inr (8, [.ref q_1, .int 0, .ref q_3, .int 0, .int 0, .ref q_5, .null, .int 0])), (q_1, .inl (cA_2, 4000, .inl (fun _ => 0))), (q_3, .inl (cA_4, 4000, .inl (fun _ => 0))), (q_5, .inl (cA_6, 2000, .inl (fun _ => 0))), (q_7, .inl (cA_8, 2000, .inl (fun _ => 0)))] H := hP
  have hD : va_D A [(h0, .inr (8, [.ref q_1, .int 0, .ref q_3, .int 0, .int 0, .ref q_5, .null, .int 0])), (q_1, .inl (cA_2, 4000, .inl (fun _ => 0))), (q_3, .inl (cA_4, 4000, .inl (fun _ => 0))), (q_5, .inl (cA_6, 2000, .inl (fun _ => 0))), (q_7, .inl (cA_8, 2000, .inl (fun _ => 0)))] := hD
  have hK : va_K (dC, dI) vwCl [(cA_2, .byte), (cA_4, .byte), (cA_6, .int), (cA_8, .int)] s := hK
  refine W.widen (k := 4) (n := 12000) (Nat.le_of_ble_eq_true rfl) (Nat.le_of_ble_eq_true rfl) ?_
  refine va_putF (D := (dC, dI)) (ci := 8) (v := .ref q_7) (ty := .array .int) (C := RX8) (T := TX8) (N := 8) hx hb hA zin_X8 tyX8 tyX8_ok nmX8 hown hK hP hD hS 0 rfl rfl 6 (by decide) (hA _ wi_565) (fun _ h9 => h9) rfl hin rfl (by decide +kernel) rfl rfl (Nat.le_of_ble_eq_true rfl) dX8_init_52 (fun H locs hP hD hS => ?_)
  have hP : va_P (dC, dI) vwCl [(h0, .inr (8, [.ref q_1, .int 0, .ref q_3, .int 0, .int 0, .ref q_5, .ref q_7, .int 0])), (q_1, .inl (cA_2, 4000, .inl (fun _ => 0))), (q_3, .inl (cA_4, 4000, .inl (fun _ => 0))), (q_5, .inl (cA_6, 2000, .inl (fun _ => 0))), (q_7, .inl (cA_8, 2000, .inl (fun _ => 0)))] H := hP
  have hD : va_D A [(h0, .inr (8, [.ref q_1, .int 0, .ref q_3, .int 0, .int 0, .ref q_5, .ref q_7, .int 0])), (q_1, .inl (cA_2, 4000, .inl (fun _ => 0))), (q_3, .inl (cA_4, 4000, .inl (fun _ => 0))), (q_5, .inl (cA_6, 2000, .inl (fun _ => 0))), (q_7, .inl (cA_8, 2000, .inl (fun _ => 0)))] := hD
  refine lv_aload_n hx hb dX8_init_55 rfl (lv_at hl 0 rfl) ?_
  refine lv_iconst (v := 0) hx hb dX8_init_56 (by decide) ?_
  refine va_put (D := (dC, dI)) (ci := 8) (v := .int 0) (ty := .int) (C := RX8) (T := TX8) (N := 8) hx hb hA zin_X8 tyX8 tyX8_ok nmX8 hown hK hP hD hS 0 rfl rfl 7 (by decide) (hA _ wi_566) (fun _ h9 => h9) rfl (by decide +kernel) rfl rfl (Nat.le_of_ble_eq_true rfl) dX8_init_57 (fun H locs hP hD hS => ?_)
  have hP : va_P (dC, dI) vwCl [(h0, .inr (8, [.ref q_1, .int 0, .ref q_3, .int 0, .int 0, .ref q_5, .ref q_7, .int 0])), (q_1, .inl (cA_2, 4000, .inl (fun _ => 0))), (q_3, .inl (cA_4, 4000, .inl (fun _ => 0))), (q_5, .inl (cA_6, 2000, .inl (fun _ => 0))), (q_7, .inl (cA_8, 2000, .inl (fun _ => 0)))] H := hP
  have hD : va_D A [(h0, .inr (8, [.ref q_1, .int 0, .ref q_3, .int 0, .int 0, .ref q_5, .ref q_7, .int 0])), (q_1, .inl (cA_2, 4000, .inl (fun _ => 0))), (q_3, .inl (cA_4, 4000, .inl (fun _ => 0))), (q_5, .inl (cA_6, 2000, .inl (fun _ => 0))), (q_7, .inl (cA_8, 2000, .inl (fun _ => 0)))] := hD
  have hP9 := hP.sub (ws' := [(h0, .inr (8, [.ref q_1, .int 0, .ref q_3, .int 0, .int 0, .ref q_5, .ref q_7, .int 0])), (q_1, .inl (cA_2, 4000, .inl (fun _ => 0))), (q_3, .inl (cA_4, 4000, .inl (fun _ => 0))), (q_5, .inl (cA_6, 2000, .inl (fun _ => 0))), (q_7, .inl (cA_8, 2000, .inl (fun _ => 0)))]) [0, 1, 2, 3, 4] rfl
  have hD9 := hD.sub (ws' := [(h0, .inr (8, [.ref q_1, .int 0, .ref q_3, .int 0, .int 0, .ref q_5, .ref q_7, .int 0])), (q_1, .inl (cA_2, 4000, .inl (fun _ => 0))), (q_3, .inl (cA_4, 4000, .inl (fun _ => 0))), (q_5, .inl (cA_6, 2000, .inl (fun _ => 0))), (q_7, .inl (cA_8, 2000, .inl (fun _ => 0)))]) [0, 1, 2, 3, 4] (by decide) rfl
  have hK9 := hK.sub (tys' := [(cA_2, .byte), (cA_4, .byte), (cA_6, .int), (cA_8, .int)]) [0, 1, 2, 3] rfl
  exact W.vret hx hb hr (fun t ht hW => ⟨⟨(q_1, q_3, q_5, q_7, cA_2, cA_4, cA_6, cA_8), rfl, trivial, by rw [ht]; exact hP9, va_K.moved hW.alike hK9, hD9⟩, hS.F ht⟩) hS.2.2 dX8_init_60
set_option maxHeartbeats 4000000 in
set_option maxRecDepth 100000 in
theorem c_X6_init (l : Launch) (dC : Nat → ClassId) (dI : Nat → Nat → Nat) (aK aV : Nat → Nat) (h0 : Nat) (sz : Nat)  : Met l yX6_init (Cond.code yX6_init cX6_init 1 none :: zw) ({ frames := 8, cells := 1, slots := 3000, locals := 200 }) (va_Pc [.ref h0] (zP dC dI aK aV sz [] [(h0, .inr (6, [.null]))])) (va_Qv (fun u : Nat × ClassId => match u with | (z_order, k_order) => True) (fun u => match u with | (z_order, k_order) => zQ dC dI (va_A [(h0, .inr (6, [.null]))] sz) [(k_order, .int)] [(h0, .inr (6, [.ref z_order])), (z_order, .inl (k_order, 3000, .inl (fun _ => 0)))]) (va_A [(h0, .inr (6, [.null]))] sz)) 1 3000 (va_A [(h0, .inr (6, [.null]))] sz) := by
  refine Met.ofW (cc := cX6_init) (maxL := 1) (ret := none) (by decide) rfl ?_
  intro p e s m args below meth c s₁ B hml hv
  obtain ⟨rfl, hsz, hP, hK, hD0, hN, hT⟩ := hv
  have hx := B.exec
  have hb := B.bytes
  have hr := B.returns
  have hts := atoms_spec (ws := Cond.code yX6_init cX6_init 1 none :: zw) B.pre
  have hA : ∀ w ∈ zw, w.before _ s = true := fun w h => hts w (List.mem_cons_of_mem _ h)
  have hown : s.vm.findClass RX6 = some m.cls := findClass_of_methodNamed B.named
  have hlocks := B.notSynchronized
  have hin : meth.name = "<init>" := (name_of_methodNamed B.named B.method).1
  subst hsz
  have hD := hD0.self (sz := s.heap.size)
  generalize hAe : va_A [(h0, .inr (6, [.null]))] s.heap.size = A at hD hT ⊢
  have hAA : ∀ q : Nat, s.heap.size ≤ q → A q := fun q h => by rw [← hAe]; exact Or.inr h
  have hS : va_S A s.heap s.heap [] := va_S.rf
  have hl := lv_entry ([.ref h0]) (n := 1) (Nat.le_of_ble_eq_true rfl)
  rw [lg_entry_eq]
  generalize (lg_sl ([.ref h0]) ++ List.replicate (1 - (lg_sl ([.ref h0])).length) Slot.unset).toArray = ls at hl ⊢
  have hl : lv_has ls 1 [(0, .ref h0)] := hl
  refine lv_aload_n hx hb dX6_init_0 rfl (lv_at hl 0 rfl) ?_
  refine W.objInit hx hb hown (hA _ wi_380) (hA _ wi_162) (hA _ wi_163) rfl (by rw [hml]; exact hl.1) rfl dX6_init_1 (Nat.le_of_ble_eq_true rfl) (Nat.le_of_ble_eq_true rfl) ?_
  refine W.eq (g2 := F0 m 4 ls []) rfl ?_
  refine lv_aload_n hx hb dX6_init_4 rfl (lv_at hl 0 rfl) ?_
  refine lv_sipush (v := 3000) hx hb dX6_init_5 (by decide) ?_
  refine va_newa (atype := .int) (ty := .int) (a0 := (3000, .inl (fun _ => 0))) (N' := 3000) hx hb (hA _ wi_220) rfl hK hP hD hS hAA (fun _ => rfl) (by decide) (by decide) (by decide) (Nat.le_of_ble_eq_true rfl) (Nat.le_of_ble_eq_true rfl) dX6_init_8 (fun q_1 cA_2 H hK hP hD hS => ?_)
  have hP : va_P (dC, dI) vwCl [(h0, .inr (6, [.null])), (q_1, .inl (cA_2, 3000, .inl (fun _ => 0)))] H := hP
  have hD : va_D A [(h0, .inr (6, [.null])), (q_1, .inl (cA_2, 3000, .inl (fun _ => 0)))] := hD
  have hK : va_K (dC, dI) vwCl [(cA_2, .int)] s := hK
  refine W.widen (k := 1) (n := 3000) (Nat.le_of_ble_eq_true rfl) (Nat.le_of_ble_eq_true rfl) ?_
  refine va_putF (D := (dC, dI)) (ci := 6) (v := .ref q_1) (ty := .array .int) (C := RX6) (T := TX6) (N := 1) hx hb hA zin_X6 tyX6 tyX6_ok nmX6 hown hK hP hD hS 0 rfl rfl 0 (by decide) (hA _ wi_381) (fun _ h9 => h9) rfl hin rfl (by decide +kernel) rfl rfl (Nat.le_of_ble_eq_true rfl) dX6_init_10 (fun H locs hP hD hS => ?_)
  have hP : va_P (dC, dI) vwCl [(h0, .inr (6, [.ref q_1])), (q_1, .inl (cA_2, 3000, .inl (fun _ => 0)))] H := hP
  have hD : va_D A [(h0, .inr (6, [.ref q_1])), (q_1, .inl (cA_2, 3000, .inl (fun _ => 0)))] := hD
  have hP9 := hP.sub (ws' := [(h0, .inr (6, [.ref q_1])), (q_1, .inl (cA_2, 3000, .inl (fun _ => 0)))]) [0, 1] rfl
  have hD9 := hD.sub (ws' := [(h0, .inr (6, [.ref q_1])), (q_1, .inl (cA_2, 3000, .inl (fun _ => 0)))]) [0, 1] (by decide) rfl
  have hK9 := hK.sub (tys' := [(cA_2, .int)]) [0] rfl
  exact W.vret hx hb hr (fun t ht hW => ⟨⟨(q_1, cA_2), rfl, trivial, by rw [ht]; exact hP9, va_K.moved hW.alike hK9, hD9⟩, hS.F ht⟩) hS.2.2 dX6_init_13
set_option maxHeartbeats 4000000 in
set_option maxRecDepth 100000 in
theorem c_X10_init (l : Launch) (dC : Nat → ClassId) (dI : Nat → Nat → Nat) (aK aV : Nat → Nat) (h0 : Nat) (sz : Nat)  : Met l yX10_init (Cond.code yX10_init cX10_init 1 none :: zw) ({ frames := 8, cells := 3, slots := 6003, locals := 200 }) (va_Pc [.ref h0] (zP dC dI aK aV sz [] [(h0, .inr (10, [.null, .null, .null, .int 0, .int 0, .int 0, .int 0, .long 0]))])) (va_Qv (fun u : Nat × Nat × Nat × ClassId × ClassId × ClassId => match u with | (z_sorts, z_places, z_words, k_sorts, k_places, k_words) => True) (fun u => match u with | (z_sorts, z_places, z_words, k_sorts, k_places, k_words) => zQ dC dI (va_A [(h0, .inr (10, [.null, .null, .null, .int 0, .int 0, .int 0, .int 0, .long 0]))] sz) [(k_sorts, .int), (k_places, .int), (k_words, .long)] [(h0, .inr (10, [.ref z_sorts, .ref z_places, .ref z_words, .int 0, .int 0, .int 256, .int 0, .long 0])), (z_sorts, .inl (k_sorts, 2001, .inl (fun _ => 0))), (z_places, .inl (k_places, 2001, .inl (fun _ => 0))), (z_words, .inl (k_words, 2001, .inr (.inl (fun _ => 0))))]) (va_A [(h0, .inr (10, [.null, .null, .null, .int 0, .int 0, .int 0, .int 0, .long 0]))] sz)) 3 6003 (va_A [(h0, .inr (10, [.null, .null, .null, .int 0, .int 0, .int 0, .int 0, .long 0]))] sz) := by
  refine Met.ofW (cc := cX10_init) (maxL := 1) (ret := none) (by decide) rfl ?_
  intro p e s m args below meth c s₁ B hml hv
  obtain ⟨rfl, hsz, hP, hK, hD0, hN, hT⟩ := hv
  have hx := B.exec
  have hb := B.bytes
  have hr := B.returns
  have hts := atoms_spec (ws := Cond.code yX10_init cX10_init 1 none :: zw) B.pre
  have hA : ∀ w ∈ zw, w.before _ s = true := fun w h => hts w (List.mem_cons_of_mem _ h)
  have hown : s.vm.findClass RX10 = some m.cls := findClass_of_methodNamed B.named
  have hlocks := B.notSynchronized
  have hin : meth.name = "<init>" := (name_of_methodNamed B.named B.method).1
  subst hsz
  have hD := hD0.self (sz := s.heap.size)
  generalize hAe : va_A [(h0, .inr (10, [.null, .null, .null, .int 0, .int 0, .int 0, .int 0, .long 0]))] s.heap.size = A at hD hT ⊢
  have hAA : ∀ q : Nat, s.heap.size ≤ q → A q := fun q h => by rw [← hAe]; exact Or.inr h
  have hS : va_S A s.heap s.heap [] := va_S.rf
  have hl := lv_entry ([.ref h0]) (n := 1) (Nat.le_of_ble_eq_true rfl)
  rw [lg_entry_eq]
  generalize (lg_sl ([.ref h0]) ++ List.replicate (1 - (lg_sl ([.ref h0])).length) Slot.unset).toArray = ls at hl ⊢
  have hl : lv_has ls 1 [(0, .ref h0)] := hl
  refine lv_aload_n hx hb dX10_init_0 rfl (lv_at hl 0 rfl) ?_
  refine W.objInit hx hb hown (hA _ wi_345) (hA _ wi_162) (hA _ wi_163) rfl (by rw [hml]; exact hl.1) rfl dX10_init_1 (Nat.le_of_ble_eq_true rfl) (Nat.le_of_ble_eq_true rfl) ?_
  refine W.eq (g2 := F0 m 4 ls []) rfl ?_
  refine lv_aload_n hx hb dX10_init_4 rfl (lv_at hl 0 rfl) ?_
  refine lv_sipush (v := 2001) hx hb dX10_init_5 (by decide) ?_
  refine va_newa (atype := .int) (ty := .int) (a0 := (2001, .inl (fun _ => 0))) (N' := 2001) hx hb (hA _ wi_220) rfl hK hP hD hS hAA (fun _ => rfl) (by decide) (by decide) (by decide) (Nat.le_of_ble_eq_true rfl) (Nat.le_of_ble_eq_true rfl) dX10_init_8 (fun q_1 cA_2 H hK hP hD hS => ?_)
  have hP : va_P (dC, dI) vwCl [(h0, .inr (10, [.null, .null, .null, .int 0, .int 0, .int 0, .int 0, .long 0])), (q_1, .inl (cA_2, 2001, .inl (fun _ => 0)))] H := hP
  have hD : va_D A [(h0, .inr (10, [.null, .null, .null, .int 0, .int 0, .int 0, .int 0, .long 0])), (q_1, .inl (cA_2, 2001, .inl (fun _ => 0)))] := hD
  have hK : va_K (dC, dI) vwCl [(cA_2, .int)] s := hK
  refine W.widen (k := 1) (n := 2001) (Nat.le_of_ble_eq_true rfl) (Nat.le_of_ble_eq_true rfl) ?_
  refine va_putF (D := (dC, dI)) (ci := 10) (v := .ref q_1) (ty := .array .int) (C := RX10) (T := TX10) (N := 8) hx hb hA zin_X10 tyX10 tyX10_ok nmX10 hown hK hP hD hS 0 rfl rfl 0 (by decide) (hA _ wi_346) (fun _ h9 => h9) rfl hin rfl (by decide +kernel) rfl rfl (Nat.le_of_ble_eq_true rfl) dX10_init_10 (fun H locs hP hD hS => ?_)
  have hP : va_P (dC, dI) vwCl [(h0, .inr (10, [.ref q_1, .null, .null, .int 0, .int 0, .int 0, .int 0, .long 0])), (q_1, .inl (cA_2, 2001, .inl (fun _ => 0)))] H := hP
  have hD : va_D A [(h0, .inr (10, [.ref q_1, .null, .null, .int 0, .int 0, .int 0, .int 0, .long 0])), (q_1, .inl (cA_2, 2001, .inl (fun _ => 0)))] := hD
  refine lv_aload_n hx hb dX10_init_13 rfl (lv_at hl 0 rfl) ?_
  refine lv_sipush (v := 2001) hx hb dX10_init_14 (by decide) ?_
  refine va_newa (atype := .int) (ty := .int) (a0 := (2001, .inl (fun _ => 0))) (N' := 2001) hx hb (hA _ wi_220) rfl hK hP hD hS hAA (fun _ => rfl) (by decide) (by decide) (by decide) (Nat.le_of_ble_eq_true rfl) (Nat.le_of_ble_eq_true rfl) dX10_init_17 (fun q_3 cA_4 H hK hP hD hS => ?_)
  have hP : va_P (dC, dI) vwCl [(h0, .inr (10, [.ref q_1, .null, .null, .int 0, .int 0, .int 0, .int 0, .long 0])), (q_1, .inl (cA_2, 2001, .inl (fun _ => 0))), (q_3, .inl (cA_4, 2001, .inl (fun _ => 0)))] H := hP
  have hD : va_D A [(h0, .inr (10, [.ref q_1, .null, .null, .int 0, .int 0, .int 0, .int 0, .long 0])), (q_1, .inl (cA_2, 2001, .inl (fun _ => 0))), (q_3, .inl (cA_4, 2001, .inl (fun _ => 0)))] := hD
  have hK : va_K (dC, dI) vwCl [(cA_2, .int), (cA_4, .int)] s := hK
  refine W.widen (k := 2) (n := 4002) (Nat.le_of_ble_eq_true rfl) (Nat.le_of_ble_eq_true rfl) ?_
  refine va_putF (D := (dC, dI)) (ci := 10) (v := .ref q_3) (ty := .array .int) (C := RX10) (T := TX10) (N := 8) hx hb hA zin_X10 tyX10 tyX10_ok nmX10 hown hK hP hD hS 0 rfl rfl 1 (by decide) (hA _ wi_347) (fun _ h9 => h9) rfl hin rfl (by decide +kernel) rfl rfl (Nat.le_of_ble_eq_true rfl) dX10_init_19 (fun H locs hP hD hS => ?_)
  have hP : va_P (dC, dI) vwCl [(h0, .inr (10, [.ref q_1, .ref q_3, .null, .int 0, .int 0, .int 0, .int 0, .long 0])), (q_1, .inl (cA_2, 2001, .inl (fun _ => 0))), (q_3, .inl (cA_4, 2001, .inl (fun _ => 0)))] H := hP
  have hD : va_D A [(h0, .inr (10, [.ref q_1, .ref q_3, .null, .int 0, .int 0, .int 0, .int 0, .long 0])), (q_1, .inl (cA_2, 2001, .inl (fun _ => 0))), (q_3, .inl (cA_4, 2001, .inl (fun _ => 0)))] := hD
  refine lv_aload_n hx hb dX10_init_22 rfl (lv_at hl 0 rfl) ?_
  refine lv_sipush (v := 2001) hx hb dX10_init_23 (by decide) ?_
  refine va_newa (atype := .long) (ty := .long) (a0 := (2001, .inr (.inl (fun _ => 0)))) (N' := 2001) hx hb (hA _ wi_283) rfl hK hP hD hS hAA (fun _ => rfl) (by decide) (by decide) (by decide) (Nat.le_of_ble_eq_true rfl) (Nat.le_of_ble_eq_true rfl) dX10_init_26 (fun q_5 cA_6 H hK hP hD hS => ?_)
  have hP : va_P (dC, dI) vwCl [(h0, .inr (10, [.ref q_1, .ref q_3, .null, .int 0, .int 0, .int 0, .int 0, .long 0])), (q_1, .inl (cA_2, 2001, .inl (fun _ => 0))), (q_3, .inl (cA_4, 2001, .inl (fun _ => 0))), (q_5, .inl (cA_6, 2001, .inr (.inl (fun _ => 0))))] H := hP
  have hD : va_D A [(h0, .inr (10, [.ref q_1, .ref q_3, .null, .int 0, .int 0, .int 0, .int 0, .long 0])), (q_1, .inl (cA_2, 2001, .inl (fun _ => 0))), (q_3, .inl (cA_4, 2001, .inl (fun _ => 0))), (q_5, .inl (cA_6, 2001, .inr (.inl (fun _ => 0))))] := hD
  have hK : va_K (dC, dI) vwCl [(cA_2, .int), (cA_4, .int), (cA_6, .long)] s := hK
  refine W.widen (k := 3) (n := 6003) (Nat.le_of_ble_eq_true rfl) (Nat.le_of_ble_eq_true rfl) ?_
  refine va_putF (D := (dC, dI)) (ci := 10) (v := .ref q_5) (ty := .array .long) (C := RX10) (T := TX10) (N := 8) hx hb hA zin_X10 tyX10 tyX10_ok nmX10 hown hK hP hD hS 0 rfl rfl 2 (by decide) (hA _ wi_348) (fun _ h9 => h9) rfl hin rfl (by decide +kernel) rfl rfl (Nat.le_of_ble_eq_true rfl) dX10_init_28 (fun H locs hP hD hS => ?_)
  have hP : va_P (dC, dI) vwCl [(h0, .inr (10, [.ref q_1, .ref q_3, .ref q_5, .int 0, .int 0, .int 0, .int 0, .long 0])), (q_1, .inl (cA_2, 2001, .inl (fun _ => 0))), (q_3, .inl (cA_4, 2001, .inl (fun _ => 0))), (q_5, .inl (cA_6, 2001, .inr (.inl (fun _ => 0))))] H := hP
  have hD : va_D A [(h0, .inr (10, [.ref q_1, .ref q_3, .ref q_5, .int 0, .int 0, .int 0, .int 0, .long 0])), (q_1, .inl (cA_2, 2001, .inl (fun _ => 0))), (q_3, .inl (cA_4, 2001, .inl (fun _ => 0))), (q_5, .inl (cA_6, 2001, .inr (.inl (fun _ => 0))))] := hD
  refine lv_aload_n hx hb dX10_init_31 rfl (lv_at hl 0 rfl) ?_
  refine lv_iconst (v := 0) hx hb dX10_init_32 (by decide) ?_
  refine va_put (D := (dC, dI)) (ci := 10) (v := .int 0) (ty := .int) (C := RX10) (T := TX10) (N := 8) hx hb hA zin_X10 tyX10 tyX10_ok nmX10 hown hK hP hD hS 0 rfl rfl 3 (by decide) (hA _ wi_349) (fun _ h9 => h9) rfl (by decide +kernel) rfl rfl (Nat.le_of_ble_eq_true rfl) dX10_init_33 (fun H locs hP hD hS => ?_)
  have hP : va_P (dC, dI) vwCl [(h0, .inr (10, [.ref q_1, .ref q_3, .ref q_5, .int 0, .int 0, .int 0, .int 0, .long 0])), (q_1, .inl (cA_2, 2001, .inl (fun _ => 0))), (q_3, .inl (cA_4, 2001, .inl (fun _ => 0))), (q_5, .inl (cA_6, 2001, .inr (.inl (fun _ => 0))))] H := hP
  have hD : va_D A [(h0, .inr (10, [.ref q_1, .ref q_3, .ref q_5, .int 0, .int 0, .int 0, .int 0, .long 0])), (q_1, .inl (cA_2, 2001, .inl (fun _ => 0))), (q_3, .inl (cA_4, 2001, .inl (fun _ => 0))), (q_5, .inl (cA_6, 2001, .inr (.inl (fun _ => 0))))] := hD
  refine lv_aload_n hx hb dX10_init_36 rfl (lv_at hl 0 rfl) ?_
  refine lv_iconst (v := 0) hx hb dX10_init_37 (by decide) ?_
  refine va_put (D := (dC, dI)) (ci := 10) (v := .int 0) (ty := .int) (C := RX10) (T := TX10) (N := 8) hx hb hA zin_X10 tyX10 tyX10_ok nmX10 hown hK hP hD hS 0 rfl rfl 4 (by decide) (hA _ wi_350) (fun _ h9 => h9) rfl (by decide +kernel) rfl rfl (Nat.le_of_ble_eq_true rfl) dX10_init_38 (fun H locs hP hD hS => ?_)
  have hP : va_P (dC, dI) vwCl [(h0, .inr (10, [.ref q_1, .ref q_3, .ref q_5, .int 0, .int 0, .int 0, .int 0, .long 0])), (q_1, .inl (cA_2, 2001, .inl (fun _ => 0))), (q_3, .inl (cA_4, 2001, .inl (fun _ => 0))), (q_5, .inl (cA_6, 2001, .inr (.inl (fun _ => 0))))] H := hP
  have hD : va_D A [(h0, .inr (10, [.ref q_1, .ref q_3, .ref q_5, .int 0, .int 0, .int 0, .int 0, .long 0])), (q_1, .inl (cA_2, 2001, .inl (fun _ => 0))), (q_3, .inl (cA_4, 2001, .inl (fun _ => 0))), (q_5, .inl (cA_6, 2001, .inr (.inl (fun _ => 0))))] := hD
  refine lv_aload_n hx hb dX10_init_41 rfl (lv_at hl 0 rfl) ?_
  refine lv_sipush (v := 256) hx hb dX10_init_42 (by decide) ?_
  refine va_put (D := (dC, dI)) (ci := 10) (v := .int 256) (ty := .int) (C := RX10) (T := TX10) (N := 8) hx hb hA zin_X10 tyX10 tyX10_ok nmX10 hown hK hP hD hS 0 rfl rfl 5 (by decide) (hA _ wi_352) (fun _ h9 => h9) rfl (by decide +kernel) rfl rfl (Nat.le_of_ble_eq_true rfl) dX10_init_45 (fun H locs hP hD hS => ?_)
  have hP : va_P (dC, dI) vwCl [(h0, .inr (10, [.ref q_1, .ref q_3, .ref q_5, .int 0, .int 0, .int 256, .int 0, .long 0])), (q_1, .inl (cA_2, 2001, .inl (fun _ => 0))), (q_3, .inl (cA_4, 2001, .inl (fun _ => 0))), (q_5, .inl (cA_6, 2001, .inr (.inl (fun _ => 0))))] H := hP
  have hD : va_D A [(h0, .inr (10, [.ref q_1, .ref q_3, .ref q_5, .int 0, .int 0, .int 256, .int 0, .long 0])), (q_1, .inl (cA_2, 2001, .inl (fun _ => 0))), (q_3, .inl (cA_4, 2001, .inl (fun _ => 0))), (q_5, .inl (cA_6, 2001, .inr (.inl (fun _ => 0))))] := hD
  refine lv_aload_n hx hb dX10_init_48 rfl (lv_at hl 0 rfl) ?_
  refine lv_iconst (v := 0) hx hb dX10_init_49 (by decide) ?_
  refine va_put (D := (dC, dI)) (ci := 10) (v := .int 0) (ty := .int) (C := RX10) (T := TX10) (N := 8) hx hb hA zin_X10 tyX10 tyX10_ok nmX10 hown hK hP hD hS 0 rfl rfl 6 (by decide) (hA _ wi_354) (fun _ h9 => h9) rfl (by decide +kernel) rfl rfl (Nat.le_of_ble_eq_true rfl) dX10_init_50 (fun H locs hP hD hS => ?_)
  have hP : va_P (dC, dI) vwCl [(h0, .inr (10, [.ref q_1, .ref q_3, .ref q_5, .int 0, .int 0, .int 256, .int 0, .long 0])), (q_1, .inl (cA_2, 2001, .inl (fun _ => 0))), (q_3, .inl (cA_4, 2001, .inl (fun _ => 0))), (q_5, .inl (cA_6, 2001, .inr (.inl (fun _ => 0))))] H := hP
  have hD : va_D A [(h0, .inr (10, [.ref q_1, .ref q_3, .ref q_5, .int 0, .int 0, .int 256, .int 0, .long 0])), (q_1, .inl (cA_2, 2001, .inl (fun _ => 0))), (q_3, .inl (cA_4, 2001, .inl (fun _ => 0))), (q_5, .inl (cA_6, 2001, .inr (.inl (fun _ => 0))))] := hD
  refine lv_aload_n hx hb dX10_init_53 rfl (lv_at hl 0 rfl) ?_
  refine lv_lconst (v := 0) hx hb dX10_init_54 (by decide) ?_
  refine va_put (D := (dC, dI)) (ci := 10) (v := .long 0) (ty := .long) (C := RX10) (T := TX10) (N := 8) hx hb hA zin_X10 tyX10 tyX10_ok nmX10 hown hK hP hD hS 0 rfl rfl 7 (by decide) (hA _ wi_356) (fun _ h9 => h9) rfl (by decide +kernel) rfl rfl (Nat.le_of_ble_eq_true rfl) dX10_init_55 (fun H locs hP hD hS => ?_)
  have hP : va_P (dC, dI) vwCl [(h0, .inr (10, [.ref q_1, .ref q_3, .ref q_5, .int 0, .int 0, .int 256, .int 0, .long 0])), (q_1, .inl (cA_2, 2001, .inl (fun _ => 0))), (q_3, .inl (cA_4, 2001, .inl (fun _ => 0))), (q_5, .inl (cA_6, 2001, .inr (.inl (fun _ => 0))))] H := hP
  have hD : va_D A [(h0, .inr (10, [.ref q_1, .ref q_3, .ref q_5, .int 0, .int 0, .int 256, .int 0, .long 0])), (q_1, .inl (cA_2, 2001, .inl (fun _ => 0))), (q_3, .inl (cA_4, 2001, .inl (fun _ => 0))), (q_5, .inl (cA_6, 2001, .inr (.inl (fun _ => 0))))] := hD
  have hP9 := hP.sub (ws' := [(h0, .inr (10, [.ref q_1, .ref q_3, .ref q_5, .int 0, .int 0, .int 256, .int 0, .long 0])), (q_1, .inl (cA_2, 2001, .inl (fun _ => 0))), (q_3, .inl (cA_4, 2001, .inl (fun _ => 0))), (q_5, .inl (cA_6, 2001, .inr (.inl (fun _ => 0))))]) [0, 1, 2, 3] rfl
  have hD9 := hD.sub (ws' := [(h0, .inr (10, [.ref q_1, .ref q_3, .ref q_5, .int 0, .int 0, .int 256, .int 0, .long 0])), (q_1, .inl (cA_2, 2001, .inl (fun _ => 0))), (q_3, .inl (cA_4, 2001, .inl (fun _ => 0))), (q_5, .inl (cA_6, 2001, .inr (.inl (fun _ => 0))))]) [0, 1, 2, 3] (by decide) rfl
  have hK9 := hK.sub (tys' := [(cA_2, .int), (cA_4, .int), (cA_6, .long)]) [0, 1, 2] rfl
  exact W.vret hx hb hr (fun t ht hW => ⟨⟨(q_1, q_3, q_5, cA_2, cA_4, cA_6), rfl, trivial, by rw [ht]; exact hP9, va_K.moved hW.alike hK9, hD9⟩, hS.F ht⟩) hS.2.2 dX10_init_58
