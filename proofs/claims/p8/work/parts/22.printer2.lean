theorem wi_566 : Cond.fieldLink RX8 36 "ReuseHouse$Printer" "open" "I" ∈ zw := zw_in (List.mem_of_getElem? (i := 566) (by decide +kernel)) (by decide +kernel)
theorem wi_564 : Cond.fieldLink RX8 29 "ReuseHouse$Printer" "openCell" "[I" ∈ zw := zw_in (List.mem_of_getElem? (i := 564) (by decide +kernel)) (by decide +kernel)
theorem wi_565 : Cond.fieldLink RX8 33 "ReuseHouse$Printer" "openField" "[I" ∈ zw := zw_in (List.mem_of_getElem? (i := 565) (by decide +kernel)) (by decide +kernel)
theorem wi_1311 : Cond.code yX8_put cX8_put 2 none ∈ zw := zw_in (List.mem_of_getElem? (i := 1311) (by decide +kernel)) (by decide +kernel)
theorem wi_1308 : Cond.methodLink RX8 53 yX8_put ∈ zw := zw_in (List.mem_of_getElem? (i := 1308) (by decide +kernel)) (by decide +kernel)
theorem wi_1310 : Cond.instanceMethod yX8_put ∈ zw := zw_in (List.mem_of_getElem? (i := 1310) (by decide +kernel)) (by decide +kernel)
theorem wi_69 : Cond.selects RX8 yX8_put yX8_put ∈ zw := zw_in (List.mem_of_getElem? (i := 69) (by decide +kernel)) (by decide +kernel)
theorem wi_142 : Cond.initialized RX8 ∈ zw := zw_in (List.mem_of_getElem? (i := 142) (by decide +kernel)) (by decide +kernel)
theorem dX8_openFields_0 : decode cX8_openFields 0 = .ok (.aload_n 0, 1) := by decide +kernel
theorem dX8_openFields_1 : decode cX8_openFields 1 = .ok (.getfield 36, 3) := by decide +kernel
theorem dX8_openFields_4 : decode cX8_openFields 4 = .ok (.sipush 2000, 3) := by decide +kernel
theorem dX8_openFields_7 : decode cX8_openFields 7 = .ok (.if_icmp .lt 9, 3) := by decide +kernel
theorem dX8_openFields_10 : decode cX8_openFields 10 = .ok (.aload_n 0, 1) := by decide +kernel
theorem dX8_openFields_11 : decode cX8_openFields 11 = .ok (.iconst 1, 1) := by decide +kernel
theorem dX8_openFields_12 : decode cX8_openFields 12 = .ok (.putfield 25, 3) := by decide +kernel
theorem dX8_openFields_15 : decode cX8_openFields 15 = .ok (.return_, 1) := by decide +kernel
theorem dX8_openFields_16 : decode cX8_openFields 16 = .ok (.aload_n 0, 1) := by decide +kernel
theorem dX8_openFields_17 : decode cX8_openFields 17 = .ok (.getfield 29, 3) := by decide +kernel
theorem dX8_openFields_20 : decode cX8_openFields 20 = .ok (.aload_n 0, 1) := by decide +kernel
theorem dX8_openFields_21 : decode cX8_openFields 21 = .ok (.getfield 36, 3) := by decide +kernel
theorem dX8_openFields_24 : decode cX8_openFields 24 = .ok (.iload_n 1, 1) := by decide +kernel
theorem dX8_openFields_25 : decode cX8_openFields 25 = .ok (.iastore, 1) := by decide +kernel
theorem dX8_openFields_26 : decode cX8_openFields 26 = .ok (.aload_n 0, 1) := by decide +kernel
theorem dX8_openFields_27 : decode cX8_openFields 27 = .ok (.getfield 33, 3) := by decide +kernel
theorem dX8_openFields_30 : decode cX8_openFields 30 = .ok (.aload_n 0, 1) := by decide +kernel
theorem dX8_openFields_31 : decode cX8_openFields 31 = .ok (.getfield 36, 3) := by decide +kernel
theorem dX8_openFields_34 : decode cX8_openFields 34 = .ok (.iconst 0, 1) := by decide +kernel
theorem dX8_openFields_35 : decode cX8_openFields 35 = .ok (.iastore, 1) := by decide +kernel
theorem dX8_openFields_36 : decode cX8_openFields 36 = .ok (.aload_n 0, 1) := by decide +kernel
theorem dX8_openFields_37 : decode cX8_openFields 37 = .ok (.dup, 1) := by decide +kernel
theorem dX8_openFields_38 : decode cX8_openFields 38 = .ok (.getfield 36, 3) := by decide +kernel
theorem dX8_openFields_41 : decode cX8_openFields 41 = .ok (.iconst 1, 1) := by decide +kernel
theorem dX8_openFields_42 : decode cX8_openFields 42 = .ok (.iadd, 1) := by decide +kernel
theorem dX8_openFields_43 : decode cX8_openFields 43 = .ok (.putfield 36, 3) := by decide +kernel
theorem dX8_openFields_46 : decode cX8_openFields 46 = .ok (.return_, 1) := by decide +kernel
theorem dX8_putKind_0 : decode cX8_putKind 0 = .ok (.bipush 56, 2) := by decide +kernel
theorem dX8_putKind_2 : decode cX8_putKind 2 = .ok (.istore_n 3, 1) := by decide +kernel
theorem dX8_putKind_3 : decode cX8_putKind 3 = .ok (.iload_n 3, 1) := by decide +kernel
theorem dX8_putKind_4 : decode cX8_putKind 4 = .ok (.ifCond .lt 30, 3) := by decide +kernel
theorem dX8_putKind_7 : decode cX8_putKind 7 = .ok (.lload_n 1, 1) := by decide +kernel
theorem dX8_putKind_8 : decode cX8_putKind 8 = .ok (.iload_n 3, 1) := by decide +kernel
theorem dX8_putKind_9 : decode cX8_putKind 9 = .ok (.lushr, 1) := by decide +kernel
theorem dX8_putKind_10 : decode cX8_putKind 10 = .ok (.l2i, 1) := by decide +kernel
theorem dX8_putKind_11 : decode cX8_putKind 11 = .ok (.sipush 255, 3) := by decide +kernel
theorem dX8_putKind_14 : decode cX8_putKind 14 = .ok (.iand, 1) := by decide +kernel
theorem dX8_putKind_15 : decode cX8_putKind 15 = .ok (.istore 4, 2) := by decide +kernel
theorem dX8_putKind_17 : decode cX8_putKind 17 = .ok (.iload 4, 2) := by decide +kernel
theorem dX8_putKind_19 : decode cX8_putKind 19 = .ok (.ifCond .eq 9, 3) := by decide +kernel
theorem dX8_putKind_22 : decode cX8_putKind 22 = .ok (.aload_n 0, 1) := by decide +kernel
theorem dX8_putKind_23 : decode cX8_putKind 23 = .ok (.iload 4, 2) := by decide +kernel
theorem dX8_putKind_25 : decode cX8_putKind 25 = .ok (.invokevirtual 53, 3) := by decide +kernel
theorem dX8_putKind_28 : decode cX8_putKind 28 = .ok (.iinc 3 (-8), 3) := by decide +kernel
theorem dX8_putKind_31 : decode cX8_putKind 31 = .ok (.goto (-28), 3) := by decide +kernel
theorem dX8_putKind_34 : decode cX8_putKind 34 = .ok (.return_, 1) := by decide +kernel
set_option maxHeartbeats 4000000 in
set_option maxRecDepth 100000 in
theorem c_X8_openFields (l : Launch) (dC : Nat → ClassId) (dI : Nat → Nat → Nat) (aK aV : Nat → Nat) (h0 : Nat) (pb : Nat) (psp : Nat) (poc : Nat) (pof : Nat) (pz : Int32) (ps : Int32) (tl : Int32) (po : Int32) (p3 : ClassId) (p4 : ClassId) (goc : Nat → Int32) (gof : Nat → Int32) (ce : Int32) (sz : Nat) (hps0 : 0 ≤ ps.toInt) (hps1 : ps.toInt ≤ 4000) (hpo0 : 0 ≤ po.toInt) (hpo1 : po.toInt ≤ 2000) : Met l yX8_openFields (Cond.code yX8_openFields cX8_openFields 2 none :: zw) ({ frames := 8, cells := 0, slots := 0, locals := 200 }) (va_Pc [.ref h0, .int ce] (zP dC dI aK aV sz [(p3, .int), (p4, .int)] [(h0, .inr (8, [.ref pb, .int pz, .ref psp, .int ps, .int tl, .ref poc, .ref pof, .int po])), (poc, .inl (p3, 2000, .inl goc)), (pof, .inl (p4, 2000, .inl gof))])) (va_Qv (fun u : Int32 × Int32 × (Nat → Int32) × (Nat → Int32) => match u with | (tl2, po2, goc2, gof2) => (0 ≤ po2.toInt) ∧ (po2.toInt ≤ 2000) ∧ (po.toInt ≤ po2.toInt)) (fun u => match u with | (tl2, po2, goc2, gof2) => zQ dC dI (va_A [(h0, .inr (8, [.ref pb, .int pz, .ref psp, .int ps, .int tl, .ref poc, .ref pof, .int po])), (poc, .inl (p3, 2000, .inl goc)), (pof, .inl (p4, 2000, .inl gof))] sz) [(p3, .int), (p4, .int)] [(h0, .inr (8, [.ref pb, .int pz, .ref psp, .int ps, .int tl2, .ref poc, .ref pof, .int po2])), (poc, .inl (p3, 2000, .inl goc2)), (pof, .inl (p4, 2000, .inl gof2))]) (va_A [(h0, .inr (8, [.ref pb, .int pz, .ref psp, .int ps, .int tl, .ref poc, .ref pof, .int po])), (poc, .inl (p3, 2000, .inl goc)), (pof, .inl (p4, 2000, .inl gof))] sz)) 0 0 (va_A [(h0, .inr (8, [.ref pb, .int pz, .ref psp, .int ps, .int tl, .ref poc, .ref pof, .int po])), (poc, .inl (p3, 2000, .inl goc)), (pof, .inl (p4, 2000, .inl gof))] sz) := by
  refine Met.ofW (cc := cX8_openFields) (maxL := 2) (ret := none) (by decide) rfl ?_
  intro p e s m args below meth c s₁ B hml hv
  obtain ⟨rfl, hsz, hP, hK, hD0, hN, hT⟩ := hv
  have hx := B.exec
  have hb := B.bytes
  have hr := B.returns
  have hts := atoms_spec (ws := Cond.code yX8_openFields cX8_openFields 2 none :: zw) B.pre
  have hA : ∀ w ∈ zw, w.before _ s = true := fun w h => hts w (List.mem_cons_of_mem _ h)
  have hown : s.vm.findClass RX8 = some m.cls := findClass_of_methodNamed B.named
  have hlocks := B.notSynchronized
  subst hsz
  have hD := hD0.self (sz := s.heap.size)
  generalize hAe : va_A [(h0, .inr (8, [.ref pb, .int pz, .ref psp, .int ps, .int tl, .ref poc, .ref pof, .int po])), (poc, .inl (p3, 2000, .inl goc)), (pof, .inl (p4, 2000, .inl gof))] s.heap.size = A at hD hT ⊢
  have hAA : ∀ q : Nat, s.heap.size ≤ q → A q := fun q h => by rw [← hAe]; exact Or.inr h
  have hS : va_S A s.heap s.heap [] := va_S.rf
  have hl := lv_entry ([.ref h0, .int ce]) (n := 2) (Nat.le_of_ble_eq_true rfl)
  rw [lg_entry_eq]
  generalize (lg_sl ([.ref h0, .int ce]) ++ List.replicate (2 - (lg_sl ([.ref h0, .int ce])).length) Slot.unset).toArray = ls at hl ⊢
  have hl : lv_has ls 2 [(0, .ref h0), (1, .int ce)] := hl
  refine lv_aload_n hx hb dX8_openFields_0 rfl (lv_at hl 0 rfl) ?_
  refine va_get (D := (dC, dI)) (ci := 8) (v := .int po) (C := RX8) (T := TX8) (N := 8) hx hb hA zin_X8 hown hK hP 0 rfl rfl 7 (by decide) (hA _ wi_566) (fun _ h9 => h9) rfl dX8_openFields_1 ?_
  refine lv_sipush (v := 2000) hx hb dX8_openFields_4 (by decide) ?_
  refine lv_icmp_lt (tgt := 16) hx hb dX8_openFields_7 (by decide) (fun c_1 => ?_) (fun c_1 => ?_)
  · have ic_1 : po.toInt < 2000 := zi_lt c_1
    refine lv_aload_n hx hb dX8_openFields_16 rfl (lv_at hl 0 rfl) ?_
    refine va_get (D := (dC, dI)) (ci := 8) (v := .ref poc) (C := RX8) (T := TX8) (N := 8) hx hb hA zin_X8 hown hK hP 0 rfl rfl 5 (by decide) (hA _ wi_564) (fun _ h9 => h9) rfl dX8_openFields_17 ?_
    refine lv_aload_n hx hb dX8_openFields_20 rfl (lv_at hl 0 rfl) ?_
    refine va_get (D := (dC, dI)) (ci := 8) (v := .int po) (C := RX8) (T := TX8) (N := 8) hx hb hA zin_X8 hown hK hP 0 rfl rfl 7 (by decide) (hA _ wi_566) (fun _ h9 => h9) rfl dX8_openFields_21 ?_
    refine lv_iload_n hx hb dX8_openFields_24 rfl (lv_at hl 1 rfl) ?_
    refine va_iast hx hb hK hP hD hS 1 0 rfl rfl (vp_in_iff.mpr ⟨by omega, by omega⟩) dX8_openFields_25 (fun H locs hP hD hS => ?_)
    obtain ⟨f_2, ef_2⟩ : ∃ gz9 : Nat → Int32, gz9 = upd goc (Int32.toNatClampNeg po) ce := ⟨_, rfl⟩
    rw [← ef_2] at hP hD
    have hP : va_P (dC, dI) vwCl [(h0, .inr (8, [.ref pb, .int pz, .ref psp, .int ps, .int tl, .ref poc, .ref pof, .int po])), (poc, .inl (p3, 2000, .inl f_2)), (pof, .inl (p4, 2000, .inl gof))] H := hP
    have hD : va_D A [(h0, .inr (8, [.ref pb, .int pz, .ref psp, .int ps, .int tl, .ref poc, .ref pof, .int po])), (poc, .inl (p3, 2000, .inl f_2)), (pof, .inl (p4, 2000, .inl gof))] := hD
    refine lv_aload_n hx hb dX8_openFields_26 rfl (lv_at hl 0 rfl) ?_
    refine va_get (D := (dC, dI)) (ci := 8) (v := .ref pof) (C := RX8) (T := TX8) (N := 8) hx hb hA zin_X8 hown hK hP 0 rfl rfl 6 (by decide) (hA _ wi_565) (fun _ h9 => h9) rfl dX8_openFields_27 ?_
    refine lv_aload_n hx hb dX8_openFields_30 rfl (lv_at hl 0 rfl) ?_
    refine va_get (D := (dC, dI)) (ci := 8) (v := .int po) (C := RX8) (T := TX8) (N := 8) hx hb hA zin_X8 hown hK hP 0 rfl rfl 7 (by decide) (hA _ wi_566) (fun _ h9 => h9) rfl dX8_openFields_31 ?_
    refine lv_iconst (v := 0) hx hb dX8_openFields_34 (by decide) ?_
    refine va_iast hx hb hK hP hD hS 2 1 rfl rfl (vp_in_iff.mpr ⟨by omega, by omega⟩) dX8_openFields_35 (fun H locs hP hD hS => ?_)
    obtain ⟨f_3, ef_3⟩ : ∃ gz9 : Nat → Int32, gz9 = upd gof (Int32.toNatClampNeg po) 0 := ⟨_, rfl⟩
    rw [← ef_3] at hP hD
    have hP : va_P (dC, dI) vwCl [(h0, .inr (8, [.ref pb, .int pz, .ref psp, .int ps, .int tl, .ref poc, .ref pof, .int po])), (poc, .inl (p3, 2000, .inl f_2)), (pof, .inl (p4, 2000, .inl f_3))] H := hP
    have hD : va_D A [(h0, .inr (8, [.ref pb, .int pz, .ref psp, .int ps, .int tl, .ref poc, .ref pof, .int po])), (poc, .inl (p3, 2000, .inl f_2)), (pof, .inl (p4, 2000, .inl f_3))] := hD
    refine lv_aload_n hx hb dX8_openFields_36 rfl (lv_at hl 0 rfl) ?_
    refine lv_dup hx hb dX8_openFields_37 rfl ?_
    refine va_get (D := (dC, dI)) (ci := 8) (v := .int po) (C := RX8) (T := TX8) (N := 8) hx hb hA zin_X8 hown hK hP 0 rfl rfl 7 (by decide) (hA _ wi_566) (fun _ h9 => h9) rfl dX8_openFields_38 ?_
    refine lv_iconst (v := 1) hx hb dX8_openFields_41 (by decide) ?_
    refine lv_iadd hx hb dX8_openFields_42 ?_
    refine lv_topi (fun x_4 ex_4 => ?_)
    have ix_4 : x_4.toInt = po.toInt + 1 := by rw [ex_4]; exact zi_addc (by decide) (by omega) (by omega)
    refine va_put (D := (dC, dI)) (ci := 8) (v := .int x_4) (ty := .int) (C := RX8) (T := TX8) (N := 8) hx hb hA zin_X8 tyX8 tyX8_ok nmX8 hown hK hP hD hS 0 rfl rfl 7 (by decide) (hA _ wi_566) (fun _ h9 => h9) rfl (by decide +kernel) rfl rfl (Nat.le_of_ble_eq_true rfl) dX8_openFields_43 (fun H locs hP hD hS => ?_)
    have hP : va_P (dC, dI) vwCl [(h0, .inr (8, [.ref pb, .int pz, .ref psp, .int ps, .int tl, .ref poc, .ref pof, .int x_4])), (poc, .inl (p3, 2000, .inl f_2)), (pof, .inl (p4, 2000, .inl f_3))] H := hP
    have hD : va_D A [(h0, .inr (8, [.ref pb, .int pz, .ref psp, .int ps, .int tl, .ref poc, .ref pof, .int x_4])), (poc, .inl (p3, 2000, .inl f_2)), (pof, .inl (p4, 2000, .inl f_3))] := hD
    have hP9 := hP.sub (ws' := [(h0, .inr (8, [.ref pb, .int pz, .ref psp, .int ps, .int tl, .ref poc, .ref pof, .int x_4])), (poc, .inl (p3, 2000, .inl f_2)), (pof, .inl (p4, 2000, .inl f_3))]) [0, 1, 2] rfl
    have hD9 := hD.sub (ws' := [(h0, .inr (8, [.ref pb, .int pz, .ref psp, .int ps, .int tl, .ref poc, .ref pof, .int x_4])), (poc, .inl (p3, 2000, .inl f_2)), (pof, .inl (p4, 2000, .inl f_3))]) [0, 1, 2] (by decide) rfl
    have hK9 := hK.sub (tys' := [(p3, .int), (p4, .int)]) [0, 1] rfl
    exact W.vret hx hb hr (fun t ht hW => ⟨⟨(tl, x_4, f_2, f_3), rfl, ⟨by omega, by omega, by omega⟩, by rw [ht]; exact hP9, va_K.moved hW.alike hK9, hD9⟩, hS.F ht⟩) hS.2.2 dX8_openFields_46
  · have ic_1 : 2000 ≤ po.toInt := zi_nlt c_1
    refine lv_aload_n hx hb dX8_openFields_10 rfl (lv_at hl 0 rfl) ?_
    refine lv_iconst (v := 1) hx hb dX8_openFields_11 (by decide) ?_
    refine va_put (D := (dC, dI)) (ci := 8) (v := .int 1) (ty := .boolean) (C := RX8) (T := TX8) (N := 8) hx hb hA zin_X8 tyX8 tyX8_ok nmX8 hown hK hP hD hS 0 rfl rfl 4 (by decide) (hA _ wi_563) (fun _ h9 => h9) rfl (by decide +kernel) rfl rfl (Nat.le_of_ble_eq_true rfl) dX8_openFields_12 (fun H locs hP hD hS => ?_)
    have hP : va_P (dC, dI) vwCl [(h0, .inr (8, [.ref pb, .int pz, .ref psp, .int ps, .int 1, .ref poc, .ref pof, .int po])), (poc, .inl (p3, 2000, .inl goc)), (pof, .inl (p4, 2000, .inl gof))] H := hP
    have hD : va_D A [(h0, .inr (8, [.ref pb, .int pz, .ref psp, .int ps, .int 1, .ref poc, .ref pof, .int po])), (poc, .inl (p3, 2000, .inl goc)), (pof, .inl (p4, 2000, .inl gof))] := hD
    have hP9 := hP.sub (ws' := [(h0, .inr (8, [.ref pb, .int pz, .ref psp, .int ps, .int 1, .ref poc, .ref pof, .int po])), (poc, .inl (p3, 2000, .inl goc)), (pof, .inl (p4, 2000, .inl gof))]) [0, 1, 2] rfl
    have hD9 := hD.sub (ws' := [(h0, .inr (8, [.ref pb, .int pz, .ref psp, .int ps, .int 1, .ref poc, .ref pof, .int po])), (poc, .inl (p3, 2000, .inl goc)), (pof, .inl (p4, 2000, .inl gof))]) [0, 1, 2] (by decide) rfl
    have hK9 := hK.sub (tys' := [(p3, .int), (p4, .int)]) [0, 1] rfl
    exact W.vret hx hb hr (fun t ht hW => ⟨⟨(1, po, goc, gof), rfl, ⟨by omega, by omega, by omega⟩, by rw [ht]; exact hP9, va_K.moved hW.alike hK9, hD9⟩, hS.F ht⟩) hS.2.2 dX8_openFields_15
set_option maxHeartbeats 4000000 in
set_option maxRecDepth 100000 in
theorem c_X8_putKind (l : Launch) (dC : Nat → ClassId) (dI : Nat → Nat → Nat) (aK aV : Nat → Nat) (h0 : Nat) (pb : Nat) (psp : Nat) (poc : Nat) (pof : Nat) (pz : Int32) (ps : Int32) (tl : Int32) (po : Int32) (p2 : ClassId) (gsp : Nat → Int32) (wo : Int64) (sz : Nat) (hps0 : 0 ≤ ps.toInt) (hps1 : ps.toInt ≤ 4000) (hpo0 : 0 ≤ po.toInt) (hpo1 : po.toInt ≤ 2000) : Met l yX8_putKind (Cond.code yX8_putKind cX8_putKind 5 none :: zw) ({ frames := 10, cells := 0, slots := 0, locals := 300 }) (va_Pc [.ref h0, .long wo] (zP dC dI aK aV sz [(p2, .byte)] [(h0, .inr (8, [.ref pb, .int pz, .ref psp, .int ps, .int tl, .ref poc, .ref pof, .int po])), (psp, .inl (p2, 4000, .inl gsp))])) (va_Qv (fun u : Int32 × Int32 × (Nat → Int32) => match u with | (ps2, tl2, gsp2) => (0 ≤ ps2.toInt) ∧ (ps2.toInt ≤ 4000) ∧ (ps.toInt ≤ ps2.toInt)) (fun u => match u with | (ps2, tl2, gsp2) => zQ dC dI (va_A [(h0, .inr (8, [.ref pb, .int pz, .ref psp, .int ps, .int tl, .ref poc, .ref pof, .int po])), (psp, .inl (p2, 4000, .inl gsp))] sz) [(p2, .byte)] [(h0, .inr (8, [.ref pb, .int pz, .ref psp, .int ps2, .int tl2, .ref poc, .ref pof, .int po])), (psp, .inl (p2, 4000, .inl gsp2))]) (va_A [(h0, .inr (8, [.ref pb, .int pz, .ref psp, .int ps, .int tl, .ref poc, .ref pof, .int po])), (psp, .inl (p2, 4000, .inl gsp))] sz)) 0 0 (va_A [(h0, .inr (8, [.ref pb, .int pz, .ref psp, .int ps, .int tl, .ref poc, .ref pof, .int po])), (psp, .inl (p2, 4000, .inl gsp))] sz) := by
  refine Met.ofW (cc := cX8_putKind) (maxL := 5) (ret := none) (by decide) rfl ?_
  intro p e s m args below meth c s₁ B hml hv
  obtain ⟨rfl, hsz, hP, hK, hD0, hN, hT⟩ := hv
  have hx := B.exec
  have hb := B.bytes
  have hr := B.returns
  have hts := atoms_spec (ws := Cond.code yX8_putKind cX8_putKind 5 none :: zw) B.pre
  have hA : ∀ w ∈ zw, w.before _ s = true := fun w h => hts w (List.mem_cons_of_mem _ h)
  have hown : s.vm.findClass RX8 = some m.cls := findClass_of_methodNamed B.named
  have hlocks := B.notSynchronized
  subst hsz
  have hD := hD0.self (sz := s.heap.size)
  generalize hAe : va_A [(h0, .inr (8, [.ref pb, .int pz, .ref psp, .int ps, .int tl, .ref poc, .ref pof, .int po])), (psp, .inl (p2, 4000, .inl gsp))] s.heap.size = A at hD hT ⊢
  have hAA : ∀ q : Nat, s.heap.size ≤ q → A q := fun q h => by rw [← hAe]; exact Or.inr h
  have hS : va_S A s.heap s.heap [] := va_S.rf
  have hl := lv_entry ([.ref h0, .long wo]) (n := 5) (Nat.le_of_ble_eq_true rfl)
  rw [lg_entry_eq]
  generalize (lg_sl ([.ref h0, .long wo]) ++ List.replicate (5 - (lg_sl ([.ref h0, .long wo])).length) Slot.unset).toArray = ls at hl ⊢
  have hl : lv_has ls 5 [(0, .ref h0), (1, .long wo)] := hl
  refine lv_bipush (v := 56) hx hb dX8_putKind_0 (by decide) ?_
  refine lv_istore_n (lv' := [(3, .int 56), (0, .ref h0), (1, .long wo)]) hx hb dX8_putKind_2 rfl hl (by decide) rfl (fun ls hl => ?_)
  have loop_3 : ∀ (n9 : Nat) (sh : Int32) (lps : Int32) (ltl : Int32) (lgs : Nat → Int32) (H : Heap) (locs : List Loc) (ls : Array Slot), (sh.toInt + 9).toNat ≤ n9 → -8 ≤ sh.toInt → sh.toInt ≤ 56 → 0 ≤ lps.toInt → lps.toInt ≤ 4000 → ps.toInt ≤ lps.toInt → va_P (dC, dI) vwCl [(h0, .inr (8, [.ref pb, .int pz, .ref psp, .int lps, .int ltl, .ref poc, .ref pof, .int po])), (psp, .inl (p2, 4000, .inl lgs))] H → va_D A [(h0, .inr (8, [.ref pb, .int pz, .ref psp, .int lps, .int ltl, .ref poc, .ref pof, .int po])), (psp, .inl (p2, 4000, .inl lgs))] → va_S A s.heap H locs → lv_has ls 5 [(3, .int sh), (0, .ref h0), (1, .long wo)] → W p l e (headSpec (Cond.code yX8_putKind cX8_putKind 5 none :: zw) ({ frames := 10, cells := 0, slots := 0, locals := 300 })).room s m #[.ref h0, .long wo] below meth c H locs 0 0 (MQ below (va_Qv (fun u : Int32 × Int32 × (Nat → Int32) => match u with | (ps2, tl2, gsp2) => (0 ≤ ps2.toInt) ∧ (ps2.toInt ≤ 4000) ∧ (ps.toInt ≤ ps2.toInt)) (fun u => match u with | (ps2, tl2, gsp2) => zQ dC dI A [(p2, .byte)] [(h0, .inr (8, [.ref pb, .int pz, .ref psp, .int ps2, .int tl2, .ref poc, .ref pof, .int po])), (psp, .inl (p2, 4000, .inl gsp2))]) A) #[.ref h0, .long wo] s 0 0 A) (F0 m 3 ls []) := by
    intro n9
    induction n9 with
    | zero => intro sh lps ltl lgs H locs ls hm hsh0 hsh1 hl0 hl1 hl2; exfalso; omega
    | succ n9 ih =>
      intro sh lps ltl lgs H locs ls hm hsh0 hsh1 hl0 hl1 hl2 hP hD hS hl
      refine lv_iload_n hx hb dX8_putKind_3 rfl (lv_at hl 0 rfl) ?_
      refine lv_if_lt (tgt := 34) hx hb dX8_putKind_4 (by decide) (fun c_1 => ?_) (fun c_1 => ?_)
      · have ic_1 : sh.toInt < 0 := zi_lt c_1
        have hP9 := hP.sub (ws' := [(h0, .inr (8, [.ref pb, .int pz, .ref psp, .int lps, .int ltl, .ref poc, .ref pof, .int po])), (psp, .inl (p2, 4000, .inl lgs))]) [0, 1] rfl
        have hD9 := hD.sub (ws' := [(h0, .inr (8, [.ref pb, .int pz, .ref psp, .int lps, .int ltl, .ref poc, .ref pof, .int po])), (psp, .inl (p2, 4000, .inl lgs))]) [0, 1] (by decide) rfl
        have hK9 := hK.sub (tys' := [(p2, .byte)]) [0] rfl
        exact W.vret hx hb hr (fun t ht hW => ⟨⟨(lps, ltl, lgs), rfl, ⟨by omega, by omega, by omega⟩, by rw [ht]; exact hP9, va_K.moved hW.alike hK9, hD9⟩, hS.F ht⟩) hS.2.2 dX8_putKind_34
      · have ic_1 : 0 ≤ sh.toInt := zi_nlt c_1
        refine lv_lload_n hx hb dX8_putKind_7 rfl (lv_at hl 2 rfl) ?_
        refine lv_iload_n hx hb dX8_putKind_8 rfl (lv_at hl 0 rfl) ?_
        refine lv_lushr hx hb dX8_putKind_9 rfl ?_
        refine lv_topl (fun x_2 ex_2 => ?_)
        refine lv_l2i hx hb dX8_putKind_10 rfl ?_
        refine lv_topi (fun x_3 ex_3 => ?_)
        refine lv_sipush (v := 255) hx hb dX8_putKind_11 (by decide) ?_
        refine lv_iand hx hb dX8_putKind_14 ?_
        refine lv_topi (fun x_4 ex_4 => ?_)
        refine lv_istore (lv' := [(4, .int x_4), (3, .int sh), (0, .ref h0), (1, .long wo)]) hx hb dX8_putKind_15 hl (by decide) rfl (fun ls hl => ?_)
        refine lv_iload hx hb dX8_putKind_17 (lv_at hl 0 rfl) ?_
        refine lv_if_eq (tgt := 28) hx hb dX8_putKind_19 (by decide) (fun c_5 => ?_) (fun c_5 => ?_)
        · have ic_5 : x_4.toInt = 0 := zi_eq c_5
          obtain ⟨x_6, ex_6⟩ : ∃ y : Int32, y = sh + Int32.ofInt (-8) := ⟨_, rfl⟩
          refine lv_iinc (v := x_6) (lv' := [(3, .int x_6), (4, .int x_4), (0, .ref h0), (1, .long wo)]) hx hb dX8_putKind_28 hl (k := 1) rfl (by rw [ex_6]) (by decide) rfl (fun ls hl => ?_)
          have ix_6 : x_6.toInt = sh.toInt + (-8) := by rw [ex_6]; exact zi_addc (by decide) (by omega) (by omega)
          refine lv_goto (tgt := 3) hx hb dX8_putKind_31 (by decide) ?_
          exact ih x_6 lps ltl lgs _ _ _ (by omega) (by omega) (by omega) (by omega) (by omega) (by omega) (hP.sub [0, 1] rfl) (hD.sub [0, 1] (by decide) rfl) hS (lv_sub hl [0, 2, 3] rfl)
        · have ic_5 : x_4.toInt ≠ 0 := zi_ne c_5
          refine lv_aload_n hx hb dX8_putKind_22 rfl (lv_at hl 2 rfl) ?_
          refine lv_iload hx hb dX8_putKind_23 (lv_at hl 0 rfl) ?_
          have hPc := hP.sub (ws' := [(h0, .inr (8, [.ref pb, .int pz, .ref psp, .int lps, .int ltl, .ref poc, .ref pof, .int po])), (psp, .inl (p2, 4000, .inl lgs))]) [0, 1] rfl
          have hDc := hD.sub (ws' := [(h0, .inr (8, [.ref pb, .int pz, .ref psp, .int lps, .int ltl, .ref poc, .ref pof, .int po])), (psp, .inl (p2, 4000, .inl lgs))]) [0, 1] (by decide) rfl
          have hKc := hK.sub (tys' := [(p2, .byte)]) [0] rfl
          have hFc := va_free (wc := [(h0, .inr (8, [.ref pb, .int pz, .ref psp, .int lps, .int ltl, .ref poc, .ref pof, .int po])), (psp, .inl (p2, 4000, .inl lgs))]) hD hS hAA [0, 1] rfl
          refine va_callv (va_runV (As := [.int x_4]) (rest := []) ⟨hx, hb, hml, hown, hA⟩ (c_X8_put l dC dI aK aV h0 pb psp poc pof pz lps ltl po p2 lgs x_4 H.size (by omega) (by omega) (by omega) (by omega)) (cwV 1 hA (zw_V wi_1308 wi_1310 wi_69 wi_142 (zw_good wi_1311)) rfl rfl rfl (by decide +kernel) ⟨(Nat.le_of_ble_eq_true rfl), (Nat.le_of_ble_eq_true rfl)⟩) ⟨zP_blind, va_recv hKc hPc (ci := 8) (q0 := 0) rfl rfl, zz_pre hKc hPc hDc hN hT hS hFc⟩ rfl rfl hl.1 rfl (lv_room (Nat.le_of_ble_eq_true rfl)) dX8_putKind_25 ⟨(Nat.le_of_ble_eq_true rfl), (Nat.le_of_ble_eq_true rfl)⟩) hS (fun q _ h => hFc q h) hFc (fun u t H1 locs ht hvm hw hB hz1 hk1 hS => ?_)
          obtain ⟨ps_8, tl_9, gsp_10⟩ := u
          obtain ⟨hP1, hK1, hD1⟩ := hB
          rw [ht] at hP1
          have hK1 := va_K.moved hvm.symm hK1
          obtain ⟨hP, hD⟩ := va_join (wr := []) (w1 := [(h0, .inr (8, [.ref pb, .int pz, .ref psp, .int ps_8, .int tl_9, .ref poc, .ref pof, .int po])), (psp, .inl (p2, 4000, .inl gsp_10))]) hP hD [0, 1] [] rfl rfl (by decide) (by decide) hk1 hFc hP1 hD1
          have hK := (hK.sub (tys' := []) [] rfl).app hK1
          generalize H1 = H at hP hS ⊢
          have hP : va_P (dC, dI) vwCl [(h0, .inr (8, [.ref pb, .int pz, .ref psp, .int ps_8, .int tl_9, .ref poc, .ref pof, .int po])), (psp, .inl (p2, 4000, .inl gsp_10))] H := hP
          have hD : va_D A [(h0, .inr (8, [.ref pb, .int pz, .ref psp, .int ps_8, .int tl_9, .ref poc, .ref pof, .int po])), (psp, .inl (p2, 4000, .inl gsp_10))] := hD
          have hK : va_K (dC, dI) vwCl [(p2, .byte)] s := hK
          obtain ⟨hq_11, hq_12, hq_13⟩ := hw
          obtain ⟨x_14, ex_14⟩ : ∃ y : Int32, y = sh + Int32.ofInt (-8) := ⟨_, rfl⟩
          refine lv_iinc (v := x_14) (lv' := [(3, .int x_14), (4, .int x_4), (0, .ref h0), (1, .long wo)]) hx hb dX8_putKind_28 hl (k := 1) rfl (by rw [ex_14]) (by decide) rfl (fun ls hl => ?_)
          have ix_14 : x_14.toInt = sh.toInt + (-8) := by rw [ex_14]; exact zi_addc (by decide) (by omega) (by omega)
          refine lv_goto (tgt := 3) hx hb dX8_putKind_31 (by decide) ?_
          exact ih x_14 ps_8 tl_9 gsp_10 _ _ _ (by omega) (by omega) (by omega) (by omega) (by omega) (by omega) (hP.sub [0, 1] rfl) (hD.sub [0, 1] (by decide) rfl) hS (lv_sub hl [0, 2, 3] rfl)
  exact loop_3 _ 56 ps tl gsp _ _ _ (Nat.le_refl _) (by have h9_0 : Int32.toInt 56 = 56 := (by decide); omega) (by have h9_0 : Int32.toInt 56 = 56 := (by decide); omega) (by have h9_0 : Int32.toInt 56 = 56 := (by decide); omega) (by have h9_0 : Int32.toInt 56 = 56 := (by decide); omega) (by have h9_0 : Int32.toInt 56 = 56 := (by decide); omega) (hP.sub [0, 1] rfl) (hD.sub [0, 1] (by decide) rfl) hS (lv_sub hl [0, 1, 2] rfl)
