theorem wi_591 : Cond.fieldLink RX11 55 "ReuseHouse" "printer" "LReuseHouse$Printer;" ∈ zw := zw_in (List.mem_of_getElem? (i := 591) (by decide +kernel)) (by decide +kernel)
theorem wi_1298 : Cond.code yX8_print cX8_print 5 (some .int) ∈ zw := zw_in (List.mem_of_getElem? (i := 1298) (by decide +kernel)) (by decide +kernel)
theorem wi_1295 : Cond.methodLink RX11 165 yX8_print ∈ zw := zw_in (List.mem_of_getElem? (i := 1295) (by decide +kernel)) (by decide +kernel)
theorem wi_1296 : Cond.instanceMethod yX8_print ∈ zw := zw_in (List.mem_of_getElem? (i := 1296) (by decide +kernel)) (by decide +kernel)
theorem wi_1297 : Cond.selects RX8 yX8_print yX8_print ∈ zw := zw_in (List.mem_of_getElem? (i := 1297) (by decide +kernel)) (by decide +kernel)
theorem wi_1354 : Cond.code yX8_has cX8_has 2 (some .boolean) ∈ zw := zw_in (List.mem_of_getElem? (i := 1354) (by decide +kernel)) (by decide +kernel)
theorem wi_1351 : Cond.methodLink RX11 169 yX8_has ∈ zw := zw_in (List.mem_of_getElem? (i := 1351) (by decide +kernel)) (by decide +kernel)
theorem wi_1352 : Cond.instanceMethod yX8_has ∈ zw := zw_in (List.mem_of_getElem? (i := 1352) (by decide +kernel)) (by decide +kernel)
theorem wi_1353 : Cond.selects RX8 yX8_has yX8_has ∈ zw := zw_in (List.mem_of_getElem? (i := 1353) (by decide +kernel)) (by decide +kernel)
theorem wi_559 : Cond.fieldLink RX11 173 "ReuseHouse$Printer" "bytes" "[B" ∈ zw := zw_in (List.mem_of_getElem? (i := 559) (by decide +kernel)) (by decide +kernel)
theorem wi_1355 : Cond.classLink RX11 170 "java/util/NoSuchElementException" ∈ zw := zw_in (List.mem_of_getElem? (i := 1355) (by decide +kernel)) (by decide +kernel)
theorem wi_155 : Cond.initialized "java/util/NoSuchElementException" ∈ zw := zw_in (List.mem_of_getElem? (i := 155) (by decide +kernel)) (by decide +kernel)
theorem dX11_out_0 : decode cX11_out 0 = .ok (.aload_n 0, 1) := by decide +kernel
theorem dX11_out_1 : decode cX11_out 1 = .ok (.getfield 55, 3) := by decide +kernel
theorem dX11_out_4 : decode cX11_out 4 = .ok (.iload_n 1, 1) := by decide +kernel
theorem dX11_out_5 : decode cX11_out 5 = .ok (.invokevirtual 169, 3) := by decide +kernel
theorem dX11_out_8 : decode cX11_out 8 = .ok (.ifCond .ne 11, 3) := by decide +kernel
theorem dX11_out_11 : decode cX11_out 11 = .ok (.new 170, 3) := by decide +kernel
theorem dX11_out_14 : decode cX11_out 14 = .ok (.dup, 1) := by decide +kernel
theorem dX11_out_15 : decode cX11_out 15 = .ok (.invokespecial 172, 3) := by decide +kernel
theorem dX11_out_18 : decode cX11_out 18 = .ok (.athrow, 1) := by decide +kernel
theorem dX11_out_19 : decode cX11_out 19 = .ok (.aload_n 0, 1) := by decide +kernel
theorem dX11_out_20 : decode cX11_out 20 = .ok (.getfield 55, 3) := by decide +kernel
theorem dX11_out_23 : decode cX11_out 23 = .ok (.getfield 173, 3) := by decide +kernel
theorem dX11_out_26 : decode cX11_out 26 = .ok (.iload_n 1, 1) := by decide +kernel
theorem dX11_out_27 : decode cX11_out 27 = .ok (.baload, 1) := by decide +kernel
theorem dX11_out_28 : decode cX11_out 28 = .ok (.ireturn, 1) := by decide +kernel
theorem dX11_show_0 : decode cX11_show 0 = .ok (.iload_n 1, 1) := by decide +kernel
theorem dX11_show_1 : decode cX11_show 1 = .ok (.ifCond .eq 30, 3) := by decide +kernel
theorem dX11_show_4 : decode cX11_show 4 = .ok (.aload_n 0, 1) := by decide +kernel
theorem dX11_show_5 : decode cX11_show 5 = .ok (.getfield 82, 3) := by decide +kernel
theorem dX11_show_8 : decode cX11_show 8 = .ok (.ifCond .eq 21, 3) := by decide +kernel
theorem dX11_show_11 : decode cX11_show 11 = .ok (.aload_n 0, 1) := by decide +kernel
theorem dX11_show_12 : decode cX11_show 12 = .ok (.getfield 55, 3) := by decide +kernel
theorem dX11_show_15 : decode cX11_show 15 = .ok (.aload_n 0, 1) := by decide +kernel
theorem dX11_show_16 : decode cX11_show 16 = .ok (.getfield 85, 3) := by decide +kernel
theorem dX11_show_19 : decode cX11_show 19 = .ok (.aload_n 0, 1) := by decide +kernel
theorem dX11_show_20 : decode cX11_show 20 = .ok (.getfield 49, 3) := by decide +kernel
theorem dX11_show_23 : decode cX11_show 23 = .ok (.invokevirtual 165, 3) := by decide +kernel
theorem dX11_show_26 : decode cX11_show 26 = .ok (.goto 4, 3) := by decide +kernel
theorem dX11_show_29 : decode cX11_show 29 = .ok (.iconst (-1), 1) := by decide +kernel
theorem dX11_show_30 : decode cX11_show 30 = .ok (.ireturn, 1) := by decide +kernel
theorem dX11_show_31 : decode cX11_show 31 = .ok (.aload_n 0, 1) := by decide +kernel
theorem dX11_show_32 : decode cX11_show 32 = .ok (.getfield 75, 3) := by decide +kernel
theorem dX11_show_35 : decode cX11_show 35 = .ok (.ifCond .eq 21, 3) := by decide +kernel
theorem dX11_show_38 : decode cX11_show 38 = .ok (.aload_n 0, 1) := by decide +kernel
theorem dX11_show_39 : decode cX11_show 39 = .ok (.getfield 55, 3) := by decide +kernel
theorem dX11_show_42 : decode cX11_show 42 = .ok (.aload_n 0, 1) := by decide +kernel
theorem dX11_show_43 : decode cX11_show 43 = .ok (.getfield 78, 3) := by decide +kernel
theorem dX11_show_46 : decode cX11_show 46 = .ok (.aload_n 0, 1) := by decide +kernel
theorem dX11_show_47 : decode cX11_show 47 = .ok (.getfield 45, 3) := by decide +kernel
theorem dX11_show_50 : decode cX11_show 50 = .ok (.invokevirtual 165, 3) := by decide +kernel
theorem dX11_show_53 : decode cX11_show 53 = .ok (.goto 4, 3) := by decide +kernel
theorem dX11_show_56 : decode cX11_show 56 = .ok (.iconst (-1), 1) := by decide +kernel
theorem dX11_show_57 : decode cX11_show 57 = .ok (.ireturn, 1) := by decide +kernel
theorem zat_n_g : ∀ w ∈ (vx_at0 RX11 172 "java/util/NoSuchElementException" ["java/lang/RuntimeException", "java/lang/Exception"]).filter goodWord, w ∈ zw := fun w h => zw_in ((show ∀ w ∈ (vx_at0 RX11 172 "java/util/NoSuchElementException" ["java/lang/RuntimeException", "java/lang/Exception"]).filter goodWord, w ∈ lw_tbl by decide +kernel) w h) (List.mem_filter.mp h).2
theorem zat_n_b : ∀ w ∈ (vx_at0 RX11 172 "java/util/NoSuchElementException" ["java/lang/RuntimeException", "java/lang/Exception"]).filter (fun w => !goodWord w), w ∈ [Cond.castable "java/util/NoSuchElementException" "java/util/NoSuchElementException", .declares ⟨"java/lang/RuntimeException", "<init>", "()V"⟩, .declares ⟨"java/lang/Exception", "<init>", "()V"⟩, .declares ⟨"java/lang/Throwable", "<init>", "()V"⟩] := by decide +kernel
set_option maxHeartbeats 4000000 in
set_option maxRecDepth 100000 in
theorem c_X11_show_v1 (l : Launch) (dC : Nat → ClassId) (dI : Nat → Nat → Nat) (aK aV : Nat → Nat) (h0 : Nat) (h_tape : Nat) (h_fed : Int32) (h_taken : Nat) (h_parser : Nat) (h_machine : Nat) (h_countedCells : Nat) (h_plainCells : Nat) (h_printer : Nat) (h_faultNumber : Int32) (h_stopPlace : Int32) (h_wasRun : Int32) (h_runSteps : Int32) (h_runCalls : Int32) (h_hasValue : Int32) (h_value : Int64) (h_hasOther : Int32) (h_otherValue : Int64) (pb : Nat) (psp : Nat) (poc : Nat) (pof : Nat) (pz : Int32) (ps : Int32) (tl : Int32) (po : Int32) (p2 : ClassId) (p3 : ClassId) (p4 : ClassId) (gsp : Nat → Int32) (goc : Nat → Int32) (gof : Nat → Int32) (ek : Nat) (ec : Nat) (ef : Nat) (gki : Nat) (e1 : ClassId) (e2 : ClassId) (e3 : ClassId) (e_limit : Int32) (e_fresh : Int32) (e_firstFree : Int32) (e_held : Int32) (e_mostHeld : Int32) (e_made : Int32) (e_reused : Int32) (e_freed : Int32) (e_doubled : Int32) (gk : Nat → Int32) (gc : Nat → Int32) (gv : Nat → Int64) (kw : Nat) (kf : Nat) (k1 : ClassId) (k2 : ClassId) (kz : Int32) (kgw : Nat → Int64) (kgf : Nat → Int32) (oth : Int32) (sz : Nat) (hkz0 : 0 ≤ kz.toInt) (hkz1 : kz.toInt ≤ 20) (hkf : zx 4 kgf) (hot : oth.toInt = 0) (hval : h_hasValue.toInt ≠ 0) (hrs : zRes kz kgf gk gc gv e_fresh e_firstFree e_held e_doubled h_value) (hpz0 : 0 ≤ pz.toInt) (hpz1 : pz.toInt ≤ 4000) : Met l yX11_show (Cond.code yX11_show cX11_show 2 (some .int) :: zw) ({ frames := 18, cells := 0, slots := 0, locals := 700 }) (va_Pc [.ref h0, .int oth] (zP dC dI aK aV sz [(p2, .byte), (p3, .int), (p4, .int), (e1, .int), (e2, .int), (e3, .long), (k1, .long), (k2, .int)] [(h0, .inr (11, [.ref h_tape, .int h_fed, .ref h_taken, .ref h_parser, .ref h_machine, .ref h_countedCells, .ref h_plainCells, .ref h_printer, .int h_faultNumber, .int h_stopPlace, .int h_wasRun, .int h_runSteps, .int h_runCalls, .int h_hasValue, .long h_value, .int h_hasOther, .long h_otherValue])), (h_printer, .inr (8, [.ref pb, .int pz, .ref psp, .int ps, .int tl, .ref poc, .ref pof, .int po])), (psp, .inl (p2, 4000, .inl gsp)), (poc, .inl (p3, 2000, .inl goc)), (pof, .inl (p4, 2000, .inl gof)), (h_countedCells, .inr (1, [.ref ek, .ref ec, .ref ef, .ref gki, .int e_limit, .int e_fresh, .int e_firstFree, .int e_held, .int e_mostHeld, .int e_made, .int e_reused, .int e_freed, .int e_doubled])), (ek, .inl (e1, 400, .inl gk)), (ec, .inl (e2, 400, .inl gc)), (ef, .inl (e3, 1200, .inr (.inl gv))), (gki, .inr (4, [.ref kw, .ref kf, .int kz])), (kw, .inl (k1, 20, .inr (.inl kgw))), (kf, .inl (k2, 20, .inl kgf))])) (va_Qi (fun (r : Int32) (u : Nat × Nat × Int32 × Int32 × Int32 × Int32 × (Nat → Int32) × (Nat → Int32) × (Nat → Int32)) => match u with | (pb2, psp2, pz2, ps2, tl2, po2, gsp2, goc2, gof2) => (0 ≤ pz2.toInt) ∧ (pz2.toInt ≤ 4000) ∧ (pb2 = pb ∧ psp2 = psp ∨ pb2 = psp ∧ psp2 = pb)) (fun u => match u with | (pb2, psp2, pz2, ps2, tl2, po2, gsp2, goc2, gof2) => zQ dC dI (va_A [(h0, .inr (11, [.ref h_tape, .int h_fed, .ref h_taken, .ref h_parser, .ref h_machine, .ref h_countedCells, .ref h_plainCells, .ref h_printer, .int h_faultNumber, .int h_stopPlace, .int h_wasRun, .int h_runSteps, .int h_runCalls, .int h_hasValue, .long h_value, .int h_hasOther, .long h_otherValue])), (h_printer, .inr (8, [.ref pb, .int pz, .ref psp, .int ps, .int tl, .ref poc, .ref pof, .int po])), (psp, .inl (p2, 4000, .inl gsp)), (poc, .inl (p3, 2000, .inl goc)), (pof, .inl (p4, 2000, .inl gof)), (h_countedCells, .inr (1, [.ref ek, .ref ec, .ref ef, .ref gki, .int e_limit, .int e_fresh, .int e_firstFree, .int e_held, .int e_mostHeld, .int e_made, .int e_reused, .int e_freed, .int e_doubled])), (ek, .inl (e1, 400, .inl gk)), (ec, .inl (e2, 400, .inl gc)), (ef, .inl (e3, 1200, .inr (.inl gv))), (gki, .inr (4, [.ref kw, .ref kf, .int kz])), (kw, .inl (k1, 20, .inr (.inl kgw))), (kf, .inl (k2, 20, .inl kgf))] sz) [(p2, .byte), (p3, .int), (p4, .int), (e1, .int), (e2, .int), (e3, .long), (k1, .long), (k2, .int)] [(h0, .inr (11, [.ref h_tape, .int h_fed, .ref h_taken, .ref h_parser, .ref h_machine, .ref h_countedCells, .ref h_plainCells, .ref h_printer, .int h_faultNumber, .int h_stopPlace, .int h_wasRun, .int h_runSteps, .int h_runCalls, .int h_hasValue, .long h_value, .int h_hasOther, .long h_otherValue])), (h_printer, .inr (8, [.ref pb2, .int pz2, .ref psp2, .int ps2, .int tl2, .ref poc, .ref pof, .int po2])), (psp, .inl (p2, 4000, .inl gsp2)), (poc, .inl (p3, 2000, .inl goc2)), (pof, .inl (p4, 2000, .inl gof2)), (h_countedCells, .inr (1, [.ref ek, .ref ec, .ref ef, .ref gki, .int e_limit, .int e_fresh, .int e_firstFree, .int e_held, .int e_mostHeld, .int e_made, .int e_reused, .int e_freed, .int e_doubled])), (ek, .inl (e1, 400, .inl gk)), (ec, .inl (e2, 400, .inl gc)), (ef, .inl (e3, 1200, .inr (.inl gv))), (gki, .inr (4, [.ref kw, .ref kf, .int kz])), (kw, .inl (k1, 20, .inr (.inl kgw))), (kf, .inl (k2, 20, .inl kgf))]) (va_A [(h0, .inr (11, [.ref h_tape, .int h_fed, .ref h_taken, .ref h_parser, .ref h_machine, .ref h_countedCells, .ref h_plainCells, .ref h_printer, .int h_faultNumber, .int h_stopPlace, .int h_wasRun, .int h_runSteps, .int h_runCalls, .int h_hasValue, .long h_value, .int h_hasOther, .long h_otherValue])), (h_printer, .inr (8, [.ref pb, .int pz, .ref psp, .int ps, .int tl, .ref poc, .ref pof, .int po])), (psp, .inl (p2, 4000, .inl gsp)), (poc, .inl (p3, 2000, .inl goc)), (pof, .inl (p4, 2000, .inl gof)), (h_countedCells, .inr (1, [.ref ek, .ref ec, .ref ef, .ref gki, .int e_limit, .int e_fresh, .int e_firstFree, .int e_held, .int e_mostHeld, .int e_made, .int e_reused, .int e_freed, .int e_doubled])), (ek, .inl (e1, 400, .inl gk)), (ec, .inl (e2, 400, .inl gc)), (ef, .inl (e3, 1200, .inr (.inl gv))), (gki, .inr (4, [.ref kw, .ref kf, .int kz])), (kw, .inl (k1, 20, .inr (.inl kgw))), (kf, .inl (k2, 20, .inl kgf))] sz)) 0 0 (va_A [(h0, .inr (11, [.ref h_tape, .int h_fed, .ref h_taken, .ref h_parser, .ref h_machine, .ref h_countedCells, .ref h_plainCells, .ref h_printer, .int h_faultNumber, .int h_stopPlace, .int h_wasRun, .int h_runSteps, .int h_runCalls, .int h_hasValue, .long h_value, .int h_hasOther, .long h_otherValue])), (h_printer, .inr (8, [.ref pb, .int pz, .ref psp, .int ps, .int tl, .ref poc, .ref pof, .int po])), (psp, .inl (p2, 4000, .inl gsp)), (poc, .inl (p3, 2000, .inl goc)), (pof, .inl (p4, 2000, .inl gof)), (h_countedCells, .inr (1, [.ref ek, .ref ec, .ref ef, .ref gki, .int e_limit, .int e_fresh, .int e_firstFree, .int e_held, .int e_mostHeld, .int e_made, .int e_reused, .int e_freed, .int e_doubled])), (ek, .inl (e1, 400, .inl gk)), (ec, .inl (e2, 400, .inl gc)), (ef, .inl (e3, 1200, .inr (.inl gv))), (gki, .inr (4, [.ref kw, .ref kf, .int kz])), (kw, .inl (k1, 20, .inr (.inl kgw))), (kf, .inl (k2, 20, .inl kgf))] sz) := by
  refine Met.ofW (cc := cX11_show) (maxL := 2) (ret := (some .int)) (by decide) rfl ?_
  intro p e s m args below meth c s₁ B hml hv
  obtain ⟨rfl, hsz, hP, hK, hD0, hN, hT⟩ := hv
  have hx := B.exec
  have hb := B.bytes
  have hr := B.returns
  have hts := atoms_spec (ws := Cond.code yX11_show cX11_show 2 (some .int) :: zw) B.pre
  have hA : ∀ w ∈ zw, w.before _ s = true := fun w h => hts w (List.mem_cons_of_mem _ h)
  have hown : s.vm.findClass RX11 = some m.cls := findClass_of_methodNamed B.named
  have hlocks := B.notSynchronized
  subst hsz
  have hD := hD0.self (sz := s.heap.size)
  generalize hAe : va_A [(h0, .inr (11, [.ref h_tape, .int h_fed, .ref h_taken, .ref h_parser, .ref h_machine, .ref h_countedCells, .ref h_plainCells, .ref h_printer, .int h_faultNumber, .int h_stopPlace, .int h_wasRun, .int h_runSteps, .int h_runCalls, .int h_hasValue, .long h_value, .int h_hasOther, .long h_otherValue])), (h_printer, .inr (8, [.ref pb, .int pz, .ref psp, .int ps, .int tl, .ref poc, .ref pof, .int po])), (psp, .inl (p2, 4000, .inl gsp)), (poc, .inl (p3, 2000, .inl goc)), (pof, .inl (p4, 2000, .inl gof)), (h_countedCells, .inr (1, [.ref ek, .ref ec, .ref ef, .ref gki, .int e_limit, .int e_fresh, .int e_firstFree, .int e_held, .int e_mostHeld, .int e_made, .int e_reused, .int e_freed, .int e_doubled])), (ek, .inl (e1, 400, .inl gk)), (ec, .inl (e2, 400, .inl gc)), (ef, .inl (e3, 1200, .inr (.inl gv))), (gki, .inr (4, [.ref kw, .ref kf, .int kz])), (kw, .inl (k1, 20, .inr (.inl kgw))), (kf, .inl (k2, 20, .inl kgf))] s.heap.size = A at hD hT ⊢
  have hAA : ∀ q : Nat, s.heap.size ≤ q → A q := fun q h => by rw [← hAe]; exact Or.inr h
  have hS : va_S A s.heap s.heap [] := va_S.rf
  have hl := lv_entry ([.ref h0, .int oth]) (n := 2) (Nat.le_of_ble_eq_true rfl)
  rw [lg_entry_eq]
  generalize (lg_sl ([.ref h0, .int oth]) ++ List.replicate (2 - (lg_sl ([.ref h0, .int oth])).length) Slot.unset).toArray = ls at hl ⊢
  have hl : lv_has ls 2 [(0, .ref h0), (1, .int oth)] := hl
  refine lv_iload_n hx hb dX11_show_0 rfl (lv_at hl 1 rfl) ?_
  refine lv_if_eq (tgt := 31) hx hb dX11_show_1 (by decide) (fun c_1 => ?_) (fun c_1 => ?_)
  · have ic_1 : oth.toInt = 0 := zi_eq c_1
    refine lv_aload_n hx hb dX11_show_31 rfl (lv_at hl 0 rfl) ?_
    refine va_get (D := (dC, dI)) (ci := 11) (v := .int h_hasValue) (C := RX11) (T := TX11) (N := 17) hx hb hA zin_X11 hown hK hP 0 rfl rfl 13 (by decide) (hA _ wi_597) (fun _ h9 => h9) rfl dX11_show_32 ?_
    refine lv_if_eq (tgt := 56) hx hb dX11_show_35 (by decide) (fun c_2 => ?_) (fun c_2 => ?_)
    · have ic_2 : h_hasValue.toInt = 0 := zi_eq c_2
      exfalso
      omega
    · have ic_2 : h_hasValue.toInt ≠ 0 := zi_ne c_2
      refine lv_aload_n hx hb dX11_show_38 rfl (lv_at hl 0 rfl) ?_
      refine va_get (D := (dC, dI)) (ci := 11) (v := .ref h_printer) (C := RX11) (T := TX11) (N := 17) hx hb hA zin_X11 hown hK hP 0 rfl rfl 7 (by decide) (hA _ wi_591) (fun _ h9 => h9) rfl dX11_show_39 ?_
      refine lv_aload_n hx hb dX11_show_42 rfl (lv_at hl 0 rfl) ?_
      refine va_get (D := (dC, dI)) (ci := 11) (v := .long h_value) (C := RX11) (T := TX11) (N := 17) hx hb hA zin_X11 hown hK hP 0 rfl rfl 14 (by decide) (hA _ wi_598) (fun _ h9 => h9) rfl dX11_show_43 ?_
      refine lv_aload_n hx hb dX11_show_46 rfl (lv_at hl 0 rfl) ?_
      refine va_get (D := (dC, dI)) (ci := 11) (v := .ref h_countedCells) (C := RX11) (T := TX11) (N := 17) hx hb hA zin_X11 hown hK hP 0 rfl rfl 5 (by decide) (hA _ wi_589) (fun _ h9 => h9) rfl dX11_show_47 ?_
      obtain ⟨gQ9, hq1, hq2⟩ := zRes_q hrs
      have hPc := hP.sub (ws' := [(h_printer, .inr (8, [.ref pb, .int pz, .ref psp, .int ps, .int tl, .ref poc, .ref pof, .int po])), (psp, .inl (p2, 4000, .inl gsp)), (poc, .inl (p3, 2000, .inl goc)), (pof, .inl (p4, 2000, .inl gof)), (h_countedCells, .inr (1, [.ref ek, .ref ec, .ref ef, .ref gki, .int e_limit, .int e_fresh, .int e_firstFree, .int e_held, .int e_mostHeld, .int e_made, .int e_reused, .int e_freed, .int e_doubled])), (ek, .inl (e1, 400, .inl gk)), (ec, .inl (e2, 400, .inl gc)), (ef, .inl (e3, 1200, .inr (.inl gv))), (gki, .inr (4, [.ref kw, .ref kf, .int kz])), (kw, .inl (k1, 20, .inr (.inl kgw))), (kf, .inl (k2, 20, .inl kgf))]) [1, 2, 3, 4, 5, 6, 7, 8, 9, 10, 11] rfl
      have hDc := hD.sub (ws' := [(h_printer, .inr (8, [.ref pb, .int pz, .ref psp, .int ps, .int tl, .ref poc, .ref pof, .int po])), (psp, .inl (p2, 4000, .inl gsp)), (poc, .inl (p3, 2000, .inl goc)), (pof, .inl (p4, 2000, .inl gof)), (h_countedCells, .inr (1, [.ref ek, .ref ec, .ref ef, .ref gki, .int e_limit, .int e_fresh, .int e_firstFree, .int e_held, .int e_mostHeld, .int e_made, .int e_reused, .int e_freed, .int e_doubled])), (ek, .inl (e1, 400, .inl gk)), (ec, .inl (e2, 400, .inl gc)), (ef, .inl (e3, 1200, .inr (.inl gv))), (gki, .inr (4, [.ref kw, .ref kf, .int kz])), (kw, .inl (k1, 20, .inr (.inl kgw))), (kf, .inl (k2, 20, .inl kgf))]) [1, 2, 3, 4, 5, 6, 7, 8, 9, 10, 11] (by decide) rfl
      have hKc := hK.sub (tys' := [(p2, .byte), (p3, .int), (p4, .int), (e1, .int), (e2, .int), (e3, .long), (k1, .long), (k2, .int)]) [0, 1, 2, 3, 4, 5, 6, 7] rfl
      have hFc := va_free (wc := [(h_printer, .inr (8, [.ref pb, .int pz, .ref psp, .int ps, .int tl, .ref poc, .ref pof, .int po])), (psp, .inl (p2, 4000, .inl gsp)), (poc, .inl (p3, 2000, .inl goc)), (pof, .inl (p4, 2000, .inl gof)), (h_countedCells, .inr (1, [.ref ek, .ref ec, .ref ef, .ref gki, .int e_limit, .int e_fresh, .int e_firstFree, .int e_held, .int e_mostHeld, .int e_made, .int e_reused, .int e_freed, .int e_doubled])), (ek, .inl (e1, 400, .inl gk)), (ec, .inl (e2, 400, .inl gc)), (ef, .inl (e3, 1200, .inr (.inl gv))), (gki, .inr (4, [.ref kw, .ref kf, .int kz])), (kw, .inl (k1, 20, .inr (.inl kgw))), (kf, .inl (k2, 20, .inl kgf))]) hD hS hAA [1, 2, 3, 4, 5, 6, 7, 8, 9, 10, 11] rfl
      refine va_calli (va_runV (As := [.long h_value, .ref h_countedCells]) (rest := []) ⟨hx, hb, hml, hown, hA⟩ (c_X8_print_400 l dC dI aK aV h_printer pb psp poc pof pz ps tl po p2 p3 p4 gsp goc gof ek ec ef gki e1 e2 e3 e_limit e_fresh e_firstFree e_held e_mostHeld e_made e_reused e_freed e_doubled gk gc gv kw kf k1 k2 kz kgw kgf h_value h_countedCells gQ9 s.heap.size (by omega) (by omega) hkf hq1 hq2 (by omega) (by omega)) (cwV 2 hA (zw_V wi_1295 wi_1296 wi_1297 wi_142 (zw_good wi_1298)) rfl rfl rfl (by decide +kernel) ⟨(Nat.le_of_ble_eq_true rfl), (Nat.le_of_ble_eq_true rfl)⟩) ⟨zP_blind, va_recv hKc hPc (ci := 8) (q0 := 0) rfl rfl, zz_pre hKc hPc hDc hN hT hS hFc⟩ rfl rfl hl.1 rfl (lv_room (Nat.le_of_ble_eq_true rfl)) dX11_show_50 ⟨(Nat.le_of_ble_eq_true rfl), (Nat.le_of_ble_eq_true rfl)⟩) hS (fun q _ h => hFc q h) hFc (fun r_3 u t H1 locs ht hvm hw hB hz1 hk1 hS => ?_)
      obtain ⟨pb_4, psp_5, pz_6, ps_7, tl_8, po_9, gsp_10, goc_11, gof_12⟩ := u
      obtain ⟨hP1, hK1, hD1⟩ := hB
      rw [ht] at hP1
      have hK1 := va_K.moved hvm.symm hK1
      obtain ⟨hP, hD⟩ := va_join (wr := [(h0, .inr (11, [.ref h_tape, .int h_fed, .ref h_taken, .ref h_parser, .ref h_machine, .ref h_countedCells, .ref h_plainCells, .ref h_printer, .int h_faultNumber, .int h_stopPlace, .int h_wasRun, .int h_runSteps, .int h_runCalls, .int h_hasValue, .long h_value, .int h_hasOther, .long h_otherValue]))]) (w1 := [(h_printer, .inr (8, [.ref pb_4, .int pz_6, .ref psp_5, .int ps_7, .int tl_8, .ref poc, .ref pof, .int po_9])), (psp, .inl (p2, 4000, .inl gsp_10)), (poc, .inl (p3, 2000, .inl goc_11)), (pof, .inl (p4, 2000, .inl gof_12)), (h_countedCells, .inr (1, [.ref ek, .ref ec, .ref ef, .ref gki, .int e_limit, .int e_fresh, .int e_firstFree, .int e_held, .int e_mostHeld, .int e_made, .int e_reused, .int e_freed, .int e_doubled])), (ek, .inl (e1, 400, .inl gk)), (ec, .inl (e2, 400, .inl gc)), (ef, .inl (e3, 1200, .inr (.inl gv))), (gki, .inr (4, [.ref kw, .ref kf, .int kz])), (kw, .inl (k1, 20, .inr (.inl kgw))), (kf, .inl (k2, 20, .inl kgf))]) hP hD [1, 2, 3, 4, 5, 6, 7, 8, 9, 10, 11] [0] rfl rfl (by decide) (by decide) hk1 hFc hP1 hD1
      have hK := (hK.sub (tys' := []) [] rfl).app hK1
      generalize H1 = H at hP hS ⊢
      have hP : va_P (dC, dI) vwCl [(h0, .inr (11, [.ref h_tape, .int h_fed, .ref h_taken, .ref h_parser, .ref h_machine, .ref h_countedCells, .ref h_plainCells, .ref h_printer, .int h_faultNumber, .int h_stopPlace, .int h_wasRun, .int h_runSteps, .int h_runCalls, .int h_hasValue, .long h_value, .int h_hasOther, .long h_otherValue])), (h_printer, .inr (8, [.ref pb_4, .int pz_6, .ref psp_5, .int ps_7, .int tl_8, .ref poc, .ref pof, .int po_9])), (psp, .inl (p2, 4000, .inl gsp_10)), (poc, .inl (p3, 2000, .inl goc_11)), (pof, .inl (p4, 2000, .inl gof_12)), (h_countedCells, .inr (1, [.ref ek, .ref ec, .ref ef, .ref gki, .int e_limit, .int e_fresh, .int e_firstFree, .int e_held, .int e_mostHeld, .int e_made, .int e_reused, .int e_freed, .int e_doubled])), (ek, .inl (e1, 400, .inl gk)), (ec, .inl (e2, 400, .inl gc)), (ef, .inl (e3, 1200, .inr (.inl gv))), (gki, .inr (4, [.ref kw, .ref kf, .int kz])), (kw, .inl (k1, 20, .inr (.inl kgw))), (kf, .inl (k2, 20, .inl kgf))] H := hP
      have hD : va_D A [(h0, .inr (11, [.ref h_tape, .int h_fed, .ref h_taken, .ref h_parser, .ref h_machine, .ref h_countedCells, .ref h_plainCells, .ref h_printer, .int h_faultNumber, .int h_stopPlace, .int h_wasRun, .int h_runSteps, .int h_runCalls, .int h_hasValue, .long h_value, .int h_hasOther, .long h_otherValue])), (h_printer, .inr (8, [.ref pb_4, .int pz_6, .ref psp_5, .int ps_7, .int tl_8, .ref poc, .ref pof, .int po_9])), (psp, .inl (p2, 4000, .inl gsp_10)), (poc, .inl (p3, 2000, .inl goc_11)), (pof, .inl (p4, 2000, .inl gof_12)), (h_countedCells, .inr (1, [.ref ek, .ref ec, .ref ef, .ref gki, .int e_limit, .int e_fresh, .int e_firstFree, .int e_held, .int e_mostHeld, .int e_made, .int e_reused, .int e_freed, .int e_doubled])), (ek, .inl (e1, 400, .inl gk)), (ec, .inl (e2, 400, .inl gc)), (ef, .inl (e3, 1200, .inr (.inl gv))), (gki, .inr (4, [.ref kw, .ref kf, .int kz])), (kw, .inl (k1, 20, .inr (.inl kgw))), (kf, .inl (k2, 20, .inl kgf))] := hD
      have hK : va_K (dC, dI) vwCl [(p2, .byte), (p3, .int), (p4, .int), (e1, .int), (e2, .int), (e3, .long), (k1, .long), (k2, .int)] s := hK
      have hw_r_3 := hw
      try dsimp only at hw_r_3
      obtain ⟨hq_13, hq_14, hq_15⟩ := hw
      refine lv_goto (tgt := 57) hx hb dX11_show_53 (by decide) ?_
      have hP9 := hP.sub (ws' := [(h0, .inr (11, [.ref h_tape, .int h_fed, .ref h_taken, .ref h_parser, .ref h_machine, .ref h_countedCells, .ref h_plainCells, .ref h_printer, .int h_faultNumber, .int h_stopPlace, .int h_wasRun, .int h_runSteps, .int h_runCalls, .int h_hasValue, .long h_value, .int h_hasOther, .long h_otherValue])), (h_printer, .inr (8, [.ref pb_4, .int pz_6, .ref psp_5, .int ps_7, .int tl_8, .ref poc, .ref pof, .int po_9])), (psp, .inl (p2, 4000, .inl gsp_10)), (poc, .inl (p3, 2000, .inl goc_11)), (pof, .inl (p4, 2000, .inl gof_12)), (h_countedCells, .inr (1, [.ref ek, .ref ec, .ref ef, .ref gki, .int e_limit, .int e_fresh, .int e_firstFree, .int e_held, .int e_mostHeld, .int e_made, .int e_reused, .int e_freed, .int e_doubled])), (ek, .inl (e1, 400, .inl gk)), (ec, .inl (e2, 400, .inl gc)), (ef, .inl (e3, 1200, .inr (.inl gv))), (gki, .inr (4, [.ref kw, .ref kf, .int kz])), (kw, .inl (k1, 20, .inr (.inl kgw))), (kf, .inl (k2, 20, .inl kgf))]) [0, 1, 2, 3, 4, 5, 6, 7, 8, 9, 10, 11] rfl
      have hD9 := hD.sub (ws' := [(h0, .inr (11, [.ref h_tape, .int h_fed, .ref h_taken, .ref h_parser, .ref h_machine, .ref h_countedCells, .ref h_plainCells, .ref h_printer, .int h_faultNumber, .int h_stopPlace, .int h_wasRun, .int h_runSteps, .int h_runCalls, .int h_hasValue, .long h_value, .int h_hasOther, .long h_otherValue])), (h_printer, .inr (8, [.ref pb_4, .int pz_6, .ref psp_5, .int ps_7, .int tl_8, .ref poc, .ref pof, .int po_9])), (psp, .inl (p2, 4000, .inl gsp_10)), (poc, .inl (p3, 2000, .inl goc_11)), (pof, .inl (p4, 2000, .inl gof_12)), (h_countedCells, .inr (1, [.ref ek, .ref ec, .ref ef, .ref gki, .int e_limit, .int e_fresh, .int e_firstFree, .int e_held, .int e_mostHeld, .int e_made, .int e_reused, .int e_freed, .int e_doubled])), (ek, .inl (e1, 400, .inl gk)), (ec, .inl (e2, 400, .inl gc)), (ef, .inl (e3, 1200, .inr (.inl gv))), (gki, .inr (4, [.ref kw, .ref kf, .int kz])), (kw, .inl (k1, 20, .inr (.inl kgw))), (kf, .inl (k2, 20, .inl kgf))]) [0, 1, 2, 3, 4, 5, 6, 7, 8, 9, 10, 11] (by decide) rfl
      have hK9 := hK.sub (tys' := [(p2, .byte), (p3, .int), (p4, .int), (e1, .int), (e2, .int), (e3, .long), (k1, .long), (k2, .int)]) [0, 1, 2, 3, 4, 5, 6, 7] rfl
      exact W.iret (v := r_3) hx hb hr (fun t ht hW => ⟨⟨r_3, (pb_4, psp_5, pz_6, ps_7, tl_8, po_9, gsp_10, goc_11, gof_12), rfl, ⟨by omega, by omega, hq_15⟩, by rw [ht]; exact hP9, va_K.moved hW.alike hK9, hD9⟩, hS.F ht⟩) hS.2.2 dX11_show_57
  · have ic_1 : oth.toInt ≠ 0 := zi_ne c_1
    exfalso
    omega
set_option maxHeartbeats 4000000 in
set_option maxRecDepth 100000 in
theorem c_X11_show_v0 (l : Launch) (dC : Nat → ClassId) (dI : Nat → Nat → Nat) (aK aV : Nat → Nat) (h0 : Nat) (h_tape : Nat) (h_fed : Int32) (h_taken : Nat) (h_parser : Nat) (h_machine : Nat) (h_countedCells : Nat) (h_plainCells : Nat) (h_printer : Nat) (h_faultNumber : Int32) (h_stopPlace : Int32) (h_wasRun : Int32) (h_runSteps : Int32) (h_runCalls : Int32) (h_hasValue : Int32) (h_value : Int64) (h_hasOther : Int32) (h_otherValue : Int64) (oth : Int32) (sz : Nat) (hot : oth.toInt = 0) (hval : h_hasValue.toInt = 0) : Met l yX11_show (Cond.code yX11_show cX11_show 2 (some .int) :: zw) ({ frames := 18, cells := 0, slots := 0, locals := 700 }) (va_Pc [.ref h0, .int oth] (zP dC dI aK aV sz [] [(h0, .inr (11, [.ref h_tape, .int h_fed, .ref h_taken, .ref h_parser, .ref h_machine, .ref h_countedCells, .ref h_plainCells, .ref h_printer, .int h_faultNumber, .int h_stopPlace, .int h_wasRun, .int h_runSteps, .int h_runCalls, .int h_hasValue, .long h_value, .int h_hasOther, .long h_otherValue]))])) (va_Qi (fun (r : Int32) (u : Unit) => (r.toInt = -1)) (fun u => zQ dC dI (va_A [(h0, .inr (11, [.ref h_tape, .int h_fed, .ref h_taken, .ref h_parser, .ref h_machine, .ref h_countedCells, .ref h_plainCells, .ref h_printer, .int h_faultNumber, .int h_stopPlace, .int h_wasRun, .int h_runSteps, .int h_runCalls, .int h_hasValue, .long h_value, .int h_hasOther, .long h_otherValue]))] sz) [] [(h0, .inr (11, [.ref h_tape, .int h_fed, .ref h_taken, .ref h_parser, .ref h_machine, .ref h_countedCells, .ref h_plainCells, .ref h_printer, .int h_faultNumber, .int h_stopPlace, .int h_wasRun, .int h_runSteps, .int h_runCalls, .int h_hasValue, .long h_value, .int h_hasOther, .long h_otherValue]))]) (va_A [(h0, .inr (11, [.ref h_tape, .int h_fed, .ref h_taken, .ref h_parser, .ref h_machine, .ref h_countedCells, .ref h_plainCells, .ref h_printer, .int h_faultNumber, .int h_stopPlace, .int h_wasRun, .int h_runSteps, .int h_runCalls, .int h_hasValue, .long h_value, .int h_hasOther, .long h_otherValue]))] sz)) 0 0 (va_A [(h0, .inr (11, [.ref h_tape, .int h_fed, .ref h_taken, .ref h_parser, .ref h_machine, .ref h_countedCells, .ref h_plainCells, .ref h_printer, .int h_faultNumber, .int h_stopPlace, .int h_wasRun, .int h_runSteps, .int h_runCalls, .int h_hasValue, .long h_value, .int h_hasOther, .long h_otherValue]))] sz) := by
  refine Met.ofW (cc := cX11_show) (maxL := 2) (ret := (some .int)) (by decide) rfl ?_
  intro p e s m args below meth c s₁ B hml hv
  obtain ⟨rfl, hsz, hP, hK, hD0, hN, hT⟩ := hv
  have hx := B.exec
  have hb := B.bytes
  have hr := B.returns
  have hts := atoms_spec (ws := Cond.code yX11_show cX11_show 2 (some .int) :: zw) B.pre
  have hA : ∀ w ∈ zw, w.before _ s = true := fun w h => hts w (List.mem_cons_of_mem _ h)
  have hown : s.vm.findClass RX11 = some m.cls := findClass_of_methodNamed B.named
  have hlocks := B.notSynchronized
  subst hsz
  have hD := hD0.self (sz := s.heap.size)
  generalize hAe : va_A [(h0, .inr (11, [.ref h_tape, .int h_fed, .ref h_taken, .ref h_parser, .ref h_machine, .ref h_countedCells, .ref h_plainCells, .ref h_printer, .int h_faultNumber, .int h_stopPlace, .int h_wasRun, .int h_runSteps, .int h_runCalls, .int h_hasValue, .long h_value, .int h_hasOther, .long h_otherValue]))] s.heap.size = A at hD hT ⊢
  have hAA : ∀ q : Nat, s.heap.size ≤ q → A q := fun q h => by rw [← hAe]; exact Or.inr h
  have hS : va_S A s.heap s.heap [] := va_S.rf
  have hl := lv_entry ([.ref h0, .int oth]) (n := 2) (Nat.le_of_ble_eq_true rfl)
  rw [lg_entry_eq]
  generalize (lg_sl ([.ref h0, .int oth]) ++ List.replicate (2 - (lg_sl ([.ref h0, .int oth])).length) Slot.unset).toArray = ls at hl ⊢
  have hl : lv_has ls 2 [(0, .ref h0), (1, .int oth)] := hl
  refine lv_iload_n hx hb dX11_show_0 rfl (lv_at hl 1 rfl) ?_
  refine lv_if_eq (tgt := 31) hx hb dX11_show_1 (by decide) (fun c_1 => ?_) (fun c_1 => ?_)
  · have ic_1 : oth.toInt = 0 := zi_eq c_1
    refine lv_aload_n hx hb dX11_show_31 rfl (lv_at hl 0 rfl) ?_
    refine va_get (D := (dC, dI)) (ci := 11) (v := .int h_hasValue) (C := RX11) (T := TX11) (N := 17) hx hb hA zin_X11 hown hK hP 0 rfl rfl 13 (by decide) (hA _ wi_597) (fun _ h9 => h9) rfl dX11_show_32 ?_
    refine lv_if_eq (tgt := 56) hx hb dX11_show_35 (by decide) (fun c_2 => ?_) (fun c_2 => ?_)
    · have ic_2 : h_hasValue.toInt = 0 := zi_eq c_2
      refine lv_iconst (v := (-1)) hx hb dX11_show_56 (by decide) ?_
      have hlit : Int32.toInt (-1) = (-1) := by decide
      have hP9 := hP.sub (ws' := [(h0, .inr (11, [.ref h_tape, .int h_fed, .ref h_taken, .ref h_parser, .ref h_machine, .ref h_countedCells, .ref h_plainCells, .ref h_printer, .int h_faultNumber, .int h_stopPlace, .int h_wasRun, .int h_runSteps, .int h_runCalls, .int h_hasValue, .long h_value, .int h_hasOther, .long h_otherValue]))]) [0] rfl
      have hD9 := hD.sub (ws' := [(h0, .inr (11, [.ref h_tape, .int h_fed, .ref h_taken, .ref h_parser, .ref h_machine, .ref h_countedCells, .ref h_plainCells, .ref h_printer, .int h_faultNumber, .int h_stopPlace, .int h_wasRun, .int h_runSteps, .int h_runCalls, .int h_hasValue, .long h_value, .int h_hasOther, .long h_otherValue]))]) [0] (by decide) rfl
      have hK9 := hK.sub (tys' := []) [] rfl
      exact W.iret (v := (-1)) hx hb hr (fun t ht hW => ⟨⟨(-1), (), rfl, by omega, by rw [ht]; exact hP9, va_K.moved hW.alike hK9, hD9⟩, hS.F ht⟩) hS.2.2 dX11_show_57
    · have ic_2 : h_hasValue.toInt ≠ 0 := zi_ne c_2
      exfalso
      omega
  · have ic_1 : oth.toInt ≠ 0 := zi_ne c_1
    exfalso
    omega
set_option maxHeartbeats 4000000 in
set_option maxRecDepth 100000 in
theorem c_X11_show_o1 (l : Launch) (dC : Nat → ClassId) (dI : Nat → Nat → Nat) (aK aV : Nat → Nat) (h0 : Nat) (h_tape : Nat) (h_fed : Int32) (h_taken : Nat) (h_parser : Nat) (h_machine : Nat) (h_countedCells : Nat) (h_plainCells : Nat) (h_printer : Nat) (h_faultNumber : Int32) (h_stopPlace : Int32) (h_wasRun : Int32) (h_runSteps : Int32) (h_runCalls : Int32) (h_hasValue : Int32) (h_value : Int64) (h_hasOther : Int32) (h_otherValue : Int64) (pb : Nat) (psp : Nat) (poc : Nat) (pof : Nat) (pz : Int32) (ps : Int32) (tl : Int32) (po : Int32) (p2 : ClassId) (p3 : ClassId) (p4 : ClassId) (gsp : Nat → Int32) (goc : Nat → Int32) (gof : Nat → Int32) (ek : Nat) (ec : Nat) (ef : Nat) (gki : Nat) (e1 : ClassId) (e2 : ClassId) (e3 : ClassId) (e_limit : Int32) (e_fresh : Int32) (e_firstFree : Int32) (e_held : Int32) (e_mostHeld : Int32) (e_made : Int32) (e_reused : Int32) (e_freed : Int32) (e_doubled : Int32) (gk : Nat → Int32) (gc : Nat → Int32) (gv : Nat → Int64) (kw : Nat) (kf : Nat) (k1 : ClassId) (k2 : ClassId) (kz : Int32) (kgw : Nat → Int64) (kgf : Nat → Int32) (oth : Int32) (sz : Nat) (hkz0 : 0 ≤ kz.toInt) (hkz1 : kz.toInt ≤ 20) (hkf : zx 4 kgf) (hot : oth.toInt ≠ 0) (hval : h_hasOther.toInt ≠ 0) (hrs : zRep kz kgf gk gv e_fresh h_otherValue) (hpz0 : 0 ≤ pz.toInt) (hpz1 : pz.toInt ≤ 4000) : Met l yX11_show (Cond.code yX11_show cX11_show 2 (some .int) :: zw) ({ frames := 18, cells := 0, slots := 0, locals := 700 }) (va_Pc [.ref h0, .int oth] (zP dC dI aK aV sz [(p2, .byte), (p3, .int), (p4, .int), (e1, .int), (e2, .int), (e3, .long), (k1, .long), (k2, .int)] [(h0, .inr (11, [.ref h_tape, .int h_fed, .ref h_taken, .ref h_parser, .ref h_machine, .ref h_countedCells, .ref h_plainCells, .ref h_printer, .int h_faultNumber, .int h_stopPlace, .int h_wasRun, .int h_runSteps, .int h_runCalls, .int h_hasValue, .long h_value, .int h_hasOther, .long h_otherValue])), (h_printer, .inr (8, [.ref pb, .int pz, .ref psp, .int ps, .int tl, .ref poc, .ref pof, .int po])), (psp, .inl (p2, 4000, .inl gsp)), (poc, .inl (p3, 2000, .inl goc)), (pof, .inl (p4, 2000, .inl gof)), (h_plainCells, .inr (1, [.ref ek, .ref ec, .ref ef, .ref gki, .int e_limit, .int e_fresh, .int e_firstFree, .int e_held, .int e_mostHeld, .int e_made, .int e_reused, .int e_freed, .int e_doubled])), (ek, .inl (e1, 4000, .inl gk)), (ec, .inl (e2, 4000, .inl gc)), (ef, .inl (e3, 12000, .inr (.inl gv))), (gki, .inr (4, [.ref kw, .ref kf, .int kz])), (kw, .inl (k1, 20, .inr (.inl kgw))), (kf, .inl (k2, 20, .inl kgf))])) (va_Qi (fun (r : Int32) (u : Nat × Nat × Int32 × Int32 × Int32 × Int32 × (Nat → Int32) × (Nat → Int32) × (Nat → Int32)) => match u with | (pb2, psp2, pz2, ps2, tl2, po2, gsp2, goc2, gof2) => (0 ≤ pz2.toInt) ∧ (pz2.toInt ≤ 4000) ∧ (pb2 = pb ∧ psp2 = psp ∨ pb2 = psp ∧ psp2 = pb)) (fun u => match u with | (pb2, psp2, pz2, ps2, tl2, po2, gsp2, goc2, gof2) => zQ dC dI (va_A [(h0, .inr (11, [.ref h_tape, .int h_fed, .ref h_taken, .ref h_parser, .ref h_machine, .ref h_countedCells, .ref h_plainCells, .ref h_printer, .int h_faultNumber, .int h_stopPlace, .int h_wasRun, .int h_runSteps, .int h_runCalls, .int h_hasValue, .long h_value, .int h_hasOther, .long h_otherValue])), (h_printer, .inr (8, [.ref pb, .int pz, .ref psp, .int ps, .int tl, .ref poc, .ref pof, .int po])), (psp, .inl (p2, 4000, .inl gsp)), (poc, .inl (p3, 2000, .inl goc)), (pof, .inl (p4, 2000, .inl gof)), (h_plainCells, .inr (1, [.ref ek, .ref ec, .ref ef, .ref gki, .int e_limit, .int e_fresh, .int e_firstFree, .int e_held, .int e_mostHeld, .int e_made, .int e_reused, .int e_freed, .int e_doubled])), (ek, .inl (e1, 4000, .inl gk)), (ec, .inl (e2, 4000, .inl gc)), (ef, .inl (e3, 12000, .inr (.inl gv))), (gki, .inr (4, [.ref kw, .ref kf, .int kz])), (kw, .inl (k1, 20, .inr (.inl kgw))), (kf, .inl (k2, 20, .inl kgf))] sz) [(p2, .byte), (p3, .int), (p4, .int), (e1, .int), (e2, .int), (e3, .long), (k1, .long), (k2, .int)] [(h0, .inr (11, [.ref h_tape, .int h_fed, .ref h_taken, .ref h_parser, .ref h_machine, .ref h_countedCells, .ref h_plainCells, .ref h_printer, .int h_faultNumber, .int h_stopPlace, .int h_wasRun, .int h_runSteps, .int h_runCalls, .int h_hasValue, .long h_value, .int h_hasOther, .long h_otherValue])), (h_printer, .inr (8, [.ref pb2, .int pz2, .ref psp2, .int ps2, .int tl2, .ref poc, .ref pof, .int po2])), (psp, .inl (p2, 4000, .inl gsp2)), (poc, .inl (p3, 2000, .inl goc2)), (pof, .inl (p4, 2000, .inl gof2)), (h_plainCells, .inr (1, [.ref ek, .ref ec, .ref ef, .ref gki, .int e_limit, .int e_fresh, .int e_firstFree, .int e_held, .int e_mostHeld, .int e_made, .int e_reused, .int e_freed, .int e_doubled])), (ek, .inl (e1, 4000, .inl gk)), (ec, .inl (e2, 4000, .inl gc)), (ef, .inl (e3, 12000, .inr (.inl gv))), (gki, .inr (4, [.ref kw, .ref kf, .int kz])), (kw, .inl (k1, 20, .inr (.inl kgw))), (kf, .inl (k2, 20, .inl kgf))]) (va_A [(h0, .inr (11, [.ref h_tape, .int h_fed, .ref h_taken, .ref h_parser, .ref h_machine, .ref h_countedCells, .ref h_plainCells, .ref h_printer, .int h_faultNumber, .int h_stopPlace, .int h_wasRun, .int h_runSteps, .int h_runCalls, .int h_hasValue, .long h_value, .int h_hasOther, .long h_otherValue])), (h_printer, .inr (8, [.ref pb, .int pz, .ref psp, .int ps, .int tl, .ref poc, .ref pof, .int po])), (psp, .inl (p2, 4000, .inl gsp)), (poc, .inl (p3, 2000, .inl goc)), (pof, .inl (p4, 2000, .inl gof)), (h_plainCells, .inr (1, [.ref ek, .ref ec, .ref ef, .ref gki, .int e_limit, .int e_fresh, .int e_firstFree, .int e_held, .int e_mostHeld, .int e_made, .int e_reused, .int e_freed, .int e_doubled])), (ek, .inl (e1, 4000, .inl gk)), (ec, .inl (e2, 4000, .inl gc)), (ef, .inl (e3, 12000, .inr (.inl gv))), (gki, .inr (4, [.ref kw, .ref kf, .int kz])), (kw, .inl (k1, 20, .inr (.inl kgw))), (kf, .inl (k2, 20, .inl kgf))] sz)) 0 0 (va_A [(h0, .inr (11, [.ref h_tape, .int h_fed, .ref h_taken, .ref h_parser, .ref h_machine, .ref h_countedCells, .ref h_plainCells, .ref h_printer, .int h_faultNumber, .int h_stopPlace, .int h_wasRun, .int h_runSteps, .int h_runCalls, .int h_hasValue, .long h_value, .int h_hasOther, .long h_otherValue])), (h_printer, .inr (8, [.ref pb, .int pz, .ref psp, .int ps, .int tl, .ref poc, .ref pof, .int po])), (psp, .inl (p2, 4000, .inl gsp)), (poc, .inl (p3, 2000, .inl goc)), (pof, .inl (p4, 2000, .inl gof)), (h_plainCells, .inr (1, [.ref ek, .ref ec, .ref ef, .ref gki, .int e_limit, .int e_fresh, .int e_firstFree, .int e_held, .int e_mostHeld, .int e_made, .int e_reused, .int e_freed, .int e_doubled])), (ek, .inl (e1, 4000, .inl gk)), (ec, .inl (e2, 4000, .inl gc)), (ef, .inl (e3, 12000, .inr (.inl gv))), (gki, .inr (4, [.ref kw, .ref kf, .int kz])), (kw, .inl (k1, 20, .inr (.inl kgw))), (kf, .inl (k2, 20, .inl kgf))] sz) := by
  refine Met.ofW (cc := cX11_show) (maxL := 2) (ret := (some .int)) (by decide) rfl ?_
  intro p e s m args below meth c s₁ B hml hv
  obtain ⟨rfl, hsz, hP, hK, hD0, hN, hT⟩ := hv
  have hx := B.exec
  have hb := B.bytes
  have hr := B.returns
  have hts := atoms_spec (ws := Cond.code yX11_show cX11_show 2 (some .int) :: zw) B.pre
  have hA : ∀ w ∈ zw, w.before _ s = true := fun w h => hts w (List.mem_cons_of_mem _ h)
  have hown : s.vm.findClass RX11 = some m.cls := findClass_of_methodNamed B.named
  have hlocks := B.notSynchronized
  subst hsz
  have hD := hD0.self (sz := s.heap.size)
  generalize hAe : va_A [(h0, .inr (11, [.ref h_tape, .int h_fed, .ref h_taken, .ref h_parser, .ref h_machine, .ref h_countedCells, .ref h_plainCells, .ref h_printer, .int h_faultNumber, .int h_stopPlace, .int h_wasRun, .int h_runSteps, .int h_runCalls, .int h_hasValue, .long h_value, .int h_hasOther, .long h_otherValue])), (h_printer, .inr (8, [.ref pb, .int pz, .ref psp, .int ps, .int tl, .ref poc, .ref pof, .int po])), (psp, .inl (p2, 4000, .inl gsp)), (poc, .inl (p3, 2000, .inl goc)), (pof, .inl (p4, 2000, .inl gof)), (h_plainCells, .inr (1, [.ref ek, .ref ec, .ref ef, .ref gki, .int e_limit, .int e_fresh, .int e_firstFree, .int e_held, .int e_mostHeld, .int e_made, .int e_reused, .int e_freed, .int e_doubled])), (ek, .inl (e1, 4000, .inl gk)), (ec, .inl (e2, 4000, .inl gc)), (ef, .inl (e3, 12000, .inr (.inl gv))), (gki, .inr (4, [.ref kw, .ref kf, .int kz])), (kw, .inl (k1, 20, .inr (.inl kgw))), (kf, .inl (k2, 20, .inl kgf))] s.heap.size = A at hD hT ⊢
  have hAA : ∀ q : Nat, s.heap.size ≤ q → A q := fun q h => by rw [← hAe]; exact Or.inr h
  have hS : va_S A s.heap s.heap [] := va_S.rf
  have hl := lv_entry ([.ref h0, .int oth]) (n := 2) (Nat.le_of_ble_eq_true rfl)
  rw [lg_entry_eq]
  generalize (lg_sl ([.ref h0, .int oth]) ++ List.replicate (2 - (lg_sl ([.ref h0, .int oth])).length) Slot.unset).toArray = ls at hl ⊢
  have hl : lv_has ls 2 [(0, .ref h0), (1, .int oth)] := hl
  refine lv_iload_n hx hb dX11_show_0 rfl (lv_at hl 1 rfl) ?_
  refine lv_if_eq (tgt := 31) hx hb dX11_show_1 (by decide) (fun c_1 => ?_) (fun c_1 => ?_)
  · have ic_1 : oth.toInt = 0 := zi_eq c_1
    exfalso
    omega
  · have ic_1 : oth.toInt ≠ 0 := zi_ne c_1
    refine lv_aload_n hx hb dX11_show_4 rfl (lv_at hl 0 rfl) ?_
    refine va_get (D := (dC, dI)) (ci := 11) (v := .int h_hasOther) (C := RX11) (T := TX11) (N := 17) hx hb hA zin_X11 hown hK hP 0 rfl rfl 15 (by decide) (hA _ wi_599) (fun _ h9 => h9) rfl dX11_show_5 ?_
    refine lv_if_eq (tgt := 29) hx hb dX11_show_8 (by decide) (fun c_2 => ?_) (fun c_2 => ?_)
    · have ic_2 : h_hasOther.toInt = 0 := zi_eq c_2
      exfalso
      omega
    · have ic_2 : h_hasOther.toInt ≠ 0 := zi_ne c_2
      refine lv_aload_n hx hb dX11_show_11 rfl (lv_at hl 0 rfl) ?_
      refine va_get (D := (dC, dI)) (ci := 11) (v := .ref h_printer) (C := RX11) (T := TX11) (N := 17) hx hb hA zin_X11 hown hK hP 0 rfl rfl 7 (by decide) (hA _ wi_591) (fun _ h9 => h9) rfl dX11_show_12 ?_
      refine lv_aload_n hx hb dX11_show_15 rfl (lv_at hl 0 rfl) ?_
      refine va_get (D := (dC, dI)) (ci := 11) (v := .long h_otherValue) (C := RX11) (T := TX11) (N := 17) hx hb hA zin_X11 hown hK hP 0 rfl rfl 16 (by decide) (hA _ wi_600) (fun _ h9 => h9) rfl dX11_show_16 ?_
      refine lv_aload_n hx hb dX11_show_19 rfl (lv_at hl 0 rfl) ?_
      refine va_get (D := (dC, dI)) (ci := 11) (v := .ref h_plainCells) (C := RX11) (T := TX11) (N := 17) hx hb hA zin_X11 hown hK hP 0 rfl rfl 6 (by decide) (hA _ wi_590) (fun _ h9 => h9) rfl dX11_show_20 ?_
      obtain ⟨gQ9, hq1, hq2⟩ := zRep_q hrs
      have hPc := hP.sub (ws' := [(h_printer, .inr (8, [.ref pb, .int pz, .ref psp, .int ps, .int tl, .ref poc, .ref pof, .int po])), (psp, .inl (p2, 4000, .inl gsp)), (poc, .inl (p3, 2000, .inl goc)), (pof, .inl (p4, 2000, .inl gof)), (h_plainCells, .inr (1, [.ref ek, .ref ec, .ref ef, .ref gki, .int e_limit, .int e_fresh, .int e_firstFree, .int e_held, .int e_mostHeld, .int e_made, .int e_reused, .int e_freed, .int e_doubled])), (ek, .inl (e1, 4000, .inl gk)), (ec, .inl (e2, 4000, .inl gc)), (ef, .inl (e3, 12000, .inr (.inl gv))), (gki, .inr (4, [.ref kw, .ref kf, .int kz])), (kw, .inl (k1, 20, .inr (.inl kgw))), (kf, .inl (k2, 20, .inl kgf))]) [1, 2, 3, 4, 5, 6, 7, 8, 9, 10, 11] rfl
      have hDc := hD.sub (ws' := [(h_printer, .inr (8, [.ref pb, .int pz, .ref psp, .int ps, .int tl, .ref poc, .ref pof, .int po])), (psp, .inl (p2, 4000, .inl gsp)), (poc, .inl (p3, 2000, .inl goc)), (pof, .inl (p4, 2000, .inl gof)), (h_plainCells, .inr (1, [.ref ek, .ref ec, .ref ef, .ref gki, .int e_limit, .int e_fresh, .int e_firstFree, .int e_held, .int e_mostHeld, .int e_made, .int e_reused, .int e_freed, .int e_doubled])), (ek, .inl (e1, 4000, .inl gk)), (ec, .inl (e2, 4000, .inl gc)), (ef, .inl (e3, 12000, .inr (.inl gv))), (gki, .inr (4, [.ref kw, .ref kf, .int kz])), (kw, .inl (k1, 20, .inr (.inl kgw))), (kf, .inl (k2, 20, .inl kgf))]) [1, 2, 3, 4, 5, 6, 7, 8, 9, 10, 11] (by decide) rfl
      have hKc := hK.sub (tys' := [(p2, .byte), (p3, .int), (p4, .int), (e1, .int), (e2, .int), (e3, .long), (k1, .long), (k2, .int)]) [0, 1, 2, 3, 4, 5, 6, 7] rfl
      have hFc := va_free (wc := [(h_printer, .inr (8, [.ref pb, .int pz, .ref psp, .int ps, .int tl, .ref poc, .ref pof, .int po])), (psp, .inl (p2, 4000, .inl gsp)), (poc, .inl (p3, 2000, .inl goc)), (pof, .inl (p4, 2000, .inl gof)), (h_plainCells, .inr (1, [.ref ek, .ref ec, .ref ef, .ref gki, .int e_limit, .int e_fresh, .int e_firstFree, .int e_held, .int e_mostHeld, .int e_made, .int e_reused, .int e_freed, .int e_doubled])), (ek, .inl (e1, 4000, .inl gk)), (ec, .inl (e2, 4000, .inl gc)), (ef, .inl (e3, 12000, .inr (.inl gv))), (gki, .inr (4, [.ref kw, .ref kf, .int kz])), (kw, .inl (k1, 20, .inr (.inl kgw))), (kf, .inl (k2, 20, .inl kgf))]) hD hS hAA [1, 2, 3, 4, 5, 6, 7, 8, 9, 10, 11] rfl
      refine va_calli (va_runV (As := [.long h_otherValue, .ref h_plainCells]) (rest := []) ⟨hx, hb, hml, hown, hA⟩ (c_X8_print_4000 l dC dI aK aV h_printer pb psp poc pof pz ps tl po p2 p3 p4 gsp goc gof ek ec ef gki e1 e2 e3 e_limit e_fresh e_firstFree e_held e_mostHeld e_made e_reused e_freed e_doubled gk gc gv kw kf k1 k2 kz kgw kgf h_otherValue h_plainCells gQ9 s.heap.size (by omega) (by omega) hkf hq1 hq2 (by omega) (by omega)) (cwV 2 hA (zw_V wi_1295 wi_1296 wi_1297 wi_142 (zw_good wi_1298)) rfl rfl rfl (by decide +kernel) ⟨(Nat.le_of_ble_eq_true rfl), (Nat.le_of_ble_eq_true rfl)⟩) ⟨zP_blind, va_recv hKc hPc (ci := 8) (q0 := 0) rfl rfl, zz_pre hKc hPc hDc hN hT hS hFc⟩ rfl rfl hl.1 rfl (lv_room (Nat.le_of_ble_eq_true rfl)) dX11_show_23 ⟨(Nat.le_of_ble_eq_true rfl), (Nat.le_of_ble_eq_true rfl)⟩) hS (fun q _ h => hFc q h) hFc (fun r_3 u t H1 locs ht hvm hw hB hz1 hk1 hS => ?_)
      obtain ⟨pb_4, psp_5, pz_6, ps_7, tl_8, po_9, gsp_10, goc_11, gof_12⟩ := u
      obtain ⟨hP1, hK1, hD1⟩ := hB
      rw [ht] at hP1
      have hK1 := va_K.moved hvm.symm hK1
      obtain ⟨hP, hD⟩ := va_join (wr := [(h0, .inr (11, [.ref h_tape, .int h_fed, .ref h_taken, .ref h_parser, .ref h_machine, .ref h_countedCells, .ref h_plainCells, .ref h_printer, .int h_faultNumber, .int h_stopPlace, .int h_wasRun, .int h_runSteps, .int h_runCalls, .int h_hasValue, .long h_value, .int h_hasOther, .long h_otherValue]))]) (w1 := [(h_printer, .inr (8, [.ref pb_4, .int pz_6, .ref psp_5, .int ps_7, .int tl_8, .ref poc, .ref pof, .int po_9])), (psp, .inl (p2, 4000, .inl gsp_10)), (poc, .inl (p3, 2000, .inl goc_11)), (pof, .inl (p4, 2000, .inl gof_12)), (h_plainCells, .inr (1, [.ref ek, .ref ec, .ref ef, .ref gki, .int e_limit, .int e_fresh, .int e_firstFree, .int e_held, .int e_mostHeld, .int e_made, .int e_reused, .int e_freed, .int e_doubled])), (ek, .inl (e1, 4000, .inl gk)), (ec, .inl (e2, 4000, .inl gc)), (ef, .inl (e3, 12000, .inr (.inl gv))), (gki, .inr (4, [.ref kw, .ref kf, .int kz])), (kw, .inl (k1, 20, .inr (.inl kgw))), (kf, .inl (k2, 20, .inl kgf))]) hP hD [1, 2, 3, 4, 5, 6, 7, 8, 9, 10, 11] [0] rfl rfl (by decide) (by decide) hk1 hFc hP1 hD1
      have hK := (hK.sub (tys' := []) [] rfl).app hK1
      generalize H1 = H at hP hS ⊢
      have hP : va_P (dC, dI) vwCl [(h0, .inr (11, [.ref h_tape, .int h_fed, .ref h_taken, .ref h_parser, .ref h_machine, .ref h_countedCells, .ref h_plainCells, .ref h_printer, .int h_faultNumber, .int h_stopPlace, .int h_wasRun, .int h_runSteps, .int h_runCalls, .int h_hasValue, .long h_value, .int h_hasOther, .long h_otherValue])), (h_printer, .inr (8, [.ref pb_4, .int pz_6, .ref psp_5, .int ps_7, .int tl_8, .ref poc, .ref pof, .int po_9])), (psp, .inl (p2, 4000, .inl gsp_10)), (poc, .inl (p3, 2000, .inl goc_11)), (pof, .inl (p4, 2000, .inl gof_12)), (h_plainCells, .inr (1, [.ref ek, .ref ec, .ref ef, .ref gki, .int e_limit, .int e_fresh, .int e_firstFree, .int e_held, .int e_mostHeld, .int e_made, .int e_reused, .int e_freed, .int e_doubled])), (ek, .inl (e1, 4000, .inl gk)), (ec, .inl (e2, 4000, .inl gc)), (ef, .inl (e3, 12000, .inr (.inl gv))), (gki, .inr (4, [.ref kw, .ref kf, .int kz])), (kw, .inl (k1, 20, .inr (.inl kgw))), (kf, .inl (k2, 20, .inl kgf))] H := hP
      have hD : va_D A [(h0, .inr (11, [.ref h_tape, .int h_fed, .ref h_taken, .ref h_parser, .ref h_machine, .ref h_countedCells, .ref h_plainCells, .ref h_printer, .int h_faultNumber, .int h_stopPlace, .int h_wasRun, .int h_runSteps, .int h_runCalls, .int h_hasValue, .long h_value, .int h_hasOther, .long h_otherValue])), (h_printer, .inr (8, [.ref pb_4, .int pz_6, .ref psp_5, .int ps_7, .int tl_8, .ref poc, .ref pof, .int po_9])), (psp, .inl (p2, 4000, .inl gsp_10)), (poc, .inl (p3, 2000, .inl goc_11)), (pof, .inl (p4, 2000, .inl gof_12)), (h_plainCells, .inr (1, [.ref ek, .ref ec, .ref ef, .ref gki, .int e_limit, .int e_fresh, .int e_firstFree, .int e_held, .int e_mostHeld, .int e_made, .int e_reused, .int e_freed, .int e_doubled])), (ek, .inl (e1, 4000, .inl gk)), (ec, .inl (e2, 4000, .inl gc)), (ef, .inl (e3, 12000, .inr (.inl gv))), (gki, .inr (4, [.ref kw, .ref kf, .int kz])), (kw, .inl (k1, 20, .inr (.inl kgw))), (kf, .inl (k2, 20, .inl kgf))] := hD
      have hK : va_K (dC, dI) vwCl [(p2, .byte), (p3, .int), (p4, .int), (e1, .int), (e2, .int), (e3, .long), (k1, .long), (k2, .int)] s := hK
      have hw_r_3 := hw
      try dsimp only at hw_r_3
      obtain ⟨hq_13, hq_14, hq_15⟩ := hw
      refine lv_goto (tgt := 30) hx hb dX11_show_26 (by decide) ?_
      have hP9 := hP.sub (ws' := [(h0, .inr (11, [.ref h_tape, .int h_fed, .ref h_taken, .ref h_parser, .ref h_machine, .ref h_countedCells, .ref h_plainCells, .ref h_printer, .int h_faultNumber, .int h_stopPlace, .int h_wasRun, .int h_runSteps, .int h_runCalls, .int h_hasValue, .long h_value, .int h_hasOther, .long h_otherValue])), (h_printer, .inr (8, [.ref pb_4, .int pz_6, .ref psp_5, .int ps_7, .int tl_8, .ref poc, .ref pof, .int po_9])), (psp, .inl (p2, 4000, .inl gsp_10)), (poc, .inl (p3, 2000, .inl goc_11)), (pof, .inl (p4, 2000, .inl gof_12)), (h_plainCells, .inr (1, [.ref ek, .ref ec, .ref ef, .ref gki, .int e_limit, .int e_fresh, .int e_firstFree, .int e_held, .int e_mostHeld, .int e_made, .int e_reused, .int e_freed, .int e_doubled])), (ek, .inl (e1, 4000, .inl gk)), (ec, .inl (e2, 4000, .inl gc)), (ef, .inl (e3, 12000, .inr (.inl gv))), (gki, .inr (4, [.ref kw, .ref kf, .int kz])), (kw, .inl (k1, 20, .inr (.inl kgw))), (kf, .inl (k2, 20, .inl kgf))]) [0, 1, 2, 3, 4, 5, 6, 7, 8, 9, 10, 11] rfl
      have hD9 := hD.sub (ws' := [(h0, .inr (11, [.ref h_tape, .int h_fed, .ref h_taken, .ref h_parser, .ref h_machine, .ref h_countedCells, .ref h_plainCells, .ref h_printer, .int h_faultNumber, .int h_stopPlace, .int h_wasRun, .int h_runSteps, .int h_runCalls, .int h_hasValue, .long h_value, .int h_hasOther, .long h_otherValue])), (h_printer, .inr (8, [.ref pb_4, .int pz_6, .ref psp_5, .int ps_7, .int tl_8, .ref poc, .ref pof, .int po_9])), (psp, .inl (p2, 4000, .inl gsp_10)), (poc, .inl (p3, 2000, .inl goc_11)), (pof, .inl (p4, 2000, .inl gof_12)), (h_plainCells, .inr (1, [.ref ek, .ref ec, .ref ef, .ref gki, .int e_limit, .int e_fresh, .int e_firstFree, .int e_held, .int e_mostHeld, .int e_made, .int e_reused, .int e_freed, .int e_doubled])), (ek, .inl (e1, 4000, .inl gk)), (ec, .inl (e2, 4000, .inl gc)), (ef, .inl (e3, 12000, .inr (.inl gv))), (gki, .inr (4, [.ref kw, .ref kf, .int kz])), (kw, .inl (k1, 20, .inr (.inl kgw))), (kf, .inl (k2, 20, .inl kgf))]) [0, 1, 2, 3, 4, 5, 6, 7, 8, 9, 10, 11] (by decide) rfl
      have hK9 := hK.sub (tys' := [(p2, .byte), (p3, .int), (p4, .int), (e1, .int), (e2, .int), (e3, .long), (k1, .long), (k2, .int)]) [0, 1, 2, 3, 4, 5, 6, 7] rfl
      exact W.iret (v := r_3) hx hb hr (fun t ht hW => ⟨⟨r_3, (pb_4, psp_5, pz_6, ps_7, tl_8, po_9, gsp_10, goc_11, gof_12), rfl, ⟨by omega, by omega, hq_15⟩, by rw [ht]; exact hP9, va_K.moved hW.alike hK9, hD9⟩, hS.F ht⟩) hS.2.2 dX11_show_30
set_option maxHeartbeats 4000000 in
set_option maxRecDepth 100000 in
theorem c_X11_show_o0 (l : Launch) (dC : Nat → ClassId) (dI : Nat → Nat → Nat) (aK aV : Nat → Nat) (h0 : Nat) (h_tape : Nat) (h_fed : Int32) (h_taken : Nat) (h_parser : Nat) (h_machine : Nat) (h_countedCells : Nat) (h_plainCells : Nat) (h_printer : Nat) (h_faultNumber : Int32) (h_stopPlace : Int32) (h_wasRun : Int32) (h_runSteps : Int32) (h_runCalls : Int32) (h_hasValue : Int32) (h_value : Int64) (h_hasOther : Int32) (h_otherValue : Int64) (oth : Int32) (sz : Nat) (hot : oth.toInt ≠ 0) (hval : h_hasOther.toInt = 0) : Met l yX11_show (Cond.code yX11_show cX11_show 2 (some .int) :: zw) ({ frames := 18, cells := 0, slots := 0, locals := 700 }) (va_Pc [.ref h0, .int oth] (zP dC dI aK aV sz [] [(h0, .inr (11, [.ref h_tape, .int h_fed, .ref h_taken, .ref h_parser, .ref h_machine, .ref h_countedCells, .ref h_plainCells, .ref h_printer, .int h_faultNumber, .int h_stopPlace, .int h_wasRun, .int h_runSteps, .int h_runCalls, .int h_hasValue, .long h_value, .int h_hasOther, .long h_otherValue]))])) (va_Qi (fun (r : Int32) (u : Unit) => (r.toInt = -1)) (fun u => zQ dC dI (va_A [(h0, .inr (11, [.ref h_tape, .int h_fed, .ref h_taken, .ref h_parser, .ref h_machine, .ref h_countedCells, .ref h_plainCells, .ref h_printer, .int h_faultNumber, .int h_stopPlace, .int h_wasRun, .int h_runSteps, .int h_runCalls, .int h_hasValue, .long h_value, .int h_hasOther, .long h_otherValue]))] sz) [] [(h0, .inr (11, [.ref h_tape, .int h_fed, .ref h_taken, .ref h_parser, .ref h_machine, .ref h_countedCells, .ref h_plainCells, .ref h_printer, .int h_faultNumber, .int h_stopPlace, .int h_wasRun, .int h_runSteps, .int h_runCalls, .int h_hasValue, .long h_value, .int h_hasOther, .long h_otherValue]))]) (va_A [(h0, .inr (11, [.ref h_tape, .int h_fed, .ref h_taken, .ref h_parser, .ref h_machine, .ref h_countedCells, .ref h_plainCells, .ref h_printer, .int h_faultNumber, .int h_stopPlace, .int h_wasRun, .int h_runSteps, .int h_runCalls, .int h_hasValue, .long h_value, .int h_hasOther, .long h_otherValue]))] sz)) 0 0 (va_A [(h0, .inr (11, [.ref h_tape, .int h_fed, .ref h_taken, .ref h_parser, .ref h_machine, .ref h_countedCells, .ref h_plainCells, .ref h_printer, .int h_faultNumber, .int h_stopPlace, .int h_wasRun, .int h_runSteps, .int h_runCalls, .int h_hasValue, .long h_value, .int h_hasOther, .long h_otherValue]))] sz) := by
  refine Met.ofW (cc := cX11_show) (maxL := 2) (ret := (some .int)) (by decide) rfl ?_
  intro p e s m args below meth c s₁ B hml hv
  obtain ⟨rfl, hsz, hP, hK, hD0, hN, hT⟩ := hv
  have hx := B.exec
  have hb := B.bytes
  have hr := B.returns
  have hts := atoms_spec (ws := Cond.code yX11_show cX11_show 2 (some .int) :: zw) B.pre
  have hA : ∀ w ∈ zw, w.before _ s = true := fun w h => hts w (List.mem_cons_of_mem _ h)
  have hown : s.vm.findClass RX11 = some m.cls := findClass_of_methodNamed B.named
  have hlocks := B.notSynchronized
  subst hsz
  have hD := hD0.self (sz := s.heap.size)
  generalize hAe : va_A [(h0, .inr (11, [.ref h_tape, .int h_fed, .ref h_taken, .ref h_parser, .ref h_machine, .ref h_countedCells, .ref h_plainCells, .ref h_printer, .int h_faultNumber, .int h_stopPlace, .int h_wasRun, .int h_runSteps, .int h_runCalls, .int h_hasValue, .long h_value, .int h_hasOther, .long h_otherValue]))] s.heap.size = A at hD hT ⊢
  have hAA : ∀ q : Nat, s.heap.size ≤ q → A q := fun q h => by rw [← hAe]; exact Or.inr h
  have hS : va_S A s.heap s.heap [] := va_S.rf
  have hl := lv_entry ([.ref h0, .int oth]) (n := 2) (Nat.le_of_ble_eq_true rfl)
  rw [lg_entry_eq]
  generalize (lg_sl ([.ref h0, .int oth]) ++ List.replicate (2 - (lg_sl ([.ref h0, .int oth])).length) Slot.unset).toArray = ls at hl ⊢
  have hl : lv_has ls 2 [(0, .ref h0), (1, .int oth)] := hl
  refine lv_iload_n hx hb dX11_show_0 rfl (lv_at hl 1 rfl) ?_
  refine lv_if_eq (tgt := 31) hx hb dX11_show_1 (by decide) (fun c_1 => ?_) (fun c_1 => ?_)
  · have ic_1 : oth.toInt = 0 := zi_eq c_1
    exfalso
    omega
  · have ic_1 : oth.toInt ≠ 0 := zi_ne c_1
    refine lv_aload_n hx hb dX11_show_4 rfl (lv_at hl 0 rfl) ?_
    refine va_get (D := (dC, dI)) (ci := 11) (v := .int h_hasOther) (C := RX11) (T := TX11) (N := 17) hx hb hA zin_X11 hown hK hP 0 rfl rfl 15 (by decide) (hA _ wi_599) (fun _ h9 => h9) rfl dX11_show_5 ?_
    refine lv_if_eq (tgt := 29) hx hb dX11_show_8 (by decide) (fun c_2 => ?_) (fun c_2 => ?_)
    · have ic_2 : h_hasOther.toInt = 0 := zi_eq c_2
      refine lv_iconst (v := (-1)) hx hb dX11_show_29 (by decide) ?_
      have hlit : Int32.toInt (-1) = (-1) := by decide
      have hP9 := hP.sub (ws' := [(h0, .inr (11, [.ref h_tape, .int h_fed, .ref h_taken, .ref h_parser, .ref h_machine, .ref h_countedCells, .ref h_plainCells, .ref h_printer, .int h_faultNumber, .int h_stopPlace, .int h_wasRun, .int h_runSteps, .int h_runCalls, .int h_hasValue, .long h_value, .int h_hasOther, .long h_otherValue]))]) [0] rfl
      have hD9 := hD.sub (ws' := [(h0, .inr (11, [.ref h_tape, .int h_fed, .ref h_taken, .ref h_parser, .ref h_machine, .ref h_countedCells, .ref h_plainCells, .ref h_printer, .int h_faultNumber, .int h_stopPlace, .int h_wasRun, .int h_runSteps, .int h_runCalls, .int h_hasValue, .long h_value, .int h_hasOther, .long h_otherValue]))]) [0] (by decide) rfl
      have hK9 := hK.sub (tys' := []) [] rfl
      exact W.iret (v := (-1)) hx hb hr (fun t ht hW => ⟨⟨(-1), (), rfl, by omega, by rw [ht]; exact hP9, va_K.moved hW.alike hK9, hD9⟩, hS.F ht⟩) hS.2.2 dX11_show_30
    · have ic_2 : h_hasOther.toInt ≠ 0 := zi_ne c_2
      exfalso
      omega
set_option maxHeartbeats 4000000 in
set_option maxRecDepth 100000 in
theorem c_X8_has_x (l : Launch) (dC : Nat → ClassId) (dI : Nat → Nat → Nat) (aK aV : Nat → Nat) (h0 : Nat) (pb : Nat) (psp : Nat) (poc : Nat) (pof : Nat) (pz : Int32) (ps : Int32) (tl : Int32) (po : Int32) (i : Int32) (sz : Nat)  : Met l yX8_has (Cond.code yX8_has cX8_has 2 (some .boolean) :: zw) ({ frames := 8, cells := 0, slots := 0, locals := 200 }) (va_Pc [.ref h0, .int i] (zP dC dI aK aV sz [] [(h0, .inr (8, [.ref pb, .int pz, .ref psp, .int ps, .int tl, .ref poc, .ref pof, .int po]))])) (va_Qi (fun (r : Int32) (u : Unit) => (r.toInt = 0 ∧ (i.toInt < 0 ∨ pz.toInt ≤ i.toInt) ∨ r.toInt = 1 ∧ 0 ≤ i.toInt ∧ i.toInt < pz.toInt)) (fun u => zQ dC dI (va_A [(h0, .inr (8, [.ref pb, .int pz, .ref psp, .int ps, .int tl, .ref poc, .ref pof, .int po]))] sz) [] [(h0, .inr (8, [.ref pb, .int pz, .ref psp, .int ps, .int tl, .ref poc, .ref pof, .int po]))]) (va_A [(h0, .inr (8, [.ref pb, .int pz, .ref psp, .int ps, .int tl, .ref poc, .ref pof, .int po]))] sz)) 0 0 (va_A [(h0, .inr (8, [.ref pb, .int pz, .ref psp, .int ps, .int tl, .ref poc, .ref pof, .int po]))] sz) := by
  refine Met.ofW (cc := cX8_has) (maxL := 2) (ret := (some .boolean)) (by decide) rfl ?_
  intro p e s m args below meth c s₁ B hml hv
  obtain ⟨rfl, hsz, hP, hK, hD0, hN, hT⟩ := hv
  have hx := B.exec
  have hb := B.bytes
  have hr := B.returns
  have hts := atoms_spec (ws := Cond.code yX8_has cX8_has 2 (some .boolean) :: zw) B.pre
  have hA : ∀ w ∈ zw, w.before _ s = true := fun w h => hts w (List.mem_cons_of_mem _ h)
  have hown : s.vm.findClass RX8 = some m.cls := findClass_of_methodNamed B.named
  have hlocks := B.notSynchronized
  subst hsz
  have hD := hD0.self (sz := s.heap.size)
  generalize hAe : va_A [(h0, .inr (8, [.ref pb, .int pz, .ref psp, .int ps, .int tl, .ref poc, .ref pof, .int po]))] s.heap.size = A at hD hT ⊢
  have hAA : ∀ q : Nat, s.heap.size ≤ q → A q := fun q h => by rw [← hAe]; exact Or.inr h
  have hS : va_S A s.heap s.heap [] := va_S.rf
  have hl := lv_entry ([.ref h0, .int i]) (n := 2) (Nat.le_of_ble_eq_true rfl)
  rw [lg_entry_eq]
  generalize (lg_sl ([.ref h0, .int i]) ++ List.replicate (2 - (lg_sl ([.ref h0, .int i])).length) Slot.unset).toArray = ls at hl ⊢
  have hl : lv_has ls 2 [(0, .ref h0), (1, .int i)] := hl
  refine lv_iload_n hx hb dX8_has_0 rfl (lv_at hl 1 rfl) ?_
  refine lv_if_lt (tgt := 16) hx hb dX8_has_1 (by decide) (fun c_1 => ?_) (fun c_1 => ?_)
  · have ic_1 : i.toInt < 0 := zi_lt c_1
    refine lv_iconst (v := 0) hx hb dX8_has_16 (by decide) ?_
    have hlit : Int32.toInt 0 = 0 := by decide
    have hP9 := hP.sub (ws' := [(h0, .inr (8, [.ref pb, .int pz, .ref psp, .int ps, .int tl, .ref poc, .ref pof, .int po]))]) [0] rfl
    have hD9 := hD.sub (ws' := [(h0, .inr (8, [.ref pb, .int pz, .ref psp, .int ps, .int tl, .ref poc, .ref pof, .int po]))]) [0] (by decide) rfl
    have hK9 := hK.sub (tys' := []) [] rfl
    exact W.zret (v := 0) hx hb hr rfl (fun t ht hW => ⟨⟨0, (), rfl, by omega, by rw [ht]; exact hP9, va_K.moved hW.alike hK9, hD9⟩, hS.F ht⟩) hS.2.2 dX8_has_17
  · have ic_1 : 0 ≤ i.toInt := zi_nlt c_1
    refine lv_iload_n hx hb dX8_has_4 rfl (lv_at hl 1 rfl) ?_
    refine lv_aload_n hx hb dX8_has_5 rfl (lv_at hl 0 rfl) ?_
    refine va_get (D := (dC, dI)) (ci := 8) (v := .int pz) (C := RX8) (T := TX8) (N := 8) hx hb hA zin_X8 hown hK hP 0 rfl rfl 1 (by decide) (hA _ wi_560) (fun _ h9 => h9) rfl dX8_has_6 ?_
    refine lv_icmp_ge (tgt := 16) hx hb dX8_has_9 (by decide) (fun c_2 => ?_) (fun c_2 => ?_)
    · have ic_2 : pz.toInt ≤ i.toInt := zi_le c_2
      refine lv_iconst (v := 0) hx hb dX8_has_16 (by decide) ?_
      have hlit : Int32.toInt 0 = 0 := by decide
      have hP9 := hP.sub (ws' := [(h0, .inr (8, [.ref pb, .int pz, .ref psp, .int ps, .int tl, .ref poc, .ref pof, .int po]))]) [0] rfl
      have hD9 := hD.sub (ws' := [(h0, .inr (8, [.ref pb, .int pz, .ref psp, .int ps, .int tl, .ref poc, .ref pof, .int po]))]) [0] (by decide) rfl
      have hK9 := hK.sub (tys' := []) [] rfl
      exact W.zret (v := 0) hx hb hr rfl (fun t ht hW => ⟨⟨0, (), rfl, by omega, by rw [ht]; exact hP9, va_K.moved hW.alike hK9, hD9⟩, hS.F ht⟩) hS.2.2 dX8_has_17
    · have ic_2 : i.toInt < pz.toInt := zi_nle c_2
      refine lv_iconst (v := 1) hx hb dX8_has_12 (by decide) ?_
      refine lv_goto (tgt := 17) hx hb dX8_has_13 (by decide) ?_
      have hlit : Int32.toInt 1 = 1 := by decide
      have hP9 := hP.sub (ws' := [(h0, .inr (8, [.ref pb, .int pz, .ref psp, .int ps, .int tl, .ref poc, .ref pof, .int po]))]) [0] rfl
      have hD9 := hD.sub (ws' := [(h0, .inr (8, [.ref pb, .int pz, .ref psp, .int ps, .int tl, .ref poc, .ref pof, .int po]))]) [0] (by decide) rfl
      have hK9 := hK.sub (tys' := []) [] rfl
      exact W.zret (v := 1) hx hb hr rfl (fun t ht hW => ⟨⟨1, (), rfl, by omega, by rw [ht]; exact hP9, va_K.moved hW.alike hK9, hD9⟩, hS.F ht⟩) hS.2.2 dX8_has_17
set_option maxHeartbeats 4000000 in
set_option maxRecDepth 100000 in
theorem c_X11_out_x (l : Launch) (dC : Nat → ClassId) (dI : Nat → Nat → Nat) (aK aV : Nat → Nat) (h0 : Nat) (h_tape : Nat) (h_fed : Int32) (h_taken : Nat) (h_parser : Nat) (h_machine : Nat) (h_countedCells : Nat) (h_plainCells : Nat) (h_printer : Nat) (h_faultNumber : Int32) (h_stopPlace : Int32) (h_wasRun : Int32) (h_runSteps : Int32) (h_runCalls : Int32) (h_hasValue : Int32) (h_value : Int64) (h_hasOther : Int32) (h_otherValue : Int64) (pb : Nat) (psp : Nat) (poc : Nat) (pof : Nat) (pz : Int32) (ps : Int32) (tl : Int32) (po : Int32) (p1 : ClassId) (gpb : Nat → Int32) (i : Int32) (sz : Nat) (hlt : l.stackTraces = false) (hpz0 : 0 ≤ pz.toInt) (hpz1 : pz.toInt ≤ 4000) : vy_Met l yX11_out (Cond.code yX11_out cX11_out 2 (some .int) :: zw) ({ frames := 10, cells := 1, slots := 6, locals := 300 }) (va_Pc [.ref h0, .int i] (zP dC dI aK aV sz [(p1, .byte)] [(h0, .inr (11, [.ref h_tape, .int h_fed, .ref h_taken, .ref h_parser, .ref h_machine, .ref h_countedCells, .ref h_plainCells, .ref h_printer, .int h_faultNumber, .int h_stopPlace, .int h_wasRun, .int h_runSteps, .int h_runCalls, .int h_hasValue, .long h_value, .int h_hasOther, .long h_otherValue])), (h_printer, .inr (8, [.ref pb, .int pz, .ref psp, .int ps, .int tl, .ref poc, .ref pof, .int po])), (pb, .inl (p1, 4000, .inl gpb))])) (va_Qi (fun (r : Int32) (u : Unit) => (0 ≤ i.toInt ∧ i.toInt < pz.toInt)) (fun u => zQ dC dI (va_A [(h0, .inr (11, [.ref h_tape, .int h_fed, .ref h_taken, .ref h_parser, .ref h_machine, .ref h_countedCells, .ref h_plainCells, .ref h_printer, .int h_faultNumber, .int h_stopPlace, .int h_wasRun, .int h_runSteps, .int h_runCalls, .int h_hasValue, .long h_value, .int h_hasOther, .long h_otherValue])), (h_printer, .inr (8, [.ref pb, .int pz, .ref psp, .int ps, .int tl, .ref poc, .ref pof, .int po])), (pb, .inl (p1, 4000, .inl gpb))] sz) [(p1, .byte)] [(h0, .inr (11, [.ref h_tape, .int h_fed, .ref h_taken, .ref h_parser, .ref h_machine, .ref h_countedCells, .ref h_plainCells, .ref h_printer, .int h_faultNumber, .int h_stopPlace, .int h_wasRun, .int h_runSteps, .int h_runCalls, .int h_hasValue, .long h_value, .int h_hasOther, .long h_otherValue])), (h_printer, .inr (8, [.ref pb, .int pz, .ref psp, .int ps, .int tl, .ref poc, .ref pof, .int po])), (pb, .inl (p1, 4000, .inl gpb))]) (va_A [(h0, .inr (11, [.ref h_tape, .int h_fed, .ref h_taken, .ref h_parser, .ref h_machine, .ref h_countedCells, .ref h_plainCells, .ref h_printer, .int h_faultNumber, .int h_stopPlace, .int h_wasRun, .int h_runSteps, .int h_runCalls, .int h_hasValue, .long h_value, .int h_hasOther, .long h_otherValue])), (h_printer, .inr (8, [.ref pb, .int pz, .ref psp, .int ps, .int tl, .ref poc, .ref pof, .int po])), (pb, .inl (p1, 4000, .inl gpb))] sz)) (vx_X (fun u : Unit => (i.toInt < 0 ∨ pz.toInt ≤ i.toInt)) (fun E u t => E = "java/util/NoSuchElementException" ∧ (zQ dC dI (va_A [(h0, .inr (11, [.ref h_tape, .int h_fed, .ref h_taken, .ref h_parser, .ref h_machine, .ref h_countedCells, .ref h_plainCells, .ref h_printer, .int h_faultNumber, .int h_stopPlace, .int h_wasRun, .int h_runSteps, .int h_runCalls, .int h_hasValue, .long h_value, .int h_hasOther, .long h_otherValue])), (h_printer, .inr (8, [.ref pb, .int pz, .ref psp, .int ps, .int tl, .ref poc, .ref pof, .int po])), (pb, .inl (p1, 4000, .inl gpb))] sz) [(p1, .byte)] [(h0, .inr (11, [.ref h_tape, .int h_fed, .ref h_taken, .ref h_parser, .ref h_machine, .ref h_countedCells, .ref h_plainCells, .ref h_printer, .int h_faultNumber, .int h_stopPlace, .int h_wasRun, .int h_runSteps, .int h_runCalls, .int h_hasValue, .long h_value, .int h_hasOther, .long h_otherValue])), (h_printer, .inr (8, [.ref pb, .int pz, .ref psp, .int ps, .int tl, .ref poc, .ref pof, .int po])), (pb, .inl (p1, 4000, .inl gpb))] t)) (va_A [(h0, .inr (11, [.ref h_tape, .int h_fed, .ref h_taken, .ref h_parser, .ref h_machine, .ref h_countedCells, .ref h_plainCells, .ref h_printer, .int h_faultNumber, .int h_stopPlace, .int h_wasRun, .int h_runSteps, .int h_runCalls, .int h_hasValue, .long h_value, .int h_hasOther, .long h_otherValue])), (h_printer, .inr (8, [.ref pb, .int pz, .ref psp, .int ps, .int tl, .ref poc, .ref pof, .int po])), (pb, .inl (p1, 4000, .inl gpb))] sz)) 0 0 1 6 (va_A [(h0, .inr (11, [.ref h_tape, .int h_fed, .ref h_taken, .ref h_parser, .ref h_machine, .ref h_countedCells, .ref h_plainCells, .ref h_printer, .int h_faultNumber, .int h_stopPlace, .int h_wasRun, .int h_runSteps, .int h_runCalls, .int h_hasValue, .long h_value, .int h_hasOther, .long h_otherValue])), (h_printer, .inr (8, [.ref pb, .int pz, .ref psp, .int ps, .int tl, .ref poc, .ref pof, .int po])), (pb, .inl (p1, 4000, .inl gpb))] sz) := by
  refine vy_ofW (cc := cX11_out) (maxL := 2) (ret := (some .int)) (by decide) rfl ?_
  intro p e s m args below meth c s₁ B hml hnh hv
  obtain ⟨rfl, hsz, hP, hK, hD0, hN, hT⟩ := hv
  have hx := B.exec
  have hb := B.bytes
  have hr := B.returns
  have hts := atoms_spec (ws := Cond.code yX11_out cX11_out 2 (some .int) :: zw) B.pre
  have hA : ∀ w ∈ zw, w.before _ s = true := fun w h => hts w (List.mem_cons_of_mem _ h)
  have hown : s.vm.findClass RX11 = some m.cls := findClass_of_methodNamed B.named
  have hlocks := B.notSynchronized
  subst hsz
  have hD := hD0.self (sz := s.heap.size)
  generalize hAe : va_A [(h0, .inr (11, [.ref h_tape, .int h_fed, .ref h_taken, .ref h_parser, .ref h_machine, .ref h_countedCells, .ref h_plainCells, .ref h_printer, .int h_faultNumber, .int h_stopPlace, .int h_wasRun, .int h_runSteps, .int h_runCalls, .int h_hasValue, .long h_value, .int h_hasOther, .long h_otherValue])), (h_printer, .inr (8, [.ref pb, .int pz, .ref psp, .int ps, .int tl, .ref poc, .ref pof, .int po])), (pb, .inl (p1, 4000, .inl gpb))] s.heap.size = A at hD hT ⊢
  have hAA : ∀ q : Nat, s.heap.size ≤ q → A q := fun q h => by rw [← hAe]; exact Or.inr h
  have hS : va_S A s.heap s.heap [] := va_S.rf
  have hl := lv_entry ([.ref h0, .int i]) (n := 2) (Nat.le_of_ble_eq_true rfl)
  rw [lg_entry_eq]
  generalize (lg_sl ([.ref h0, .int i]) ++ List.replicate (2 - (lg_sl ([.ref h0, .int i])).length) Slot.unset).toArray = ls at hl ⊢
  have hl : lv_has ls 2 [(0, .ref h0), (1, .int i)] := hl
  refine lv_aload_n hx hb dX11_out_0 rfl (lv_at hl 0 rfl) ?_
  refine va_get (D := (dC, dI)) (ci := 11) (v := .ref h_printer) (C := RX11) (T := TX11) (N := 17) hx hb hA zin_X11 hown hK hP 0 rfl rfl 7 (by decide) (hA _ wi_591) (fun _ h9 => h9) rfl dX11_out_1 ?_
  refine lv_iload_n hx hb dX11_out_4 rfl (lv_at hl 1 rfl) ?_
  have hPc := hP.sub (ws' := [(h_printer, .inr (8, [.ref pb, .int pz, .ref psp, .int ps, .int tl, .ref poc, .ref pof, .int po]))]) [1] rfl
  have hDc := hD.sub (ws' := [(h_printer, .inr (8, [.ref pb, .int pz, .ref psp, .int ps, .int tl, .ref poc, .ref pof, .int po]))]) [1] (by decide) rfl
  have hKc := hK.sub (tys' := []) [] rfl
  have hFc := va_free (wc := [(h_printer, .inr (8, [.ref pb, .int pz, .ref psp, .int ps, .int tl, .ref poc, .ref pof, .int po]))]) hD hS hAA [1] rfl
  refine va_calli (va_runV (As := [.int i]) (rest := []) ⟨hx, hb, hml, hown, hA⟩ (c_X8_has_x l dC dI aK aV h_printer pb psp poc pof pz ps tl po i s.heap.size) (cwV 1 hA (zw_V wi_1351 wi_1352 wi_1353 wi_142 (zw_good wi_1354)) rfl rfl rfl (by decide +kernel) ⟨(Nat.le_of_ble_eq_true rfl), (Nat.le_of_ble_eq_true rfl)⟩) ⟨zP_blind, va_recv hKc hPc (ci := 8) (q0 := 0) rfl rfl, zz_pre hKc hPc hDc hN hT hS hFc⟩ rfl rfl hl.1 rfl (lv_room (Nat.le_of_ble_eq_true rfl)) dX11_out_5 ⟨(Nat.le_of_ble_eq_true rfl), (Nat.le_of_ble_eq_true rfl)⟩) hS (fun q _ h => hFc q h) hFc (fun r_1 u t H1 locs ht hvm hw hB hz1 hk1 hS => ?_)
  obtain ⟨hP1, hK1, hD1⟩ := hB
  rw [ht] at hP1
  have hK1 := va_K.moved hvm.symm hK1
  obtain ⟨hP, hD⟩ := va_join (wr := [(h0, .inr (11, [.ref h_tape, .int h_fed, .ref h_taken, .ref h_parser, .ref h_machine, .ref h_countedCells, .ref h_plainCells, .ref h_printer, .int h_faultNumber, .int h_stopPlace, .int h_wasRun, .int h_runSteps, .int h_runCalls, .int h_hasValue, .long h_value, .int h_hasOther, .long h_otherValue])), (pb, .inl (p1, 4000, .inl gpb))]) (w1 := [(h_printer, .inr (8, [.ref pb, .int pz, .ref psp, .int ps, .int tl, .ref poc, .ref pof, .int po]))]) hP hD [1] [0, 2] rfl rfl (by decide) (by decide) hk1 hFc hP1 hD1
  have hK := (hK.sub (tys' := [(p1, .byte)]) [0] rfl).app hK1
  generalize H1 = H at hP hS ⊢
  have hP : va_P (dC, dI) vwCl [(h0, .inr (11, [.ref h_tape, .int h_fed, .ref h_taken, .ref h_parser, .ref h_machine, .ref h_countedCells, .ref h_plainCells, .ref h_printer, .int h_faultNumber, .int h_stopPlace, .int h_wasRun, .int h_runSteps, .int h_runCalls, .int h_hasValue, .long h_value, .int h_hasOther, .long h_otherValue])), (pb, .inl (p1, 4000, .inl gpb)), (h_printer, .inr (8, [.ref pb, .int pz, .ref psp, .int ps, .int tl, .ref poc, .ref pof, .int po]))] H := hP
  have hD : va_D A [(h0, .inr (11, [.ref h_tape, .int h_fed, .ref h_taken, .ref h_parser, .ref h_machine, .ref h_countedCells, .ref h_plainCells, .ref h_printer, .int h_faultNumber, .int h_stopPlace, .int h_wasRun, .int h_runSteps, .int h_runCalls, .int h_hasValue, .long h_value, .int h_hasOther, .long h_otherValue])), (pb, .inl (p1, 4000, .inl gpb)), (h_printer, .inr (8, [.ref pb, .int pz, .ref psp, .int ps, .int tl, .ref poc, .ref pof, .int po]))] := hD
  have hK : va_K (dC, dI) vwCl [(p1, .byte)] s := hK
  have hw_r_1 := hw
  try dsimp only at hw_r_1
  have hq_2 := hw
  refine lv_if_ne (tgt := 19) hx hb dX11_out_8 (by decide) (fun c_3 => ?_) (fun c_3 => ?_)
  · have ic_3 : r_1.toInt ≠ 0 := zi_ne c_3
    refine lv_aload_n hx hb dX11_out_19 rfl (lv_at hl 0 rfl) ?_
    refine va_get (D := (dC, dI)) (ci := 11) (v := .ref h_printer) (C := RX11) (T := TX11) (N := 17) hx hb hA zin_X11 hown hK hP 0 rfl rfl 7 (by decide) (hA _ wi_591) (fun _ h9 => h9) rfl dX11_out_20 ?_
    refine va_get (D := (dC, dI)) (ci := 8) (v := .ref pb) (C := RX8) (T := TX8) (N := 8) hx hb hA zin_X8 hown hK hP 2 rfl rfl 0 (by decide) (hA _ wi_559) (fun _ h9 => h9) rfl dX11_out_23 ?_
    refine lv_iload_n hx hb dX11_out_26 rfl (lv_at hl 1 rfl) ?_
    refine va_bald hx hb hK hP 1 0 rfl rfl (vp_in_iff.mpr ⟨by omega, by omega⟩) dX11_out_27 ?_
    refine lv_topi (fun x_4 ex_4 => ?_)
    have hP9 := hP.sub (ws' := [(h0, .inr (11, [.ref h_tape, .int h_fed, .ref h_taken, .ref h_parser, .ref h_machine, .ref h_countedCells, .ref h_plainCells, .ref h_printer, .int h_faultNumber, .int h_stopPlace, .int h_wasRun, .int h_runSteps, .int h_runCalls, .int h_hasValue, .long h_value, .int h_hasOther, .long h_otherValue])), (h_printer, .inr (8, [.ref pb, .int pz, .ref psp, .int ps, .int tl, .ref poc, .ref pof, .int po])), (pb, .inl (p1, 4000, .inl gpb))]) [0, 2, 1] rfl
    have hD9 := hD.sub (ws' := [(h0, .inr (11, [.ref h_tape, .int h_fed, .ref h_taken, .ref h_parser, .ref h_machine, .ref h_countedCells, .ref h_plainCells, .ref h_printer, .int h_faultNumber, .int h_stopPlace, .int h_wasRun, .int h_runSteps, .int h_runCalls, .int h_hasValue, .long h_value, .int h_hasOther, .long h_otherValue])), (h_printer, .inr (8, [.ref pb, .int pz, .ref psp, .int ps, .int tl, .ref poc, .ref pof, .int po])), (pb, .inl (p1, 4000, .inl gpb))]) [0, 2, 1] (by decide) rfl
    have hK9 := hK.sub (tys' := [(p1, .byte)]) [0] rfl
    exact vy_mono vy_ret (vx_ret (W.iret (v := x_4) hx hb hr (fun t ht hW => ⟨⟨x_4, (), rfl, by omega, by rw [ht]; exact hP9, va_K.moved hW.alike hK9, hD9⟩, hS.F ht⟩) hS.2.2 dX11_out_28))
  · have ic_3 : r_1.toInt = 0 := zi_eq c_3
    have hP9 := hP.sub (ws' := [(h0, .inr (11, [.ref h_tape, .int h_fed, .ref h_taken, .ref h_parser, .ref h_machine, .ref h_countedCells, .ref h_plainCells, .ref h_printer, .int h_faultNumber, .int h_stopPlace, .int h_wasRun, .int h_runSteps, .int h_runCalls, .int h_hasValue, .long h_value, .int h_hasOther, .long h_otherValue])), (h_printer, .inr (8, [.ref pb, .int pz, .ref psp, .int ps, .int tl, .ref poc, .ref pof, .int po])), (pb, .inl (p1, 4000, .inl gpb))]) [0, 2, 1] rfl
    have hD9 := hD.sub (ws' := [(h0, .inr (11, [.ref h_tape, .int h_fed, .ref h_taken, .ref h_parser, .ref h_machine, .ref h_countedCells, .ref h_plainCells, .ref h_printer, .int h_faultNumber, .int h_stopPlace, .int h_wasRun, .int h_runSteps, .int h_runCalls, .int h_hasValue, .long h_value, .int h_hasOther, .long h_otherValue])), (h_printer, .inr (8, [.ref pb, .int pz, .ref psp, .int ps, .int tl, .ref poc, .ref pof, .int po])), (pb, .inl (p1, 4000, .inl gpb))]) [0, 2, 1] (by decide) rfl
    have hK9 := hK.sub (tys' := [(p1, .byte)]) [0] rfl
    exact vy_mono vy_thr (vx_throw0 (cls := "java/util/NoSuchElementException") (names := ["java/lang/RuntimeException", "java/lang/Exception"]) hx hb hlt hown (by decide +kernel) (by decide +kernel) (hA _ wi_1355) (hA _ wi_155) (vx_hat (fun w hw => hA w (zat_n_g w hw)) zat_n_b (vx_c (va_Nw.use rfl (hN.2.2.1 ("java/util/NoSuchElementException", "java/util/NoSuchElementException") (by decide +kernel))) (vx_c (va_Nw.use rfl (hN.2.2.2.1 ⟨"java/lang/RuntimeException", "<init>", "()V"⟩ (by decide +kernel))) (vx_c (va_Nw.use rfl (hN.2.2.2.1 ⟨"java/lang/Exception", "<init>", "()V"⟩ (by decide +kernel))) (vx_c (va_Nw.use rfl (hN.2.2.2.1 ⟨"java/lang/Throwable", "<init>", "()V"⟩ (by decide +kernel))) vx_n))))) (by decide +kernel) hT.1 hT.2.1 hS (by rw [hml]; exact hl.1) dX11_out_11 dX11_out_14 dX11_out_15 dX11_out_18 (fun x hx => (hnh x hx).elim) (Nat.le_of_ble_eq_true rfl) (Nat.le_of_ble_eq_true rfl) (Nat.le_of_ble_eq_true rfl) (Nat.le_of_ble_eq_true rfl) hlocks (fun t hvm hle hq => ⟨(), (by omega), ⟨rfl, va_P.kept hP9 (fun k q hk => hq q.1 (vx_lt hP9 hk)), va_K.moved hvm hK9, hD9⟩, Nat.le_trans hS.1 hle, fun q h1 h2 => (hq q (Nat.lt_of_lt_of_le h1 hS.1)).trans (hS.2.1 q h1 h2)⟩) hS.2.2 (Nat.le_of_ble_eq_true rfl) (Nat.le_of_ble_eq_true rfl))
