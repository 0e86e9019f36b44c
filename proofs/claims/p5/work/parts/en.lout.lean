section
theorem wi_1350 : Cond.code yX11_out cX11_out 2 (some .int) ∈ zw := zw_in (List.mem_of_getElem? (i := 1350) (by decide +kernel)) (by decide +kernel)
theorem wi_1347 : Cond.methodLink RL 7 yX11_out ∈ zw := zw_in (List.mem_of_getElem? (i := 1347) (by decide +kernel)) (by decide +kernel)
theorem wi_1348 : Cond.instanceMethod yX11_out ∈ zw := zw_in (List.mem_of_getElem? (i := 1348) (by decide +kernel)) (by decide +kernel)
theorem wi_1349 : Cond.selects RX11 yX11_out yX11_out ∈ zw := zw_in (List.mem_of_getElem? (i := 1349) (by decide +kernel)) (by decide +kernel)
theorem wi_1346 : Cond.classLink RL 13 "java/util/NoSuchElementException" ∈ zw := zw_in (List.mem_of_getElem? (i := 1346) (by decide +kernel)) (by decide +kernel)
theorem dL_out_0 : decode cL_out 0 = .ok (.aload_n 2, 1) := by decide +kernel
theorem dL_out_1 : decode cL_out 1 = .ok (.iconst 0, 1) := by decide +kernel
theorem dL_out_2 : decode cL_out 2 = .ok (.aload_n 0, 1) := by decide +kernel
theorem dL_out_3 : decode cL_out 3 = .ok (.iload_n 1, 1) := by decide +kernel
theorem dL_out_4 : decode cL_out 4 = .ok (.invokevirtual 7, 3) := by decide +kernel
theorem dL_out_7 : decode cL_out 7 = .ok (.i2l, 1) := by decide +kernel
theorem dL_out_8 : decode cL_out 8 = .ok (.lastore, 1) := by decide +kernel
theorem dL_out_9 : decode cL_out 9 = .ok (.goto 6, 3) := by decide +kernel
theorem dL_out_12 : decode cL_out 12 = .ok (.astore_n 3, 1) := by decide +kernel
theorem dL_out_13 : decode cL_out 13 = .ok (.iconst 1, 1) := by decide +kernel
theorem dL_out_14 : decode cL_out 14 = .ok (.ireturn, 1) := by decide +kernel
theorem dL_out_15 : decode cL_out 15 = .ok (.iconst 0, 1) := by decide +kernel
theorem dL_out_16 : decode cL_out 16 = .ok (.ireturn, 1) := by decide +kernel
set_option maxHeartbeats 4000000 in
set_option maxRecDepth 100000 in
theorem c_L_out_x (l : Launch) (dC : Nat → ClassId) (dI : Nat → Nat → Nat) (aK aV : Nat → Nat) (h0 : Nat) (h_tape : Nat) (h_fed : Int32) (h_taken : Nat) (h_parser : Nat) (h_machine : Nat) (h_countedCells : Nat) (h_plainCells : Nat) (h_printer : Nat) (h_faultNumber : Int32) (h_stopPlace : Int32) (h_wasRun : Int32) (h_runSteps : Int32) (h_runCalls : Int32) (h_hasValue : Int32) (h_value : Int64) (h_hasOther : Int32) (h_otherValue : Int64) (pb : Nat) (psp : Nat) (poc : Nat) (pof : Nat) (pz : Int32) (ps : Int32) (tl : Int32) (po : Int32) (p1 : ClassId) (gpb : Nat → Int32) (i : Int32) (ou : Nat) (oC : ClassId) (go : Nat → Int64) (sz : Nat) (hlt : l.stackTraces = false) (hpz0 : 0 ≤ pz.toInt) (hpz1 : pz.toInt ≤ 4000) : vx_Met l yL_out (Cond.codeWith yL_out cL_out 4 (some .int) [(0, 9, 12, 13)] :: zw) ({ frames := 14, cells := 1, slots := 6, locals := 500 }) (va_Pc [.ref h0, .int i, .ref ou] (zP dC dI aK aV sz [(p1, .byte), (oC, .long)] [(h0, .inr (11, [.ref h_tape, .int h_fed, .ref h_taken, .ref h_parser, .ref h_machine, .ref h_countedCells, .ref h_plainCells, .ref h_printer, .int h_faultNumber, .int h_stopPlace, .int h_wasRun, .int h_runSteps, .int h_runCalls, .int h_hasValue, .long h_value, .int h_hasOther, .long h_otherValue])), (h_printer, .inr (8, [.ref pb, .int pz, .ref psp, .int ps, .int tl, .ref poc, .ref pof, .int po])), (pb, .inl (p1, 4000, .inl gpb)), (ou, .inl (oC, 1, .inr (.inl go)))])) (va_Qi (fun (r : Int32) (u : (Nat → Int64)) => match u with | go2 => True) (fun u => match u with | go2 => zQ dC dI (va_A [(h0, .inr (11, [.ref h_tape, .int h_fed, .ref h_taken, .ref h_parser, .ref h_machine, .ref h_countedCells, .ref h_plainCells, .ref h_printer, .int h_faultNumber, .int h_stopPlace, .int h_wasRun, .int h_runSteps, .int h_runCalls, .int h_hasValue, .long h_value, .int h_hasOther, .long h_otherValue])), (h_printer, .inr (8, [.ref pb, .int pz, .ref psp, .int ps, .int tl, .ref poc, .ref pof, .int po])), (pb, .inl (p1, 4000, .inl gpb)), (ou, .inl (oC, 1, .inr (.inl go)))] sz) [(p1, .byte), (oC, .long)] [(h0, .inr (11, [.ref h_tape, .int h_fed, .ref h_taken, .ref h_parser, .ref h_machine, .ref h_countedCells, .ref h_plainCells, .ref h_printer, .int h_faultNumber, .int h_stopPlace, .int h_wasRun, .int h_runSteps, .int h_runCalls, .int h_hasValue, .long h_value, .int h_hasOther, .long h_otherValue])), (h_printer, .inr (8, [.ref pb, .int pz, .ref psp, .int ps, .int tl, .ref poc, .ref pof, .int po])), (pb, .inl (p1, 4000, .inl gpb)), (ou, .inl (oC, 1, .inr (.inl go2)))]) (va_A [(h0, .inr (11, [.ref h_tape, .int h_fed, .ref h_taken, .ref h_parser, .ref h_machine, .ref h_countedCells, .ref h_plainCells, .ref h_printer, .int h_faultNumber, .int h_stopPlace, .int h_wasRun, .int h_runSteps, .int h_runCalls, .int h_hasValue, .long h_value, .int h_hasOther, .long h_otherValue])), (h_printer, .inr (8, [.ref pb, .int pz, .ref psp, .int ps, .int tl, .ref poc, .ref pof, .int po])), (pb, .inl (p1, 4000, .inl gpb)), (ou, .inl (oC, 1, .inr (.inl go)))] sz)) (vx_X (fun _ : Unit => False) (fun _ _ _ => True) (va_A [(h0, .inr (11, [.ref h_tape, .int h_fed, .ref h_taken, .ref h_parser, .ref h_machine, .ref h_countedCells, .ref h_plainCells, .ref h_printer, .int h_faultNumber, .int h_stopPlace, .int h_wasRun, .int h_runSteps, .int h_runCalls, .int h_hasValue, .long h_value, .int h_hasOther, .long h_otherValue])), (h_printer, .inr (8, [.ref pb, .int pz, .ref psp, .int ps, .int tl, .ref poc, .ref pof, .int po])), (pb, .inl (p1, 4000, .inl gpb)), (ou, .inl (oC, 1, .inr (.inl go)))] sz)) 1 6 (va_A [(h0, .inr (11, [.ref h_tape, .int h_fed, .ref h_taken, .ref h_parser, .ref h_machine, .ref h_countedCells, .ref h_plainCells, .ref h_printer, .int h_faultNumber, .int h_stopPlace, .int h_wasRun, .int h_runSteps, .int h_runCalls, .int h_hasValue, .long h_value, .int h_hasOther, .long h_otherValue])), (h_printer, .inr (8, [.ref pb, .int pz, .ref psp, .int ps, .int tl, .ref poc, .ref pof, .int po])), (pb, .inl (p1, 4000, .inl gpb)), (ou, .inl (oC, 1, .inr (.inl go)))] sz) := by
  refine vx_ofWH (cc := cL_out) (maxL := 4) (ret := (some .int)) (by decide) rfl ?_
  intro p e s m args below meth c s₁ B hml hv
  obtain ⟨rfl, hsz, hP, hK, hD0, hN, hT⟩ := hv
  have hx := B.exec
  have hb := B.bytes
  have hr := B.returns
  have hts := atoms_spec (ws := Cond.codeWith yL_out cL_out 4 (some .int) [(0, 9, 12, 13)] :: zw) B.pre
  have hA : ∀ w ∈ zw, w.before _ s = true := fun w h => hts w (List.mem_cons_of_mem _ h)
  have hown : s.vm.findClass RL = some m.cls := findClass_of_methodNamed B.named
  have hlocks := B.notSynchronized
  subst hsz
  have hD := hD0.self (sz := s.heap.size)
  generalize hAe : va_A [(h0, .inr (11, [.ref h_tape, .int h_fed, .ref h_taken, .ref h_parser, .ref h_machine, .ref h_countedCells, .ref h_plainCells, .ref h_printer, .int h_faultNumber, .int h_stopPlace, .int h_wasRun, .int h_runSteps, .int h_runCalls, .int h_hasValue, .long h_value, .int h_hasOther, .long h_otherValue])), (h_printer, .inr (8, [.ref pb, .int pz, .ref psp, .int ps, .int tl, .ref poc, .ref pof, .int po])), (pb, .inl (p1, 4000, .inl gpb)), (ou, .inl (oC, 1, .inr (.inl go)))] s.heap.size = A at hD hT ⊢
  have hAA : ∀ q : Nat, s.heap.size ≤ q → A q := fun q h => by rw [← hAe]; exact Or.inr h
  have hS : va_S A s.heap s.heap [] := va_S.rf
  have hl := lv_entry ([.ref h0, .int i, .ref ou]) (n := 4) (Nat.le_of_ble_eq_true rfl)
  rw [lg_entry_eq]
  generalize (lg_sl ([.ref h0, .int i, .ref ou]) ++ List.replicate (4 - (lg_sl ([.ref h0, .int i, .ref ou])).length) Slot.unset).toArray = ls at hl ⊢
  have hl : lv_has ls 4 [(0, .ref h0), (1, .int i), (2, .ref ou)] := hl
  refine lv_aload_n hx hb dL_out_0 rfl (lv_at hl 2 rfl) ?_
  refine lv_iconst (v := 0) hx hb dL_out_1 (by decide) ?_
  refine lv_aload_n hx hb dL_out_2 rfl (lv_at hl 0 rfl) ?_
  refine lv_iload_n hx hb dL_out_3 rfl (lv_at hl 1 rfl) ?_
  have hPc := hP.sub (ws' := [(h0, .inr (11, [.ref h_tape, .int h_fed, .ref h_taken, .ref h_parser, .ref h_machine, .ref h_countedCells, .ref h_plainCells, .ref h_printer, .int h_faultNumber, .int h_stopPlace, .int h_wasRun, .int h_runSteps, .int h_runCalls, .int h_hasValue, .long h_value, .int h_hasOther, .long h_otherValue])), (h_printer, .inr (8, [.ref pb, .int pz, .ref psp, .int ps, .int tl, .ref poc, .ref pof, .int po])), (pb, .inl (p1, 4000, .inl gpb))]) [0, 1, 2] rfl
  have hDc := hD.sub (ws' := [(h0, .inr (11, [.ref h_tape, .int h_fed, .ref h_taken, .ref h_parser, .ref h_machine, .ref h_countedCells, .ref h_plainCells, .ref h_printer, .int h_faultNumber, .int h_stopPlace, .int h_wasRun, .int h_runSteps, .int h_runCalls, .int h_hasValue, .long h_value, .int h_hasOther, .long h_otherValue])), (h_printer, .inr (8, [.ref pb, .int pz, .ref psp, .int ps, .int tl, .ref poc, .ref pof, .int po])), (pb, .inl (p1, 4000, .inl gpb))]) [0, 1, 2] (by decide) rfl
  have hKc := hK.sub (tys' := [(p1, .byte)]) [0] rfl
  have hFc := va_free (wc := [(h0, .inr (11, [.ref h_tape, .int h_fed, .ref h_taken, .ref h_parser, .ref h_machine, .ref h_countedCells, .ref h_plainCells, .ref h_printer, .int h_faultNumber, .int h_stopPlace, .int h_wasRun, .int h_runSteps, .int h_runCalls, .int h_hasValue, .long h_value, .int h_hasOther, .long h_otherValue])), (h_printer, .inr (8, [.ref pb, .int pz, .ref psp, .int ps, .int tl, .ref poc, .ref pof, .int po])), (pb, .inl (p1, 4000, .inl gpb))]) hD hS hAA [0, 1, 2] rfl
  refine vy_calli (vy_runV (As := [.int i]) (rest := [.int 0, .ref ou]) ⟨hx, hb, hml, hown, hA⟩ (c_X11_out_x l dC dI aK aV h0 h_tape h_fed h_taken h_parser h_machine h_countedCells h_plainCells h_printer h_faultNumber h_stopPlace h_wasRun h_runSteps h_runCalls h_hasValue h_value h_hasOther h_otherValue pb psp poc pof pz ps tl po p1 gpb i s.heap.size hlt (by omega) (by omega)) (cwV 1 hA (zw_V wi_1347 wi_1348 wi_1349 wi_130 (zw_good wi_1350)) rfl rfl rfl (by decide +kernel) ⟨(Nat.le_of_ble_eq_true rfl), (Nat.le_of_ble_eq_true rfl)⟩) ⟨zP_blind, va_recv hKc hPc (ci := 11) (q0 := 0) rfl rfl, zz_pre hKc hPc hDc hN hT hS hFc⟩ rfl rfl hl.1 rfl (lv_room (Nat.le_of_ble_eq_true rfl)) dL_out_4 ⟨(Nat.le_of_ble_eq_true rfl), (Nat.le_of_ble_eq_true rfl)⟩) hS (fun q _ h => hFc q h) hFc (fun q _ h => hFc q h) (fun E9 ce9 q9 u t H1 locs ht hvm hw hB hz1 hk1 hS hcell hcv hcl => ?_) (fun r_1 u t H1 locs ht hvm hw hB hz1 hk1 hS => ?_)
  · obtain ⟨rfl, hP1, hK1, hD1⟩ := hB
    rw [ht] at hP1
    have hK1 := va_K.moved hvm.symm hK1
    obtain ⟨hP, hD⟩ := va_join (wr := [(ou, .inl (oC, 1, .inr (.inl go)))]) (w1 := [(h0, .inr (11, [.ref h_tape, .int h_fed, .ref h_taken, .ref h_parser, .ref h_machine, .ref h_countedCells, .ref h_plainCells, .ref h_printer, .int h_faultNumber, .int h_stopPlace, .int h_wasRun, .int h_runSteps, .int h_runCalls, .int h_hasValue, .long h_value, .int h_hasOther, .long h_otherValue])), (h_printer, .inr (8, [.ref pb, .int pz, .ref psp, .int ps, .int tl, .ref poc, .ref pof, .int po])), (pb, .inl (p1, 4000, .inl gpb))]) hP hD [0, 1, 2] [3] rfl rfl (by decide) (by decide) hk1 hFc hP1 hD1
    have hK := (hK.sub (tys' := [(oC, .long)]) [1] rfl).app hK1
    clear hPc hDc hFc hP1 hD1 hk1 hz1 ht hvm
    generalize H1 = H at hP hS hcell ⊢
    have hP : va_P (dC, dI) vwCl [(ou, .inl (oC, 1, .inr (.inl go))), (h0, .inr (11, [.ref h_tape, .int h_fed, .ref h_taken, .ref h_parser, .ref h_machine, .ref h_countedCells, .ref h_plainCells, .ref h_printer, .int h_faultNumber, .int h_stopPlace, .int h_wasRun, .int h_runSteps, .int h_runCalls, .int h_hasValue, .long h_value, .int h_hasOther, .long h_otherValue])), (h_printer, .inr (8, [.ref pb, .int pz, .ref psp, .int ps, .int tl, .ref poc, .ref pof, .int po])), (pb, .inl (p1, 4000, .inl gpb))] H := hP
    have hD : va_D A [(ou, .inl (oC, 1, .inr (.inl go))), (h0, .inr (11, [.ref h_tape, .int h_fed, .ref h_taken, .ref h_parser, .ref h_machine, .ref h_countedCells, .ref h_plainCells, .ref h_printer, .int h_faultNumber, .int h_stopPlace, .int h_wasRun, .int h_runSteps, .int h_runCalls, .int h_hasValue, .long h_value, .int h_hasOther, .long h_otherValue])), (h_printer, .inr (8, [.ref pb, .int pz, .ref psp, .int ps, .int tl, .ref poc, .ref pof, .int po])), (pb, .inl (p1, 4000, .inl gpb))] := hD
    have hK : va_K (dC, dI) vwCl [(oC, .long), (p1, .byte)] s := hK
    have hq_2 := hw
    try dsimp only at hq_2
    refine vx_widen (k := 1) (n := 6) (Nat.le_of_ble_eq_true rfl) (Nat.le_of_ble_eq_true rfl) ?_
    refine vx_catch hown [] ⟨0, 9, 12, 13⟩ [] ((vx_table (x := yL_out) B (hts _ List.mem_cons_self)).trans rfl) (fun z hz => nomatch hz) (by decide) (by decide) (hA _ wi_1346) (va_Nw.use rfl (hN.2.2.1 ("java/util/NoSuchElementException", "java/util/NoSuchElementException") (by decide +kernel))) hcell hcv hcl ?_
    refine lv_astore_n (lv' := [(3, .ref q9), (0, .ref h0), (1, .int i), (2, .ref ou)]) hx hb dL_out_12 rfl hl (by decide) rfl (fun ls hl => ?_)
    refine lv_iconst (v := 1) hx hb dL_out_13 (by decide) ?_
    have hlit : Int32.toInt 1 = 1 := by decide
    have hP9 := hP.sub (ws' := [(h0, .inr (11, [.ref h_tape, .int h_fed, .ref h_taken, .ref h_parser, .ref h_machine, .ref h_countedCells, .ref h_plainCells, .ref h_printer, .int h_faultNumber, .int h_stopPlace, .int h_wasRun, .int h_runSteps, .int h_runCalls, .int h_hasValue, .long h_value, .int h_hasOther, .long h_otherValue])), (h_printer, .inr (8, [.ref pb, .int pz, .ref psp, .int ps, .int tl, .ref poc, .ref pof, .int po])), (pb, .inl (p1, 4000, .inl gpb)), (ou, .inl (oC, 1, .inr (.inl go)))]) [1, 2, 3, 0] rfl
    have hD9 := hD.sub (ws' := [(h0, .inr (11, [.ref h_tape, .int h_fed, .ref h_taken, .ref h_parser, .ref h_machine, .ref h_countedCells, .ref h_plainCells, .ref h_printer, .int h_faultNumber, .int h_stopPlace, .int h_wasRun, .int h_runSteps, .int h_runCalls, .int h_hasValue, .long h_value, .int h_hasOther, .long h_otherValue])), (h_printer, .inr (8, [.ref pb, .int pz, .ref psp, .int ps, .int tl, .ref poc, .ref pof, .int po])), (pb, .inl (p1, 4000, .inl gpb)), (ou, .inl (oC, 1, .inr (.inl go)))]) [1, 2, 3, 0] (by decide) rfl
    have hK9 := hK.sub (tys' := [(p1, .byte), (oC, .long)]) [1, 0] rfl
    exact vx_ret (W.iret (v := 1) hx hb hr (fun t ht hW => ⟨⟨1, (go), rfl, trivial, by rw [ht]; exact hP9, va_K.moved hW.alike hK9, hD9⟩, hS.F ht⟩) hS.2.2 dL_out_14)
  · obtain ⟨hP1, hK1, hD1⟩ := hB
    rw [ht] at hP1
    have hK1 := va_K.moved hvm.symm hK1
    obtain ⟨hP, hD⟩ := va_join (wr := [(ou, .inl (oC, 1, .inr (.inl go)))]) (w1 := [(h0, .inr (11, [.ref h_tape, .int h_fed, .ref h_taken, .ref h_parser, .ref h_machine, .ref h_countedCells, .ref h_plainCells, .ref h_printer, .int h_faultNumber, .int h_stopPlace, .int h_wasRun, .int h_runSteps, .int h_runCalls, .int h_hasValue, .long h_value, .int h_hasOther, .long h_otherValue])), (h_printer, .inr (8, [.ref pb, .int pz, .ref psp, .int ps, .int tl, .ref poc, .ref pof, .int po])), (pb, .inl (p1, 4000, .inl gpb))]) hP hD [0, 1, 2] [3] rfl rfl (by decide) (by decide) hk1 hFc hP1 hD1
    have hK := (hK.sub (tys' := [(oC, .long)]) [1] rfl).app hK1
    clear hPc hDc hFc hP1 hD1 hk1 hz1 ht hvm
    generalize H1 = H at hP hS ⊢
    have hP : va_P (dC, dI) vwCl [(ou, .inl (oC, 1, .inr (.inl go))), (h0, .inr (11, [.ref h_tape, .int h_fed, .ref h_taken, .ref h_parser, .ref h_machine, .ref h_countedCells, .ref h_plainCells, .ref h_printer, .int h_faultNumber, .int h_stopPlace, .int h_wasRun, .int h_runSteps, .int h_runCalls, .int h_hasValue, .long h_value, .int h_hasOther, .long h_otherValue])), (h_printer, .inr (8, [.ref pb, .int pz, .ref psp, .int ps, .int tl, .ref poc, .ref pof, .int po])), (pb, .inl (p1, 4000, .inl gpb))] H := hP
    have hD : va_D A [(ou, .inl (oC, 1, .inr (.inl go))), (h0, .inr (11, [.ref h_tape, .int h_fed, .ref h_taken, .ref h_parser, .ref h_machine, .ref h_countedCells, .ref h_plainCells, .ref h_printer, .int h_faultNumber, .int h_stopPlace, .int h_wasRun, .int h_runSteps, .int h_runCalls, .int h_hasValue, .long h_value, .int h_hasOther, .long h_otherValue])), (h_printer, .inr (8, [.ref pb, .int pz, .ref psp, .int ps, .int tl, .ref poc, .ref pof, .int po])), (pb, .inl (p1, 4000, .inl gpb))] := hD
    have hK : va_K (dC, dI) vwCl [(oC, .long), (p1, .byte)] s := hK
    refine W.widen (k := 0) (n := 0) (Nat.le_of_ble_eq_true rfl) (Nat.le_of_ble_eq_true rfl) ?_
    have hq_3 := hw
    obtain ⟨x_4, ex_4⟩ : ∃ z : Int64, z = Int32.toInt64 r_1 := ⟨_, rfl⟩
    refine lv_i2l (v := x_4) hx hb dL_out_7 ex_4.symm ?_
    refine va_last hx hb hK hP hD hS 0 0 rfl rfl (by unfold vp_in; decide) dL_out_8 (fun H locs hP hD hS => ?_)
    obtain ⟨f_5, ef_5⟩ : ∃ gz9 : Nat → Int64, gz9 = vp_updL go (Int32.toNatClampNeg 0) x_4 := ⟨_, rfl⟩
    rw [← ef_5] at hP hD
    have hP : va_P (dC, dI) vwCl [(ou, .inl (oC, 1, .inr (.inl f_5))), (h0, .inr (11, [.ref h_tape, .int h_fed, .ref h_taken, .ref h_parser, .ref h_machine, .ref h_countedCells, .ref h_plainCells, .ref h_printer, .int h_faultNumber, .int h_stopPlace, .int h_wasRun, .int h_runSteps, .int h_runCalls, .int h_hasValue, .long h_value, .int h_hasOther, .long h_otherValue])), (h_printer, .inr (8, [.ref pb, .int pz, .ref psp, .int ps, .int tl, .ref poc, .ref pof, .int po])), (pb, .inl (p1, 4000, .inl gpb))] H := hP
    have hD : va_D A [(ou, .inl (oC, 1, .inr (.inl f_5))), (h0, .inr (11, [.ref h_tape, .int h_fed, .ref h_taken, .ref h_parser, .ref h_machine, .ref h_countedCells, .ref h_plainCells, .ref h_printer, .int h_faultNumber, .int h_stopPlace, .int h_wasRun, .int h_runSteps, .int h_runCalls, .int h_hasValue, .long h_value, .int h_hasOther, .long h_otherValue])), (h_printer, .inr (8, [.ref pb, .int pz, .ref psp, .int ps, .int tl, .ref poc, .ref pof, .int po])), (pb, .inl (p1, 4000, .inl gpb))] := hD
    refine lv_goto (tgt := 15) hx hb dL_out_9 (by decide) ?_
    refine lv_iconst (v := 0) hx hb dL_out_15 (by decide) ?_
    have hlit : Int32.toInt 0 = 0 := by decide
    have hP9 := hP.sub (ws' := [(h0, .inr (11, [.ref h_tape, .int h_fed, .ref h_taken, .ref h_parser, .ref h_machine, .ref h_countedCells, .ref h_plainCells, .ref h_printer, .int h_faultNumber, .int h_stopPlace, .int h_wasRun, .int h_runSteps, .int h_runCalls, .int h_hasValue, .long h_value, .int h_hasOther, .long h_otherValue])), (h_printer, .inr (8, [.ref pb, .int pz, .ref psp, .int ps, .int tl, .ref poc, .ref pof, .int po])), (pb, .inl (p1, 4000, .inl gpb)), (ou, .inl (oC, 1, .inr (.inl f_5)))]) [1, 2, 3, 0] rfl
    have hD9 := hD.sub (ws' := [(h0, .inr (11, [.ref h_tape, .int h_fed, .ref h_taken, .ref h_parser, .ref h_machine, .ref h_countedCells, .ref h_plainCells, .ref h_printer, .int h_faultNumber, .int h_stopPlace, .int h_wasRun, .int h_runSteps, .int h_runCalls, .int h_hasValue, .long h_value, .int h_hasOther, .long h_otherValue])), (h_printer, .inr (8, [.ref pb, .int pz, .ref psp, .int ps, .int tl, .ref poc, .ref pof, .int po])), (pb, .inl (p1, 4000, .inl gpb)), (ou, .inl (oC, 1, .inr (.inl f_5)))]) [1, 2, 3, 0] (by decide) rfl
    have hK9 := hK.sub (tys' := [(p1, .byte), (oC, .long)]) [1, 0] rfl
    refine W.widen (k := 1) (n := 6) (Nat.le_of_ble_eq_true rfl) (Nat.le_of_ble_eq_true rfl) ?_
    exact vx_ret (W.iret (v := 0) hx hb hr (fun t ht hW => ⟨⟨0, (f_5), rfl, trivial, by rw [ht]; exact hP9, va_K.moved hW.alike hK9, hD9⟩, hS.F ht⟩) hS.2.2 dL_out_16)

end
section
set_option maxHeartbeats 40000000 in
set_option maxRecDepth 100000 in
theorem w_L_out (l : Launch) (dC : Nat → ClassId) (dI : Nat → Nat → Nat) (aK aV : Nat → Nat) (h0 : Nat) (ws : va_W) (tys : List (ClassId × FieldType)) (h_fed : Int32) (ou : Nat) (gt : Nat → Int32) (gO : Option (sp_S × sp_F)) (gb : Int) (gD : Int) (i : Int32) (sz : Nat) (hlt : l.stackTraces = false) (hI : zIC h0 ws tys h_fed ou gt gO gb gD) : vw_Met 0 l yL_out (Cond.codeWith yL_out cL_out 4 (some .int) [(0, 9, 12, 13)] :: zw) ({ frames := 14, cells := 1, slots := 6, locals := 500 }) (va_Pc [.ref h0, .int i, .ref ou] (zP dC dI aK aV sz tys ws)) (fun kc kn => va_Qi (fun (r : Int32) (v : va_W × List (ClassId × FieldType) × Int32 × Nat × (Nat → Int32) × Option (sp_S × sp_F) × Int × Int) => zIC h0 v.1 v.2.1 v.2.2.1 v.2.2.2.1 v.2.2.2.2.1 v.2.2.2.2.2.1 v.2.2.2.2.2.2.1 v.2.2.2.2.2.2.2 ∧ (v.2.2.1 = h_fed) ∧ (kc ≤ 1 ∧ kn ≤ 6) ∧ (v.2.2.2.1 = ou) ∧ (v.2.2.2.2.1 = gt) ∧ (v.2.2.2.2.2.1 = gO) ∧ (v.2.2.2.2.2.2.1 = gb) ∧ (v.2.2.2.2.2.2.2 = gD)) (fun v => zQ dC dI (va_A ws sz) v.2.1 v.1) (va_A ws sz)) (fr_X (va_A ws sz)) (va_A ws sz) := by
  obtain ⟨qA, qC, qI, qJ, qF, qG, rfl, rfl, c_fe, c_zb, c_tz, c_tx, c_dx, c_dn, c_hv, c_vr, c_db, c_ho, c_or, c_pz, c_bd, c_zz, c_cn, c_wr, c_vz, c_fb⟩ := hI
  refine fr_m (t2 := fun v : va_W × List (ClassId × FieldType) × Int32 × Nat × (Nat → Int32) × Option (sp_S × sp_F) × Int × Int => v.2.1) (w2 := fun v : va_W × List (ClassId × FieldType) × Int32 × Nat × (Nat → Int32) × Option (sp_S × sp_F) × Int × Int => v.1) (fr_w (wr := [((qA 0), .inl ((qC 0), 2000, .inl gt)), ((qA 1), .inr (9, [.ref (qA 7), .ref (qA 8), .ref (qA 9), .ref (qA 10)])), ((qA 7), .inr (2, [.ref (qA 11), .ref (qA 12), .ref (qA 13), .ref (qA 14), .ref (qA 15), .ref (qA 16), .int (qI 7), .int (qI 8)])), ((qA 11), .inl ((qC 1), 3000, .inl (qF 0))), ((qA 12), .inl ((qC 2), 3000, .inl (qF 1))), ((qA 13), .inl ((qC 3), 3000, .inl (qF 2))), ((qA 14), .inl ((qC 4), 3000, .inl (qF 3))), ((qA 15), .inl ((qC 5), 3000, .inl (qF 4))), ((qA 16), .inl ((qC 6), 3000, .inl (qF 5))), ((qA 8), .inr (0, [.ref (qA 17), .ref (qA 18), .ref (qA 19), .ref (qA 20), .ref (qA 21), .ref (qA 22), .int (qI 9)])), ((qA 17), .inl ((qC 7), 400, .inl (qF 6))), ((qA 18), .inl ((qC 8), 400, .inl (qF 7))), ((qA 19), .inl ((qC 9), 400, .inl (qF 8))), ((qA 20), .inl ((qC 10), 400, .inl (qF 9))), ((qA 21), .inl ((qC 11), 400, .inl (qF 10))), ((qA 22), .inl ((qC 12), 400, .inl (qF 11))), ((qA 9), .inr (4, [.ref (qA 23), .ref (qA 24), .int (qI 10)])), ((qA 23), .inl ((qC 13), 20, .inr (.inl (qG 0)))), ((qA 24), .inl ((qC 14), 20, .inl (qF 12))), ((qA 10), .inr (3, [.ref (qA 25), .ref (qA 26), .ref (qA 27), .int (qI 11)])), ((qA 25), .inl ((qC 15), 30, .inr (.inl (qG 1)))), ((qA 26), .inl ((qC 16), 30, .inl (qF 13))), ((qA 27), .inl ((qC 17), 150, .inl (qF 14))), ((qA 2), .inr (7, [.ref (qA 28), .ref (qA 29), .ref (qA 30), .int (qI 12), .ref (qA 31), .ref (qA 32), .int (qI 13), .int (qI 14), .int (qI 15)])), ((qA 28), .inr (10, [.ref (qA 33), .ref (qA 34), .ref (qA 35), .int (qI 16), .int (qI 17), .int (qI 18), .int (qI 19), .long (qJ 2)])), ((qA 33), .inl ((qC 18), 2001, .inl (qF 15))), ((qA 34), .inl ((qC 19), 2001, .inl (qF 16))), ((qA 35), .inl ((qC 20), 2001, .inr (.inl (qG 2)))), ((qA 29), .inr (6, [.ref (qA 36)])), ((qA 36), .inl ((qC 21), 3000, .inl (qF 17))), ((qA 30), .inl ((qC 22), 24, .inr (.inl (qG 3)))), ((qA 31), .inl ((qC 23), 4, .inl (qF 18))), ((qA 32), .inr (9, [.ref (qA 37), .ref (qA 38), .ref (qA 39), .ref (qA 40)])), ((qA 37), .inr (2, [.ref (qA 41), .ref (qA 42), .ref (qA 43), .ref (qA 44), .ref (qA 45), .ref (qA 46), .int (qI 20), .int (qI 21)])), ((qA 41), .inl ((qC 24), 3000, .inl (qF 19))), ((qA 42), .inl ((qC 25), 3000, .inl (qF 20))), ((qA 43), .inl ((qC 26), 3000, .inl (qF 21))), ((qA 44), .inl ((qC 27), 3000, .inl (qF 22))), ((qA 45), .inl ((qC 28), 3000, .inl (qF 23))), ((qA 46), .inl ((qC 29), 3000, .inl (qF 24))), ((qA 38), .inr (0, [.ref (qA 47), .ref (qA 48), .ref (qA 49), .ref (qA 50), .ref (qA 51), .ref (qA 52), .int (qI 22)])), ((qA 47), .inl ((qC 30), 400, .inl (qF 25))), ((qA 48), .inl ((qC 31), 400, .inl (qF 26))), ((qA 49), .inl ((qC 32), 400, .inl (qF 27))), ((qA 50), .inl ((qC 33), 400, .inl (qF 28))), ((qA 51), .inl ((qC 34), 400, .inl (qF 29))), ((qA 52), .inl ((qC 35), 400, .inl (qF 30))), ((qA 39), .inr (4, [.ref (qA 53), .ref (qA 54), .int (qI 23)])), ((qA 53), .inl ((qC 36), 20, .inr (.inl (qG 4)))), ((qA 54), .inl ((qC 37), 20, .inl (qF 31))), ((qA 40), .inr (3, [.ref (qA 55), .ref (qA 56), .ref (qA 57), .int (qI 24)])), ((qA 55), .inl ((qC 38), 30, .inr (.inl (qG 5)))), ((qA 56), .inl ((qC 39), 30, .inl (qF 32))), ((qA 57), .inl ((qC 40), 150, .inl (qF 33))), ((qA 3), .inr (5, [.ref (qA 58), .ref (qA 59), .ref (qA 60), .int (qI 25), .ref (qA 61), .int (qI 26), .int (qI 27), .ref (qA 62), .ref (qA 63), .ref (qA 64), .int (qI 28), .ref (qA 65), .int (qI 29), .int (qI 30), .int (qI 31), .int (qI 32), .int (qI 33), .int (qI 34), .int (qI 35), .long (qJ 3)])), ((qA 61), .inl ((qC 41), 22424, .inr (.inl (qG 6)))), ((qA 62), .inl ((qC 42), 100, .inl (qF 34))), ((qA 63), .inl ((qC 43), 100, .inl (qF 35))), ((qA 64), .inl ((qC 44), 100, .inl (qF 36))), ((qA 65), .inl ((qC 45), 3000, .inl (qF 37))), ((qA 4), .inr (1, [.ref (qA 66), .ref (qA 67), .ref (qA 68), .ref (qA 69), .int (qI 36), .int (qI 37), .int (qI 38), .int (qI 39), .int (qI 40), .int (qI 41), .int (qI 42), .int (qI 43), .int (qI 44)])), ((qA 66), .inl ((qC 46), 400, .inl (qF 38))), ((qA 67), .inl ((qC 47), 400, .inl (qF 39))), ((qA 68), .inl ((qC 48), 1200, .inr (.inl (qG 7)))), ((qA 5), .inr (1, [.ref (qA 70), .ref (qA 71), .ref (qA 72), .ref (qA 73), .int (qI 45), .int (qI 46), .int (qI 47), .int (qI 48), .int (qI 49), .int (qI 50), .int (qI 51), .int (qI 52), .int (qI 53)])), ((qA 70), .inl ((qC 49), 4000, .inl (qF 40))), ((qA 71), .inl ((qC 50), 4000, .inl (qF 41))), ((qA 72), .inl ((qC 51), 12000, .inr (.inl (qG 8)))), ((qA 75), .inl ((qC 53), 4000, .inl (qF 43))), ((qA 76), .inl ((qC 54), 2000, .inl (qF 44))), ((qA 77), .inl ((qC 55), 2000, .inl (qF 45)))]) (tr := [((qC 0), .byte), ((qC 1), .int), ((qC 2), .int), ((qC 3), .int), ((qC 4), .int), ((qC 5), .int), ((qC 6), .int), ((qC 7), .int), ((qC 8), .int), ((qC 9), .int), ((qC 10), .int), ((qC 11), .int), ((qC 12), .int), ((qC 13), .long), ((qC 14), .int), ((qC 15), .long), ((qC 16), .int), ((qC 17), .int), ((qC 18), .int), ((qC 19), .int), ((qC 20), .long), ((qC 21), .int), ((qC 22), .long), ((qC 23), .int), ((qC 24), .int), ((qC 25), .int), ((qC 26), .int), ((qC 27), .int), ((qC 28), .int), ((qC 29), .int), ((qC 30), .int), ((qC 31), .int), ((qC 32), .int), ((qC 33), .int), ((qC 34), .int), ((qC 35), .int), ((qC 36), .long), ((qC 37), .int), ((qC 38), .long), ((qC 39), .int), ((qC 40), .int), ((qC 41), .long), ((qC 42), .int), ((qC 43), .int), ((qC 44), .int), ((qC 45), .int), ((qC 46), .int), ((qC 47), .int), ((qC 48), .long), ((qC 49), .int), ((qC 50), .int), ((qC 51), .long), ((qC 53), .byte), ((qC 54), .int), ((qC 55), .int)]) (fr_ofVx (c_L_out_x l dC dI aK aV h0 (qA 0) h_fed (qA 1) (qA 2) (qA 3) (qA 4) (qA 5) (qA 6) (qI 0) (qI 1) (qI 2) (qI 3) (qI 4) (qI 5) (qJ 0) (qI 6) (qJ 1) (qA 74) (qA 75) (qA 76) (qA 77) (qI 54) (qI 55) (qI 56) (qI 57) (qC 52) (qF 42) i ou (qC 56) (qG 9) sz hlt c_pz.1 c_pz.2)) [0, 69, 70, 74] [1, 2, 3, 4, 5, 6, 7, 8, 9, 10, 11, 12, 13, 14, 15, 16, 17, 18, 19, 20, 21, 22, 23, 24, 25, 26, 27, 28, 29, 30, 31, 32, 33, 34, 35, 36, 37, 38, 39, 40, 41, 42, 43, 44, 45, 46, 47, 48, 49, 50, 51, 52, 53, 54, 55, 56, 57, 58, 59, 60, 61, 62, 63, 64, 65, 66, 67, 68, 71, 72, 73] rfl rfl (by decide) (by decide) (by decide) [52, 56] [0, 1, 2, 3, 4, 5, 6, 7, 8, 9, 10, 11, 12, 13, 14, 15, 16, 17, 18, 19, 20, 21, 22, 23, 24, 25, 26, 27, 28, 29, 30, 31, 32, 33, 34, 35, 36, 37, 38, 39, 40, 41, 42, 43, 44, 45, 46, 47, 48, 49, 50, 51, 53, 54, 55] rfl rfl) (fun kc kn r u hp => ?_)
  obtain ⟨o_go2, rfl⟩ : ∃ z, z = u := ⟨_, rfl⟩
  obtain ⟨-, hkc, hkn⟩ := hp
  exact ⟨([(h0, .inr (11, [.ref (qA 0), .int h_fed, .ref (qA 1), .ref (qA 2), .ref (qA 3), .ref (qA 4), .ref (qA 5), .ref (qA 6), .int (qI 0), .int (qI 1), .int (qI 2), .int (qI 3), .int (qI 4), .int (qI 5), .long (qJ 0), .int (qI 6), .long (qJ 1)])), ((qA 0), .inl ((qC 0), 2000, .inl gt)), ((qA 1), .inr (9, [.ref (qA 7), .ref (qA 8), .ref (qA 9), .ref (qA 10)])), ((qA 7), .inr (2, [.ref (qA 11), .ref (qA 12), .ref (qA 13), .ref (qA 14), .ref (qA 15), .ref (qA 16), .int (qI 7), .int (qI 8)])), ((qA 11), .inl ((qC 1), 3000, .inl (qF 0))), ((qA 12), .inl ((qC 2), 3000, .inl (qF 1))), ((qA 13), .inl ((qC 3), 3000, .inl (qF 2))), ((qA 14), .inl ((qC 4), 3000, .inl (qF 3))), ((qA 15), .inl ((qC 5), 3000, .inl (qF 4))), ((qA 16), .inl ((qC 6), 3000, .inl (qF 5))), ((qA 8), .inr (0, [.ref (qA 17), .ref (qA 18), .ref (qA 19), .ref (qA 20), .ref (qA 21), .ref (qA 22), .int (qI 9)])), ((qA 17), .inl ((qC 7), 400, .inl (qF 6))), ((qA 18), .inl ((qC 8), 400, .inl (qF 7))), ((qA 19), .inl ((qC 9), 400, .inl (qF 8))), ((qA 20), .inl ((qC 10), 400, .inl (qF 9))), ((qA 21), .inl ((qC 11), 400, .inl (qF 10))), ((qA 22), .inl ((qC 12), 400, .inl (qF 11))), ((qA 9), .inr (4, [.ref (qA 23), .ref (qA 24), .int (qI 10)])), ((qA 23), .inl ((qC 13), 20, .inr (.inl (qG 0)))), ((qA 24), .inl ((qC 14), 20, .inl (qF 12))), ((qA 10), .inr (3, [.ref (qA 25), .ref (qA 26), .ref (qA 27), .int (qI 11)])), ((qA 25), .inl ((qC 15), 30, .inr (.inl (qG 1)))), ((qA 26), .inl ((qC 16), 30, .inl (qF 13))), ((qA 27), .inl ((qC 17), 150, .inl (qF 14))), ((qA 2), .inr (7, [.ref (qA 28), .ref (qA 29), .ref (qA 30), .int (qI 12), .ref (qA 31), .ref (qA 32), .int (qI 13), .int (qI 14), .int (qI 15)])), ((qA 28), .inr (10, [.ref (qA 33), .ref (qA 34), .ref (qA 35), .int (qI 16), .int (qI 17), .int (qI 18), .int (qI 19), .long (qJ 2)])), ((qA 33), .inl ((qC 18), 2001, .inl (qF 15))), ((qA 34), .inl ((qC 19), 2001, .inl (qF 16))), ((qA 35), .inl ((qC 20), 2001, .inr (.inl (qG 2)))), ((qA 29), .inr (6, [.ref (qA 36)])), ((qA 36), .inl ((qC 21), 3000, .inl (qF 17))), ((qA 30), .inl ((qC 22), 24, .inr (.inl (qG 3)))), ((qA 31), .inl ((qC 23), 4, .inl (qF 18))), ((qA 32), .inr (9, [.ref (qA 37), .ref (qA 38), .ref (qA 39), .ref (qA 40)])), ((qA 37), .inr (2, [.ref (qA 41), .ref (qA 42), .ref (qA 43), .ref (qA 44), .ref (qA 45), .ref (qA 46), .int (qI 20), .int (qI 21)])), ((qA 41), .inl ((qC 24), 3000, .inl (qF 19))), ((qA 42), .inl ((qC 25), 3000, .inl (qF 20))), ((qA 43), .inl ((qC 26), 3000, .inl (qF 21))), ((qA 44), .inl ((qC 27), 3000, .inl (qF 22))), ((qA 45), .inl ((qC 28), 3000, .inl (qF 23))), ((qA 46), .inl ((qC 29), 3000, .inl (qF 24))), ((qA 38), .inr (0, [.ref (qA 47), .ref (qA 48), .ref (qA 49), .ref (qA 50), .ref (qA 51), .ref (qA 52), .int (qI 22)])), ((qA 47), .inl ((qC 30), 400, .inl (qF 25))), ((qA 48), .inl ((qC 31), 400, .inl (qF 26))), ((qA 49), .inl ((qC 32), 400, .inl (qF 27))), ((qA 50), .inl ((qC 33), 400, .inl (qF 28))), ((qA 51), .inl ((qC 34), 400, .inl (qF 29))), ((qA 52), .inl ((qC 35), 400, .inl (qF 30))), ((qA 39), .inr (4, [.ref (qA 53), .ref (qA 54), .int (qI 23)])), ((qA 53), .inl ((qC 36), 20, .inr (.inl (qG 4)))), ((qA 54), .inl ((qC 37), 20, .inl (qF 31))), ((qA 40), .inr (3, [.ref (qA 55), .ref (qA 56), .ref (qA 57), .int (qI 24)])), ((qA 55), .inl ((qC 38), 30, .inr (.inl (qG 5)))), ((qA 56), .inl ((qC 39), 30, .inl (qF 32))), ((qA 57), .inl ((qC 40), 150, .inl (qF 33))), ((qA 3), .inr (5, [.ref (qA 58), .ref (qA 59), .ref (qA 60), .int (qI 25), .ref (qA 61), .int (qI 26), .int (qI 27), .ref (qA 62), .ref (qA 63), .ref (qA 64), .int (qI 28), .ref (qA 65), .int (qI 29), .int (qI 30), .int (qI 31), .int (qI 32), .int (qI 33), .int (qI 34), .int (qI 35), .long (qJ 3)])), ((qA 61), .inl ((qC 41), 22424, .inr (.inl (qG 6)))), ((qA 62), .inl ((qC 42), 100, .inl (qF 34))), ((qA 63), .inl ((qC 43), 100, .inl (qF 35))), ((qA 64), .inl ((qC 44), 100, .inl (qF 36))), ((qA 65), .inl ((qC 45), 3000, .inl (qF 37))), ((qA 4), .inr (1, [.ref (qA 66), .ref (qA 67), .ref (qA 68), .ref (qA 69), .int (qI 36), .int (qI 37), .int (qI 38), .int (qI 39), .int (qI 40), .int (qI 41), .int (qI 42), .int (qI 43), .int (qI 44)])), ((qA 66), .inl ((qC 46), 400, .inl (qF 38))), ((qA 67), .inl ((qC 47), 400, .inl (qF 39))), ((qA 68), .inl ((qC 48), 1200, .inr (.inl (qG 7)))), ((qA 5), .inr (1, [.ref (qA 70), .ref (qA 71), .ref (qA 72), .ref (qA 73), .int (qI 45), .int (qI 46), .int (qI 47), .int (qI 48), .int (qI 49), .int (qI 50), .int (qI 51), .int (qI 52), .int (qI 53)])), ((qA 70), .inl ((qC 49), 4000, .inl (qF 40))), ((qA 71), .inl ((qC 50), 4000, .inl (qF 41))), ((qA 72), .inl ((qC 51), 12000, .inr (.inl (qG 8)))), ((qA 6), .inr (8, [.ref (qA 74), .int (qI 54), .ref (qA 75), .int (qI 55), .int (qI 56), .ref (qA 76), .ref (qA 77), .int (qI 57)])), ((qA 74), .inl ((qC 52), 4000, .inl (qF 42))), ((qA 75), .inl ((qC 53), 4000, .inl (qF 43))), ((qA 76), .inl ((qC 54), 2000, .inl (qF 44))), ((qA 77), .inl ((qC 55), 2000, .inl (qF 45))), (ou, .inl ((qC 56), 1, .inr (.inl o_go2)))], [((qC 0), .byte), ((qC 1), .int), ((qC 2), .int), ((qC 3), .int), ((qC 4), .int), ((qC 5), .int), ((qC 6), .int), ((qC 7), .int), ((qC 8), .int), ((qC 9), .int), ((qC 10), .int), ((qC 11), .int), ((qC 12), .int), ((qC 13), .long), ((qC 14), .int), ((qC 15), .long), ((qC 16), .int), ((qC 17), .int), ((qC 18), .int), ((qC 19), .int), ((qC 20), .long), ((qC 21), .int), ((qC 22), .long), ((qC 23), .int), ((qC 24), .int), ((qC 25), .int), ((qC 26), .int), ((qC 27), .int), ((qC 28), .int), ((qC 29), .int), ((qC 30), .int), ((qC 31), .int), ((qC 32), .int), ((qC 33), .int), ((qC 34), .int), ((qC 35), .int), ((qC 36), .long), ((qC 37), .int), ((qC 38), .long), ((qC 39), .int), ((qC 40), .int), ((qC 41), .long), ((qC 42), .int), ((qC 43), .int), ((qC 44), .int), ((qC 45), .int), ((qC 46), .int), ((qC 47), .int), ((qC 48), .long), ((qC 49), .int), ((qC 50), .int), ((qC 51), .long), ((qC 52), .byte), ((qC 53), .byte), ((qC 54), .int), ((qC 55), .int), ((qC 56), .long)], h_fed, ou, gt, gO, gb, gD), ⟨⟨qA, qC, qI, qJ, qF, (zUp qG 9 o_go2), rfl, rfl, c_fe, c_zb, c_tz, c_tx, c_dx, c_dn, c_hv, c_vr, c_db, c_ho, c_or, c_pz, c_bd, c_zz, c_cn, c_wr, c_vz, c_fb⟩, rfl, ⟨by omega, by omega⟩, rfl, rfl, rfl, rfl, rfl⟩, ⟨[71, 0, 1, 2, 3, 4, 5, 6, 7, 8, 9, 10, 11, 12, 13, 14, 15, 16, 17, 18, 19, 20, 21, 22, 23, 24, 25, 26, 27, 28, 29, 30, 31, 32, 33, 34, 35, 36, 37, 38, 39, 40, 41, 42, 43, 44, 45, 46, 47, 48, 49, 50, 51, 52, 53, 54, 55, 56, 57, 58, 59, 60, 61, 62, 63, 64, 65, 66, 67, 72, 73, 68, 69, 70, 74], by decide, rfl⟩, ⟨[0, 1, 2, 3, 4, 5, 6, 7, 8, 9, 10, 11, 12, 13, 14, 15, 16, 17, 18, 19, 20, 21, 22, 23, 24, 25, 26, 27, 28, 29, 30, 31, 32, 33, 34, 35, 36, 37, 38, 39, 40, 41, 42, 43, 44, 45, 46, 47, 48, 49, 50, 51, 55, 52, 53, 54, 56], rfl⟩⟩

end
section
/-! calls within opaque worlds: the callee's part comes first -/
theorem fr_rgC {wc wr : va_W} : (List.range wc.length).map (fun i => (wc ++ wr)[i]?) = wc.map some := by
  apply List.ext_getElem?
  intro k
  rw [List.getElem?_map, List.getElem?_map]
  by_cases h : k < wc.length
  · rw [List.getElem?_range h, Option.map_some, List.getElem?_append_left h, List.getElem?_eq_getElem h]; rfl
  · rw [List.getElem?_eq_none (by rw [List.length_range]; omega), List.getElem?_eq_none (by omega)]; rfl
theorem fr_Pl {D : va_G} {cl : List vw_C} {wc wr : va_W} {H : Heap} (h : va_P D cl (wc ++ wr) H) : va_P D cl wc H := fun k q hq => (fr_at fr_rgC hq).elim (fun i hi => h i q hi)
theorem fr_Kl {D : va_G} {cl : List vw_C} {tc tr : List (ClassId × FieldType)} {U : State} (h : va_K D cl (tc ++ tr) U) : va_K D cl tc U := ⟨h.1, fun k q hq => h.2 k q (by
  have hk : k < tc.length := by
    rcases Nat.lt_or_ge k tc.length with g | g
    · exact g
    · rw [List.getElem?_eq_none g] at hq; cases hq
  rw [List.getElem?_append_left hk]; exact hq)⟩
theorem fr_Kr {D : va_G} {cl : List vw_C} {tc tr : List (ClassId × FieldType)} {U : State} (h : va_K D cl (tc ++ tr) U) : va_K D cl tr U := ⟨h.1, fun k q hq => h.2 (tc.length + k) q (by
  rw [List.getElem?_append_right (by omega), show tc.length + k - tc.length = k by omega]; exact hq)⟩
theorem fr_Dl {A : Nat → Prop} {wc wr : va_W} (h : va_D A (wc ++ wr)) : va_D A wc := by
  have lt : ∀ (k : Nat) (q : Nat × va_E), wc[k]? = some q → (wc ++ wr)[k]? = some q := fun k q hq => by
    have hk : k < wc.length := by
      rcases Nat.lt_or_ge k wc.length with g | g
      · exact g
      · rw [List.getElem?_eq_none g] at hq; cases hq
    rw [List.getElem?_append_left hk]; exact hq
  exact ⟨fun i j p q h1 h2 h3 => h.1 i j p q (lt i p h1) (lt j q h2) h3, fun k q hq => h.2 k q (lt k q hq)⟩
theorem fr_Fl {A : Nat → Prop} {wc wr : va_W} {H0 H : Heap} {locs : List Loc} (hD : va_D A (wc ++ wr)) (hS : va_S A H0 H locs) (hA : ∀ q, H0.size ≤ q → A q) : ∀ q, va_A wc H.size q → A q := fun q h => by
  rcases h with ⟨k, e, h⟩ | h
  · exact (fr_Dl hD).2 k (q, e) h
  · exact hA q (Nat.le_trans hS.1 h)
theorem fr_apart {A : Nat → Prop} {D : va_G} {cl : List vw_C} {wc wr w1 : va_W} {H H1 : Heap} (hP : va_P D cl (wc ++ wr) H) (hD : va_D A (wc ++ wr)) (hk : ∀ q : Nat, q < H.size → ¬ va_A wc H.size q → H1[q]? = H[q]?) (hF : ∀ q, va_A wc H.size q → A q) (hP1 : va_P D cl w1 H1) (hD1 : va_D (va_A wc H.size) w1) : va_P D cl (wr ++ w1) H1 ∧ va_D A (wr ++ w1) := by
  have rt : ∀ (k : Nat) (q : Nat × va_E), wr[k]? = some q → (wc ++ wr)[wc.length + k]? = some q := fun k q hq => by
    rw [List.getElem?_append_right (by omega), show wc.length + k - wc.length = k by omega]; exact hq
  have lt : ∀ (k : Nat) (q : Nat × va_E), wc[k]? = some q → (wc ++ wr)[k]? = some q ∧ k < wc.length := fun k q hq => by
    have hk : k < wc.length := by
      rcases Nat.lt_or_ge k wc.length with g | g
      · exact g
      · rw [List.getElem?_eq_none g] at hq; cases hq
    rw [List.getElem?_append_left hk]; exact ⟨hq, hk⟩
  have apart : ∀ (k : Nat) (q : Nat × va_E), wr[k]? = some q → q.1 < H.size ∧ ¬ va_A wc H.size q.1 := fun k q hq => by
    have hl := (hP _ q (rt k q hq)).lt
    refine ⟨hl, fun h => ?_⟩
    rcases h with ⟨k2, e, h⟩ | h
    · obtain ⟨h3, h4⟩ := lt k2 (q.1, e) h
      have := hD.1 _ _ q (q.1, e) (rt k q hq) h3 rfl
      omega
    · omega
  have hDr : va_D A wr := ⟨fun i j p q h1 h2 h3 => by have := hD.1 _ _ p q (rt i p h1) (rt j q h2) h3; omega, fun k q hq => hD.2 _ q (rt k q hq)⟩
  refine ⟨va_P.app (va_P.kept (fun k q hq => hP _ q (rt k q hq)) (fun k q hq => hk q.1 (apart k q hq).1 (apart k q hq).2)) hP1, va_D.app hDr (hD1.weaken (fun k q _ h => hF q.1 h)) (fun i j p q h1 h2 h3 => ?_)⟩
  have := (apart i p h1).2
  rw [h3] at this
  exact this (hD1.2 j q h2)
theorem fr_vx {a0 : Addr} {l : Launch} {y : MethodName} {cs : List Cond} {rm : Room} {Pc : Array Value → State → Prop} {U : Type} {post : Nat → Nat → Int32 → U → Prop} {post2 : Int32 → U → Prop} {B : U → State → Prop} {A : Nat → Prop} {free : Addr → Prop} {mc ms : Nat} (h : vw_Met a0 l y cs rm Pc (fun kc kn => va_Qi (post kc kn) B A) (fr_X A) free) (hp : ∀ kc kn r u, post kc kn r u → post2 r u ∧ kc ≤ mc ∧ kn ≤ ms) : vx_Met l y cs rm Pc (va_Qi post2 B A) (vx_X (fun _ : Unit => False) (fun _ _ _ => True) A) mc ms free :=
  MetFree.mono h (fun _ _ h => h) (fun _ _ _ _ _ h => h) (fun a s o t _ q => by
    obtain ⟨kc, kn, q⟩ := q
    rcases q with ⟨⟨⟨r, u, ho, hq, hb⟩, hf⟩, L, hfe, hL⟩ | ⟨-, E, ce, L, ⟨u, hu, -⟩, -⟩
    · obtain ⟨h1, h2, h3⟩ := hp kc kn r u hq
      exact Or.inl ⟨⟨⟨r, u, ho, h1, hb⟩, hf⟩, L, ⟨hfe.1, hfe.2.1, hfe.2.2.mono h2 h3⟩, hL⟩
    · exact hu.elim)

end
section
/-! THE CLAIM OUT OF ONE WALK OF THE LAW'S BODY. Your part is whole_start (and what it stands on); all else here is the same for every law, but numbers. -/
def R_law : String := "ReuseHouseLaw"
def lw_P (b : Addr) (xs : List Int32) (args : Array Value) (s : State) : Prop := args = #[.ref b] ∧ s.IntsAt b xs ∧ xs.length ≤ 4096 ∧ (Jvm.Cond.and given_1 narrow_1).before args s = true
def lw_Q (_ : Array Value) (s : State) (o : Outcome) (t : State) : Prop := o = .returned (some (.int 1)) ∧ Framed s o t [] 601024 7293034
def lw_Z (below : List Frame) (a : Array Value) (s : State) : State → Prop := fun t => ∃ o, t.status = .running ∧ Ended t below o ∧ lw_Q a s o t
/-- the law's own end, with 1 on the stack, nothing written that was there before, its room as the claim has it -/
theorem lw_ret {p : Program} {l : Launch} {e : Env} {s : State} {m : MethodId} {below : List Frame} {meth : Method} {c : Code} {b : Nat} (hx : p.tables.exec = Jvm.exec) (hb : c.code = code) (hr : meth.sig.returnType = ret) (hlocks : meth.locks = false) {pc : Nat} {H : Heap} {ls : Array Slot} (hdg : decode code pc = .ok (.ireturn, 1)) : W p l e room_1 s m #[Value.ref b] below meth c H [] 601024 7293034 (lw_Z below #[Value.ref b] s) (F0 m pc ls [.int 1]) := by
  intro T hT X
  obtain ⟨fs, hret, hrun, hended, hW, hframe⟩ := X.leave (v := some (.int 1)) (hlocks := hlocks) (fun h => by rw [hr] at h; cases h)
  have hmeth' : T.vm.method? m = some meth := X.method'
  refine ⟨T.setFrames fs, ?_, .returned (some (.int 1)), hrun, hended, rfl, ⟨_, rfl⟩, hW, hframe⟩
  jvm_step X.here [X.here.top, hx, hb, hdg, hmeth', hr, ret, narrow_b1]
  (try refine ⟨rfl, ?_⟩); (try refine ⟨rfl, ?_⟩)
  first | (intro acts; rw [hret _ acts rfl rfl rfl]) | rw [hret _ _ rfl rfl rfl]
  exact Steps.refl _
/-- what holds at the law's entry: the machine, the code, the tables' words (any of lw_tbl by 'hts w (by decide +kernel)'), the script of L ints xs at the cell b, what the Statement gives of the start (any of its parts by flat_of_before) -/
def lw_At (p : Program) (s : State) (m : MethodId) (meth : Method) (c : Code) (b L : Nat) (xs : Nat → Int32) : Prop :=
  p.tables.exec = Jvm.exec ∧ c.code = code ∧ meth.sig.returnType = ret ∧ c.maxLocals = 7 ∧ s.vm.findClass R_law = some m.cls ∧ (∀ w ∈ lw_tbl, w.before #[Value.ref b] s = true) ∧ va_X b L xs s s.heap ∧ b < s.heap.size ∧ meth.locks = false ∧ (Jvm.Cond.and given_1 narrow_1).before #[Value.ref b] s = true

end
section
theorem wi_639 : Cond.code yX11_feed cX11_feed 6 (some .int) ∈ zw := zw_in (List.mem_of_getElem? (i := 639) (by decide +kernel)) (by decide +kernel)
theorem wi_636 : Cond.methodLink RL 19 yX11_feed ∈ zw := zw_in (List.mem_of_getElem? (i := 636) (by decide +kernel)) (by decide +kernel)
theorem wi_637 : Cond.instanceMethod yX11_feed ∈ zw := zw_in (List.mem_of_getElem? (i := 637) (by decide +kernel)) (by decide +kernel)
theorem wi_638 : Cond.selects RX11 yX11_feed yX11_feed ∈ zw := zw_in (List.mem_of_getElem? (i := 638) (by decide +kernel)) (by decide +kernel)
theorem wi_1690 : Cond.code yX14_feed cX14_feed 8 (some .int) ∈ zw := zw_in (List.mem_of_getElem? (i := 1690) (by decide +kernel)) (by decide +kernel)
theorem wi_1687 : Cond.methodLink RL 23 yX14_feed ∈ zw := zw_in (List.mem_of_getElem? (i := 1687) (by decide +kernel)) (by decide +kernel)
theorem wi_1688 : Cond.instanceMethod yX14_feed ∈ zw := zw_in (List.mem_of_getElem? (i := 1688) (by decide +kernel)) (by decide +kernel)
theorem wi_1689 : Cond.selects RX14 yX14_feed yX14_feed ∈ zw := zw_in (List.mem_of_getElem? (i := 1689) (by decide +kernel)) (by decide +kernel)
theorem wi_647 : Cond.code yX11_program cX11_program 3 (some .int) ∈ zw := zw_in (List.mem_of_getElem? (i := 647) (by decide +kernel)) (by decide +kernel)
theorem wi_644 : Cond.methodLink RL 24 yX11_program ∈ zw := zw_in (List.mem_of_getElem? (i := 644) (by decide +kernel)) (by decide +kernel)
theorem wi_645 : Cond.instanceMethod yX11_program ∈ zw := zw_in (List.mem_of_getElem? (i := 645) (by decide +kernel)) (by decide +kernel)
theorem wi_646 : Cond.selects RX11 yX11_program yX11_program ∈ zw := zw_in (List.mem_of_getElem? (i := 646) (by decide +kernel)) (by decide +kernel)
theorem wi_1694 : Cond.codeWith yX14_program cX14_program 3 (some .int) [(44, 48, 51, 7)] ∈ zw := zw_in (List.mem_of_getElem? (i := 1694) (by decide +kernel)) (by decide +kernel)
theorem wi_1691 : Cond.methodLink RL 27 yX14_program ∈ zw := zw_in (List.mem_of_getElem? (i := 1691) (by decide +kernel)) (by decide +kernel)
theorem wi_1692 : Cond.instanceMethod yX14_program ∈ zw := zw_in (List.mem_of_getElem? (i := 1692) (by decide +kernel)) (by decide +kernel)
theorem wi_1693 : Cond.selects RX14 yX14_program yX14_program ∈ zw := zw_in (List.mem_of_getElem? (i := 1693) (by decide +kernel)) (by decide +kernel)
theorem wi_1069 : Cond.code yX11_fault cX11_fault 1 (some .int) ∈ zw := zw_in (List.mem_of_getElem? (i := 1069) (by decide +kernel)) (by decide +kernel)
theorem wi_1066 : Cond.methodLink RL 28 yX11_fault ∈ zw := zw_in (List.mem_of_getElem? (i := 1066) (by decide +kernel)) (by decide +kernel)
theorem wi_1067 : Cond.instanceMethod yX11_fault ∈ zw := zw_in (List.mem_of_getElem? (i := 1067) (by decide +kernel)) (by decide +kernel)
theorem wi_1068 : Cond.selects RX11 yX11_fault yX11_fault ∈ zw := zw_in (List.mem_of_getElem? (i := 1068) (by decide +kernel)) (by decide +kernel)
theorem wi_1864 : Cond.code yX14_fault cX14_fault 1 (some .int) ∈ zw := zw_in (List.mem_of_getElem? (i := 1864) (by decide +kernel)) (by decide +kernel)
theorem wi_1861 : Cond.methodLink RL 32 yX14_fault ∈ zw := zw_in (List.mem_of_getElem? (i := 1861) (by decide +kernel)) (by decide +kernel)
theorem wi_1862 : Cond.instanceMethod yX14_fault ∈ zw := zw_in (List.mem_of_getElem? (i := 1862) (by decide +kernel)) (by decide +kernel)
theorem wi_1863 : Cond.selects RX14 yX14_fault yX14_fault ∈ zw := zw_in (List.mem_of_getElem? (i := 1863) (by decide +kernel)) (by decide +kernel)
theorem wi_1073 : Cond.code yX11_where cX11_where 1 (some .int) ∈ zw := zw_in (List.mem_of_getElem? (i := 1073) (by decide +kernel)) (by decide +kernel)
theorem wi_1070 : Cond.methodLink RL 33 yX11_where ∈ zw := zw_in (List.mem_of_getElem? (i := 1070) (by decide +kernel)) (by decide +kernel)
theorem wi_1071 : Cond.instanceMethod yX11_where ∈ zw := zw_in (List.mem_of_getElem? (i := 1071) (by decide +kernel)) (by decide +kernel)
theorem wi_1072 : Cond.selects RX11 yX11_where yX11_where ∈ zw := zw_in (List.mem_of_getElem? (i := 1072) (by decide +kernel)) (by decide +kernel)
theorem wi_1868 : Cond.code yX14_where cX14_where 1 (some .int) ∈ zw := zw_in (List.mem_of_getElem? (i := 1868) (by decide +kernel)) (by decide +kernel)
theorem wi_1865 : Cond.methodLink RL 36 yX14_where ∈ zw := zw_in (List.mem_of_getElem? (i := 1865) (by decide +kernel)) (by decide +kernel)
theorem wi_1866 : Cond.instanceMethod yX14_where ∈ zw := zw_in (List.mem_of_getElem? (i := 1866) (by decide +kernel)) (by decide +kernel)
theorem wi_1867 : Cond.selects RX14 yX14_where yX14_where ∈ zw := zw_in (List.mem_of_getElem? (i := 1867) (by decide +kernel)) (by decide +kernel)
theorem wi_1077 : Cond.code yX11_about cX11_about 3 (some .int) ∈ zw := zw_in (List.mem_of_getElem? (i := 1077) (by decide +kernel)) (by decide +kernel)
theorem wi_1074 : Cond.methodLink RL 37 yX11_about ∈ zw := zw_in (List.mem_of_getElem? (i := 1074) (by decide +kernel)) (by decide +kernel)
theorem wi_1075 : Cond.instanceMethod yX11_about ∈ zw := zw_in (List.mem_of_getElem? (i := 1075) (by decide +kernel)) (by decide +kernel)
theorem wi_1076 : Cond.selects RX11 yX11_about yX11_about ∈ zw := zw_in (List.mem_of_getElem? (i := 1076) (by decide +kernel)) (by decide +kernel)
theorem wi_1872 : Cond.code yX14_about cX14_about 8 (some .int) ∈ zw := zw_in (List.mem_of_getElem? (i := 1872) (by decide +kernel)) (by decide +kernel)
theorem wi_1869 : Cond.methodLink RL 41 yX14_about ∈ zw := zw_in (List.mem_of_getElem? (i := 1869) (by decide +kernel)) (by decide +kernel)
theorem wi_1870 : Cond.instanceMethod yX14_about ∈ zw := zw_in (List.mem_of_getElem? (i := 1870) (by decide +kernel)) (by decide +kernel)
theorem wi_1871 : Cond.selects RX14 yX14_about yX14_about ∈ zw := zw_in (List.mem_of_getElem? (i := 1871) (by decide +kernel)) (by decide +kernel)
theorem wi_1083 : Cond.code yX11_run cX11_run 8 (some .int) ∈ zw := zw_in (List.mem_of_getElem? (i := 1083) (by decide +kernel)) (by decide +kernel)
theorem wi_1080 : Cond.methodLink RL 42 yX11_run ∈ zw := zw_in (List.mem_of_getElem? (i := 1080) (by decide +kernel)) (by decide +kernel)
theorem wi_1081 : Cond.instanceMethod yX11_run ∈ zw := zw_in (List.mem_of_getElem? (i := 1081) (by decide +kernel)) (by decide +kernel)
theorem wi_1082 : Cond.selects RX11 yX11_run yX11_run ∈ zw := zw_in (List.mem_of_getElem? (i := 1082) (by decide +kernel)) (by decide +kernel)
theorem wi_1884 : Cond.code yX14_run cX14_run 9 (some .int) ∈ zw := zw_in (List.mem_of_getElem? (i := 1884) (by decide +kernel)) (by decide +kernel)
theorem wi_1881 : Cond.methodLink RL 46 yX14_run ∈ zw := zw_in (List.mem_of_getElem? (i := 1881) (by decide +kernel)) (by decide +kernel)
theorem wi_1882 : Cond.instanceMethod yX14_run ∈ zw := zw_in (List.mem_of_getElem? (i := 1882) (by decide +kernel)) (by decide +kernel)
theorem wi_1883 : Cond.selects RX14 yX14_run yX14_run ∈ zw := zw_in (List.mem_of_getElem? (i := 1883) (by decide +kernel)) (by decide +kernel)
theorem wi_1290 : Cond.code yX11_plain cX11_plain 7 (some .int) ∈ zw := zw_in (List.mem_of_getElem? (i := 1290) (by decide +kernel)) (by decide +kernel)
theorem wi_1287 : Cond.methodLink RL 47 yX11_plain ∈ zw := zw_in (List.mem_of_getElem? (i := 1287) (by decide +kernel)) (by decide +kernel)
theorem wi_1288 : Cond.instanceMethod yX11_plain ∈ zw := zw_in (List.mem_of_getElem? (i := 1288) (by decide +kernel)) (by decide +kernel)
theorem wi_1289 : Cond.selects RX11 yX11_plain yX11_plain ∈ zw := zw_in (List.mem_of_getElem? (i := 1289) (by decide +kernel)) (by decide +kernel)
theorem wi_1989 : Cond.code yX14_plain cX14_plain 11 (some .int) ∈ zw := zw_in (List.mem_of_getElem? (i := 1989) (by decide +kernel)) (by decide +kernel)
theorem wi_1986 : Cond.methodLink RL 51 yX14_plain ∈ zw := zw_in (List.mem_of_getElem? (i := 1986) (by decide +kernel)) (by decide +kernel)
theorem wi_1987 : Cond.instanceMethod yX14_plain ∈ zw := zw_in (List.mem_of_getElem? (i := 1987) (by decide +kernel)) (by decide +kernel)
theorem wi_1988 : Cond.selects RX14 yX14_plain yX14_plain ∈ zw := zw_in (List.mem_of_getElem? (i := 1988) (by decide +kernel)) (by decide +kernel)
theorem wi_1294 : Cond.code yX11_show cX11_show 2 (some .int) ∈ zw := zw_in (List.mem_of_getElem? (i := 1294) (by decide +kernel)) (by decide +kernel)
theorem wi_1291 : Cond.methodLink RL 52 yX11_show ∈ zw := zw_in (List.mem_of_getElem? (i := 1291) (by decide +kernel)) (by decide +kernel)
theorem wi_1292 : Cond.instanceMethod yX11_show ∈ zw := zw_in (List.mem_of_getElem? (i := 1292) (by decide +kernel)) (by decide +kernel)
theorem wi_1293 : Cond.selects RX11 yX11_show yX11_show ∈ zw := zw_in (List.mem_of_getElem? (i := 1293) (by decide +kernel)) (by decide +kernel)
theorem wi_1993 : Cond.codeWith yX14_show cX14_show 3 (some .int) [(33, 53, 56, 7)] ∈ zw := zw_in (List.mem_of_getElem? (i := 1993) (by decide +kernel)) (by decide +kernel)
theorem wi_1990 : Cond.methodLink RL 56 yX14_show ∈ zw := zw_in (List.mem_of_getElem? (i := 1990) (by decide +kernel)) (by decide +kernel)
theorem wi_1991 : Cond.instanceMethod yX14_show ∈ zw := zw_in (List.mem_of_getElem? (i := 1991) (by decide +kernel)) (by decide +kernel)
theorem wi_1992 : Cond.selects RX14 yX14_show yX14_show ∈ zw := zw_in (List.mem_of_getElem? (i := 1992) (by decide +kernel)) (by decide +kernel)
theorem wi_1345 : Cond.codeWith yL_out cL_out 4 (some .int) [(0, 9, 12, 13)] ∈ zw := zw_in (List.mem_of_getElem? (i := 1345) (by decide +kernel)) (by decide +kernel)
theorem wi_1343 : Cond.methodLink RL 57 yL_out ∈ zw := zw_in (List.mem_of_getElem? (i := 1343) (by decide +kernel)) (by decide +kernel)
theorem wi_1344 : Cond.static yL_out ∈ zw := zw_in (List.mem_of_getElem? (i := 1344) (by decide +kernel)) (by decide +kernel)
theorem wi_129 : Cond.initialized RL ∈ zw := zw_in (List.mem_of_getElem? (i := 129) (by decide +kernel)) (by decide +kernel)
theorem wi_2016 : Cond.code yX14_out cX14_out 2 (some .int) ∈ zw := zw_in (List.mem_of_getElem? (i := 2016) (by decide +kernel)) (by decide +kernel)
theorem wi_2013 : Cond.methodLink RL 62 yX14_out ∈ zw := zw_in (List.mem_of_getElem? (i := 2013) (by decide +kernel)) (by decide +kernel)
theorem wi_2014 : Cond.instanceMethod yX14_out ∈ zw := zw_in (List.mem_of_getElem? (i := 2014) (by decide +kernel)) (by decide +kernel)
theorem wi_2015 : Cond.selects RX14 yX14_out yX14_out ∈ zw := zw_in (List.mem_of_getElem? (i := 2015) (by decide +kernel)) (by decide +kernel)
theorem wi_1337 : Cond.code yX11_release cX11_release 2 (some .int) ∈ zw := zw_in (List.mem_of_getElem? (i := 1337) (by decide +kernel)) (by decide +kernel)
theorem wi_1334 : Cond.methodLink RL 63 yX11_release ∈ zw := zw_in (List.mem_of_getElem? (i := 1334) (by decide +kernel)) (by decide +kernel)
theorem wi_1335 : Cond.instanceMethod yX11_release ∈ zw := zw_in (List.mem_of_getElem? (i := 1335) (by decide +kernel)) (by decide +kernel)
theorem wi_1336 : Cond.selects RX11 yX11_release yX11_release ∈ zw := zw_in (List.mem_of_getElem? (i := 1336) (by decide +kernel)) (by decide +kernel)
theorem wi_2020 : Cond.code yX14_release cX14_release 2 (some .int) ∈ zw := zw_in (List.mem_of_getElem? (i := 2020) (by decide +kernel)) (by decide +kernel)
theorem wi_2017 : Cond.methodLink RL 66 yX14_release ∈ zw := zw_in (List.mem_of_getElem? (i := 2017) (by decide +kernel)) (by decide +kernel)
theorem wi_2018 : Cond.instanceMethod yX14_release ∈ zw := zw_in (List.mem_of_getElem? (i := 2018) (by decide +kernel)) (by decide +kernel)
theorem wi_2019 : Cond.selects RX14 yX14_release yX14_release ∈ zw := zw_in (List.mem_of_getElem? (i := 2019) (by decide +kernel)) (by decide +kernel)
theorem wi_1342 : Cond.code yX11_count cX11_count 2 (some .int) ∈ zw := zw_in (List.mem_of_getElem? (i := 1342) (by decide +kernel)) (by decide +kernel)
theorem wi_1339 : Cond.methodLink RL 67 yX11_count ∈ zw := zw_in (List.mem_of_getElem? (i := 1339) (by decide +kernel)) (by decide +kernel)
theorem wi_1340 : Cond.instanceMethod yX11_count ∈ zw := zw_in (List.mem_of_getElem? (i := 1340) (by decide +kernel)) (by decide +kernel)
theorem wi_1341 : Cond.selects RX11 yX11_count yX11_count ∈ zw := zw_in (List.mem_of_getElem? (i := 1341) (by decide +kernel)) (by decide +kernel)
theorem wi_2024 : Cond.code yX14_count cX14_count 2 (some .int) ∈ zw := zw_in (List.mem_of_getElem? (i := 2024) (by decide +kernel)) (by decide +kernel)
theorem wi_2021 : Cond.methodLink RL 70 yX14_count ∈ zw := zw_in (List.mem_of_getElem? (i := 2021) (by decide +kernel)) (by decide +kernel)
theorem wi_2022 : Cond.instanceMethod yX14_count ∈ zw := zw_in (List.mem_of_getElem? (i := 2022) (by decide +kernel)) (by decide +kernel)
theorem wi_2023 : Cond.selects RX14 yX14_count yX14_count ∈ zw := zw_in (List.mem_of_getElem? (i := 2023) (by decide +kernel)) (by decide +kernel)
theorem dL_law_23 : decode code 23 = .ok (.iload 4, 2) := by decide +kernel
theorem dL_law_25 : decode code 25 = .ok (.aload_n 0, 1) := by decide +kernel
theorem dL_law_26 : decode code 26 = .ok (.arraylength, 1) := by decide +kernel
theorem dL_law_27 : decode code 27 = .ok (.bipush 8, 2) := by decide +kernel
theorem dL_law_29 : decode code 29 = .ok (.isub, 1) := by decide +kernel
theorem dL_law_30 : decode code 30 = .ok (.if_icmp .gt 532, 3) := by decide +kernel
theorem dL_law_33 : decode code 33 = .ok (.aload_n 0, 1) := by decide +kernel
theorem dL_law_34 : decode code 34 = .ok (.iload 4, 2) := by decide +kernel
theorem dL_law_36 : decode code 36 = .ok (.iaload, 1) := by decide +kernel
theorem dL_law_37 : decode code 37 = .ok (.bipush 15, 2) := by decide +kernel
theorem dL_law_39 : decode code 39 = .ok (.iand, 1) := by decide +kernel
theorem dL_law_40 : decode code 40 = .ok (.tableswitch 516 0 10 #[60, 133, 158, 171, 184, 221, 322, 409, 450, 478, 491], 60) := by decide +kernel
theorem dL_law_100 : decode code 100 = .ok (.aload_n 1, 1) := by decide +kernel
theorem dL_law_101 : decode code 101 = .ok (.aload_n 0, 1) := by decide +kernel
theorem dL_law_102 : decode code 102 = .ok (.iload 4, 2) := by decide +kernel
theorem dL_law_104 : decode code 104 = .ok (.iconst 1, 1) := by decide +kernel
theorem dL_law_105 : decode code 105 = .ok (.iadd, 1) := by decide +kernel
theorem dL_law_106 : decode code 106 = .ok (.iaload, 1) := by decide +kernel
theorem dL_law_107 : decode code 107 = .ok (.aload_n 0, 1) := by decide +kernel

end
section
theorem dL_law_108 : decode code 108 = .ok (.iload 4, 2) := by decide +kernel
theorem dL_law_110 : decode code 110 = .ok (.iconst 2, 1) := by decide +kernel
theorem dL_law_111 : decode code 111 = .ok (.iadd, 1) := by decide +kernel
theorem dL_law_112 : decode code 112 = .ok (.iaload, 1) := by decide +kernel
theorem dL_law_113 : decode code 113 = .ok (.aload_n 0, 1) := by decide +kernel
theorem dL_law_114 : decode code 114 = .ok (.iload 4, 2) := by decide +kernel
theorem dL_law_116 : decode code 116 = .ok (.iconst 3, 1) := by decide +kernel
theorem dL_law_117 : decode code 117 = .ok (.iadd, 1) := by decide +kernel
theorem dL_law_118 : decode code 118 = .ok (.iaload, 1) := by decide +kernel
theorem dL_law_119 : decode code 119 = .ok (.aload_n 0, 1) := by decide +kernel
theorem dL_law_120 : decode code 120 = .ok (.iload 4, 2) := by decide +kernel
theorem dL_law_122 : decode code 122 = .ok (.iconst 4, 1) := by decide +kernel
theorem dL_law_123 : decode code 123 = .ok (.iadd, 1) := by decide +kernel
theorem dL_law_124 : decode code 124 = .ok (.iaload, 1) := by decide +kernel
theorem dL_law_125 : decode code 125 = .ok (.aload_n 0, 1) := by decide +kernel
theorem dL_law_126 : decode code 126 = .ok (.iload 4, 2) := by decide +kernel
theorem dL_law_128 : decode code 128 = .ok (.iconst 5, 1) := by decide +kernel
theorem dL_law_129 : decode code 129 = .ok (.iadd, 1) := by decide +kernel
theorem dL_law_130 : decode code 130 = .ok (.iaload, 1) := by decide +kernel
theorem dL_law_131 : decode code 131 = .ok (.invokevirtual 19, 3) := by decide +kernel
theorem dL_law_134 : decode code 134 = .ok (.pop, 1) := by decide +kernel
theorem dL_law_135 : decode code 135 = .ok (.aload_n 2, 1) := by decide +kernel
theorem dL_law_136 : decode code 136 = .ok (.aload_n 0, 1) := by decide +kernel
theorem dL_law_137 : decode code 137 = .ok (.iload 4, 2) := by decide +kernel
theorem dL_law_139 : decode code 139 = .ok (.iconst 1, 1) := by decide +kernel
theorem dL_law_140 : decode code 140 = .ok (.iadd, 1) := by decide +kernel
theorem dL_law_141 : decode code 141 = .ok (.iaload, 1) := by decide +kernel
theorem dL_law_142 : decode code 142 = .ok (.aload_n 0, 1) := by decide +kernel
theorem dL_law_143 : decode code 143 = .ok (.iload 4, 2) := by decide +kernel
theorem dL_law_145 : decode code 145 = .ok (.iconst 2, 1) := by decide +kernel
theorem dL_law_146 : decode code 146 = .ok (.iadd, 1) := by decide +kernel
theorem dL_law_147 : decode code 147 = .ok (.iaload, 1) := by decide +kernel
theorem dL_law_148 : decode code 148 = .ok (.aload_n 0, 1) := by decide +kernel
theorem dL_law_149 : decode code 149 = .ok (.iload 4, 2) := by decide +kernel
theorem dL_law_151 : decode code 151 = .ok (.iconst 3, 1) := by decide +kernel
theorem dL_law_152 : decode code 152 = .ok (.iadd, 1) := by decide +kernel
theorem dL_law_153 : decode code 153 = .ok (.iaload, 1) := by decide +kernel
theorem dL_law_154 : decode code 154 = .ok (.aload_n 0, 1) := by decide +kernel
theorem dL_law_155 : decode code 155 = .ok (.iload 4, 2) := by decide +kernel
theorem dL_law_157 : decode code 157 = .ok (.iconst 4, 1) := by decide +kernel
theorem dL_law_158 : decode code 158 = .ok (.iadd, 1) := by decide +kernel
theorem dL_law_159 : decode code 159 = .ok (.iaload, 1) := by decide +kernel
theorem dL_law_160 : decode code 160 = .ok (.aload_n 0, 1) := by decide +kernel
theorem dL_law_161 : decode code 161 = .ok (.iload 4, 2) := by decide +kernel
theorem dL_law_163 : decode code 163 = .ok (.iconst 5, 1) := by decide +kernel
theorem dL_law_164 : decode code 164 = .ok (.iadd, 1) := by decide +kernel
theorem dL_law_165 : decode code 165 = .ok (.iaload, 1) := by decide +kernel
theorem dL_law_166 : decode code 166 = .ok (.invokevirtual 23, 3) := by decide +kernel
theorem dL_law_169 : decode code 169 = .ok (.pop, 1) := by decide +kernel
theorem dL_law_170 : decode code 170 = .ok (.goto 386, 3) := by decide +kernel
theorem dL_law_173 : decode code 173 = .ok (.aload_n 1, 1) := by decide +kernel
theorem dL_law_174 : decode code 174 = .ok (.aload_n 0, 1) := by decide +kernel
theorem dL_law_175 : decode code 175 = .ok (.iload 4, 2) := by decide +kernel
theorem dL_law_177 : decode code 177 = .ok (.iconst 1, 1) := by decide +kernel
theorem dL_law_178 : decode code 178 = .ok (.iadd, 1) := by decide +kernel
theorem dL_law_179 : decode code 179 = .ok (.iaload, 1) := by decide +kernel
theorem dL_law_180 : decode code 180 = .ok (.invokevirtual 24, 3) := by decide +kernel
theorem dL_law_183 : decode code 183 = .ok (.pop, 1) := by decide +kernel
theorem dL_law_184 : decode code 184 = .ok (.aload_n 2, 1) := by decide +kernel
theorem dL_law_185 : decode code 185 = .ok (.aload_n 0, 1) := by decide +kernel
theorem dL_law_186 : decode code 186 = .ok (.iload 4, 2) := by decide +kernel
theorem dL_law_188 : decode code 188 = .ok (.iconst 1, 1) := by decide +kernel
theorem dL_law_189 : decode code 189 = .ok (.iadd, 1) := by decide +kernel
theorem dL_law_190 : decode code 190 = .ok (.iaload, 1) := by decide +kernel
theorem dL_law_191 : decode code 191 = .ok (.invokevirtual 27, 3) := by decide +kernel
theorem dL_law_194 : decode code 194 = .ok (.pop, 1) := by decide +kernel
theorem dL_law_195 : decode code 195 = .ok (.goto 361, 3) := by decide +kernel
theorem dL_law_198 : decode code 198 = .ok (.aload_n 1, 1) := by decide +kernel
theorem dL_law_199 : decode code 199 = .ok (.invokevirtual 28, 3) := by decide +kernel
theorem dL_law_202 : decode code 202 = .ok (.pop, 1) := by decide +kernel
theorem dL_law_203 : decode code 203 = .ok (.aload_n 2, 1) := by decide +kernel
theorem dL_law_204 : decode code 204 = .ok (.invokevirtual 32, 3) := by decide +kernel
theorem dL_law_207 : decode code 207 = .ok (.pop, 1) := by decide +kernel
theorem dL_law_208 : decode code 208 = .ok (.goto 348, 3) := by decide +kernel
theorem dL_law_211 : decode code 211 = .ok (.aload_n 1, 1) := by decide +kernel
theorem dL_law_212 : decode code 212 = .ok (.invokevirtual 33, 3) := by decide +kernel
theorem dL_law_215 : decode code 215 = .ok (.aload_n 2, 1) := by decide +kernel
theorem dL_law_216 : decode code 216 = .ok (.invokevirtual 36, 3) := by decide +kernel
theorem dL_law_219 : decode code 219 = .ok (.if_icmp .eq 337, 3) := by decide +kernel
theorem dL_law_224 : decode code 224 = .ok (.aload_n 1, 1) := by decide +kernel
theorem dL_law_225 : decode code 225 = .ok (.aload_n 0, 1) := by decide +kernel
theorem dL_law_226 : decode code 226 = .ok (.iload 4, 2) := by decide +kernel
theorem dL_law_228 : decode code 228 = .ok (.iconst 1, 1) := by decide +kernel
theorem dL_law_229 : decode code 229 = .ok (.iadd, 1) := by decide +kernel
theorem dL_law_230 : decode code 230 = .ok (.iaload, 1) := by decide +kernel
theorem dL_law_231 : decode code 231 = .ok (.aload_n 0, 1) := by decide +kernel
theorem dL_law_232 : decode code 232 = .ok (.iload 4, 2) := by decide +kernel
theorem dL_law_234 : decode code 234 = .ok (.iconst 2, 1) := by decide +kernel
theorem dL_law_235 : decode code 235 = .ok (.iadd, 1) := by decide +kernel
theorem dL_law_236 : decode code 236 = .ok (.iaload, 1) := by decide +kernel
theorem dL_law_237 : decode code 237 = .ok (.invokevirtual 37, 3) := by decide +kernel
theorem dL_law_240 : decode code 240 = .ok (.pop, 1) := by decide +kernel
theorem dL_law_241 : decode code 241 = .ok (.aload_n 2, 1) := by decide +kernel
theorem dL_law_242 : decode code 242 = .ok (.aload_n 0, 1) := by decide +kernel
theorem dL_law_243 : decode code 243 = .ok (.iload 4, 2) := by decide +kernel
theorem dL_law_245 : decode code 245 = .ok (.iconst 1, 1) := by decide +kernel
theorem dL_law_246 : decode code 246 = .ok (.iadd, 1) := by decide +kernel
theorem dL_law_247 : decode code 247 = .ok (.iaload, 1) := by decide +kernel
theorem dL_law_248 : decode code 248 = .ok (.aload_n 0, 1) := by decide +kernel
theorem dL_law_249 : decode code 249 = .ok (.iload 4, 2) := by decide +kernel
theorem dL_law_251 : decode code 251 = .ok (.iconst 2, 1) := by decide +kernel
theorem dL_law_252 : decode code 252 = .ok (.iadd, 1) := by decide +kernel
theorem dL_law_253 : decode code 253 = .ok (.iaload, 1) := by decide +kernel
theorem dL_law_254 : decode code 254 = .ok (.invokevirtual 41, 3) := by decide +kernel
theorem dL_law_257 : decode code 257 = .ok (.pop, 1) := by decide +kernel
theorem dL_law_258 : decode code 258 = .ok (.goto 298, 3) := by decide +kernel
theorem dL_law_261 : decode code 261 = .ok (.aload_n 1, 1) := by decide +kernel

end
section
theorem dL_law_262 : decode code 262 = .ok (.aload_n 0, 1) := by decide +kernel
theorem dL_law_263 : decode code 263 = .ok (.iload 4, 2) := by decide +kernel
theorem dL_law_265 : decode code 265 = .ok (.iconst 1, 1) := by decide +kernel
theorem dL_law_266 : decode code 266 = .ok (.iadd, 1) := by decide +kernel
theorem dL_law_267 : decode code 267 = .ok (.iaload, 1) := by decide +kernel
theorem dL_law_268 : decode code 268 = .ok (.aload_n 0, 1) := by decide +kernel
theorem dL_law_269 : decode code 269 = .ok (.iload 4, 2) := by decide +kernel
theorem dL_law_271 : decode code 271 = .ok (.iconst 2, 1) := by decide +kernel
theorem dL_law_272 : decode code 272 = .ok (.iadd, 1) := by decide +kernel
theorem dL_law_273 : decode code 273 = .ok (.iaload, 1) := by decide +kernel
theorem dL_law_274 : decode code 274 = .ok (.aload_n 0, 1) := by decide +kernel
theorem dL_law_275 : decode code 275 = .ok (.iload 4, 2) := by decide +kernel
theorem dL_law_277 : decode code 277 = .ok (.iconst 3, 1) := by decide +kernel
theorem dL_law_278 : decode code 278 = .ok (.iadd, 1) := by decide +kernel
theorem dL_law_279 : decode code 279 = .ok (.iaload, 1) := by decide +kernel
theorem dL_law_280 : decode code 280 = .ok (.aload_n 0, 1) := by decide +kernel
theorem dL_law_281 : decode code 281 = .ok (.iload 4, 2) := by decide +kernel
theorem dL_law_283 : decode code 283 = .ok (.iconst 4, 1) := by decide +kernel
theorem dL_law_284 : decode code 284 = .ok (.iadd, 1) := by decide +kernel
theorem dL_law_285 : decode code 285 = .ok (.iaload, 1) := by decide +kernel
theorem dL_law_286 : decode code 286 = .ok (.aload_n 0, 1) := by decide +kernel
theorem dL_law_287 : decode code 287 = .ok (.iload 4, 2) := by decide +kernel
theorem dL_law_289 : decode code 289 = .ok (.iconst 5, 1) := by decide +kernel
theorem dL_law_290 : decode code 290 = .ok (.iadd, 1) := by decide +kernel
theorem dL_law_291 : decode code 291 = .ok (.iaload, 1) := by decide +kernel
theorem dL_law_292 : decode code 292 = .ok (.aload_n 0, 1) := by decide +kernel
theorem dL_law_293 : decode code 293 = .ok (.iload 4, 2) := by decide +kernel
theorem dL_law_295 : decode code 295 = .ok (.bipush 6, 2) := by decide +kernel
theorem dL_law_297 : decode code 297 = .ok (.iadd, 1) := by decide +kernel
theorem dL_law_298 : decode code 298 = .ok (.iaload, 1) := by decide +kernel
theorem dL_law_299 : decode code 299 = .ok (.aload_n 0, 1) := by decide +kernel
theorem dL_law_300 : decode code 300 = .ok (.iload 4, 2) := by decide +kernel
theorem dL_law_302 : decode code 302 = .ok (.bipush 7, 2) := by decide +kernel
theorem dL_law_304 : decode code 304 = .ok (.iadd, 1) := by decide +kernel
theorem dL_law_305 : decode code 305 = .ok (.iaload, 1) := by decide +kernel
theorem dL_law_306 : decode code 306 = .ok (.invokevirtual 42, 3) := by decide +kernel
theorem dL_law_309 : decode code 309 = .ok (.pop, 1) := by decide +kernel
theorem dL_law_310 : decode code 310 = .ok (.aload_n 2, 1) := by decide +kernel
theorem dL_law_311 : decode code 311 = .ok (.aload_n 0, 1) := by decide +kernel
theorem dL_law_312 : decode code 312 = .ok (.iload 4, 2) := by decide +kernel
theorem dL_law_314 : decode code 314 = .ok (.iconst 1, 1) := by decide +kernel
theorem dL_law_315 : decode code 315 = .ok (.iadd, 1) := by decide +kernel
theorem dL_law_316 : decode code 316 = .ok (.iaload, 1) := by decide +kernel
theorem dL_law_317 : decode code 317 = .ok (.aload_n 0, 1) := by decide +kernel
theorem dL_law_318 : decode code 318 = .ok (.iload 4, 2) := by decide +kernel
theorem dL_law_320 : decode code 320 = .ok (.iconst 2, 1) := by decide +kernel
theorem dL_law_321 : decode code 321 = .ok (.iadd, 1) := by decide +kernel
theorem dL_law_322 : decode code 322 = .ok (.iaload, 1) := by decide +kernel
theorem dL_law_323 : decode code 323 = .ok (.aload_n 0, 1) := by decide +kernel
theorem dL_law_324 : decode code 324 = .ok (.iload 4, 2) := by decide +kernel
theorem dL_law_326 : decode code 326 = .ok (.iconst 3, 1) := by decide +kernel
theorem dL_law_327 : decode code 327 = .ok (.iadd, 1) := by decide +kernel
theorem dL_law_328 : decode code 328 = .ok (.iaload, 1) := by decide +kernel
theorem dL_law_329 : decode code 329 = .ok (.aload_n 0, 1) := by decide +kernel
theorem dL_law_330 : decode code 330 = .ok (.iload 4, 2) := by decide +kernel
theorem dL_law_332 : decode code 332 = .ok (.iconst 4, 1) := by decide +kernel
theorem dL_law_333 : decode code 333 = .ok (.iadd, 1) := by decide +kernel
theorem dL_law_334 : decode code 334 = .ok (.iaload, 1) := by decide +kernel
theorem dL_law_335 : decode code 335 = .ok (.aload_n 0, 1) := by decide +kernel
theorem dL_law_336 : decode code 336 = .ok (.iload 4, 2) := by decide +kernel
theorem dL_law_338 : decode code 338 = .ok (.iconst 5, 1) := by decide +kernel
theorem dL_law_339 : decode code 339 = .ok (.iadd, 1) := by decide +kernel
theorem dL_law_340 : decode code 340 = .ok (.iaload, 1) := by decide +kernel
theorem dL_law_341 : decode code 341 = .ok (.aload_n 0, 1) := by decide +kernel
theorem dL_law_342 : decode code 342 = .ok (.iload 4, 2) := by decide +kernel
theorem dL_law_344 : decode code 344 = .ok (.bipush 6, 2) := by decide +kernel
theorem dL_law_346 : decode code 346 = .ok (.iadd, 1) := by decide +kernel
theorem dL_law_347 : decode code 347 = .ok (.iaload, 1) := by decide +kernel
theorem dL_law_348 : decode code 348 = .ok (.aload_n 0, 1) := by decide +kernel
theorem dL_law_349 : decode code 349 = .ok (.iload 4, 2) := by decide +kernel
theorem dL_law_351 : decode code 351 = .ok (.bipush 7, 2) := by decide +kernel
theorem dL_law_353 : decode code 353 = .ok (.iadd, 1) := by decide +kernel
theorem dL_law_354 : decode code 354 = .ok (.iaload, 1) := by decide +kernel
theorem dL_law_355 : decode code 355 = .ok (.invokevirtual 46, 3) := by decide +kernel
theorem dL_law_358 : decode code 358 = .ok (.pop, 1) := by decide +kernel
theorem dL_law_359 : decode code 359 = .ok (.goto 197, 3) := by decide +kernel
theorem dL_law_362 : decode code 362 = .ok (.aload_n 1, 1) := by decide +kernel
theorem dL_law_363 : decode code 363 = .ok (.aload_n 0, 1) := by decide +kernel
theorem dL_law_364 : decode code 364 = .ok (.iload 4, 2) := by decide +kernel
theorem dL_law_366 : decode code 366 = .ok (.iconst 1, 1) := by decide +kernel
theorem dL_law_367 : decode code 367 = .ok (.iadd, 1) := by decide +kernel
theorem dL_law_368 : decode code 368 = .ok (.iaload, 1) := by decide +kernel
theorem dL_law_369 : decode code 369 = .ok (.aload_n 0, 1) := by decide +kernel
theorem dL_law_370 : decode code 370 = .ok (.iload 4, 2) := by decide +kernel
theorem dL_law_372 : decode code 372 = .ok (.iconst 2, 1) := by decide +kernel
theorem dL_law_373 : decode code 373 = .ok (.iadd, 1) := by decide +kernel
theorem dL_law_374 : decode code 374 = .ok (.iaload, 1) := by decide +kernel
theorem dL_law_375 : decode code 375 = .ok (.aload_n 0, 1) := by decide +kernel
theorem dL_law_376 : decode code 376 = .ok (.iload 4, 2) := by decide +kernel
theorem dL_law_378 : decode code 378 = .ok (.iconst 3, 1) := by decide +kernel
theorem dL_law_379 : decode code 379 = .ok (.iadd, 1) := by decide +kernel
theorem dL_law_380 : decode code 380 = .ok (.iaload, 1) := by decide +kernel
theorem dL_law_381 : decode code 381 = .ok (.aload_n 0, 1) := by decide +kernel
theorem dL_law_382 : decode code 382 = .ok (.iload 4, 2) := by decide +kernel
theorem dL_law_384 : decode code 384 = .ok (.iconst 4, 1) := by decide +kernel
theorem dL_law_385 : decode code 385 = .ok (.iadd, 1) := by decide +kernel
theorem dL_law_386 : decode code 386 = .ok (.iaload, 1) := by decide +kernel
theorem dL_law_387 : decode code 387 = .ok (.aload_n 0, 1) := by decide +kernel
theorem dL_law_388 : decode code 388 = .ok (.iload 4, 2) := by decide +kernel
theorem dL_law_390 : decode code 390 = .ok (.iconst 5, 1) := by decide +kernel
theorem dL_law_391 : decode code 391 = .ok (.iadd, 1) := by decide +kernel
theorem dL_law_392 : decode code 392 = .ok (.iaload, 1) := by decide +kernel
theorem dL_law_393 : decode code 393 = .ok (.aload_n 0, 1) := by decide +kernel
theorem dL_law_394 : decode code 394 = .ok (.iload 4, 2) := by decide +kernel
theorem dL_law_396 : decode code 396 = .ok (.bipush 6, 2) := by decide +kernel
theorem dL_law_398 : decode code 398 = .ok (.iadd, 1) := by decide +kernel
theorem dL_law_399 : decode code 399 = .ok (.iaload, 1) := by decide +kernel

end
section
theorem dL_law_400 : decode code 400 = .ok (.invokevirtual 47, 3) := by decide +kernel
theorem dL_law_403 : decode code 403 = .ok (.pop, 1) := by decide +kernel
theorem dL_law_404 : decode code 404 = .ok (.aload_n 2, 1) := by decide +kernel
theorem dL_law_405 : decode code 405 = .ok (.aload_n 0, 1) := by decide +kernel
theorem dL_law_406 : decode code 406 = .ok (.iload 4, 2) := by decide +kernel
theorem dL_law_408 : decode code 408 = .ok (.iconst 1, 1) := by decide +kernel
theorem dL_law_409 : decode code 409 = .ok (.iadd, 1) := by decide +kernel
theorem dL_law_410 : decode code 410 = .ok (.iaload, 1) := by decide +kernel
theorem dL_law_411 : decode code 411 = .ok (.aload_n 0, 1) := by decide +kernel
theorem dL_law_412 : decode code 412 = .ok (.iload 4, 2) := by decide +kernel
theorem dL_law_414 : decode code 414 = .ok (.iconst 2, 1) := by decide +kernel
theorem dL_law_415 : decode code 415 = .ok (.iadd, 1) := by decide +kernel
theorem dL_law_416 : decode code 416 = .ok (.iaload, 1) := by decide +kernel
theorem dL_law_417 : decode code 417 = .ok (.aload_n 0, 1) := by decide +kernel
theorem dL_law_418 : decode code 418 = .ok (.iload 4, 2) := by decide +kernel
theorem dL_law_420 : decode code 420 = .ok (.iconst 3, 1) := by decide +kernel
theorem dL_law_421 : decode code 421 = .ok (.iadd, 1) := by decide +kernel
theorem dL_law_422 : decode code 422 = .ok (.iaload, 1) := by decide +kernel
theorem dL_law_423 : decode code 423 = .ok (.aload_n 0, 1) := by decide +kernel
theorem dL_law_424 : decode code 424 = .ok (.iload 4, 2) := by decide +kernel
theorem dL_law_426 : decode code 426 = .ok (.iconst 4, 1) := by decide +kernel
theorem dL_law_427 : decode code 427 = .ok (.iadd, 1) := by decide +kernel
theorem dL_law_428 : decode code 428 = .ok (.iaload, 1) := by decide +kernel
theorem dL_law_429 : decode code 429 = .ok (.aload_n 0, 1) := by decide +kernel
theorem dL_law_430 : decode code 430 = .ok (.iload 4, 2) := by decide +kernel
theorem dL_law_432 : decode code 432 = .ok (.iconst 5, 1) := by decide +kernel
theorem dL_law_433 : decode code 433 = .ok (.iadd, 1) := by decide +kernel
theorem dL_law_434 : decode code 434 = .ok (.iaload, 1) := by decide +kernel
theorem dL_law_435 : decode code 435 = .ok (.aload_n 0, 1) := by decide +kernel
theorem dL_law_436 : decode code 436 = .ok (.iload 4, 2) := by decide +kernel
theorem dL_law_438 : decode code 438 = .ok (.bipush 6, 2) := by decide +kernel
theorem dL_law_440 : decode code 440 = .ok (.iadd, 1) := by decide +kernel
theorem dL_law_441 : decode code 441 = .ok (.iaload, 1) := by decide +kernel
theorem dL_law_442 : decode code 442 = .ok (.invokevirtual 51, 3) := by decide +kernel
theorem dL_law_445 : decode code 445 = .ok (.pop, 1) := by decide +kernel
theorem dL_law_446 : decode code 446 = .ok (.goto 110, 3) := by decide +kernel
theorem dL_law_449 : decode code 449 = .ok (.aload_n 1, 1) := by decide +kernel
theorem dL_law_450 : decode code 450 = .ok (.aload_n 0, 1) := by decide +kernel
theorem dL_law_451 : decode code 451 = .ok (.iload 4, 2) := by decide +kernel
theorem dL_law_453 : decode code 453 = .ok (.iconst 1, 1) := by decide +kernel
theorem dL_law_454 : decode code 454 = .ok (.iadd, 1) := by decide +kernel
theorem dL_law_455 : decode code 455 = .ok (.iaload, 1) := by decide +kernel
theorem dL_law_456 : decode code 456 = .ok (.ifCond .eq 7, 3) := by decide +kernel
theorem dL_law_459 : decode code 459 = .ok (.iconst 1, 1) := by decide +kernel
theorem dL_law_460 : decode code 460 = .ok (.goto 4, 3) := by decide +kernel
theorem dL_law_463 : decode code 463 = .ok (.iconst 0, 1) := by decide +kernel
theorem dL_law_464 : decode code 464 = .ok (.invokevirtual 52, 3) := by decide +kernel
theorem dL_law_467 : decode code 467 = .ok (.pop, 1) := by decide +kernel
theorem dL_law_468 : decode code 468 = .ok (.aload_n 2, 1) := by decide +kernel
theorem dL_law_469 : decode code 469 = .ok (.aload_n 0, 1) := by decide +kernel
theorem dL_law_470 : decode code 470 = .ok (.iload 4, 2) := by decide +kernel
theorem dL_law_472 : decode code 472 = .ok (.iconst 1, 1) := by decide +kernel
theorem dL_law_473 : decode code 473 = .ok (.iadd, 1) := by decide +kernel
theorem dL_law_474 : decode code 474 = .ok (.iaload, 1) := by decide +kernel
theorem dL_law_475 : decode code 475 = .ok (.ifCond .eq 7, 3) := by decide +kernel
theorem dL_law_478 : decode code 478 = .ok (.iconst 1, 1) := by decide +kernel
theorem dL_law_479 : decode code 479 = .ok (.goto 4, 3) := by decide +kernel
theorem dL_law_482 : decode code 482 = .ok (.iconst 0, 1) := by decide +kernel
theorem dL_law_483 : decode code 483 = .ok (.invokevirtual 56, 3) := by decide +kernel
theorem dL_law_486 : decode code 486 = .ok (.pop, 1) := by decide +kernel
theorem dL_law_487 : decode code 487 = .ok (.goto 69, 3) := by decide +kernel
theorem dL_law_490 : decode code 490 = .ok (.aload_n 1, 1) := by decide +kernel
theorem dL_law_491 : decode code 491 = .ok (.aload_n 0, 1) := by decide +kernel
theorem dL_law_492 : decode code 492 = .ok (.iload 4, 2) := by decide +kernel
theorem dL_law_494 : decode code 494 = .ok (.iconst 1, 1) := by decide +kernel
theorem dL_law_495 : decode code 495 = .ok (.iadd, 1) := by decide +kernel
theorem dL_law_496 : decode code 496 = .ok (.iaload, 1) := by decide +kernel
theorem dL_law_497 : decode code 497 = .ok (.aload_n 3, 1) := by decide +kernel
theorem dL_law_498 : decode code 498 = .ok (.invokestatic 57, 3) := by decide +kernel
theorem dL_law_501 : decode code 501 = .ok (.istore 5, 2) := by decide +kernel
theorem dL_law_503 : decode code 503 = .ok (.aload_n 2, 1) := by decide +kernel
theorem dL_law_504 : decode code 504 = .ok (.aload_n 0, 1) := by decide +kernel
theorem dL_law_505 : decode code 505 = .ok (.iload 4, 2) := by decide +kernel
theorem dL_law_507 : decode code 507 = .ok (.iconst 1, 1) := by decide +kernel
theorem dL_law_508 : decode code 508 = .ok (.iadd, 1) := by decide +kernel
theorem dL_law_509 : decode code 509 = .ok (.iaload, 1) := by decide +kernel
theorem dL_law_510 : decode code 510 = .ok (.invokevirtual 62, 3) := by decide +kernel
theorem dL_law_513 : decode code 513 = .ok (.istore 6, 2) := by decide +kernel
theorem dL_law_515 : decode code 515 = .ok (.goto 41, 3) := by decide +kernel
theorem dL_law_518 : decode code 518 = .ok (.aload_n 1, 1) := by decide +kernel
theorem dL_law_519 : decode code 519 = .ok (.invokevirtual 63, 3) := by decide +kernel
theorem dL_law_522 : decode code 522 = .ok (.pop, 1) := by decide +kernel
theorem dL_law_523 : decode code 523 = .ok (.aload_n 2, 1) := by decide +kernel
theorem dL_law_524 : decode code 524 = .ok (.invokevirtual 66, 3) := by decide +kernel
theorem dL_law_527 : decode code 527 = .ok (.pop, 1) := by decide +kernel
theorem dL_law_528 : decode code 528 = .ok (.goto 28, 3) := by decide +kernel
theorem dL_law_531 : decode code 531 = .ok (.aload_n 1, 1) := by decide +kernel
theorem dL_law_532 : decode code 532 = .ok (.aload_n 0, 1) := by decide +kernel
theorem dL_law_533 : decode code 533 = .ok (.iload 4, 2) := by decide +kernel
theorem dL_law_535 : decode code 535 = .ok (.iconst 1, 1) := by decide +kernel
theorem dL_law_536 : decode code 536 = .ok (.iadd, 1) := by decide +kernel
theorem dL_law_537 : decode code 537 = .ok (.iaload, 1) := by decide +kernel
theorem dL_law_538 : decode code 538 = .ok (.invokevirtual 67, 3) := by decide +kernel
theorem dL_law_541 : decode code 541 = .ok (.pop, 1) := by decide +kernel
theorem dL_law_542 : decode code 542 = .ok (.aload_n 2, 1) := by decide +kernel
theorem dL_law_543 : decode code 543 = .ok (.aload_n 0, 1) := by decide +kernel
theorem dL_law_544 : decode code 544 = .ok (.iload 4, 2) := by decide +kernel
theorem dL_law_546 : decode code 546 = .ok (.iconst 1, 1) := by decide +kernel
theorem dL_law_547 : decode code 547 = .ok (.iadd, 1) := by decide +kernel
theorem dL_law_548 : decode code 548 = .ok (.iaload, 1) := by decide +kernel
theorem dL_law_549 : decode code 549 = .ok (.invokevirtual 70, 3) := by decide +kernel
theorem dL_law_552 : decode code 552 = .ok (.pop, 1) := by decide +kernel
theorem dL_law_553 : decode code 553 = .ok (.goto 3, 3) := by decide +kernel
theorem dL_law_556 : decode code 556 = .ok (.iinc 4 8, 3) := by decide +kernel
theorem dL_law_559 : decode code 559 = .ok (.goto (-536), 3) := by decide +kernel
theorem dL_law_562 : decode code 562 = .ok (.iconst 1, 1) := by decide +kernel
theorem dL_law_563 : decode code 563 = .ok (.ireturn, 1) := by decide +kernel

end
section
theorem law_ad {i y : Int32} {k : Int} (hy : y.toInt = k) (hk : 0 ≤ k) (hk8 : k ≤ 8) (h0 : 0 ≤ i.toInt) (h1 : i.toInt ≤ 4104) : (i + y).toInt = i.toInt + k := zi_addc hy (by omega) (by omega)
theorem law_ix {i x : Int32} {L : Nat} {k : Int} (h : x.toInt = i.toInt + k) (hk : 0 ≤ k) (hk8 : k < 8) (h0 : 0 ≤ i.toInt) (hl : i.toInt + 8 ≤ (L : Int)) : vp_in x L := vp_in_iff.mpr ⟨by omega, by omega⟩
theorem law_rc {ce kc zt zv ex : Nat} {i : Int} (h : (ce : Int) ≤ 200 + i + zG zt + zG zv) (h1 : kc = 0) (hi : i ≤ 4104) (hz : 64 ≤ zt ∧ zt ≤ 240400 ∧ 64 ≤ zv ∧ zv ≤ 1202200) (hex : ex ≤ 2) : (ce + kc) + (ex + (8000 - zG zt) + (40000 - zG zv)) ≤ 601024 := by
  have h2 := zG_le (z := zt)
  have h3 := zG_le (z := zv)
  obtain ⟨-, h4, -, h5⟩ := hz
  generalize zG zt = a at *
  generalize zG zv = b at *
  omega
theorem law_rs {sl kn zt zv ex : Nat} {i : Int} (h : (sl : Int) ≤ 260000 + 3 * i + 4 * zt + 2 * zv) (h1 : kn = 0) (hi : i ≤ 4104) (hz : 64 ≤ zt ∧ zt ≤ 240400 ∧ 64 ≤ zv ∧ zv ≤ 1202200) (hex : ex ≤ 13) : (sl + kn) + (ex + (1000000 - 4 * zt) + (2500000 - 2 * zv)) ≤ 7293034 := by
  obtain ⟨-, h4, -, h5⟩ := hz
  omega
theorem law_hm {i x : Int} {n L : Nat} (h : (4105 - i).toNat ≤ n + 1) (hx : x = i + 8) (h0 : 0 ≤ i) (hl : i + 8 ≤ (L : Int)) (hL : L ≤ 4096) : (4105 - x).toNat ≤ n ∧ 0 ≤ x ∧ x ≤ 4104 := by omega
theorem law_gb {i x gb gb2 : Int} (h : gb ≤ 250 * i) (hx : x = i + 8) (h2 : gb2 ≤ gb + 2000) : gb2 ≤ 250 * x := by omega
theorem law_ce {ce kc k9 a b a2 b2 ex : Nat} {i : Int} (h : (ce : Int) ≤ 200 + i + a + b) (h1 : kc = 0) (h2 : k9 + (a + b) ≤ a2 + b2 + ex) (hex : ex ≤ 2) : ((ce + kc + k9 : Nat) : Int) ≤ 200 + (i + 8) + a2 + b2 := by omega
theorem law_sl {sl kn k9 a b a2 b2 ex : Nat} {i : Int} (h : (sl : Int) ≤ 260000 + 3 * i + 4 * a + 2 * b) (h1 : kn = 0) (h2 : k9 + (4 * a + 2 * b) ≤ 4 * a2 + 2 * b2 + ex) (hex : ex ≤ 13) : ((sl + kn + k9 : Nat) : Int) ≤ 260000 + 3 * (i + 8) + 4 * a2 + 2 * b2 := by omega
theorem zIC_hd {x : Nat} {ws : va_W} {tys : List (ClassId × FieldType)} {fed : Int32} {ou : Nat} {gt : Nat → Int32} {gO : Option (sp_S × sp_F)} {gb : Int} {gD : Int} (h : zIC x ws tys fed ou gt gO gb gD) : ∃ fs, ws[0]? = some (x, .inr (11, fs)) := by
  obtain ⟨_, _, _, _, _, _, rfl, -⟩ := h
  exact ⟨_, rfl⟩
theorem zIM_hd {x : Nat} {ws : va_W} {tys : List (ClassId × FieldType)} {ta : Int32} {zt zv : Nat} {gt : Nat → Int32} {gO : Option (sp_S × sp_F)} {gD : Int} (h : zIM x ws tys ta zt zv gt gO gD) : ∃ fs, ws[0]? = some (x, .inr (14, fs)) := by
  obtain ⟨_, _, _, _, _, _, rfl, -⟩ := h
  exact ⟨_, rfl⟩
theorem zIM_sz {x : Nat} {ws : va_W} {tys : List (ClassId × FieldType)} {ta : Int32} {zt zv : Nat} {gt : Nat → Int32} {gO : Option (sp_S × sp_F)} {gD : Int} (h : zIM x ws tys ta zt zv gt gO gD) : 64 ≤ zt ∧ zt ≤ 240400 ∧ 64 ≤ zv ∧ zv ≤ 1202200 := by
  obtain ⟨_, _, _, _, _, _, -, -, -, -, -, -, -, -, h, -⟩ := h
  exact h
theorem law_fd {g g2 h2 : Nat → Int32} {fed ta fed2 ta2 r1 r2 a1 a2 a3 a4 a5 : Int32} (e : fed.toInt = ta.toInt) (h1 : fd_r r1 g g2 (Int32.toNatClampNeg fed) a1 a2 a3 a4 a5) (h3 : fd_r r2 g h2 (Int32.toNatClampNeg ta) a1 a2 a3 a4 a5) (f0 : 0 ≤ fed.toInt) (f1 : fed.toInt + 20 ≤ 2000 ∧ fed2.toInt = fed.toInt + 20 ∧ r1.toInt = fed2.toInt ∨ 2000 < fed.toInt + 20 ∧ fed2.toInt = fed.toInt ∧ r1.toInt = -1) (f2 : ta.toInt + 20 ≤ 2000 ∧ ta2.toInt = ta.toInt + 20 ∧ r2.toInt = ta2.toInt ∨ 2000 < ta.toInt + 20 ∧ ta2.toInt = ta.toInt ∧ r2.toInt = -1) : h2 = g2 := by
  have e2 : fed = ta := Int32.toInt_inj.mp e
  subst e2
  rcases h1 with ⟨u1, u2⟩ | ⟨u1, u2⟩
  · rcases h3 with ⟨v1, v2⟩ | ⟨v1, v2⟩
    · rw [u2, v2]
    · exfalso; omega
  · rcases h3 with ⟨v1, v2⟩ | ⟨v1, v2⟩
    · exfalso; omega
    · funext k; rw [u2 k, v2 k]
theorem law_pa {g : Nat → Int32} {nn fed r : Int32} {w : Int} {o2 : Option (sp_S × sp_F)} (h : pg_an g nn fed r (fun s F => o2 = some (s, F)) w) : ∃ (T P : Nat → Int32) (V : Nat → Int64) (z : Int32) (E : Nat → Nat) (kw : Nat → Int64) (kf : Nat → Int32) (fw : Nat → Int64) (G : Nat → Tm), (0 ≤ nn.toInt → nn.toInt ≤ fed.toInt → 0 ≤ nn.toInt ∧ 0 ≤ z.toInt ∧ z.toInt ≤ 2000 ∧ (T (Int32.toNatClampNeg z)).toInt = 256 ∧ (P (Int32.toNatClampNeg z)).toInt = nn.toInt ∧ lx_to g nn.toInt T P V (Int32.toNatClampNeg z) nn.toInt.toNat E) ∧ pg_r1 T P V kw kf fw G nn fed r w ∧ (0 ≤ r.toInt → o2 = sp_pg T P V (0, 0, kw, kf, []) (0, fw, (fun _ => 0), G)) := by
  rcases h with ⟨u1, u2, u3⟩ | ⟨⟨u1, u2⟩, T, P, V, z, kw, kf, fw, G, ⟨z0, z1, z2, zp, E, z3⟩, u4⟩
  · exact ⟨fun _ => 0, fun _ => 0, fun _ => 0, 0, fun _ => 0, fun _ => 0, fun _ => 0, fun _ => 0, fun _ => Tm.nil, fun h1 h2 => by exfalso; omega, Or.inl ⟨u1, u2, u3⟩, fun h1 => by exfalso; omega⟩
  · refine ⟨T, P, V, z, E, kw, kf, fw, G, fun _ _ => ⟨u1, z0, z1, z2, zp, z3⟩, Or.inr ⟨⟨u1, u2⟩, ?_⟩, ?_⟩
    · rcases u4 with ⟨v1, v0, s, F, v2, v3, -⟩ | ⟨v1, v2⟩
      · exact Or.inl ⟨v1, v0, (s, F), v2, v3⟩
      · exact Or.inr ⟨v1, v2⟩
    · intro h0
      rcases u4 with ⟨v1, v0, s, F, v2, v3, v4⟩ | ⟨v1, v2⟩
      · rw [v4, v2]
      · exfalso; omega
theorem law_pe {T P : Nat → Int32} {V kw : Nat → Int64} {kf : Nat → Int32} {fw : Nat → Int64} {G : Nat → Tm} {nn n2 fed ta r r2 : Int32} {w w2 : Int} (h : pg_r1 T P V kw kf fw G nn fed r w) (h2 : pg_r1 T P V kw kf fw G n2 ta r2 w2) (e : n2 = nn) (e2 : fed.toInt = ta.toInt) : r.toInt = r2.toInt ∧ w = w2 ∧ (r.toInt = -1 ∨ 0 ≤ r.toInt) := by
  subst e
  rcases h with ⟨u1, u2, u3⟩ | ⟨u1, u2⟩
  · rcases h2 with ⟨v1, v2, v3⟩ | ⟨v1, v2⟩
    · omega
    · exfalso; omega
  · rcases h2 with ⟨v1, v2, v3⟩ | ⟨v1, v2⟩
    · exfalso; omega
    · rcases u2 with ⟨a, a0, q, b, b2⟩ | ⟨a, b, b0⟩ <;> rcases v2 with ⟨c, c0, q', d, d2⟩ | ⟨c, d, d0⟩
      · have e3 := Option.some.inj (b.symm.trans d)
        subst e3
        have n1 := zn_nat a
        have n2 := zn_nat c
        omega
      · rw [b] at d; cases d
      · rw [b] at d; cases d
      · exact ⟨by omega, pf_pg_1 b0 d0, by omega⟩
theorem law_pg {T P : Nat → Int32} {V kw : Nat → Int64} {kf : Nat → Int32} {fw : Nat → Int64} {G : Nat → Tm} {nn n2 fed ta r r2 : Int32} {w w2 : Int} {o oC oM q : Option (sp_S × sp_F)} (h : pg_r1 T P V kw kf fw G nn fed r w) (h2 : pg_r1 T P V kw kf fw G n2 ta r2 w2) (e : n2 = nn) (e2 : fed.toInt = ta.toInt) (hC1 : r.toInt = -1 → oC = o) (hC2 : 0 ≤ r.toInt → oC = q) (hM : (r2.toInt = -1 → oM = o) ∧ (0 ≤ r2.toInt → oM = q)) : oM = oC := by
  obtain ⟨h3, -, h4 | h4⟩ := law_pe h h2 e e2
  · rw [hC1 h4, hM.1 (by omega)]
  · rw [hC2 h4, hM.2 (by omega)]
theorem zIC_fe {x : Nat} {ws : va_W} {tys : List (ClassId × FieldType)} {fed : Int32} {ou : Nat} {gt : Nat → Int32} {gO : Option (sp_S × sp_F)} {gb : Int} {gD : Int} (h : zIC x ws tys fed ou gt gO gb gD) : 0 ≤ fed.toInt := by
  obtain ⟨_, _, _, _, _, _, -, -, h, -⟩ := h
  exact h.1

set_option maxHeartbeats 40000000 in
set_option maxRecDepth 100000 in
theorem law_c0 {p : Program} {e : Env} {s : State} {m : MethodId} {below : List Frame} {meth : Method} {c : Code} (l : Launch) (hlt : l.stackTraces = false) {b L : Nat} {xs : Nat → Int32} (hL : L ≤ 4096) (hx : p.tables.exec = Jvm.exec) (hb : c.code = code) (hr : meth.sig.returnType = ret) (hml : c.maxLocals = 7) (hown : s.vm.findClass RL = some m.cls) (hA : ∀ w ∈ zw, w.before #[Value.ref b] s = true) (hX : va_X b L xs s s.heap) (hbl : b < s.heap.size) (hlocks : meth.locks = false) {A : Nat → Prop} (hAd : A = (fun q : Nat => s.heap.size ≤ q)) (hAA : ∀ q : Nat, s.heap.size ≤ q → A q) (hbA : ¬ A b) {dC : Nat → ClassId} {dI : Nat → Nat → Nat} {aK aV : Nat → Nat} (hN : zN s) (hT : zT aK aV A s s.heap) (x y ou : Nat) (n9 : Nat) (ih : ∀ (i : Int32) (wC : va_W) (tC : List (ClassId × FieldType)) (fed : Int32) (wM : va_W) (tM : List (ClassId × FieldType)) (ta : Int32) (zt zv : Nat) (gt : Nat → Int32) (gO : Option (sp_S × sp_F)) (gb : Int) (gD : Int) (H : Heap) (locs : List Loc) (ls : Array Slot) (cells slots : Nat), (4105 - i.toInt).toNat ≤ n9 → 0 ≤ i.toInt → i.toInt ≤ 4104 → zIC x wC tC fed ou gt gO gb gD → zIM y wM tM ta zt zv gt gO gD → fed.toInt = ta.toInt → va_P (dC, dI) vwCl (wC ++ wM) H → va_D A (wC ++ wM) → va_K (dC, dI) vwCl (tC ++ tM) s → va_S A s.heap H locs → lv_has ls 7 [(0, .ref b), (1, .ref x), (2, .ref y), (3, .ref ou), (4, .int i)] → (cells : Int) ≤ 200 + i.toInt + zG zt + zG zv → (slots : Int) ≤ 260000 + 3 * i.toInt + 4 * zt + 2 * zv → gb ≤ 250 * i.toInt → W p l e room_1 s m #[Value.ref b] below meth c H locs cells slots (lw_Z below #[Value.ref b] s) (F0 m 23 ls [])) (i : Int32) (wC : va_W) (tC : List (ClassId × FieldType)) (fed : Int32) (wM : va_W) (tM : List (ClassId × FieldType)) (ta : Int32) (zt zv : Nat) (gt : Nat → Int32) (gO : Option (sp_S × sp_F)) (gb : Int) (gD : Int) (H : Heap) (locs : List Loc) (ls : Array Slot) (cells slots : Nat) (hm9 : (4105 - i.toInt).toNat ≤ n9 + 1) (hi0 : 0 ≤ i.toInt) (hi1 : i.toInt ≤ 4104) (hIC : zIC x wC tC fed ou gt gO gb gD) (hIM : zIM y wM tM ta zt zv gt gO gD) (hft : fed.toInt = ta.toInt) (hP : va_P (dC, dI) vwCl (wC ++ wM) H) (hD : va_D A (wC ++ wM)) (hK : va_K (dC, dI) vwCl (tC ++ tM) s) (hS : va_S A s.heap H locs) (hl : lv_has ls 7 [(0, .ref b), (1, .ref x), (2, .ref y), (3, .ref ou), (4, .int i)]) (hce : (cells : Int) ≤ 200 + i.toInt + zG zt + zG zv) (hsl : (slots : Int) ≤ 260000 + 3 * i.toInt + 4 * zt + 2 * zv) (hgb : gb ≤ 250 * i.toInt) (hil : i.toInt + 8 ≤ (L : Int)) : W p l e room_1 s m #[Value.ref b] below meth c H locs cells slots (lw_Z below #[Value.ref b] s) (F0 m 100 ls []) := by
  have hsz9 := zIM_sz hIM
  have hg1 := zG_le (z := zt)
  have hg2 := zG_le (z := zv)
  have hm : (4105 - i.toInt).toNat ≤ n9 + 1 := hm9
  refine lv_aload_n hx hb dL_law_100 rfl (lv_at hl 1 rfl) ?_
  refine lv_aload_n hx hb dL_law_101 rfl (lv_at hl 0 rfl) ?_
  refine lv_iload hx hb dL_law_102 (lv_at hl 4 rfl) ?_
  refine lv_iconst (v := 1) hx hb dL_law_104 (by decide) ?_
  refine lv_iadd hx hb dL_law_105 ?_
  refine lv_topi (fun x_1 ex_1 => ?_)
  have ix_1 : x_1.toInt = i.toInt + 1 := by rw [ex_1]; exact law_ad (by decide) (by decide) (by decide) hi0 hi1
  refine va_sld hx hb hX hbl hbA hS (law_ix ix_1 (by decide) (by decide) hi0 hil) dL_law_106 ?_
  refine lv_topi (fun x_2 ex_2 => ?_)
  refine lv_aload_n hx hb dL_law_107 rfl (lv_at hl 0 rfl) ?_
  refine lv_iload hx hb dL_law_108 (lv_at hl 4 rfl) ?_
  refine lv_iconst (v := 2) hx hb dL_law_110 (by decide) ?_
  refine lv_iadd hx hb dL_law_111 ?_
  refine lv_topi (fun x_3 ex_3 => ?_)
  have ix_3 : x_3.toInt = i.toInt + 2 := by rw [ex_3]; exact law_ad (by decide) (by decide) (by decide) hi0 hi1
  refine va_sld hx hb hX hbl hbA hS (law_ix ix_3 (by decide) (by decide) hi0 hil) dL_law_112 ?_
  refine lv_topi (fun x_4 ex_4 => ?_)
  refine lv_aload_n hx hb dL_law_113 rfl (lv_at hl 0 rfl) ?_
  refine lv_iload hx hb dL_law_114 (lv_at hl 4 rfl) ?_
  refine lv_iconst (v := 3) hx hb dL_law_116 (by decide) ?_
  refine lv_iadd hx hb dL_law_117 ?_
  refine lv_topi (fun x_5 ex_5 => ?_)
  have ix_5 : x_5.toInt = i.toInt + 3 := by rw [ex_5]; exact law_ad (by decide) (by decide) (by decide) hi0 hi1
  refine va_sld hx hb hX hbl hbA hS (law_ix ix_5 (by decide) (by decide) hi0 hil) dL_law_118 ?_
  refine lv_topi (fun x_6 ex_6 => ?_)
  refine lv_aload_n hx hb dL_law_119 rfl (lv_at hl 0 rfl) ?_
  refine lv_iload hx hb dL_law_120 (lv_at hl 4 rfl) ?_
  refine lv_iconst (v := 4) hx hb dL_law_122 (by decide) ?_
  refine lv_iadd hx hb dL_law_123 ?_
  refine lv_topi (fun x_7 ex_7 => ?_)
  have ix_7 : x_7.toInt = i.toInt + 4 := by rw [ex_7]; exact law_ad (by decide) (by decide) (by decide) hi0 hi1
  refine va_sld hx hb hX hbl hbA hS (law_ix ix_7 (by decide) (by decide) hi0 hil) dL_law_124 ?_
  refine lv_topi (fun x_8 ex_8 => ?_)
  refine lv_aload_n hx hb dL_law_125 rfl (lv_at hl 0 rfl) ?_
  refine lv_iload hx hb dL_law_126 (lv_at hl 4 rfl) ?_
  refine lv_iconst (v := 5) hx hb dL_law_128 (by decide) ?_
  refine lv_iadd hx hb dL_law_129 ?_
  refine lv_topi (fun x_9 ex_9 => ?_)
  have ix_9 : x_9.toInt = i.toInt + 5 := by rw [ex_9]; exact law_ad (by decide) (by decide) (by decide) hi0 hi1
  refine va_sld hx hb hX hbl hbA hS (law_ix ix_9 (by decide) (by decide) hi0 hil) dL_law_130 ?_
  refine lv_topi (fun x_10 ex_10 => ?_)
  have hPc := fr_Pl hP
  have hDc := fr_Dl hD
  have hKc := fr_Kl hK
  have hFc := fr_Fl hD hS hAA
  obtain ⟨fs_11, hfs_11⟩ := zIC_hd hIC
  refine vw_calli (vw_runV (As := [.int x_2, .int x_4, .int x_6, .int x_8, .int x_10]) (rest := []) ⟨hx, hb, hml, hown, hA⟩ (w_X11_feed l dC dI aK aV x wC tC fed ou gt gO gb gD x_2 x_4 x_6 x_8 x_10 H.size hlt hIC) (cwV 5 hA (zw_V wi_636 wi_637 wi_638 wi_130 (zw_good wi_639)) rfl rfl rfl (by decide +kernel) ⟨(Nat.le_of_ble_eq_true rfl), (Nat.le_of_ble_eq_true rfl)⟩) ⟨zP_blind, va_recv hKc hPc (ci := 11) (q0 := 0) rfl hfs_11, zz_pre hKc hPc hDc hN hT hS hFc⟩ rfl rfl hl.1 rfl (lv_room (Nat.le_of_ble_eq_true rfl)) dL_law_131 ⟨by show cells + 0 ≤ 601024; omega, by show slots + 0 ≤ 7293034; omega⟩) hS (fun q _ h => hFc q h) hFc (fun q _ h => hFc q h) (fun kc9 kn9 E9 ce9 u t H1 locs ht hvm hw hB hz1 hk1 hS hcell hcv hcl => absurd hw id) (fun kc_13 kn_14 r_12 u t H1 locs ht hvm hw hB hz1 hk1 hS => ?_)
  obtain ⟨w_15, t_16, z_17, z_18, z_19, z_20, z_21, z_22⟩ := u
  try dsimp only at hw hB
  obtain ⟨hI_23, hq_24, hq_25, hq_26, hq_27, hq_28, hq_29, hq_30⟩ := hw
  rw [hq_26, hq_28, hq_29, hq_30] at hI_23
  skip
  have hq_25a := hq_25.1
  have hq_25b := hq_25.2
  obtain ⟨hP1, hK1, hD1⟩ := hB
  rw [ht] at hP1
  have hK1 := va_K.moved hvm.symm hK1
  obtain ⟨hP, hD⟩ := fr_apart hP hD hk1 hFc hP1 hD1
  have hK := (fr_Kr hK).app hK1
  clear hPc hDc hKc hFc hP1 hD1 hK1 hk1 hz1 ht hvm
  generalize H1 = H at hP hS ⊢
  refine lv_pop hx hb dL_law_134 rfl ?_
  refine lv_aload_n hx hb dL_law_135 rfl (lv_at hl 2 rfl) ?_
  refine lv_aload_n hx hb dL_law_136 rfl (lv_at hl 0 rfl) ?_
  refine lv_iload hx hb dL_law_137 (lv_at hl 4 rfl) ?_
  refine lv_iconst (v := 1) hx hb dL_law_139 (by decide) ?_
  refine lv_iadd hx hb dL_law_140 ?_
  refine lv_topi (fun x_32 ex_32 => ?_)
  have ix_32 : x_32.toInt = i.toInt + 1 := by rw [ex_32]; exact law_ad (by decide) (by decide) (by decide) hi0 hi1
  refine va_sld hx hb hX hbl hbA hS (law_ix ix_32 (by decide) (by decide) hi0 hil) dL_law_141 ?_
  refine lv_topi (fun x_33 ex_33 => ?_)
  refine lv_aload_n hx hb dL_law_142 rfl (lv_at hl 0 rfl) ?_
  refine lv_iload hx hb dL_law_143 (lv_at hl 4 rfl) ?_
  refine lv_iconst (v := 2) hx hb dL_law_145 (by decide) ?_
  refine lv_iadd hx hb dL_law_146 ?_
  refine lv_topi (fun x_34 ex_34 => ?_)
  have ix_34 : x_34.toInt = i.toInt + 2 := by rw [ex_34]; exact law_ad (by decide) (by decide) (by decide) hi0 hi1
  refine va_sld hx hb hX hbl hbA hS (law_ix ix_34 (by decide) (by decide) hi0 hil) dL_law_147 ?_
  refine lv_topi (fun x_35 ex_35 => ?_)
  refine lv_aload_n hx hb dL_law_148 rfl (lv_at hl 0 rfl) ?_
  refine lv_iload hx hb dL_law_149 (lv_at hl 4 rfl) ?_
  refine lv_iconst (v := 3) hx hb dL_law_151 (by decide) ?_
  refine lv_iadd hx hb dL_law_152 ?_
  refine lv_topi (fun x_36 ex_36 => ?_)
  have ix_36 : x_36.toInt = i.toInt + 3 := by rw [ex_36]; exact law_ad (by decide) (by decide) (by decide) hi0 hi1
  refine va_sld hx hb hX hbl hbA hS (law_ix ix_36 (by decide) (by decide) hi0 hil) dL_law_153 ?_
  refine lv_topi (fun x_37 ex_37 => ?_)
  refine lv_aload_n hx hb dL_law_154 rfl (lv_at hl 0 rfl) ?_
  refine lv_iload hx hb dL_law_155 (lv_at hl 4 rfl) ?_
  refine lv_iconst (v := 4) hx hb dL_law_157 (by decide) ?_
  refine lv_iadd hx hb dL_law_158 ?_
  refine lv_topi (fun x_38 ex_38 => ?_)
  have ix_38 : x_38.toInt = i.toInt + 4 := by rw [ex_38]; exact law_ad (by decide) (by decide) (by decide) hi0 hi1
  refine va_sld hx hb hX hbl hbA hS (law_ix ix_38 (by decide) (by decide) hi0 hil) dL_law_159 ?_
  refine lv_topi (fun x_39 ex_39 => ?_)
  refine lv_aload_n hx hb dL_law_160 rfl (lv_at hl 0 rfl) ?_
  refine lv_iload hx hb dL_law_161 (lv_at hl 4 rfl) ?_
  refine lv_iconst (v := 5) hx hb dL_law_163 (by decide) ?_
  refine lv_iadd hx hb dL_law_164 ?_
  refine lv_topi (fun x_40 ex_40 => ?_)
  have ix_40 : x_40.toInt = i.toInt + 5 := by rw [ex_40]; exact law_ad (by decide) (by decide) (by decide) hi0 hi1
  refine va_sld hx hb hX hbl hbA hS (law_ix ix_40 (by decide) (by decide) hi0 hil) dL_law_165 ?_
  refine lv_topi (fun x_41 ex_41 => ?_)
  have hPc := fr_Pl hP
  have hDc := fr_Dl hD
  have hKc := fr_Kl hK
  have hFc := fr_Fl hD hS hAA
  obtain ⟨fs_42, hfs_42⟩ := zIM_hd hIM
  refine vw_calli (vw_runV (As := [.int x_33, .int x_35, .int x_37, .int x_39, .int x_41]) (rest := []) ⟨hx, hb, hml, hown, hA⟩ (w_X14_feed l dC dI aK aV y wM tM ta zt zv gt gO gD x_33 x_35 x_37 x_39 x_41 H.size hlt hIM) (cwV 5 hA (zw_V wi_1687 wi_1688 wi_1689 wi_143 (zw_good wi_1690)) rfl rfl rfl (by decide +kernel) ⟨(Nat.le_of_ble_eq_true rfl), (Nat.le_of_ble_eq_true rfl)⟩) ⟨zP_blind, va_recv hKc hPc (ci := 14) (q0 := 0) rfl hfs_42, zz_pre hKc hPc hDc hN hT hS hFc⟩ rfl rfl hl.1 rfl (lv_room (Nat.le_of_ble_eq_true rfl)) dL_law_166 ⟨by show (cells + kc_13) + 0 ≤ 601024; omega, by show (slots + kn_14) + 0 ≤ 7293034; omega⟩) hS (fun q _ h => hFc q h) hFc (fun q _ h => hFc q h) (fun kc9 kn9 E9 ce9 u t H1 locs ht hvm hw hB hz1 hk1 hS hcell hcv hcl => absurd hw id) (fun kc_44 kn_45 r_43 u t H1 locs ht hvm hw hB hz1 hk1 hS => ?_)
  obtain ⟨w_46, t_47, z_48, z_49, z_50, z_51, z_52, z_53⟩ := u
  try dsimp only at hw hB
  obtain ⟨hI_54, hq_55, hq_56, hq_57, hq_58, hq_59, hq_60, hq_61⟩ := hw
  rw [hq_56, hq_57, hq_60, hq_61] at hI_54
  have hb_63 : x_33 = x_2 := by rw [ex_33, ex_2, ex_32, ex_1]
  have hb_64 : x_35 = x_4 := by rw [ex_35, ex_4, ex_34, ex_3]
  have hb_65 : x_37 = x_6 := by rw [ex_37, ex_6, ex_36, ex_5]
  have hb_66 : x_39 = x_8 := by rw [ex_39, ex_8, ex_38, ex_7]
  have hb_67 : x_41 = x_10 := by rw [ex_41, ex_10, ex_40, ex_9]
  rw [hb_63, hb_64, hb_65, hb_66, hb_67] at hq_59
  have hgg := law_fd hft hq_27 hq_59 (zIC_fe hIC) hq_24 hq_55
  rw [hgg] at hI_54
  skip
  have hq_58a := hq_58.1
  have hq_58b := hq_58.2
  obtain ⟨hP1, hK1, hD1⟩ := hB
  rw [ht] at hP1
  have hK1 := va_K.moved hvm.symm hK1
  obtain ⟨hP, hD⟩ := fr_apart hP hD hk1 hFc hP1 hD1
  have hK := (fr_Kr hK).app hK1
  clear hPc hDc hKc hFc hP1 hD1 hK1 hk1 hz1 ht hvm
  generalize H1 = H at hP hS ⊢
  refine lv_pop hx hb dL_law_169 rfl ?_
  refine lv_goto (tgt := 556) hx hb dL_law_170 (by decide) ?_
  obtain ⟨x_68, ex_68⟩ : ∃ y : Int32, y = i + Int32.ofInt 8 := ⟨_, rfl⟩
  refine lv_iinc (v := x_68) (lv' := [(4, .int x_68), (0, .ref b), (1, .ref x), (2, .ref y), (3, .ref ou)]) hx hb dL_law_556 hl (k := 4) rfl (by rw [ex_68]) (by decide) rfl (fun ls hl => ?_)
  have ix_68 : x_68.toInt = i.toInt + 8 := by rw [ex_68]; exact law_ad (by decide) (by decide) (by decide) hi0 hi1
  refine lv_goto (tgt := 23) hx hb dL_law_559 (by decide) ?_
  have hsz9 := zIM_sz hI_54
  exact ih x_68 w_15 t_16 z_17 w_46 t_47 z_48 zt zv z_19 gO gb gD _ _ _ _ _ (by omega) (by omega) (by omega) hI_23 hI_54 (by omega) hP hD hK hS (lv_sub hl [1, 2, 3, 4, 0] rfl) (by omega) (by omega) (law_gb hgb ix_68 (Int.le_add_of_nonneg_right (by decide)))
set_option maxHeartbeats 40000000 in
set_option maxRecDepth 100000 in
theorem law_c1 {p : Program} {e : Env} {s : State} {m : MethodId} {below : List Frame} {meth : Method} {c : Code} (l : Launch) (hlt : l.stackTraces = false) {b L : Nat} {xs : Nat → Int32} (hL : L ≤ 4096) (hx : p.tables.exec = Jvm.exec) (hb : c.code = code) (hr : meth.sig.returnType = ret) (hml : c.maxLocals = 7) (hown : s.vm.findClass RL = some m.cls) (hA : ∀ w ∈ zw, w.before #[Value.ref b] s = true) (hX : va_X b L xs s s.heap) (hbl : b < s.heap.size) (hlocks : meth.locks = false) {A : Nat → Prop} (hAd : A = (fun q : Nat => s.heap.size ≤ q)) (hAA : ∀ q : Nat, s.heap.size ≤ q → A q) (hbA : ¬ A b) {dC : Nat → ClassId} {dI : Nat → Nat → Nat} {aK aV : Nat → Nat} (hN : zN s) (hT : zT aK aV A s s.heap) (x y ou : Nat) (n9 : Nat) (ih : ∀ (i : Int32) (wC : va_W) (tC : List (ClassId × FieldType)) (fed : Int32) (wM : va_W) (tM : List (ClassId × FieldType)) (ta : Int32) (zt zv : Nat) (gt : Nat → Int32) (gO : Option (sp_S × sp_F)) (gb : Int) (gD : Int) (H : Heap) (locs : List Loc) (ls : Array Slot) (cells slots : Nat), (4105 - i.toInt).toNat ≤ n9 → 0 ≤ i.toInt → i.toInt ≤ 4104 → zIC x wC tC fed ou gt gO gb gD → zIM y wM tM ta zt zv gt gO gD → fed.toInt = ta.toInt → va_P (dC, dI) vwCl (wC ++ wM) H → va_D A (wC ++ wM) → va_K (dC, dI) vwCl (tC ++ tM) s → va_S A s.heap H locs → lv_has ls 7 [(0, .ref b), (1, .ref x), (2, .ref y), (3, .ref ou), (4, .int i)] → (cells : Int) ≤ 200 + i.toInt + zG zt + zG zv → (slots : Int) ≤ 260000 + 3 * i.toInt + 4 * zt + 2 * zv → gb ≤ 250 * i.toInt → W p l e room_1 s m #[Value.ref b] below meth c H locs cells slots (lw_Z below #[Value.ref b] s) (F0 m 23 ls [])) (i : Int32) (wC : va_W) (tC : List (ClassId × FieldType)) (fed : Int32) (wM : va_W) (tM : List (ClassId × FieldType)) (ta : Int32) (zt zv : Nat) (gt : Nat → Int32) (gO : Option (sp_S × sp_F)) (gb : Int) (gD : Int) (H : Heap) (locs : List Loc) (ls : Array Slot) (cells slots : Nat) (hm9 : (4105 - i.toInt).toNat ≤ n9 + 1) (hi0 : 0 ≤ i.toInt) (hi1 : i.toInt ≤ 4104) (hIC : zIC x wC tC fed ou gt gO gb gD) (hIM : zIM y wM tM ta zt zv gt gO gD) (hft : fed.toInt = ta.toInt) (hP : va_P (dC, dI) vwCl (wC ++ wM) H) (hD : va_D A (wC ++ wM)) (hK : va_K (dC, dI) vwCl (tC ++ tM) s) (hS : va_S A s.heap H locs) (hl : lv_has ls 7 [(0, .ref b), (1, .ref x), (2, .ref y), (3, .ref ou), (4, .int i)]) (hce : (cells : Int) ≤ 200 + i.toInt + zG zt + zG zv) (hsl : (slots : Int) ≤ 260000 + 3 * i.toInt + 4 * zt + 2 * zv) (hgb : gb ≤ 250 * i.toInt) (hil : i.toInt + 8 ≤ (L : Int)) : W p l e room_1 s m #[Value.ref b] below meth c H locs cells slots (lw_Z below #[Value.ref b] s) (F0 m 173 ls []) := by
  have hsz9 := zIM_sz hIM
  have hg1 := zG_le (z := zt)
  have hg2 := zG_le (z := zv)
  have hm : (4105 - i.toInt).toNat ≤ n9 + 1 := hm9
  refine lv_aload_n hx hb dL_law_173 rfl (lv_at hl 1 rfl) ?_
  refine lv_aload_n hx hb dL_law_174 rfl (lv_at hl 0 rfl) ?_
  refine lv_iload hx hb dL_law_175 (lv_at hl 4 rfl) ?_
  refine lv_iconst (v := 1) hx hb dL_law_177 (by decide) ?_
  refine lv_iadd hx hb dL_law_178 ?_
  refine lv_topi (fun x_1 ex_1 => ?_)
  have ix_1 : x_1.toInt = i.toInt + 1 := by rw [ex_1]; exact law_ad (by decide) (by decide) (by decide) hi0 hi1
  refine va_sld hx hb hX hbl hbA hS (law_ix ix_1 (by decide) (by decide) hi0 hil) dL_law_179 ?_
  refine lv_topi (fun x_2 ex_2 => ?_)
  have hPc := fr_Pl hP
  have hDc := fr_Dl hD
  have hKc := fr_Kl hK
  have hFc := fr_Fl hD hS hAA
  obtain ⟨fs_3, hfs_3⟩ := zIC_hd hIC
  refine vw_calli (vw_runV (As := [.int x_2]) (rest := []) ⟨hx, hb, hml, hown, hA⟩ (w_X11_program l dC dI aK aV x wC tC fed ou gt gO gb gD x_2 H.size hlt hIC (by omega)) (cwV 1 hA (zw_V wi_644 wi_645 wi_646 wi_130 (zw_good wi_647)) rfl rfl rfl (by decide +kernel) ⟨(Nat.le_of_ble_eq_true rfl), (Nat.le_of_ble_eq_true rfl)⟩) ⟨zP_blind, va_recv hKc hPc (ci := 11) (q0 := 0) rfl hfs_3, zz_pre hKc hPc hDc hN hT hS hFc⟩ rfl rfl hl.1 rfl (lv_room (Nat.le_of_ble_eq_true rfl)) dL_law_180 ⟨by show cells + 1 ≤ 601024; omega, by show slots + 6 ≤ 7293034; omega⟩) hS (fun q _ h => hFc q h) hFc (fun q _ h => hFc q h) (fun kc9 kn9 E9 ce9 u t H1 locs ht hvm hw hB hz1 hk1 hS hcell hcv hcl => absurd hw id) (fun kc_5 kn_6 r_4 u t H1 locs ht hvm hw hB hz1 hk1 hS => ?_)
  obtain ⟨w_7, t_8, z_9, z_10, z_11, z_12, z_13, z_14⟩ := u
  try dsimp only at hw hB
  obtain ⟨hI_15, hq_16, hq_17, hq_18, hq_19, hq_20, hq_21⟩ := hw
  rw [hq_18, hq_19, hq_20] at hI_15
  obtain ⟨hpan9, hoC9⟩ := hq_21
  obtain ⟨pT, pP, pV, pz, pE, pkw, pkf, pfw, pG, hal9, hpr9, hoD9⟩ := law_pa hpan9
  skip
  have hq_17a := hq_17.1
  have hq_17b := hq_17.2
  obtain ⟨hP1, hK1, hD1⟩ := hB
  rw [ht] at hP1
  have hK1 := va_K.moved hvm.symm hK1
  obtain ⟨hP, hD⟩ := fr_apart hP hD hk1 hFc hP1 hD1
  have hK := (fr_Kr hK).app hK1
  clear hPc hDc hKc hFc hP1 hD1 hK1 hk1 hz1 ht hvm
  generalize H1 = H at hP hS ⊢
  refine lv_pop hx hb dL_law_183 rfl ?_
  refine lv_aload_n hx hb dL_law_184 rfl (lv_at hl 2 rfl) ?_
  refine lv_aload_n hx hb dL_law_185 rfl (lv_at hl 0 rfl) ?_
  refine lv_iload hx hb dL_law_186 (lv_at hl 4 rfl) ?_
  refine lv_iconst (v := 1) hx hb dL_law_188 (by decide) ?_
  refine lv_iadd hx hb dL_law_189 ?_
  refine lv_topi (fun x_24 ex_24 => ?_)
  have ix_24 : x_24.toInt = i.toInt + 1 := by rw [ex_24]; exact law_ad (by decide) (by decide) (by decide) hi0 hi1
  refine va_sld hx hb hX hbl hbA hS (law_ix ix_24 (by decide) (by decide) hi0 hil) dL_law_190 ?_
  refine lv_topi (fun x_25 ex_25 => ?_)
  have hnn9 : x_25 = x_2 := by rw [ex_25, ex_2, ex_24, ex_1]
  have hnn8 := congrArg Int32.toInt hnn9
  have hPc := fr_Pl hP
  have hDc := fr_Dl hD
  have hKc := fr_Kl hK
  have hFc := fr_Fl hD hS hAA
  obtain ⟨fs_26, hfs_26⟩ := zIM_hd hIM
  refine vw_calli (vw_runVX (As := [.int x_25]) (rest := []) ⟨hx, hb, hml, hown, hA⟩ (w_X14_program l dC dI aK aV y wM tM ta zt zv gt gO gD x_25 H.size hlt hIM pT pP pV pz pE pkw pkf pfw pG (by rw [hnn9]; exact fun h1 h2 => hal9 h1 (by rw [hft]; exact h2))) (vx_cwVW 1 hA (zw_V wi_1691 wi_1692 wi_1693 wi_143 (zw_good wi_1694)) rfl rfl rfl (by decide +kernel) ⟨(Nat.le_of_ble_eq_true rfl), (Nat.le_of_ble_eq_true rfl)⟩) ⟨zP_blind, va_recv hKc hPc (ci := 14) (q0 := 0) rfl hfs_26, zz_pre hKc hPc hDc hN hT hS hFc⟩ rfl rfl hl.1 rfl (lv_room (Nat.le_of_ble_eq_true rfl)) dL_law_191 ⟨by show (cells + kc_5) + 0 ≤ 601024; omega, by show (slots + kn_6) + 0 ≤ 7293034; omega⟩) hS (fun q _ h => hFc q h) hFc (fun q _ h => hFc q h) (fun kc9 kn9 E9 ce9 u t H1 locs ht hvm hw hB hz1 hk1 hS hcell hcv hcl => absurd hw id) (fun kc_28 kn_29 r_27 u t H1 locs ht hvm hw hB hz1 hk1 hS => ?_)
  obtain ⟨w_30, t_31, z_32, z_33, z_34, z_35, z_36, z_37⟩ := u
  try dsimp only at hw hB
  obtain ⟨hI_38, hq_39, hq_40, hq_41, hq_42, hq_43, hq_44, hq_45⟩ := hw
  rw [hq_40, hq_41, hq_43] at hI_38
  have hgo9 := law_pg hpr9 hq_44 hnn9 hft hoC9 hoD9 hq_45
  rw [hgo9] at hI_38
  have hgd9 := (law_pe hpr9 hq_44 hnn9 hft).2.1
  rw [← hgd9] at hI_38
  skip
  have hq_42a := hq_42.1
  have hq_42b := hq_42.2
  obtain ⟨hP1, hK1, hD1⟩ := hB
  rw [ht] at hP1
  have hK1 := va_K.moved hvm.symm hK1
  obtain ⟨hP, hD⟩ := fr_apart hP hD hk1 hFc hP1 hD1
  have hK := (fr_Kr hK).app hK1
  clear hPc hDc hKc hFc hP1 hD1 hK1 hk1 hz1 ht hvm
  generalize H1 = H at hP hS ⊢
  refine lv_pop hx hb dL_law_194 rfl ?_
  refine lv_goto (tgt := 556) hx hb dL_law_195 (by decide) ?_
  obtain ⟨x_47, ex_47⟩ : ∃ y : Int32, y = i + Int32.ofInt 8 := ⟨_, rfl⟩
  refine lv_iinc (v := x_47) (lv' := [(4, .int x_47), (0, .ref b), (1, .ref x), (2, .ref y), (3, .ref ou)]) hx hb dL_law_556 hl (k := 4) rfl (by rw [ex_47]) (by decide) rfl (fun ls hl => ?_)
  have ix_47 : x_47.toInt = i.toInt + 8 := by rw [ex_47]; exact law_ad (by decide) (by decide) (by decide) hi0 hi1
  refine lv_goto (tgt := 23) hx hb dL_law_559 (by decide) ?_
  have hsz9 := zIM_sz hI_38
  exact ih x_47 w_7 t_8 z_9 w_30 t_31 z_32 zt zv gt z_12 (gb + 2000) z_14 _ _ _ _ _ (by omega) (by omega) (by omega) hI_15 hI_38 (by omega) hP hD hK hS (lv_sub hl [1, 2, 3, 4, 0] rfl) (by omega) (by omega) (law_gb hgb ix_47 (Int.le_refl _))
set_option maxHeartbeats 40000000 in
set_option maxRecDepth 100000 in
theorem law_c2 {p : Program} {e : Env} {s : State} {m : MethodId} {below : List Frame} {meth : Method} {c : Code} (l : Launch) (hlt : l.stackTraces = false) {b L : Nat} {xs : Nat → Int32} (hL : L ≤ 4096) (hx : p.tables.exec = Jvm.exec) (hb : c.code = code) (hr : meth.sig.returnType = ret) (hml : c.maxLocals = 7) (hown : s.vm.findClass RL = some m.cls) (hA : ∀ w ∈ zw, w.before #[Value.ref b] s = true) (hX : va_X b L xs s s.heap) (hbl : b < s.heap.size) (hlocks : meth.locks = false) {A : Nat → Prop} (hAd : A = (fun q : Nat => s.heap.size ≤ q)) (hAA : ∀ q : Nat, s.heap.size ≤ q → A q) (hbA : ¬ A b) {dC : Nat → ClassId} {dI : Nat → Nat → Nat} {aK aV : Nat → Nat} (hN : zN s) (hT : zT aK aV A s s.heap) (x y ou : Nat) (n9 : Nat) (ih : ∀ (i : Int32) (wC : va_W) (tC : List (ClassId × FieldType)) (fed : Int32) (wM : va_W) (tM : List (ClassId × FieldType)) (ta : Int32) (zt zv : Nat) (gt : Nat → Int32) (gO : Option (sp_S × sp_F)) (gb : Int) (gD : Int) (H : Heap) (locs : List Loc) (ls : Array Slot) (cells slots : Nat), (4105 - i.toInt).toNat ≤ n9 → 0 ≤ i.toInt → i.toInt ≤ 4104 → zIC x wC tC fed ou gt gO gb gD → zIM y wM tM ta zt zv gt gO gD → fed.toInt = ta.toInt → va_P (dC, dI) vwCl (wC ++ wM) H → va_D A (wC ++ wM) → va_K (dC, dI) vwCl (tC ++ tM) s → va_S A s.heap H locs → lv_has ls 7 [(0, .ref b), (1, .ref x), (2, .ref y), (3, .ref ou), (4, .int i)] → (cells : Int) ≤ 200 + i.toInt + zG zt + zG zv → (slots : Int) ≤ 260000 + 3 * i.toInt + 4 * zt + 2 * zv → gb ≤ 250 * i.toInt → W p l e room_1 s m #[Value.ref b] below meth c H locs cells slots (lw_Z below #[Value.ref b] s) (F0 m 23 ls [])) (i : Int32) (wC : va_W) (tC : List (ClassId × FieldType)) (fed : Int32) (wM : va_W) (tM : List (ClassId × FieldType)) (ta : Int32) (zt zv : Nat) (gt : Nat → Int32) (gO : Option (sp_S × sp_F)) (gb : Int) (gD : Int) (H : Heap) (locs : List Loc) (ls : Array Slot) (cells slots : Nat) (hm9 : (4105 - i.toInt).toNat ≤ n9 + 1) (hi0 : 0 ≤ i.toInt) (hi1 : i.toInt ≤ 4104) (hIC : zIC x wC tC fed ou gt gO gb gD) (hIM : zIM y wM tM ta zt zv gt gO gD) (hft : fed.toInt = ta.toInt) (hP : va_P (dC, dI) vwCl (wC ++ wM) H) (hD : va_D A (wC ++ wM)) (hK : va_K (dC, dI) vwCl (tC ++ tM) s) (hS : va_S A s.heap H locs) (hl : lv_has ls 7 [(0, .ref b), (1, .ref x), (2, .ref y), (3, .ref ou), (4, .int i)]) (hce : (cells : Int) ≤ 200 + i.toInt + zG zt + zG zv) (hsl : (slots : Int) ≤ 260000 + 3 * i.toInt + 4 * zt + 2 * zv) (hgb : gb ≤ 250 * i.toInt) (hil : i.toInt + 8 ≤ (L : Int)) : W p l e room_1 s m #[Value.ref b] below meth c H locs cells slots (lw_Z below #[Value.ref b] s) (F0 m 198 ls []) := by
  have hsz9 := zIM_sz hIM
  have hg1 := zG_le (z := zt)
  have hg2 := zG_le (z := zv)
  have hm : (4105 - i.toInt).toNat ≤ n9 + 1 := hm9
  refine lv_aload_n hx hb dL_law_198 rfl (lv_at hl 1 rfl) ?_
  have hPc := fr_Pl hP
  have hDc := fr_Dl hD
  have hKc := fr_Kl hK
  have hFc := fr_Fl hD hS hAA
  obtain ⟨fs_1, hfs_1⟩ := zIC_hd hIC
  refine vw_calli (vw_runV (As := []) (rest := []) ⟨hx, hb, hml, hown, hA⟩ (w_X11_fault l dC dI aK aV x wC tC fed ou gt gO gb gD  H.size hlt hIC) (cwV 0 hA (zw_V wi_1066 wi_1067 wi_1068 wi_130 (zw_good wi_1069)) rfl rfl rfl (by decide +kernel) ⟨(Nat.le_of_ble_eq_true rfl), (Nat.le_of_ble_eq_true rfl)⟩) ⟨zP_blind, va_recv hKc hPc (ci := 11) (q0 := 0) rfl hfs_1, zz_pre hKc hPc hDc hN hT hS hFc⟩ rfl rfl hl.1 rfl (lv_room (Nat.le_of_ble_eq_true rfl)) dL_law_199 ⟨by show cells + 0 ≤ 601024; omega, by show slots + 0 ≤ 7293034; omega⟩) hS (fun q _ h => hFc q h) hFc (fun q _ h => hFc q h) (fun kc9 kn9 E9 ce9 u t H1 locs ht hvm hw hB hz1 hk1 hS hcell hcv hcl => absurd hw id) (fun kc_3 kn_4 r_2 u t H1 locs ht hvm hw hB hz1 hk1 hS => ?_)
  obtain ⟨w_5, t_6, z_7, z_8, z_9, z_10, z_11, z_12⟩ := u
  try dsimp only at hw hB
  obtain ⟨hI_13, hq_14, hq_15, hq_16, hq_17, hq_18, hq_19, hq_20⟩ := hw
  rw [hq_16, hq_17, hq_18, hq_19, hq_20] at hI_13
  skip
  have hq_15a := hq_15.1
  have hq_15b := hq_15.2
  rw [hq_14] at hI_13
  obtain ⟨hP1, hK1, hD1⟩ := hB
  rw [ht] at hP1
  have hK1 := va_K.moved hvm.symm hK1
  obtain ⟨hP, hD⟩ := fr_apart hP hD hk1 hFc hP1 hD1
  have hK := (fr_Kr hK).app hK1
  clear hPc hDc hKc hFc hP1 hD1 hK1 hk1 hz1 ht hvm
  generalize H1 = H at hP hS ⊢
  refine lv_pop hx hb dL_law_202 rfl ?_
  refine lv_aload_n hx hb dL_law_203 rfl (lv_at hl 2 rfl) ?_
  have hPc := fr_Pl hP
  have hDc := fr_Dl hD
  have hKc := fr_Kl hK
  have hFc := fr_Fl hD hS hAA
  obtain ⟨fs_22, hfs_22⟩ := zIM_hd hIM
  refine vw_calli (vw_runV (As := []) (rest := []) ⟨hx, hb, hml, hown, hA⟩ (w_X14_fault l dC dI aK aV y wM tM ta zt zv gt gO gD  H.size hlt hIM) (cwV 0 hA (zw_V wi_1861 wi_1862 wi_1863 wi_143 (zw_good wi_1864)) rfl rfl rfl (by decide +kernel) ⟨(Nat.le_of_ble_eq_true rfl), (Nat.le_of_ble_eq_true rfl)⟩) ⟨zP_blind, va_recv hKc hPc (ci := 14) (q0 := 0) rfl hfs_22, zz_pre hKc hPc hDc hN hT hS hFc⟩ rfl rfl hl.1 rfl (lv_room (Nat.le_of_ble_eq_true rfl)) dL_law_204 ⟨by show (cells + kc_3) + 0 ≤ 601024; omega, by show (slots + kn_4) + 0 ≤ 7293034; omega⟩) hS (fun q _ h => hFc q h) hFc (fun q _ h => hFc q h) (fun kc9 kn9 E9 ce9 u t H1 locs ht hvm hw hB hz1 hk1 hS hcell hcv hcl => absurd hw id) (fun kc_24 kn_25 r_23 u t H1 locs ht hvm hw hB hz1 hk1 hS => ?_)
  obtain ⟨w_26, t_27, z_28, z_29, z_30, z_31, z_32, z_33⟩ := u
  try dsimp only at hw hB
  obtain ⟨hI_34, hq_35, hq_36, hq_37, hq_38, hq_39, hq_40, hq_41⟩ := hw
  rw [hq_36, hq_37, hq_39, hq_40, hq_41] at hI_34
  skip
  have hq_38a := hq_38.1
  have hq_38b := hq_38.2
  rw [hq_35] at hI_34
  obtain ⟨hP1, hK1, hD1⟩ := hB
  rw [ht] at hP1
  have hK1 := va_K.moved hvm.symm hK1
  obtain ⟨hP, hD⟩ := fr_apart hP hD hk1 hFc hP1 hD1
  have hK := (fr_Kr hK).app hK1
  clear hPc hDc hKc hFc hP1 hD1 hK1 hk1 hz1 ht hvm
  generalize H1 = H at hP hS ⊢
  refine lv_pop hx hb dL_law_207 rfl ?_
  refine lv_goto (tgt := 556) hx hb dL_law_208 (by decide) ?_
  obtain ⟨x_43, ex_43⟩ : ∃ y : Int32, y = i + Int32.ofInt 8 := ⟨_, rfl⟩
  refine lv_iinc (v := x_43) (lv' := [(4, .int x_43), (0, .ref b), (1, .ref x), (2, .ref y), (3, .ref ou)]) hx hb dL_law_556 hl (k := 4) rfl (by rw [ex_43]) (by decide) rfl (fun ls hl => ?_)
  have ix_43 : x_43.toInt = i.toInt + 8 := by rw [ex_43]; exact law_ad (by decide) (by decide) (by decide) hi0 hi1
  refine lv_goto (tgt := 23) hx hb dL_law_559 (by decide) ?_
  have hsz9 := zIM_sz hI_34
  exact ih x_43 w_5 t_6 fed w_26 t_27 ta zt zv gt gO gb gD _ _ _ _ _ (by omega) (by omega) (by omega) hI_13 hI_34 (by omega) hP hD hK hS (lv_sub hl [1, 2, 3, 4, 0] rfl) (by omega) (by omega) (law_gb hgb ix_43 (Int.le_add_of_nonneg_right (by decide)))
set_option maxHeartbeats 40000000 in
set_option maxRecDepth 100000 in
theorem law_c3 {p : Program} {e : Env} {s : State} {m : MethodId} {below : List Frame} {meth : Method} {c : Code} (l : Launch) (hlt : l.stackTraces = false) {b L : Nat} {xs : Nat → Int32} (hL : L ≤ 4096) (hx : p.tables.exec = Jvm.exec) (hb : c.code = code) (hr : meth.sig.returnType = ret) (hml : c.maxLocals = 7) (hown : s.vm.findClass RL = some m.cls) (hA : ∀ w ∈ zw, w.before #[Value.ref b] s = true) (hX : va_X b L xs s s.heap) (hbl : b < s.heap.size) (hlocks : meth.locks = false) {A : Nat → Prop} (hAd : A = (fun q : Nat => s.heap.size ≤ q)) (hAA : ∀ q : Nat, s.heap.size ≤ q → A q) (hbA : ¬ A b) {dC : Nat → ClassId} {dI : Nat → Nat → Nat} {aK aV : Nat → Nat} (hN : zN s) (hT : zT aK aV A s s.heap) (x y ou : Nat) (n9 : Nat) (ih : ∀ (i : Int32) (wC : va_W) (tC : List (ClassId × FieldType)) (fed : Int32) (wM : va_W) (tM : List (ClassId × FieldType)) (ta : Int32) (zt zv : Nat) (gt : Nat → Int32) (gO : Option (sp_S × sp_F)) (gb : Int) (gD : Int) (H : Heap) (locs : List Loc) (ls : Array Slot) (cells slots : Nat), (4105 - i.toInt).toNat ≤ n9 → 0 ≤ i.toInt → i.toInt ≤ 4104 → zIC x wC tC fed ou gt gO gb gD → zIM y wM tM ta zt zv gt gO gD → fed.toInt = ta.toInt → va_P (dC, dI) vwCl (wC ++ wM) H → va_D A (wC ++ wM) → va_K (dC, dI) vwCl (tC ++ tM) s → va_S A s.heap H locs → lv_has ls 7 [(0, .ref b), (1, .ref x), (2, .ref y), (3, .ref ou), (4, .int i)] → (cells : Int) ≤ 200 + i.toInt + zG zt + zG zv → (slots : Int) ≤ 260000 + 3 * i.toInt + 4 * zt + 2 * zv → gb ≤ 250 * i.toInt → W p l e room_1 s m #[Value.ref b] below meth c H locs cells slots (lw_Z below #[Value.ref b] s) (F0 m 23 ls [])) (i : Int32) (wC : va_W) (tC : List (ClassId × FieldType)) (fed : Int32) (wM : va_W) (tM : List (ClassId × FieldType)) (ta : Int32) (zt zv : Nat) (gt : Nat → Int32) (gO : Option (sp_S × sp_F)) (gb : Int) (gD : Int) (H : Heap) (locs : List Loc) (ls : Array Slot) (cells slots : Nat) (hm9 : (4105 - i.toInt).toNat ≤ n9 + 1) (hi0 : 0 ≤ i.toInt) (hi1 : i.toInt ≤ 4104) (hIC : zIC x wC tC fed ou gt gO gb gD) (hIM : zIM y wM tM ta zt zv gt gO gD) (hft : fed.toInt = ta.toInt) (hP : va_P (dC, dI) vwCl (wC ++ wM) H) (hD : va_D A (wC ++ wM)) (hK : va_K (dC, dI) vwCl (tC ++ tM) s) (hS : va_S A s.heap H locs) (hl : lv_has ls 7 [(0, .ref b), (1, .ref x), (2, .ref y), (3, .ref ou), (4, .int i)]) (hce : (cells : Int) ≤ 200 + i.toInt + zG zt + zG zv) (hsl : (slots : Int) ≤ 260000 + 3 * i.toInt + 4 * zt + 2 * zv) (hgb : gb ≤ 250 * i.toInt) (hil : i.toInt + 8 ≤ (L : Int)) : W p l e room_1 s m #[Value.ref b] below meth c H locs cells slots (lw_Z below #[Value.ref b] s) (F0 m 211 ls []) := by
  have hsz9 := zIM_sz hIM
  have hg1 := zG_le (z := zt)
  have hg2 := zG_le (z := zv)
  have hm : (4105 - i.toInt).toNat ≤ n9 + 1 := hm9
  refine lv_aload_n hx hb dL_law_211 rfl (lv_at hl 1 rfl) ?_
  have hPc := fr_Pl hP
  have hDc := fr_Dl hD
  have hKc := fr_Kl hK
  have hFc := fr_Fl hD hS hAA
  obtain ⟨fs_1, hfs_1⟩ := zIC_hd hIC
  refine vw_calli (vw_runV (As := []) (rest := []) ⟨hx, hb, hml, hown, hA⟩ (w_X11_where l dC dI aK aV x wC tC fed ou gt gO gb gD  H.size hlt hIC) (cwV 0 hA (zw_V wi_1070 wi_1071 wi_1072 wi_130 (zw_good wi_1073)) rfl rfl rfl (by decide +kernel) ⟨(Nat.le_of_ble_eq_true rfl), (Nat.le_of_ble_eq_true rfl)⟩) ⟨zP_blind, va_recv hKc hPc (ci := 11) (q0 := 0) rfl hfs_1, zz_pre hKc hPc hDc hN hT hS hFc⟩ rfl rfl hl.1 rfl (lv_room (Nat.le_of_ble_eq_true rfl)) dL_law_212 ⟨by show cells + 0 ≤ 601024; omega, by show slots + 0 ≤ 7293034; omega⟩) hS (fun q _ h => hFc q h) hFc (fun q _ h => hFc q h) (fun kc9 kn9 E9 ce9 u t H1 locs ht hvm hw hB hz1 hk1 hS hcell hcv hcl => absurd hw id) (fun kc_3 kn_4 r_2 u t H1 locs ht hvm hw hB hz1 hk1 hS => ?_)
  obtain ⟨w_5, t_6, z_7, z_8, z_9, z_10, z_11, z_12⟩ := u
  try dsimp only at hw hB
  obtain ⟨hI_13, hq_14, hq_15, hq_16, hq_17, hq_18, hq_19, hq_20, hq_21⟩ := hw
  rw [hq_16, hq_17, hq_18, hq_19, hq_20] at hI_13
  skip
  have hq_15a := hq_15.1
  have hq_15b := hq_15.2
  rw [hq_14] at hI_13
  obtain ⟨hP1, hK1, hD1⟩ := hB
  rw [ht] at hP1
  have hK1 := va_K.moved hvm.symm hK1
  obtain ⟨hP, hD⟩ := fr_apart hP hD hk1 hFc hP1 hD1
  have hK := (fr_Kr hK).app hK1
  clear hPc hDc hKc hFc hP1 hD1 hK1 hk1 hz1 ht hvm
  generalize H1 = H at hP hS ⊢
  refine lv_aload_n hx hb dL_law_215 rfl (lv_at hl 2 rfl) ?_
  have hPc := fr_Pl hP
  have hDc := fr_Dl hD
  have hKc := fr_Kl hK
  have hFc := fr_Fl hD hS hAA
  obtain ⟨fs_22, hfs_22⟩ := zIM_hd hIM
  refine vw_calli (vw_runV (As := []) (rest := [.int r_2]) ⟨hx, hb, hml, hown, hA⟩ (w_X14_where l dC dI aK aV y wM tM ta zt zv gt gO gD  H.size hlt hIM) (cwV 0 hA (zw_V wi_1865 wi_1866 wi_1867 wi_143 (zw_good wi_1868)) rfl rfl rfl (by decide +kernel) ⟨(Nat.le_of_ble_eq_true rfl), (Nat.le_of_ble_eq_true rfl)⟩) ⟨zP_blind, va_recv hKc hPc (ci := 14) (q0 := 0) rfl hfs_22, zz_pre hKc hPc hDc hN hT hS hFc⟩ rfl rfl hl.1 rfl (lv_room (Nat.le_of_ble_eq_true rfl)) dL_law_216 ⟨by show (cells + kc_3) + 0 ≤ 601024; omega, by show (slots + kn_4) + 0 ≤ 7293034; omega⟩) hS (fun q _ h => hFc q h) hFc (fun q _ h => hFc q h) (fun kc9 kn9 E9 ce9 u t H1 locs ht hvm hw hB hz1 hk1 hS hcell hcv hcl => absurd hw id) (fun kc_24 kn_25 r_23 u t H1 locs ht hvm hw hB hz1 hk1 hS => ?_)
  obtain ⟨w_26, t_27, z_28, z_29, z_30, z_31, z_32, z_33⟩ := u
  try dsimp only at hw hB
  obtain ⟨hI_34, hq_35, hq_36, hq_37, hq_38, hq_39, hq_40, hq_41, hq_42⟩ := hw
  rw [hq_36, hq_37, hq_39, hq_40, hq_41] at hI_34
  have hrr : r_2.toInt = r_23.toInt := hq_21.trans hq_42.symm
  skip
  have hq_38a := hq_38.1
  have hq_38b := hq_38.2
  rw [hq_35] at hI_34
  obtain ⟨hP1, hK1, hD1⟩ := hB
  rw [ht] at hP1
  have hK1 := va_K.moved hvm.symm hK1
  obtain ⟨hP, hD⟩ := fr_apart hP hD hk1 hFc hP1 hD1
  have hK := (fr_Kr hK).app hK1
  clear hPc hDc hKc hFc hP1 hD1 hK1 hk1 hz1 ht hvm
  generalize H1 = H at hP hS ⊢
  refine lv_icmp_eq (tgt := 556) hx hb dL_law_219 (by decide) (fun c_43 => ?_) (fun c_43 => ?_)
  · have ic_43 : r_2.toInt = r_23.toInt := zi_eq c_43
    obtain ⟨x_44, ex_44⟩ : ∃ y : Int32, y = i + Int32.ofInt 8 := ⟨_, rfl⟩
    refine lv_iinc (v := x_44) (lv' := [(4, .int x_44), (0, .ref b), (1, .ref x), (2, .ref y), (3, .ref ou)]) hx hb dL_law_556 hl (k := 4) rfl (by rw [ex_44]) (by decide) rfl (fun ls hl => ?_)
    have ix_44 : x_44.toInt = i.toInt + 8 := by rw [ex_44]; exact law_ad (by decide) (by decide) (by decide) hi0 hi1
    refine lv_goto (tgt := 23) hx hb dL_law_559 (by decide) ?_
    have hsz9 := zIM_sz hI_34
    exact ih x_44 w_5 t_6 fed w_26 t_27 ta zt zv gt gO gb gD _ _ _ _ _ (by omega) (by omega) (by omega) hI_13 hI_34 (by omega) hP hD hK hS (lv_sub hl [1, 2, 3, 4, 0] rfl) (by omega) (by omega) (law_gb hgb ix_44 (Int.le_add_of_nonneg_right (by decide)))
  · have ic_43 : r_2.toInt ≠ r_23.toInt := zi_ne c_43
    exfalso
    omega
set_option maxHeartbeats 40000000 in
set_option maxRecDepth 100000 in
theorem law_c4 {p : Program} {e : Env} {s : State} {m : MethodId} {below : List Frame} {meth : Method} {c : Code} (l : Launch) (hlt : l.stackTraces = false) {b L : Nat} {xs : Nat → Int32} (hL : L ≤ 4096) (hx : p.tables.exec = Jvm.exec) (hb : c.code = code) (hr : meth.sig.returnType = ret) (hml : c.maxLocals = 7) (hown : s.vm.findClass RL = some m.cls) (hA : ∀ w ∈ zw, w.before #[Value.ref b] s = true) (hX : va_X b L xs s s.heap) (hbl : b < s.heap.size) (hlocks : meth.locks = false) {A : Nat → Prop} (hAd : A = (fun q : Nat => s.heap.size ≤ q)) (hAA : ∀ q : Nat, s.heap.size ≤ q → A q) (hbA : ¬ A b) {dC : Nat → ClassId} {dI : Nat → Nat → Nat} {aK aV : Nat → Nat} (hN : zN s) (hT : zT aK aV A s s.heap) (x y ou : Nat) (n9 : Nat) (ih : ∀ (i : Int32) (wC : va_W) (tC : List (ClassId × FieldType)) (fed : Int32) (wM : va_W) (tM : List (ClassId × FieldType)) (ta : Int32) (zt zv : Nat) (gt : Nat → Int32) (gO : Option (sp_S × sp_F)) (gb : Int) (gD : Int) (H : Heap) (locs : List Loc) (ls : Array Slot) (cells slots : Nat), (4105 - i.toInt).toNat ≤ n9 → 0 ≤ i.toInt → i.toInt ≤ 4104 → zIC x wC tC fed ou gt gO gb gD → zIM y wM tM ta zt zv gt gO gD → fed.toInt = ta.toInt → va_P (dC, dI) vwCl (wC ++ wM) H → va_D A (wC ++ wM) → va_K (dC, dI) vwCl (tC ++ tM) s → va_S A s.heap H locs → lv_has ls 7 [(0, .ref b), (1, .ref x), (2, .ref y), (3, .ref ou), (4, .int i)] → (cells : Int) ≤ 200 + i.toInt + zG zt + zG zv → (slots : Int) ≤ 260000 + 3 * i.toInt + 4 * zt + 2 * zv → gb ≤ 250 * i.toInt → W p l e room_1 s m #[Value.ref b] below meth c H locs cells slots (lw_Z below #[Value.ref b] s) (F0 m 23 ls [])) (i : Int32) (wC : va_W) (tC : List (ClassId × FieldType)) (fed : Int32) (wM : va_W) (tM : List (ClassId × FieldType)) (ta : Int32) (zt zv : Nat) (gt : Nat → Int32) (gO : Option (sp_S × sp_F)) (gb : Int) (gD : Int) (H : Heap) (locs : List Loc) (ls : Array Slot) (cells slots : Nat) (hm9 : (4105 - i.toInt).toNat ≤ n9 + 1) (hi0 : 0 ≤ i.toInt) (hi1 : i.toInt ≤ 4104) (hIC : zIC x wC tC fed ou gt gO gb gD) (hIM : zIM y wM tM ta zt zv gt gO gD) (hft : fed.toInt = ta.toInt) (hP : va_P (dC, dI) vwCl (wC ++ wM) H) (hD : va_D A (wC ++ wM)) (hK : va_K (dC, dI) vwCl (tC ++ tM) s) (hS : va_S A s.heap H locs) (hl : lv_has ls 7 [(0, .ref b), (1, .ref x), (2, .ref y), (3, .ref ou), (4, .int i)]) (hce : (cells : Int) ≤ 200 + i.toInt + zG zt + zG zv) (hsl : (slots : Int) ≤ 260000 + 3 * i.toInt + 4 * zt + 2 * zv) (hgb : gb ≤ 250 * i.toInt) (hil : i.toInt + 8 ≤ (L : Int)) : W p l e room_1 s m #[Value.ref b] below meth c H locs cells slots (lw_Z below #[Value.ref b] s) (F0 m 224 ls []) := by
  have hsz9 := zIM_sz hIM
  have hg1 := zG_le (z := zt)
  have hg2 := zG_le (z := zv)
  have hm : (4105 - i.toInt).toNat ≤ n9 + 1 := hm9
  refine lv_aload_n hx hb dL_law_224 rfl (lv_at hl 1 rfl) ?_
  refine lv_aload_n hx hb dL_law_225 rfl (lv_at hl 0 rfl) ?_
  refine lv_iload hx hb dL_law_226 (lv_at hl 4 rfl) ?_
  refine lv_iconst (v := 1) hx hb dL_law_228 (by decide) ?_
  refine lv_iadd hx hb dL_law_229 ?_
  refine lv_topi (fun x_1 ex_1 => ?_)
  have ix_1 : x_1.toInt = i.toInt + 1 := by rw [ex_1]; exact law_ad (by decide) (by decide) (by decide) hi0 hi1
  refine va_sld hx hb hX hbl hbA hS (law_ix ix_1 (by decide) (by decide) hi0 hil) dL_law_230 ?_
  refine lv_topi (fun x_2 ex_2 => ?_)
  refine lv_aload_n hx hb dL_law_231 rfl (lv_at hl 0 rfl) ?_
  refine lv_iload hx hb dL_law_232 (lv_at hl 4 rfl) ?_
  refine lv_iconst (v := 2) hx hb dL_law_234 (by decide) ?_
  refine lv_iadd hx hb dL_law_235 ?_
  refine lv_topi (fun x_3 ex_3 => ?_)
  have ix_3 : x_3.toInt = i.toInt + 2 := by rw [ex_3]; exact law_ad (by decide) (by decide) (by decide) hi0 hi1
  refine va_sld hx hb hX hbl hbA hS (law_ix ix_3 (by decide) (by decide) hi0 hil) dL_law_236 ?_
  refine lv_topi (fun x_4 ex_4 => ?_)
  have hPc := fr_Pl hP
  have hDc := fr_Dl hD
  have hKc := fr_Kl hK
  have hFc := fr_Fl hD hS hAA
  obtain ⟨fs_5, hfs_5⟩ := zIC_hd hIC
  refine vw_calli (vw_runV (As := [.int x_2, .int x_4]) (rest := []) ⟨hx, hb, hml, hown, hA⟩ (w_X11_about l dC dI aK aV x wC tC fed ou gt gO gb gD x_2 x_4 H.size hlt hIC) (cwV 2 hA (zw_V wi_1074 wi_1075 wi_1076 wi_130 (zw_good wi_1077)) rfl rfl rfl (by decide +kernel) ⟨(Nat.le_of_ble_eq_true rfl), (Nat.le_of_ble_eq_true rfl)⟩) ⟨zP_blind, va_recv hKc hPc (ci := 11) (q0 := 0) rfl hfs_5, zz_pre hKc hPc hDc hN hT hS hFc⟩ rfl rfl hl.1 rfl (lv_room (Nat.le_of_ble_eq_true rfl)) dL_law_237 ⟨by show cells + 0 ≤ 601024; omega, by show slots + 0 ≤ 7293034; omega⟩) hS (fun q _ h => hFc q h) hFc (fun q _ h => hFc q h) (fun kc9 kn9 E9 ce9 u t H1 locs ht hvm hw hB hz1 hk1 hS hcell hcv hcl => absurd hw id) (fun kc_7 kn_8 r_6 u t H1 locs ht hvm hw hB hz1 hk1 hS => ?_)
  obtain ⟨w_9, t_10, z_11, z_12, z_13, z_14, z_15, z_16⟩ := u
  try dsimp only at hw hB
  obtain ⟨hI_17, hq_18, hq_19, hq_20, hq_21, hq_22, hq_23, hq_24, hq_25⟩ := hw
  rw [hq_20, hq_21, hq_22, hq_23, hq_24] at hI_17
  skip
  have hq_19a := hq_19.1
  have hq_19b := hq_19.2
  rw [hq_18] at hI_17
  obtain ⟨hP1, hK1, hD1⟩ := hB
  rw [ht] at hP1
  have hK1 := va_K.moved hvm.symm hK1
  obtain ⟨hP, hD⟩ := fr_apart hP hD hk1 hFc hP1 hD1
  have hK := (fr_Kr hK).app hK1
  clear hPc hDc hKc hFc hP1 hD1 hK1 hk1 hz1 ht hvm
  generalize H1 = H at hP hS ⊢
  refine lv_pop hx hb dL_law_240 rfl ?_
  refine lv_aload_n hx hb dL_law_241 rfl (lv_at hl 2 rfl) ?_
  refine lv_aload_n hx hb dL_law_242 rfl (lv_at hl 0 rfl) ?_
  refine lv_iload hx hb dL_law_243 (lv_at hl 4 rfl) ?_
  refine lv_iconst (v := 1) hx hb dL_law_245 (by decide) ?_
  refine lv_iadd hx hb dL_law_246 ?_
  refine lv_topi (fun x_26 ex_26 => ?_)
  have ix_26 : x_26.toInt = i.toInt + 1 := by rw [ex_26]; exact law_ad (by decide) (by decide) (by decide) hi0 hi1
  refine va_sld hx hb hX hbl hbA hS (law_ix ix_26 (by decide) (by decide) hi0 hil) dL_law_247 ?_
  refine lv_topi (fun x_27 ex_27 => ?_)
  refine lv_aload_n hx hb dL_law_248 rfl (lv_at hl 0 rfl) ?_
  refine lv_iload hx hb dL_law_249 (lv_at hl 4 rfl) ?_
  refine lv_iconst (v := 2) hx hb dL_law_251 (by decide) ?_
  refine lv_iadd hx hb dL_law_252 ?_
  refine lv_topi (fun x_28 ex_28 => ?_)
  have ix_28 : x_28.toInt = i.toInt + 2 := by rw [ex_28]; exact law_ad (by decide) (by decide) (by decide) hi0 hi1
  refine va_sld hx hb hX hbl hbA hS (law_ix ix_28 (by decide) (by decide) hi0 hil) dL_law_253 ?_
  refine lv_topi (fun x_29 ex_29 => ?_)
  have hPc := fr_Pl hP
  have hDc := fr_Dl hD
  have hKc := fr_Kl hK
  have hFc := fr_Fl hD hS hAA
  obtain ⟨fs_30, hfs_30⟩ := zIM_hd hIM
  refine vw_calli (vw_runV (As := [.int x_27, .int x_29]) (rest := []) ⟨hx, hb, hml, hown, hA⟩ (w_X14_about l dC dI aK aV y wM tM ta zt zv gt gO gD x_27 x_29 H.size hlt hIM) (cwV 2 hA (zw_V wi_1869 wi_1870 wi_1871 wi_143 (zw_good wi_1872)) rfl rfl rfl (by decide +kernel) ⟨(Nat.le_of_ble_eq_true rfl), (Nat.le_of_ble_eq_true rfl)⟩) ⟨zP_blind, va_recv hKc hPc (ci := 14) (q0 := 0) rfl hfs_30, zz_pre hKc hPc hDc hN hT hS hFc⟩ rfl rfl hl.1 rfl (lv_room (Nat.le_of_ble_eq_true rfl)) dL_law_254 ⟨by show (cells + kc_7) + 0 ≤ 601024; omega, by show (slots + kn_8) + 0 ≤ 7293034; omega⟩) hS (fun q _ h => hFc q h) hFc (fun q _ h => hFc q h) (fun kc9 kn9 E9 ce9 u t H1 locs ht hvm hw hB hz1 hk1 hS hcell hcv hcl => absurd hw id) (fun kc_32 kn_33 r_31 u t H1 locs ht hvm hw hB hz1 hk1 hS => ?_)
  obtain ⟨w_34, t_35, z_36, z_37, z_38, z_39, z_40, z_41⟩ := u
  try dsimp only at hw hB
  obtain ⟨hI_42, hq_43, hq_44, hq_45, hq_46, hq_47, hq_48, hq_49, hq_50⟩ := hw
  rw [hq_44, hq_45, hq_47, hq_48, hq_49] at hI_42
  have hb_51 : x_27 = x_2 := by rw [ex_27, ex_2, ex_26, ex_1]
  have hb_52 : x_29 = x_4 := by rw [ex_29, ex_4, ex_28, ex_3]
  rw [hb_51, hb_52] at hq_50
  have hrr : r_6.toInt = r_31.toInt := congrArg Int32.toInt (hq_25.trans hq_50.symm)
  skip
  have hq_46a := hq_46.1
  have hq_46b := hq_46.2
  rw [hq_43] at hI_42
  obtain ⟨hP1, hK1, hD1⟩ := hB
  rw [ht] at hP1
  have hK1 := va_K.moved hvm.symm hK1
  obtain ⟨hP, hD⟩ := fr_apart hP hD hk1 hFc hP1 hD1
  have hK := (fr_Kr hK).app hK1
  clear hPc hDc hKc hFc hP1 hD1 hK1 hk1 hz1 ht hvm
  generalize H1 = H at hP hS ⊢
  refine lv_pop hx hb dL_law_257 rfl ?_
  refine lv_goto (tgt := 556) hx hb dL_law_258 (by decide) ?_
  obtain ⟨x_53, ex_53⟩ : ∃ y : Int32, y = i + Int32.ofInt 8 := ⟨_, rfl⟩
  refine lv_iinc (v := x_53) (lv' := [(4, .int x_53), (0, .ref b), (1, .ref x), (2, .ref y), (3, .ref ou)]) hx hb dL_law_556 hl (k := 4) rfl (by rw [ex_53]) (by decide) rfl (fun ls hl => ?_)
  have ix_53 : x_53.toInt = i.toInt + 8 := by rw [ex_53]; exact law_ad (by decide) (by decide) (by decide) hi0 hi1
  refine lv_goto (tgt := 23) hx hb dL_law_559 (by decide) ?_
  have hsz9 := zIM_sz hI_42
  exact ih x_53 w_9 t_10 fed w_34 t_35 ta zt zv gt gO gb gD _ _ _ _ _ (by omega) (by omega) (by omega) hI_17 hI_42 (by omega) hP hD hK hS (lv_sub hl [1, 2, 3, 4, 0] rfl) (by omega) (by omega) (law_gb hgb ix_53 (Int.le_add_of_nonneg_right (by decide)))
set_option maxHeartbeats 40000000 in
set_option maxRecDepth 100000 in
theorem law_c5 {p : Program} {e : Env} {s : State} {m : MethodId} {below : List Frame} {meth : Method} {c : Code} (l : Launch) (hlt : l.stackTraces = false) {b L : Nat} {xs : Nat → Int32} (hL : L ≤ 4096) (hx : p.tables.exec = Jvm.exec) (hb : c.code = code) (hr : meth.sig.returnType = ret) (hml : c.maxLocals = 7) (hown : s.vm.findClass RL = some m.cls) (hA : ∀ w ∈ zw, w.before #[Value.ref b] s = true) (hX : va_X b L xs s s.heap) (hbl : b < s.heap.size) (hlocks : meth.locks = false) {A : Nat → Prop} (hAd : A = (fun q : Nat => s.heap.size ≤ q)) (hAA : ∀ q : Nat, s.heap.size ≤ q → A q) (hbA : ¬ A b) {dC : Nat → ClassId} {dI : Nat → Nat → Nat} {aK aV : Nat → Nat} (hN : zN s) (hT : zT aK aV A s s.heap) (x y ou : Nat) (n9 : Nat) (ih : ∀ (i : Int32) (wC : va_W) (tC : List (ClassId × FieldType)) (fed : Int32) (wM : va_W) (tM : List (ClassId × FieldType)) (ta : Int32) (zt zv : Nat) (gt : Nat → Int32) (gO : Option (sp_S × sp_F)) (gb : Int) (gD : Int) (H : Heap) (locs : List Loc) (ls : Array Slot) (cells slots : Nat), (4105 - i.toInt).toNat ≤ n9 → 0 ≤ i.toInt → i.toInt ≤ 4104 → zIC x wC tC fed ou gt gO gb gD → zIM y wM tM ta zt zv gt gO gD → fed.toInt = ta.toInt → va_P (dC, dI) vwCl (wC ++ wM) H → va_D A (wC ++ wM) → va_K (dC, dI) vwCl (tC ++ tM) s → va_S A s.heap H locs → lv_has ls 7 [(0, .ref b), (1, .ref x), (2, .ref y), (3, .ref ou), (4, .int i)] → (cells : Int) ≤ 200 + i.toInt + zG zt + zG zv → (slots : Int) ≤ 260000 + 3 * i.toInt + 4 * zt + 2 * zv → gb ≤ 250 * i.toInt → W p l e room_1 s m #[Value.ref b] below meth c H locs cells slots (lw_Z below #[Value.ref b] s) (F0 m 23 ls [])) (i : Int32) (wC : va_W) (tC : List (ClassId × FieldType)) (fed : Int32) (wM : va_W) (tM : List (ClassId × FieldType)) (ta : Int32) (zt zv : Nat) (gt : Nat → Int32) (gO : Option (sp_S × sp_F)) (gb : Int) (gD : Int) (H : Heap) (locs : List Loc) (ls : Array Slot) (cells slots : Nat) (hm9 : (4105 - i.toInt).toNat ≤ n9 + 1) (hi0 : 0 ≤ i.toInt) (hi1 : i.toInt ≤ 4104) (hIC : zIC x wC tC fed ou gt gO gb gD) (hIM : zIM y wM tM ta zt zv gt gO gD) (hft : fed.toInt = ta.toInt) (hP : va_P (dC, dI) vwCl (wC ++ wM) H) (hD : va_D A (wC ++ wM)) (hK : va_K (dC, dI) vwCl (tC ++ tM) s) (hS : va_S A s.heap H locs) (hl : lv_has ls 7 [(0, .ref b), (1, .ref x), (2, .ref y), (3, .ref ou), (4, .int i)]) (hce : (cells : Int) ≤ 200 + i.toInt + zG zt + zG zv) (hsl : (slots : Int) ≤ 260000 + 3 * i.toInt + 4 * zt + 2 * zv) (hgb : gb ≤ 250 * i.toInt) (hil : i.toInt + 8 ≤ (L : Int)) : W p l e room_1 s m #[Value.ref b] below meth c H locs cells slots (lw_Z below #[Value.ref b] s) (F0 m 261 ls []) := by
  have hsz9 := zIM_sz hIM
  have hg1 := zG_le (z := zt)
  have hg2 := zG_le (z := zv)
  have hm : (4105 - i.toInt).toNat ≤ n9 + 1 := hm9
  refine lv_aload_n hx hb dL_law_261 rfl (lv_at hl 1 rfl) ?_
  refine lv_aload_n hx hb dL_law_262 rfl (lv_at hl 0 rfl) ?_
  refine lv_iload hx hb dL_law_263 (lv_at hl 4 rfl) ?_
  refine lv_iconst (v := 1) hx hb dL_law_265 (by decide) ?_
  refine lv_iadd hx hb dL_law_266 ?_
  refine lv_topi (fun x_1 ex_1 => ?_)
  have ix_1 : x_1.toInt = i.toInt + 1 := by rw [ex_1]; exact law_ad (by decide) (by decide) (by decide) hi0 hi1
  refine va_sld hx hb hX hbl hbA hS (law_ix ix_1 (by decide) (by decide) hi0 hil) dL_law_267 ?_
  refine lv_topi (fun x_2 ex_2 => ?_)
  refine lv_aload_n hx hb dL_law_268 rfl (lv_at hl 0 rfl) ?_
  refine lv_iload hx hb dL_law_269 (lv_at hl 4 rfl) ?_
  refine lv_iconst (v := 2) hx hb dL_law_271 (by decide) ?_
  refine lv_iadd hx hb dL_law_272 ?_
  refine lv_topi (fun x_3 ex_3 => ?_)
  have ix_3 : x_3.toInt = i.toInt + 2 := by rw [ex_3]; exact law_ad (by decide) (by decide) (by decide) hi0 hi1
  refine va_sld hx hb hX hbl hbA hS (law_ix ix_3 (by decide) (by decide) hi0 hil) dL_law_273 ?_
  refine lv_topi (fun x_4 ex_4 => ?_)
  refine lv_aload_n hx hb dL_law_274 rfl (lv_at hl 0 rfl) ?_
  refine lv_iload hx hb dL_law_275 (lv_at hl 4 rfl) ?_
  refine lv_iconst (v := 3) hx hb dL_law_277 (by decide) ?_
  refine lv_iadd hx hb dL_law_278 ?_
  refine lv_topi (fun x_5 ex_5 => ?_)
  have ix_5 : x_5.toInt = i.toInt + 3 := by rw [ex_5]; exact law_ad (by decide) (by decide) (by decide) hi0 hi1
  refine va_sld hx hb hX hbl hbA hS (law_ix ix_5 (by decide) (by decide) hi0 hil) dL_law_279 ?_
  refine lv_topi (fun x_6 ex_6 => ?_)
  refine lv_aload_n hx hb dL_law_280 rfl (lv_at hl 0 rfl) ?_
  refine lv_iload hx hb dL_law_281 (lv_at hl 4 rfl) ?_
  refine lv_iconst (v := 4) hx hb dL_law_283 (by decide) ?_
  refine lv_iadd hx hb dL_law_284 ?_
  refine lv_topi (fun x_7 ex_7 => ?_)
  have ix_7 : x_7.toInt = i.toInt + 4 := by rw [ex_7]; exact law_ad (by decide) (by decide) (by decide) hi0 hi1
  refine va_sld hx hb hX hbl hbA hS (law_ix ix_7 (by decide) (by decide) hi0 hil) dL_law_285 ?_
  refine lv_topi (fun x_8 ex_8 => ?_)
  refine lv_aload_n hx hb dL_law_286 rfl (lv_at hl 0 rfl) ?_
  refine lv_iload hx hb dL_law_287 (lv_at hl 4 rfl) ?_
  refine lv_iconst (v := 5) hx hb dL_law_289 (by decide) ?_
  refine lv_iadd hx hb dL_law_290 ?_
  refine lv_topi (fun x_9 ex_9 => ?_)
  have ix_9 : x_9.toInt = i.toInt + 5 := by rw [ex_9]; exact law_ad (by decide) (by decide) (by decide) hi0 hi1
  refine va_sld hx hb hX hbl hbA hS (law_ix ix_9 (by decide) (by decide) hi0 hil) dL_law_291 ?_
  refine lv_topi (fun x_10 ex_10 => ?_)
  refine lv_aload_n hx hb dL_law_292 rfl (lv_at hl 0 rfl) ?_
  refine lv_iload hx hb dL_law_293 (lv_at hl 4 rfl) ?_
  refine lv_bipush (v := 6) hx hb dL_law_295 (by decide) ?_
  refine lv_iadd hx hb dL_law_297 ?_
  refine lv_topi (fun x_11 ex_11 => ?_)
  have ix_11 : x_11.toInt = i.toInt + 6 := by rw [ex_11]; exact law_ad (by decide) (by decide) (by decide) hi0 hi1
  refine va_sld hx hb hX hbl hbA hS (law_ix ix_11 (by decide) (by decide) hi0 hil) dL_law_298 ?_
  refine lv_topi (fun x_12 ex_12 => ?_)
  refine lv_aload_n hx hb dL_law_299 rfl (lv_at hl 0 rfl) ?_
  refine lv_iload hx hb dL_law_300 (lv_at hl 4 rfl) ?_
  refine lv_bipush (v := 7) hx hb dL_law_302 (by decide) ?_
  refine lv_iadd hx hb dL_law_304 ?_
  refine lv_topi (fun x_13 ex_13 => ?_)
  have ix_13 : x_13.toInt = i.toInt + 7 := by rw [ex_13]; exact law_ad (by decide) (by decide) (by decide) hi0 hi1
  refine va_sld hx hb hX hbl hbA hS (law_ix ix_13 (by decide) (by decide) hi0 hil) dL_law_305 ?_
  refine lv_topi (fun x_14 ex_14 => ?_)
  have hPc := fr_Pl hP
  have hDc := fr_Dl hD
  have hKc := fr_Kl hK
  have hFc := fr_Fl hD hS hAA
  obtain ⟨fs_15, hfs_15⟩ := zIC_hd hIC
  refine vw_calli (vw_runV (As := [.int x_2, .int x_4, .int x_6, .int x_8, .int x_10, .int x_12, .int x_14]) (rest := []) ⟨hx, hb, hml, hown, hA⟩ (w_X11_run l dC dI aK aV x wC tC fed ou gt gO gb gD x_2 x_4 x_6 x_8 x_10 x_12 x_14 H.size hlt hIC) (cwV 7 hA (zw_V wi_1080 wi_1081 wi_1082 wi_130 (zw_good wi_1083)) rfl rfl rfl (by decide +kernel) ⟨(Nat.le_of_ble_eq_true rfl), (Nat.le_of_ble_eq_true rfl)⟩) ⟨zP_blind, va_recv hKc hPc (ci := 11) (q0 := 0) rfl hfs_15, zz_pre hKc hPc hDc hN hT hS hFc⟩ rfl rfl hl.1 rfl (lv_room (Nat.le_of_ble_eq_true rfl)) dL_law_306 ⟨by show cells + 0 ≤ 601024; omega, by show slots + 0 ≤ 7293034; omega⟩) hS (fun q _ h => hFc q h) hFc (fun q _ h => hFc q h) (fun kc9 kn9 E9 ce9 u t H1 locs ht hvm hw hB hz1 hk1 hS hcell hcv hcl => absurd hw id) (fun kc_17 kn_18 r_16 u t H1 locs ht hvm hw hB hz1 hk1 hS => ?_)
  obtain ⟨w_19, t_20, z_21, z_22, z_23, z_24, z_25, z_26⟩ := u
  try dsimp only at hw hB
  obtain ⟨hI_27, hq_28, hq_29, hq_30, hq_31, hq_32, hq_33, hq_34⟩ := hw
  rw [hq_30, hq_31, hq_32, hq_33] at hI_27
  skip
  have hq_29a := hq_29.1
  have hq_29b := hq_29.2
  rw [hq_28] at hI_27
  obtain ⟨hP1, hK1, hD1⟩ := hB
  rw [ht] at hP1
  have hK1 := va_K.moved hvm.symm hK1
  obtain ⟨hP, hD⟩ := fr_apart hP hD hk1 hFc hP1 hD1
  have hK := (fr_Kr hK).app hK1
  clear hPc hDc hKc hFc hP1 hD1 hK1 hk1 hz1 ht hvm
  generalize H1 = H at hP hS ⊢
  refine lv_pop hx hb dL_law_309 rfl ?_
  refine lv_aload_n hx hb dL_law_310 rfl (lv_at hl 2 rfl) ?_
  refine lv_aload_n hx hb dL_law_311 rfl (lv_at hl 0 rfl) ?_
  refine lv_iload hx hb dL_law_312 (lv_at hl 4 rfl) ?_
  refine lv_iconst (v := 1) hx hb dL_law_314 (by decide) ?_
  refine lv_iadd hx hb dL_law_315 ?_
  refine lv_topi (fun x_36 ex_36 => ?_)
  have ix_36 : x_36.toInt = i.toInt + 1 := by rw [ex_36]; exact law_ad (by decide) (by decide) (by decide) hi0 hi1
  refine va_sld hx hb hX hbl hbA hS (law_ix ix_36 (by decide) (by decide) hi0 hil) dL_law_316 ?_
  refine lv_topi (fun x_37 ex_37 => ?_)
  refine lv_aload_n hx hb dL_law_317 rfl (lv_at hl 0 rfl) ?_
  refine lv_iload hx hb dL_law_318 (lv_at hl 4 rfl) ?_
  refine lv_iconst (v := 2) hx hb dL_law_320 (by decide) ?_
  refine lv_iadd hx hb dL_law_321 ?_
  refine lv_topi (fun x_38 ex_38 => ?_)
  have ix_38 : x_38.toInt = i.toInt + 2 := by rw [ex_38]; exact law_ad (by decide) (by decide) (by decide) hi0 hi1
  refine va_sld hx hb hX hbl hbA hS (law_ix ix_38 (by decide) (by decide) hi0 hil) dL_law_322 ?_
  refine lv_topi (fun x_39 ex_39 => ?_)
  refine lv_aload_n hx hb dL_law_323 rfl (lv_at hl 0 rfl) ?_
  refine lv_iload hx hb dL_law_324 (lv_at hl 4 rfl) ?_
  refine lv_iconst (v := 3) hx hb dL_law_326 (by decide) ?_
  refine lv_iadd hx hb dL_law_327 ?_
  refine lv_topi (fun x_40 ex_40 => ?_)
  have ix_40 : x_40.toInt = i.toInt + 3 := by rw [ex_40]; exact law_ad (by decide) (by decide) (by decide) hi0 hi1
  refine va_sld hx hb hX hbl hbA hS (law_ix ix_40 (by decide) (by decide) hi0 hil) dL_law_328 ?_
  refine lv_topi (fun x_41 ex_41 => ?_)
  refine lv_aload_n hx hb dL_law_329 rfl (lv_at hl 0 rfl) ?_
  refine lv_iload hx hb dL_law_330 (lv_at hl 4 rfl) ?_
  refine lv_iconst (v := 4) hx hb dL_law_332 (by decide) ?_
  refine lv_iadd hx hb dL_law_333 ?_
  refine lv_topi (fun x_42 ex_42 => ?_)
  have ix_42 : x_42.toInt = i.toInt + 4 := by rw [ex_42]; exact law_ad (by decide) (by decide) (by decide) hi0 hi1
  refine va_sld hx hb hX hbl hbA hS (law_ix ix_42 (by decide) (by decide) hi0 hil) dL_law_334 ?_
  refine lv_topi (fun x_43 ex_43 => ?_)
  refine lv_aload_n hx hb dL_law_335 rfl (lv_at hl 0 rfl) ?_
  refine lv_iload hx hb dL_law_336 (lv_at hl 4 rfl) ?_
  refine lv_iconst (v := 5) hx hb dL_law_338 (by decide) ?_
  refine lv_iadd hx hb dL_law_339 ?_
  refine lv_topi (fun x_44 ex_44 => ?_)
  have ix_44 : x_44.toInt = i.toInt + 5 := by rw [ex_44]; exact law_ad (by decide) (by decide) (by decide) hi0 hi1
  refine va_sld hx hb hX hbl hbA hS (law_ix ix_44 (by decide) (by decide) hi0 hil) dL_law_340 ?_
  refine lv_topi (fun x_45 ex_45 => ?_)
  refine lv_aload_n hx hb dL_law_341 rfl (lv_at hl 0 rfl) ?_
  refine lv_iload hx hb dL_law_342 (lv_at hl 4 rfl) ?_
  refine lv_bipush (v := 6) hx hb dL_law_344 (by decide) ?_
  refine lv_iadd hx hb dL_law_346 ?_
  refine lv_topi (fun x_46 ex_46 => ?_)
  have ix_46 : x_46.toInt = i.toInt + 6 := by rw [ex_46]; exact law_ad (by decide) (by decide) (by decide) hi0 hi1
  refine va_sld hx hb hX hbl hbA hS (law_ix ix_46 (by decide) (by decide) hi0 hil) dL_law_347 ?_
  refine lv_topi (fun x_47 ex_47 => ?_)
  refine lv_aload_n hx hb dL_law_348 rfl (lv_at hl 0 rfl) ?_
  refine lv_iload hx hb dL_law_349 (lv_at hl 4 rfl) ?_
  refine lv_bipush (v := 7) hx hb dL_law_351 (by decide) ?_
  refine lv_iadd hx hb dL_law_353 ?_
  refine lv_topi (fun x_48 ex_48 => ?_)
  have ix_48 : x_48.toInt = i.toInt + 7 := by rw [ex_48]; exact law_ad (by decide) (by decide) (by decide) hi0 hi1
  refine va_sld hx hb hX hbl hbA hS (law_ix ix_48 (by decide) (by decide) hi0 hil) dL_law_354 ?_
  refine lv_topi (fun x_49 ex_49 => ?_)
  have hPc := fr_Pl hP
  have hDc := fr_Dl hD
  have hKc := fr_Kl hK
  have hFc := fr_Fl hD hS hAA
  obtain ⟨fs_50, hfs_50⟩ := zIM_hd hIM
  refine vw_calli (vw_runV (As := [.int x_37, .int x_39, .int x_41, .int x_43, .int x_45, .int x_47, .int x_49]) (rest := []) ⟨hx, hb, hml, hown, hA⟩ (w_X14_run l dC dI aK aV y wM tM ta zt zv gt gO gD x_37 x_39 x_41 x_43 x_45 x_47 x_49 H.size hlt hIM) (cwV 7 hA (zw_V wi_1881 wi_1882 wi_1883 wi_143 (zw_good wi_1884)) rfl rfl rfl (by decide +kernel) ⟨(Nat.le_of_ble_eq_true rfl), (Nat.le_of_ble_eq_true rfl)⟩) ⟨zP_blind, va_recv hKc hPc (ci := 14) (q0 := 0) rfl hfs_50, zz_pre hKc hPc hDc hN hT hS hFc⟩ rfl rfl hl.1 rfl (lv_room (Nat.le_of_ble_eq_true rfl)) dL_law_355 ⟨law_rc hce hq_29a hi1 hsz9 (by decide), law_rs hsl hq_29b hi1 hsz9 (by decide)⟩) hS (fun q _ h => hFc q h) hFc (fun q _ h => hFc q h) (fun kc9 kn9 E9 ce9 u t H1 locs ht hvm hw hB hz1 hk1 hS hcell hcv hcl => absurd hw id) (fun kc_52 kn_53 r_51 u t H1 locs ht hvm hw hB hz1 hk1 hS => ?_)
  obtain ⟨w_54, t_55, z_56, z_57, z_58, z_59, z_60, z_61⟩ := u
  try dsimp only at hw hB
  obtain ⟨hI_62, hq_71, hq_72, hq_73, hq_74, hq_75, hq_76, hq_77, hq_78, hq_79⟩ := hw
  rw [hq_71, hq_77, hq_78] at hI_62
  have hce2 := law_ce hce hq_29a hq_72 (by decide)
  have hsl2 := law_sl hsl hq_29b hq_73 (by decide)
  clear hq_72 hq_73 hq_74 hq_75 hq_76 hce hsl
  have hb_80 : x_37 = x_2 := by rw [ex_37, ex_2, ex_36, ex_1]
  have hb_81 : x_39 = x_4 := by rw [ex_39, ex_4, ex_38, ex_3]
  have hb_82 : x_41 = x_6 := by rw [ex_41, ex_6, ex_40, ex_5]
  have hb_83 : x_43 = x_8 := by rw [ex_43, ex_8, ex_42, ex_7]
  have hb_84 : x_45 = x_10 := by rw [ex_45, ex_10, ex_44, ex_9]
  have hb_85 : x_47 = x_12 := by rw [ex_47, ex_12, ex_46, ex_11]
  have hb_86 : x_49 = x_14 := by rw [ex_49, ex_14, ex_48, ex_13]
  rw [hb_80, hb_81, hb_82, hb_83, hb_84, hb_85, hb_86] at hq_79
  obtain ⟨hra, hgd⟩ := rwq_1 hq_34 hq_79
  have hrr : r_16.toInt = r_51.toInt := congrArg Int32.toInt hra
  rw [← hgd] at hI_62
  obtain ⟨hP1, hK1, hD1⟩ := hB
  rw [ht] at hP1
  have hK1 := va_K.moved hvm.symm hK1
  obtain ⟨hP, hD⟩ := fr_apart hP hD hk1 hFc hP1 hD1
  have hK := (fr_Kr hK).app hK1
  clear hPc hDc hKc hFc hP1 hD1 hK1 hk1 hz1 ht hvm
  generalize H1 = H at hP hS ⊢
  refine lv_pop hx hb dL_law_358 rfl ?_
  refine lv_goto (tgt := 556) hx hb dL_law_359 (by decide) ?_
  obtain ⟨x_87, ex_87⟩ : ∃ y : Int32, y = i + Int32.ofInt 8 := ⟨_, rfl⟩
  refine lv_iinc (v := x_87) (lv' := [(4, .int x_87), (0, .ref b), (1, .ref x), (2, .ref y), (3, .ref ou)]) hx hb dL_law_556 hl (k := 4) rfl (by rw [ex_87]) (by decide) rfl (fun ls hl => ?_)
  have ix_87 : x_87.toInt = i.toInt + 8 := by rw [ex_87]; exact law_ad (by decide) (by decide) (by decide) hi0 hi1
  refine lv_goto (tgt := 23) hx hb dL_law_559 (by decide) ?_
  have hsz9 := zIM_sz hI_62
  have hmm := law_hm hm ix_87 hi0 hil hL
  exact ih x_87 w_19 t_20 fed w_54 t_55 ta z_57 z_58 gt gO gb z_26 _ _ _ _ _ hmm.1 hmm.2.1 hmm.2.2 hI_27 hI_62 hft hP hD hK hS (lv_sub hl [1, 2, 3, 4, 0] rfl) (by rw [ix_87]; exact hce2) (by rw [ix_87]; exact hsl2) (law_gb hgb ix_87 (Int.le_add_of_nonneg_right (by decide)))
set_option maxHeartbeats 40000000 in
set_option maxRecDepth 100000 in
theorem law_c6 {p : Program} {e : Env} {s : State} {m : MethodId} {below : List Frame} {meth : Method} {c : Code} (l : Launch) (hlt : l.stackTraces = false) {b L : Nat} {xs : Nat → Int32} (hL : L ≤ 4096) (hx : p.tables.exec = Jvm.exec) (hb : c.code = code) (hr : meth.sig.returnType = ret) (hml : c.maxLocals = 7) (hown : s.vm.findClass RL = some m.cls) (hA : ∀ w ∈ zw, w.before #[Value.ref b] s = true) (hX : va_X b L xs s s.heap) (hbl : b < s.heap.size) (hlocks : meth.locks = false) {A : Nat → Prop} (hAd : A = (fun q : Nat => s.heap.size ≤ q)) (hAA : ∀ q : Nat, s.heap.size ≤ q → A q) (hbA : ¬ A b) {dC : Nat → ClassId} {dI : Nat → Nat → Nat} {aK aV : Nat → Nat} (hN : zN s) (hT : zT aK aV A s s.heap) (x y ou : Nat) (n9 : Nat) (ih : ∀ (i : Int32) (wC : va_W) (tC : List (ClassId × FieldType)) (fed : Int32) (wM : va_W) (tM : List (ClassId × FieldType)) (ta : Int32) (zt zv : Nat) (gt : Nat → Int32) (gO : Option (sp_S × sp_F)) (gb : Int) (gD : Int) (H : Heap) (locs : List Loc) (ls : Array Slot) (cells slots : Nat), (4105 - i.toInt).toNat ≤ n9 → 0 ≤ i.toInt → i.toInt ≤ 4104 → zIC x wC tC fed ou gt gO gb gD → zIM y wM tM ta zt zv gt gO gD → fed.toInt = ta.toInt → va_P (dC, dI) vwCl (wC ++ wM) H → va_D A (wC ++ wM) → va_K (dC, dI) vwCl (tC ++ tM) s → va_S A s.heap H locs → lv_has ls 7 [(0, .ref b), (1, .ref x), (2, .ref y), (3, .ref ou), (4, .int i)] → (cells : Int) ≤ 200 + i.toInt + zG zt + zG zv → (slots : Int) ≤ 260000 + 3 * i.toInt + 4 * zt + 2 * zv → gb ≤ 250 * i.toInt → W p l e room_1 s m #[Value.ref b] below meth c H locs cells slots (lw_Z below #[Value.ref b] s) (F0 m 23 ls [])) (i : Int32) (wC : va_W) (tC : List (ClassId × FieldType)) (fed : Int32) (wM : va_W) (tM : List (ClassId × FieldType)) (ta : Int32) (zt zv : Nat) (gt : Nat → Int32) (gO : Option (sp_S × sp_F)) (gb : Int) (gD : Int) (H : Heap) (locs : List Loc) (ls : Array Slot) (cells slots : Nat) (hm9 : (4105 - i.toInt).toNat ≤ n9 + 1) (hi0 : 0 ≤ i.toInt) (hi1 : i.toInt ≤ 4104) (hIC : zIC x wC tC fed ou gt gO gb gD) (hIM : zIM y wM tM ta zt zv gt gO gD) (hft : fed.toInt = ta.toInt) (hP : va_P (dC, dI) vwCl (wC ++ wM) H) (hD : va_D A (wC ++ wM)) (hK : va_K (dC, dI) vwCl (tC ++ tM) s) (hS : va_S A s.heap H locs) (hl : lv_has ls 7 [(0, .ref b), (1, .ref x), (2, .ref y), (3, .ref ou), (4, .int i)]) (hce : (cells : Int) ≤ 200 + i.toInt + zG zt + zG zv) (hsl : (slots : Int) ≤ 260000 + 3 * i.toInt + 4 * zt + 2 * zv) (hgb : gb ≤ 250 * i.toInt) (hil : i.toInt + 8 ≤ (L : Int)) : W p l e room_1 s m #[Value.ref b] below meth c H locs cells slots (lw_Z below #[Value.ref b] s) (F0 m 362 ls []) := by
  have hsz9 := zIM_sz hIM
  have hg1 := zG_le (z := zt)
  have hg2 := zG_le (z := zv)
  have hm : (4105 - i.toInt).toNat ≤ n9 + 1 := hm9
  refine lv_aload_n hx hb dL_law_362 rfl (lv_at hl 1 rfl) ?_
  refine lv_aload_n hx hb dL_law_363 rfl (lv_at hl 0 rfl) ?_
  refine lv_iload hx hb dL_law_364 (lv_at hl 4 rfl) ?_
  refine lv_iconst (v := 1) hx hb dL_law_366 (by decide) ?_
  refine lv_iadd hx hb dL_law_367 ?_
  refine lv_topi (fun x_1 ex_1 => ?_)
  have ix_1 : x_1.toInt = i.toInt + 1 := by rw [ex_1]; exact law_ad (by decide) (by decide) (by decide) hi0 hi1
  refine va_sld hx hb hX hbl hbA hS (law_ix ix_1 (by decide) (by decide) hi0 hil) dL_law_368 ?_
  refine lv_topi (fun x_2 ex_2 => ?_)
  refine lv_aload_n hx hb dL_law_369 rfl (lv_at hl 0 rfl) ?_
  refine lv_iload hx hb dL_law_370 (lv_at hl 4 rfl) ?_
  refine lv_iconst (v := 2) hx hb dL_law_372 (by decide) ?_
  refine lv_iadd hx hb dL_law_373 ?_
  refine lv_topi (fun x_3 ex_3 => ?_)
  have ix_3 : x_3.toInt = i.toInt + 2 := by rw [ex_3]; exact law_ad (by decide) (by decide) (by decide) hi0 hi1
  refine va_sld hx hb hX hbl hbA hS (law_ix ix_3 (by decide) (by decide) hi0 hil) dL_law_374 ?_
  refine lv_topi (fun x_4 ex_4 => ?_)
  refine lv_aload_n hx hb dL_law_375 rfl (lv_at hl 0 rfl) ?_
  refine lv_iload hx hb dL_law_376 (lv_at hl 4 rfl) ?_
  refine lv_iconst (v := 3) hx hb dL_law_378 (by decide) ?_
  refine lv_iadd hx hb dL_law_379 ?_
  refine lv_topi (fun x_5 ex_5 => ?_)
  have ix_5 : x_5.toInt = i.toInt + 3 := by rw [ex_5]; exact law_ad (by decide) (by decide) (by decide) hi0 hi1
  refine va_sld hx hb hX hbl hbA hS (law_ix ix_5 (by decide) (by decide) hi0 hil) dL_law_380 ?_
  refine lv_topi (fun x_6 ex_6 => ?_)
  refine lv_aload_n hx hb dL_law_381 rfl (lv_at hl 0 rfl) ?_
  refine lv_iload hx hb dL_law_382 (lv_at hl 4 rfl) ?_
  refine lv_iconst (v := 4) hx hb dL_law_384 (by decide) ?_
  refine lv_iadd hx hb dL_law_385 ?_
  refine lv_topi (fun x_7 ex_7 => ?_)
  have ix_7 : x_7.toInt = i.toInt + 4 := by rw [ex_7]; exact law_ad (by decide) (by decide) (by decide) hi0 hi1
  refine va_sld hx hb hX hbl hbA hS (law_ix ix_7 (by decide) (by decide) hi0 hil) dL_law_386 ?_
  refine lv_topi (fun x_8 ex_8 => ?_)
  refine lv_aload_n hx hb dL_law_387 rfl (lv_at hl 0 rfl) ?_
  refine lv_iload hx hb dL_law_388 (lv_at hl 4 rfl) ?_
  refine lv_iconst (v := 5) hx hb dL_law_390 (by decide) ?_
  refine lv_iadd hx hb dL_law_391 ?_
  refine lv_topi (fun x_9 ex_9 => ?_)
  have ix_9 : x_9.toInt = i.toInt + 5 := by rw [ex_9]; exact law_ad (by decide) (by decide) (by decide) hi0 hi1
  refine va_sld hx hb hX hbl hbA hS (law_ix ix_9 (by decide) (by decide) hi0 hil) dL_law_392 ?_
  refine lv_topi (fun x_10 ex_10 => ?_)
  refine lv_aload_n hx hb dL_law_393 rfl (lv_at hl 0 rfl) ?_
  refine lv_iload hx hb dL_law_394 (lv_at hl 4 rfl) ?_
  refine lv_bipush (v := 6) hx hb dL_law_396 (by decide) ?_
  refine lv_iadd hx hb dL_law_398 ?_
  refine lv_topi (fun x_11 ex_11 => ?_)
  have ix_11 : x_11.toInt = i.toInt + 6 := by rw [ex_11]; exact law_ad (by decide) (by decide) (by decide) hi0 hi1
  refine va_sld hx hb hX hbl hbA hS (law_ix ix_11 (by decide) (by decide) hi0 hil) dL_law_399 ?_
  refine lv_topi (fun x_12 ex_12 => ?_)
  have hPc := fr_Pl hP
  have hDc := fr_Dl hD
  have hKc := fr_Kl hK
  have hFc := fr_Fl hD hS hAA
  obtain ⟨fs_13, hfs_13⟩ := zIC_hd hIC
  refine vw_calli (vw_runV (As := [.int x_2, .int x_4, .int x_6, .int x_8, .int x_10, .int x_12]) (rest := []) ⟨hx, hb, hml, hown, hA⟩ (w_X11_plain l dC dI aK aV x wC tC fed ou gt gO gb gD x_2 x_4 x_6 x_8 x_10 x_12 H.size hlt hIC) (cwV 6 hA (zw_V wi_1287 wi_1288 wi_1289 wi_130 (zw_good wi_1290)) rfl rfl rfl (by decide +kernel) ⟨(Nat.le_of_ble_eq_true rfl), (Nat.le_of_ble_eq_true rfl)⟩) ⟨zP_blind, va_recv hKc hPc (ci := 11) (q0 := 0) rfl hfs_13, zz_pre hKc hPc hDc hN hT hS hFc⟩ rfl rfl hl.1 rfl (lv_room (Nat.le_of_ble_eq_true rfl)) dL_law_400 ⟨by show cells + 0 ≤ 601024; omega, by show slots + 0 ≤ 7293034; omega⟩) hS (fun q _ h => hFc q h) hFc (fun q _ h => hFc q h) (fun kc9 kn9 E9 ce9 u t H1 locs ht hvm hw hB hz1 hk1 hS hcell hcv hcl => absurd hw id) (fun kc_15 kn_16 r_14 u t H1 locs ht hvm hw hB hz1 hk1 hS => ?_)
  obtain ⟨w_17, t_18, z_19, z_20, z_21, z_22, z_23, z_24⟩ := u
  try dsimp only at hw hB
  obtain ⟨hI_25, hq_26, hq_27, hq_28, hq_29, hq_30, hq_31, hq_32⟩ := hw
  rw [hq_28, hq_29, hq_30, hq_31] at hI_25
  skip
  have hq_27a := hq_27.1
  have hq_27b := hq_27.2
  rw [hq_26] at hI_25
  obtain ⟨hP1, hK1, hD1⟩ := hB
  rw [ht] at hP1
  have hK1 := va_K.moved hvm.symm hK1
  obtain ⟨hP, hD⟩ := fr_apart hP hD hk1 hFc hP1 hD1
  have hK := (fr_Kr hK).app hK1
  clear hPc hDc hKc hFc hP1 hD1 hK1 hk1 hz1 ht hvm
  generalize H1 = H at hP hS ⊢
  refine lv_pop hx hb dL_law_403 rfl ?_
  refine lv_aload_n hx hb dL_law_404 rfl (lv_at hl 2 rfl) ?_
  refine lv_aload_n hx hb dL_law_405 rfl (lv_at hl 0 rfl) ?_
  refine lv_iload hx hb dL_law_406 (lv_at hl 4 rfl) ?_
  refine lv_iconst (v := 1) hx hb dL_law_408 (by decide) ?_
  refine lv_iadd hx hb dL_law_409 ?_
  refine lv_topi (fun x_34 ex_34 => ?_)
  have ix_34 : x_34.toInt = i.toInt + 1 := by rw [ex_34]; exact law_ad (by decide) (by decide) (by decide) hi0 hi1
  refine va_sld hx hb hX hbl hbA hS (law_ix ix_34 (by decide) (by decide) hi0 hil) dL_law_410 ?_
  refine lv_topi (fun x_35 ex_35 => ?_)
  refine lv_aload_n hx hb dL_law_411 rfl (lv_at hl 0 rfl) ?_
  refine lv_iload hx hb dL_law_412 (lv_at hl 4 rfl) ?_
  refine lv_iconst (v := 2) hx hb dL_law_414 (by decide) ?_
  refine lv_iadd hx hb dL_law_415 ?_
  refine lv_topi (fun x_36 ex_36 => ?_)
  have ix_36 : x_36.toInt = i.toInt + 2 := by rw [ex_36]; exact law_ad (by decide) (by decide) (by decide) hi0 hi1
  refine va_sld hx hb hX hbl hbA hS (law_ix ix_36 (by decide) (by decide) hi0 hil) dL_law_416 ?_
  refine lv_topi (fun x_37 ex_37 => ?_)
  refine lv_aload_n hx hb dL_law_417 rfl (lv_at hl 0 rfl) ?_
  refine lv_iload hx hb dL_law_418 (lv_at hl 4 rfl) ?_
  refine lv_iconst (v := 3) hx hb dL_law_420 (by decide) ?_
  refine lv_iadd hx hb dL_law_421 ?_
  refine lv_topi (fun x_38 ex_38 => ?_)
  have ix_38 : x_38.toInt = i.toInt + 3 := by rw [ex_38]; exact law_ad (by decide) (by decide) (by decide) hi0 hi1
  refine va_sld hx hb hX hbl hbA hS (law_ix ix_38 (by decide) (by decide) hi0 hil) dL_law_422 ?_
  refine lv_topi (fun x_39 ex_39 => ?_)
  refine lv_aload_n hx hb dL_law_423 rfl (lv_at hl 0 rfl) ?_
  refine lv_iload hx hb dL_law_424 (lv_at hl 4 rfl) ?_
  refine lv_iconst (v := 4) hx hb dL_law_426 (by decide) ?_
  refine lv_iadd hx hb dL_law_427 ?_
  refine lv_topi (fun x_40 ex_40 => ?_)
  have ix_40 : x_40.toInt = i.toInt + 4 := by rw [ex_40]; exact law_ad (by decide) (by decide) (by decide) hi0 hi1
  refine va_sld hx hb hX hbl hbA hS (law_ix ix_40 (by decide) (by decide) hi0 hil) dL_law_428 ?_
  refine lv_topi (fun x_41 ex_41 => ?_)
  refine lv_aload_n hx hb dL_law_429 rfl (lv_at hl 0 rfl) ?_
  refine lv_iload hx hb dL_law_430 (lv_at hl 4 rfl) ?_
  refine lv_iconst (v := 5) hx hb dL_law_432 (by decide) ?_
  refine lv_iadd hx hb dL_law_433 ?_
  refine lv_topi (fun x_42 ex_42 => ?_)
  have ix_42 : x_42.toInt = i.toInt + 5 := by rw [ex_42]; exact law_ad (by decide) (by decide) (by decide) hi0 hi1
  refine va_sld hx hb hX hbl hbA hS (law_ix ix_42 (by decide) (by decide) hi0 hil) dL_law_434 ?_
  refine lv_topi (fun x_43 ex_43 => ?_)
  refine lv_aload_n hx hb dL_law_435 rfl (lv_at hl 0 rfl) ?_
  refine lv_iload hx hb dL_law_436 (lv_at hl 4 rfl) ?_
  refine lv_bipush (v := 6) hx hb dL_law_438 (by decide) ?_
  refine lv_iadd hx hb dL_law_440 ?_
  refine lv_topi (fun x_44 ex_44 => ?_)
  have ix_44 : x_44.toInt = i.toInt + 6 := by rw [ex_44]; exact law_ad (by decide) (by decide) (by decide) hi0 hi1
  refine va_sld hx hb hX hbl hbA hS (law_ix ix_44 (by decide) (by decide) hi0 hil) dL_law_441 ?_
  refine lv_topi (fun x_45 ex_45 => ?_)
  have hPc := fr_Pl hP
  have hDc := fr_Dl hD
  have hKc := fr_Kl hK
  have hFc := fr_Fl hD hS hAA
  obtain ⟨fs_46, hfs_46⟩ := zIM_hd hIM
  refine vw_calli (vw_runV (As := [.int x_35, .int x_37, .int x_39, .int x_41, .int x_43, .int x_45]) (rest := []) ⟨hx, hb, hml, hown, hA⟩ (w_X14_plain l dC dI aK aV y wM tM ta zt zv gt gO gD x_35 x_37 x_39 x_41 x_43 x_45 H.size hlt hIM) (cwV 6 hA (zw_V wi_1986 wi_1987 wi_1988 wi_143 (zw_good wi_1989)) rfl rfl rfl (by decide +kernel) ⟨(Nat.le_of_ble_eq_true rfl), (Nat.le_of_ble_eq_true rfl)⟩) ⟨zP_blind, va_recv hKc hPc (ci := 14) (q0 := 0) rfl hfs_46, zz_pre hKc hPc hDc hN hT hS hFc⟩ rfl rfl hl.1 rfl (lv_room (Nat.le_of_ble_eq_true rfl)) dL_law_442 ⟨law_rc hce hq_27a hi1 hsz9 (by decide), law_rs hsl hq_27b hi1 hsz9 (by decide)⟩) hS (fun q _ h => hFc q h) hFc (fun q _ h => hFc q h) (fun kc9 kn9 E9 ce9 u t H1 locs ht hvm hw hB hz1 hk1 hS hcell hcv hcl => absurd hw id) (fun kc_48 kn_49 r_47 u t H1 locs ht hvm hw hB hz1 hk1 hS => ?_)
  obtain ⟨w_50, t_51, z_52, z_53, z_54, z_55, z_56, z_57⟩ := u
  try dsimp only at hw hB
  obtain ⟨hI_58, hq_67, hq_68, hq_69, hq_70, hq_71, hq_72, hq_73, hq_74, hq_75⟩ := hw
  rw [hq_67, hq_73, hq_74] at hI_58
  have hce2 := law_ce hce hq_27a hq_68 (by decide)
  have hsl2 := law_sl hsl hq_27b hq_69 (by decide)
  clear hq_68 hq_69 hq_70 hq_71 hq_72 hce hsl
  have hb_76 : x_35 = x_2 := by rw [ex_35, ex_2, ex_34, ex_1]
  have hb_77 : x_37 = x_4 := by rw [ex_37, ex_4, ex_36, ex_3]
  have hb_78 : x_39 = x_6 := by rw [ex_39, ex_6, ex_38, ex_5]
  have hb_79 : x_41 = x_8 := by rw [ex_41, ex_8, ex_40, ex_7]
  have hb_80 : x_43 = x_10 := by rw [ex_43, ex_10, ex_42, ex_9]
  have hb_81 : x_45 = x_12 := by rw [ex_45, ex_12, ex_44, ex_11]
  rw [hb_76, hb_77, hb_78, hb_79, hb_80, hb_81] at hq_75
  obtain ⟨hra, hgd⟩ := plR_1 hq_32 hq_75
  have hrr : r_14.toInt = r_47.toInt := congrArg Int32.toInt hra
  rw [← hgd] at hI_58
  obtain ⟨hP1, hK1, hD1⟩ := hB
  rw [ht] at hP1
  have hK1 := va_K.moved hvm.symm hK1
  obtain ⟨hP, hD⟩ := fr_apart hP hD hk1 hFc hP1 hD1
  have hK := (fr_Kr hK).app hK1
  clear hPc hDc hKc hFc hP1 hD1 hK1 hk1 hz1 ht hvm
  generalize H1 = H at hP hS ⊢
  refine lv_pop hx hb dL_law_445 rfl ?_
  refine lv_goto (tgt := 556) hx hb dL_law_446 (by decide) ?_
  obtain ⟨x_82, ex_82⟩ : ∃ y : Int32, y = i + Int32.ofInt 8 := ⟨_, rfl⟩
  refine lv_iinc (v := x_82) (lv' := [(4, .int x_82), (0, .ref b), (1, .ref x), (2, .ref y), (3, .ref ou)]) hx hb dL_law_556 hl (k := 4) rfl (by rw [ex_82]) (by decide) rfl (fun ls hl => ?_)
  have ix_82 : x_82.toInt = i.toInt + 8 := by rw [ex_82]; exact law_ad (by decide) (by decide) (by decide) hi0 hi1
  refine lv_goto (tgt := 23) hx hb dL_law_559 (by decide) ?_
  have hsz9 := zIM_sz hI_58
  have hmm := law_hm hm ix_82 hi0 hil hL
  exact ih x_82 w_17 t_18 fed w_50 t_51 ta z_53 z_54 gt gO gb z_24 _ _ _ _ _ hmm.1 hmm.2.1 hmm.2.2 hI_25 hI_58 hft hP hD hK hS (lv_sub hl [1, 2, 3, 4, 0] rfl) (by rw [ix_82]; exact hce2) (by rw [ix_82]; exact hsl2) (law_gb hgb ix_82 (Int.le_add_of_nonneg_right (by decide)))
set_option maxHeartbeats 40000000 in
set_option maxRecDepth 100000 in
theorem law_c7 {p : Program} {e : Env} {s : State} {m : MethodId} {below : List Frame} {meth : Method} {c : Code} (l : Launch) (hlt : l.stackTraces = false) {b L : Nat} {xs : Nat → Int32} (hL : L ≤ 4096) (hx : p.tables.exec = Jvm.exec) (hb : c.code = code) (hr : meth.sig.returnType = ret) (hml : c.maxLocals = 7) (hown : s.vm.findClass RL = some m.cls) (hA : ∀ w ∈ zw, w.before #[Value.ref b] s = true) (hX : va_X b L xs s s.heap) (hbl : b < s.heap.size) (hlocks : meth.locks = false) {A : Nat → Prop} (hAd : A = (fun q : Nat => s.heap.size ≤ q)) (hAA : ∀ q : Nat, s.heap.size ≤ q → A q) (hbA : ¬ A b) {dC : Nat → ClassId} {dI : Nat → Nat → Nat} {aK aV : Nat → Nat} (hN : zN s) (hT : zT aK aV A s s.heap) (x y ou : Nat) (n9 : Nat) (ih : ∀ (i : Int32) (wC : va_W) (tC : List (ClassId × FieldType)) (fed : Int32) (wM : va_W) (tM : List (ClassId × FieldType)) (ta : Int32) (zt zv : Nat) (gt : Nat → Int32) (gO : Option (sp_S × sp_F)) (gb : Int) (gD : Int) (H : Heap) (locs : List Loc) (ls : Array Slot) (cells slots : Nat), (4105 - i.toInt).toNat ≤ n9 → 0 ≤ i.toInt → i.toInt ≤ 4104 → zIC x wC tC fed ou gt gO gb gD → zIM y wM tM ta zt zv gt gO gD → fed.toInt = ta.toInt → va_P (dC, dI) vwCl (wC ++ wM) H → va_D A (wC ++ wM) → va_K (dC, dI) vwCl (tC ++ tM) s → va_S A s.heap H locs → lv_has ls 7 [(0, .ref b), (1, .ref x), (2, .ref y), (3, .ref ou), (4, .int i)] → (cells : Int) ≤ 200 + i.toInt + zG zt + zG zv → (slots : Int) ≤ 260000 + 3 * i.toInt + 4 * zt + 2 * zv → gb ≤ 250 * i.toInt → W p l e room_1 s m #[Value.ref b] below meth c H locs cells slots (lw_Z below #[Value.ref b] s) (F0 m 23 ls [])) (i : Int32) (wC : va_W) (tC : List (ClassId × FieldType)) (fed : Int32) (wM : va_W) (tM : List (ClassId × FieldType)) (ta : Int32) (zt zv : Nat) (gt : Nat → Int32) (gO : Option (sp_S × sp_F)) (gb : Int) (gD : Int) (H : Heap) (locs : List Loc) (ls : Array Slot) (cells slots : Nat) (hm9 : (4105 - i.toInt).toNat ≤ n9 + 1) (hi0 : 0 ≤ i.toInt) (hi1 : i.toInt ≤ 4104) (hIC : zIC x wC tC fed ou gt gO gb gD) (hIM : zIM y wM tM ta zt zv gt gO gD) (hft : fed.toInt = ta.toInt) (hP : va_P (dC, dI) vwCl (wC ++ wM) H) (hD : va_D A (wC ++ wM)) (hK : va_K (dC, dI) vwCl (tC ++ tM) s) (hS : va_S A s.heap H locs) (hl : lv_has ls 7 [(0, .ref b), (1, .ref x), (2, .ref y), (3, .ref ou), (4, .int i)]) (hce : (cells : Int) ≤ 200 + i.toInt + zG zt + zG zv) (hsl : (slots : Int) ≤ 260000 + 3 * i.toInt + 4 * zt + 2 * zv) (hgb : gb ≤ 250 * i.toInt) (hil : i.toInt + 8 ≤ (L : Int)) : W p l e room_1 s m #[Value.ref b] below meth c H locs cells slots (lw_Z below #[Value.ref b] s) (F0 m 449 ls []) := by
  have hsz9 := zIM_sz hIM
  have hg1 := zG_le (z := zt)
  have hg2 := zG_le (z := zv)
  have hm : (4105 - i.toInt).toNat ≤ n9 + 1 := hm9
  refine lv_aload_n hx hb dL_law_449 rfl (lv_at hl 1 rfl) ?_
  refine lv_aload_n hx hb dL_law_450 rfl (lv_at hl 0 rfl) ?_
  refine lv_iload hx hb dL_law_451 (lv_at hl 4 rfl) ?_
  refine lv_iconst (v := 1) hx hb dL_law_453 (by decide) ?_
  refine lv_iadd hx hb dL_law_454 ?_
  refine lv_topi (fun x_1 ex_1 => ?_)
  have ix_1 : x_1.toInt = i.toInt + 1 := by rw [ex_1]; exact law_ad (by decide) (by decide) (by decide) hi0 hi1
  refine va_sld hx hb hX hbl hbA hS (law_ix ix_1 (by decide) (by decide) hi0 hil) dL_law_455 ?_
  refine lv_topi (fun x_2 ex_2 => ?_)
  refine lv_if_eq (tgt := 463) hx hb dL_law_456 (by decide) (fun c_3 => ?_) (fun c_3 => ?_)
  · have ic_3 : x_2.toInt = 0 := zi_eq c_3
    refine lv_iconst (v := 0) hx hb dL_law_463 (by decide) ?_
    have hPc := fr_Pl hP
    have hDc := fr_Dl hD
    have hKc := fr_Kl hK
    have hFc := fr_Fl hD hS hAA
    obtain ⟨fs_4, hfs_4⟩ := zIC_hd hIC
    refine vw_calli (vw_runV (As := [.int 0]) (rest := []) ⟨hx, hb, hml, hown, hA⟩ (w_X11_show l dC dI aK aV x wC tC fed ou gt gO gb gD 0 H.size hlt hIC) (cwV 1 hA (zw_V wi_1291 wi_1292 wi_1293 wi_130 (zw_good wi_1294)) rfl rfl rfl (by decide +kernel) ⟨(Nat.le_of_ble_eq_true rfl), (Nat.le_of_ble_eq_true rfl)⟩) ⟨zP_blind, va_recv hKc hPc (ci := 11) (q0 := 0) rfl hfs_4, zz_pre hKc hPc hDc hN hT hS hFc⟩ rfl rfl hl.1 rfl (lv_room (Nat.le_of_ble_eq_true rfl)) dL_law_464 ⟨by show cells + 0 ≤ 601024; omega, by show slots + 0 ≤ 7293034; omega⟩) hS (fun q _ h => hFc q h) hFc (fun q _ h => hFc q h) (fun kc9 kn9 E9 ce9 u t H1 locs ht hvm hw hB hz1 hk1 hS hcell hcv hcl => absurd hw id) (fun kc_6 kn_7 r_5 u t H1 locs ht hvm hw hB hz1 hk1 hS => ?_)
    obtain ⟨w_8, t_9, z_10, z_11, z_12, z_13, z_14, z_15⟩ := u
    try dsimp only at hw hB
    obtain ⟨hI_16, hq_17, hq_18, hq_19, hq_20, hq_21, hq_22, hq_23⟩ := hw
    rw [hq_19, hq_20, hq_21, hq_22, hq_23] at hI_16
    skip
    have hq_18a := hq_18.1
    have hq_18b := hq_18.2
    rw [hq_17] at hI_16
    obtain ⟨hP1, hK1, hD1⟩ := hB
    rw [ht] at hP1
    have hK1 := va_K.moved hvm.symm hK1
    obtain ⟨hP, hD⟩ := fr_apart hP hD hk1 hFc hP1 hD1
    have hK := (fr_Kr hK).app hK1
    clear hPc hDc hKc hFc hP1 hD1 hK1 hk1 hz1 ht hvm
    generalize H1 = H at hP hS ⊢
    refine lv_pop hx hb dL_law_467 rfl ?_
    refine lv_aload_n hx hb dL_law_468 rfl (lv_at hl 2 rfl) ?_
    refine lv_aload_n hx hb dL_law_469 rfl (lv_at hl 0 rfl) ?_
    refine lv_iload hx hb dL_law_470 (lv_at hl 4 rfl) ?_
    refine lv_iconst (v := 1) hx hb dL_law_472 (by decide) ?_
    refine lv_iadd hx hb dL_law_473 ?_
    refine lv_topi (fun x_25 ex_25 => ?_)
    have ix_25 : x_25.toInt = i.toInt + 1 := by rw [ex_25]; exact law_ad (by decide) (by decide) (by decide) hi0 hi1
    refine va_sld hx hb hX hbl hbA hS (law_ix ix_25 (by decide) (by decide) hi0 hil) dL_law_474 ?_
    refine lv_topi (fun x_26 ex_26 => ?_)
    refine lv_if_eq (tgt := 482) hx hb dL_law_475 (by decide) (fun c_27 => ?_) (fun c_27 => ?_)
    · have ic_27 : x_26.toInt = 0 := zi_eq c_27
      refine lv_iconst (v := 0) hx hb dL_law_482 (by decide) ?_
      have hPc := fr_Pl hP
      have hDc := fr_Dl hD
      have hKc := fr_Kl hK
      have hFc := fr_Fl hD hS hAA
      obtain ⟨fs_28, hfs_28⟩ := zIM_hd hIM
      refine vw_calli (vw_runVX (As := [.int 0]) (rest := []) ⟨hx, hb, hml, hown, hA⟩ (w_X14_show l dC dI aK aV y wM tM ta zt zv gt gO gD 0 H.size hlt hIM) (vx_cwVW 1 hA (zw_V wi_1990 wi_1991 wi_1992 wi_143 (zw_good wi_1993)) rfl rfl rfl (by decide +kernel) ⟨(Nat.le_of_ble_eq_true rfl), (Nat.le_of_ble_eq_true rfl)⟩) ⟨zP_blind, va_recv hKc hPc (ci := 14) (q0 := 0) rfl hfs_28, zz_pre hKc hPc hDc hN hT hS hFc⟩ rfl rfl hl.1 rfl (lv_room (Nat.le_of_ble_eq_true rfl)) dL_law_483 ⟨by show (cells + kc_6) + 0 ≤ 601024; omega, by show (slots + kn_7) + 0 ≤ 7293034; omega⟩) hS (fun q _ h => hFc q h) hFc (fun q _ h => hFc q h) (fun kc9 kn9 E9 ce9 u t H1 locs ht hvm hw hB hz1 hk1 hS hcell hcv hcl => absurd hw id) (fun kc_30 kn_31 r_29 u t H1 locs ht hvm hw hB hz1 hk1 hS => ?_)
      obtain ⟨w_32, t_33, z_34, z_35, z_36, z_37, z_38, z_39⟩ := u
      try dsimp only at hw hB
      obtain ⟨hI_40, hq_41, hq_42, hq_43, hq_44, hq_45, hq_46, hq_47⟩ := hw
      rw [hq_42, hq_43, hq_45, hq_46, hq_47] at hI_40
      skip
      have hq_44a := hq_44.1
      have hq_44b := hq_44.2
      rw [hq_41] at hI_40
      obtain ⟨hP1, hK1, hD1⟩ := hB
      rw [ht] at hP1
      have hK1 := va_K.moved hvm.symm hK1
      obtain ⟨hP, hD⟩ := fr_apart hP hD hk1 hFc hP1 hD1
      have hK := (fr_Kr hK).app hK1
      clear hPc hDc hKc hFc hP1 hD1 hK1 hk1 hz1 ht hvm
      generalize H1 = H at hP hS ⊢
      refine lv_pop hx hb dL_law_486 rfl ?_
      refine lv_goto (tgt := 556) hx hb dL_law_487 (by decide) ?_
      obtain ⟨x_49, ex_49⟩ : ∃ y : Int32, y = i + Int32.ofInt 8 := ⟨_, rfl⟩
      refine lv_iinc (v := x_49) (lv' := [(4, .int x_49), (0, .ref b), (1, .ref x), (2, .ref y), (3, .ref ou)]) hx hb dL_law_556 hl (k := 4) rfl (by rw [ex_49]) (by decide) rfl (fun ls hl => ?_)
      have ix_49 : x_49.toInt = i.toInt + 8 := by rw [ex_49]; exact law_ad (by decide) (by decide) (by decide) hi0 hi1
      refine lv_goto (tgt := 23) hx hb dL_law_559 (by decide) ?_
      have hsz9 := zIM_sz hI_40
      exact ih x_49 w_8 t_9 fed w_32 t_33 ta zt zv gt gO gb gD _ _ _ _ _ (by omega) (by omega) (by omega) hI_16 hI_40 (by omega) hP hD hK hS (lv_sub hl [1, 2, 3, 4, 0] rfl) (by omega) (by omega) (law_gb hgb ix_49 (Int.le_add_of_nonneg_right (by decide)))
    · have ic_27 : x_26.toInt ≠ 0 := zi_ne c_27
      refine lv_iconst (v := 1) hx hb dL_law_478 (by decide) ?_
      refine lv_goto (tgt := 483) hx hb dL_law_479 (by decide) ?_
      have hPc := fr_Pl hP
      have hDc := fr_Dl hD
      have hKc := fr_Kl hK
      have hFc := fr_Fl hD hS hAA
      obtain ⟨fs_50, hfs_50⟩ := zIM_hd hIM
      refine vw_calli (vw_runVX (As := [.int 1]) (rest := []) ⟨hx, hb, hml, hown, hA⟩ (w_X14_show l dC dI aK aV y wM tM ta zt zv gt gO gD 1 H.size hlt hIM) (vx_cwVW 1 hA (zw_V wi_1990 wi_1991 wi_1992 wi_143 (zw_good wi_1993)) rfl rfl rfl (by decide +kernel) ⟨(Nat.le_of_ble_eq_true rfl), (Nat.le_of_ble_eq_true rfl)⟩) ⟨zP_blind, va_recv hKc hPc (ci := 14) (q0 := 0) rfl hfs_50, zz_pre hKc hPc hDc hN hT hS hFc⟩ rfl rfl hl.1 rfl (lv_room (Nat.le_of_ble_eq_true rfl)) dL_law_483 ⟨by show (cells + kc_6) + 0 ≤ 601024; omega, by show (slots + kn_7) + 0 ≤ 7293034; omega⟩) hS (fun q _ h => hFc q h) hFc (fun q _ h => hFc q h) (fun kc9 kn9 E9 ce9 u t H1 locs ht hvm hw hB hz1 hk1 hS hcell hcv hcl => absurd hw id) (fun kc_52 kn_53 r_51 u t H1 locs ht hvm hw hB hz1 hk1 hS => ?_)
      obtain ⟨w_54, t_55, z_56, z_57, z_58, z_59, z_60, z_61⟩ := u
      try dsimp only at hw hB
      obtain ⟨hI_62, hq_63, hq_64, hq_65, hq_66, hq_67, hq_68, hq_69⟩ := hw
      rw [hq_64, hq_65, hq_67, hq_68, hq_69] at hI_62
      skip
      have hq_66a := hq_66.1
      have hq_66b := hq_66.2
      rw [hq_63] at hI_62
      obtain ⟨hP1, hK1, hD1⟩ := hB
      rw [ht] at hP1
      have hK1 := va_K.moved hvm.symm hK1
      obtain ⟨hP, hD⟩ := fr_apart hP hD hk1 hFc hP1 hD1
      have hK := (fr_Kr hK).app hK1
      clear hPc hDc hKc hFc hP1 hD1 hK1 hk1 hz1 ht hvm
      generalize H1 = H at hP hS ⊢
      refine lv_pop hx hb dL_law_486 rfl ?_
      refine lv_goto (tgt := 556) hx hb dL_law_487 (by decide) ?_
      obtain ⟨x_71, ex_71⟩ : ∃ y : Int32, y = i + Int32.ofInt 8 := ⟨_, rfl⟩
      refine lv_iinc (v := x_71) (lv' := [(4, .int x_71), (0, .ref b), (1, .ref x), (2, .ref y), (3, .ref ou)]) hx hb dL_law_556 hl (k := 4) rfl (by rw [ex_71]) (by decide) rfl (fun ls hl => ?_)
      have ix_71 : x_71.toInt = i.toInt + 8 := by rw [ex_71]; exact law_ad (by decide) (by decide) (by decide) hi0 hi1
      refine lv_goto (tgt := 23) hx hb dL_law_559 (by decide) ?_
      have hsz9 := zIM_sz hI_62
      exact ih x_71 w_8 t_9 fed w_54 t_55 ta zt zv gt gO gb gD _ _ _ _ _ (by omega) (by omega) (by omega) hI_16 hI_62 (by omega) hP hD hK hS (lv_sub hl [1, 2, 3, 4, 0] rfl) (by omega) (by omega) (law_gb hgb ix_71 (Int.le_add_of_nonneg_right (by decide)))
  · have ic_3 : x_2.toInt ≠ 0 := zi_ne c_3
    refine lv_iconst (v := 1) hx hb dL_law_459 (by decide) ?_
    refine lv_goto (tgt := 464) hx hb dL_law_460 (by decide) ?_
    have hPc := fr_Pl hP
    have hDc := fr_Dl hD
    have hKc := fr_Kl hK
    have hFc := fr_Fl hD hS hAA
    obtain ⟨fs_72, hfs_72⟩ := zIC_hd hIC
    refine vw_calli (vw_runV (As := [.int 1]) (rest := []) ⟨hx, hb, hml, hown, hA⟩ (w_X11_show l dC dI aK aV x wC tC fed ou gt gO gb gD 1 H.size hlt hIC) (cwV 1 hA (zw_V wi_1291 wi_1292 wi_1293 wi_130 (zw_good wi_1294)) rfl rfl rfl (by decide +kernel) ⟨(Nat.le_of_ble_eq_true rfl), (Nat.le_of_ble_eq_true rfl)⟩) ⟨zP_blind, va_recv hKc hPc (ci := 11) (q0 := 0) rfl hfs_72, zz_pre hKc hPc hDc hN hT hS hFc⟩ rfl rfl hl.1 rfl (lv_room (Nat.le_of_ble_eq_true rfl)) dL_law_464 ⟨by show cells + 0 ≤ 601024; omega, by show slots + 0 ≤ 7293034; omega⟩) hS (fun q _ h => hFc q h) hFc (fun q _ h => hFc q h) (fun kc9 kn9 E9 ce9 u t H1 locs ht hvm hw hB hz1 hk1 hS hcell hcv hcl => absurd hw id) (fun kc_74 kn_75 r_73 u t H1 locs ht hvm hw hB hz1 hk1 hS => ?_)
    obtain ⟨w_76, t_77, z_78, z_79, z_80, z_81, z_82, z_83⟩ := u
    try dsimp only at hw hB
    obtain ⟨hI_84, hq_85, hq_86, hq_87, hq_88, hq_89, hq_90, hq_91⟩ := hw
    rw [hq_87, hq_88, hq_89, hq_90, hq_91] at hI_84
    skip
    have hq_86a := hq_86.1
    have hq_86b := hq_86.2
    rw [hq_85] at hI_84
    obtain ⟨hP1, hK1, hD1⟩ := hB
    rw [ht] at hP1
    have hK1 := va_K.moved hvm.symm hK1
    obtain ⟨hP, hD⟩ := fr_apart hP hD hk1 hFc hP1 hD1
    have hK := (fr_Kr hK).app hK1
    clear hPc hDc hKc hFc hP1 hD1 hK1 hk1 hz1 ht hvm
    generalize H1 = H at hP hS ⊢
    refine lv_pop hx hb dL_law_467 rfl ?_
    refine lv_aload_n hx hb dL_law_468 rfl (lv_at hl 2 rfl) ?_
    refine lv_aload_n hx hb dL_law_469 rfl (lv_at hl 0 rfl) ?_
    refine lv_iload hx hb dL_law_470 (lv_at hl 4 rfl) ?_
    refine lv_iconst (v := 1) hx hb dL_law_472 (by decide) ?_
    refine lv_iadd hx hb dL_law_473 ?_
    refine lv_topi (fun x_93 ex_93 => ?_)
    have ix_93 : x_93.toInt = i.toInt + 1 := by rw [ex_93]; exact law_ad (by decide) (by decide) (by decide) hi0 hi1
    refine va_sld hx hb hX hbl hbA hS (law_ix ix_93 (by decide) (by decide) hi0 hil) dL_law_474 ?_
    refine lv_topi (fun x_94 ex_94 => ?_)
    refine lv_if_eq (tgt := 482) hx hb dL_law_475 (by decide) (fun c_95 => ?_) (fun c_95 => ?_)
    · have ic_95 : x_94.toInt = 0 := zi_eq c_95
      refine lv_iconst (v := 0) hx hb dL_law_482 (by decide) ?_
      have hPc := fr_Pl hP
      have hDc := fr_Dl hD
      have hKc := fr_Kl hK
      have hFc := fr_Fl hD hS hAA
      obtain ⟨fs_96, hfs_96⟩ := zIM_hd hIM
      refine vw_calli (vw_runVX (As := [.int 0]) (rest := []) ⟨hx, hb, hml, hown, hA⟩ (w_X14_show l dC dI aK aV y wM tM ta zt zv gt gO gD 0 H.size hlt hIM) (vx_cwVW 1 hA (zw_V wi_1990 wi_1991 wi_1992 wi_143 (zw_good wi_1993)) rfl rfl rfl (by decide +kernel) ⟨(Nat.le_of_ble_eq_true rfl), (Nat.le_of_ble_eq_true rfl)⟩) ⟨zP_blind, va_recv hKc hPc (ci := 14) (q0 := 0) rfl hfs_96, zz_pre hKc hPc hDc hN hT hS hFc⟩ rfl rfl hl.1 rfl (lv_room (Nat.le_of_ble_eq_true rfl)) dL_law_483 ⟨by show (cells + kc_74) + 0 ≤ 601024; omega, by show (slots + kn_75) + 0 ≤ 7293034; omega⟩) hS (fun q _ h => hFc q h) hFc (fun q _ h => hFc q h) (fun kc9 kn9 E9 ce9 u t H1 locs ht hvm hw hB hz1 hk1 hS hcell hcv hcl => absurd hw id) (fun kc_98 kn_99 r_97 u t H1 locs ht hvm hw hB hz1 hk1 hS => ?_)
      obtain ⟨w_100, t_101, z_102, z_103, z_104, z_105, z_106, z_107⟩ := u
      try dsimp only at hw hB
      obtain ⟨hI_108, hq_109, hq_110, hq_111, hq_112, hq_113, hq_114, hq_115⟩ := hw
      rw [hq_110, hq_111, hq_113, hq_114, hq_115] at hI_108
      skip
      have hq_112a := hq_112.1
      have hq_112b := hq_112.2
      rw [hq_109] at hI_108
      obtain ⟨hP1, hK1, hD1⟩ := hB
      rw [ht] at hP1
      have hK1 := va_K.moved hvm.symm hK1
      obtain ⟨hP, hD⟩ := fr_apart hP hD hk1 hFc hP1 hD1
      have hK := (fr_Kr hK).app hK1
      clear hPc hDc hKc hFc hP1 hD1 hK1 hk1 hz1 ht hvm
      generalize H1 = H at hP hS ⊢
      refine lv_pop hx hb dL_law_486 rfl ?_
      refine lv_goto (tgt := 556) hx hb dL_law_487 (by decide) ?_
      obtain ⟨x_117, ex_117⟩ : ∃ y : Int32, y = i + Int32.ofInt 8 := ⟨_, rfl⟩
      refine lv_iinc (v := x_117) (lv' := [(4, .int x_117), (0, .ref b), (1, .ref x), (2, .ref y), (3, .ref ou)]) hx hb dL_law_556 hl (k := 4) rfl (by rw [ex_117]) (by decide) rfl (fun ls hl => ?_)
      have ix_117 : x_117.toInt = i.toInt + 8 := by rw [ex_117]; exact law_ad (by decide) (by decide) (by decide) hi0 hi1
      refine lv_goto (tgt := 23) hx hb dL_law_559 (by decide) ?_
      have hsz9 := zIM_sz hI_108
      exact ih x_117 w_76 t_77 fed w_100 t_101 ta zt zv gt gO gb gD _ _ _ _ _ (by omega) (by omega) (by omega) hI_84 hI_108 (by omega) hP hD hK hS (lv_sub hl [1, 2, 3, 4, 0] rfl) (by omega) (by omega) (law_gb hgb ix_117 (Int.le_add_of_nonneg_right (by decide)))
    · have ic_95 : x_94.toInt ≠ 0 := zi_ne c_95
      refine lv_iconst (v := 1) hx hb dL_law_478 (by decide) ?_
      refine lv_goto (tgt := 483) hx hb dL_law_479 (by decide) ?_
      have hPc := fr_Pl hP
      have hDc := fr_Dl hD
      have hKc := fr_Kl hK
      have hFc := fr_Fl hD hS hAA
      obtain ⟨fs_118, hfs_118⟩ := zIM_hd hIM
      refine vw_calli (vw_runVX (As := [.int 1]) (rest := []) ⟨hx, hb, hml, hown, hA⟩ (w_X14_show l dC dI aK aV y wM tM ta zt zv gt gO gD 1 H.size hlt hIM) (vx_cwVW 1 hA (zw_V wi_1990 wi_1991 wi_1992 wi_143 (zw_good wi_1993)) rfl rfl rfl (by decide +kernel) ⟨(Nat.le_of_ble_eq_true rfl), (Nat.le_of_ble_eq_true rfl)⟩) ⟨zP_blind, va_recv hKc hPc (ci := 14) (q0 := 0) rfl hfs_118, zz_pre hKc hPc hDc hN hT hS hFc⟩ rfl rfl hl.1 rfl (lv_room (Nat.le_of_ble_eq_true rfl)) dL_law_483 ⟨by show (cells + kc_74) + 0 ≤ 601024; omega, by show (slots + kn_75) + 0 ≤ 7293034; omega⟩) hS (fun q _ h => hFc q h) hFc (fun q _ h => hFc q h) (fun kc9 kn9 E9 ce9 u t H1 locs ht hvm hw hB hz1 hk1 hS hcell hcv hcl => absurd hw id) (fun kc_120 kn_121 r_119 u t H1 locs ht hvm hw hB hz1 hk1 hS => ?_)
      obtain ⟨w_122, t_123, z_124, z_125, z_126, z_127, z_128, z_129⟩ := u
      try dsimp only at hw hB
      obtain ⟨hI_130, hq_131, hq_132, hq_133, hq_134, hq_135, hq_136, hq_137⟩ := hw
      rw [hq_132, hq_133, hq_135, hq_136, hq_137] at hI_130
      skip
      have hq_134a := hq_134.1
      have hq_134b := hq_134.2
      rw [hq_131] at hI_130
      obtain ⟨hP1, hK1, hD1⟩ := hB
      rw [ht] at hP1
      have hK1 := va_K.moved hvm.symm hK1
      obtain ⟨hP, hD⟩ := fr_apart hP hD hk1 hFc hP1 hD1
      have hK := (fr_Kr hK).app hK1
      clear hPc hDc hKc hFc hP1 hD1 hK1 hk1 hz1 ht hvm
      generalize H1 = H at hP hS ⊢
      refine lv_pop hx hb dL_law_486 rfl ?_
      refine lv_goto (tgt := 556) hx hb dL_law_487 (by decide) ?_
      obtain ⟨x_139, ex_139⟩ : ∃ y : Int32, y = i + Int32.ofInt 8 := ⟨_, rfl⟩
      refine lv_iinc (v := x_139) (lv' := [(4, .int x_139), (0, .ref b), (1, .ref x), (2, .ref y), (3, .ref ou)]) hx hb dL_law_556 hl (k := 4) rfl (by rw [ex_139]) (by decide) rfl (fun ls hl => ?_)
      have ix_139 : x_139.toInt = i.toInt + 8 := by rw [ex_139]; exact law_ad (by decide) (by decide) (by decide) hi0 hi1
      refine lv_goto (tgt := 23) hx hb dL_law_559 (by decide) ?_
      have hsz9 := zIM_sz hI_130
      exact ih x_139 w_76 t_77 fed w_122 t_123 ta zt zv gt gO gb gD _ _ _ _ _ (by omega) (by omega) (by omega) hI_84 hI_130 (by omega) hP hD hK hS (lv_sub hl [1, 2, 3, 4, 0] rfl) (by omega) (by omega) (law_gb hgb ix_139 (Int.le_add_of_nonneg_right (by decide)))
set_option maxHeartbeats 40000000 in
set_option maxRecDepth 100000 in
theorem law_c8 {p : Program} {e : Env} {s : State} {m : MethodId} {below : List Frame} {meth : Method} {c : Code} (l : Launch) (hlt : l.stackTraces = false) {b L : Nat} {xs : Nat → Int32} (hL : L ≤ 4096) (hx : p.tables.exec = Jvm.exec) (hb : c.code = code) (hr : meth.sig.returnType = ret) (hml : c.maxLocals = 7) (hown : s.vm.findClass RL = some m.cls) (hA : ∀ w ∈ zw, w.before #[Value.ref b] s = true) (hX : va_X b L xs s s.heap) (hbl : b < s.heap.size) (hlocks : meth.locks = false) {A : Nat → Prop} (hAd : A = (fun q : Nat => s.heap.size ≤ q)) (hAA : ∀ q : Nat, s.heap.size ≤ q → A q) (hbA : ¬ A b) {dC : Nat → ClassId} {dI : Nat → Nat → Nat} {aK aV : Nat → Nat} (hN : zN s) (hT : zT aK aV A s s.heap) (x y ou : Nat) (n9 : Nat) (ih : ∀ (i : Int32) (wC : va_W) (tC : List (ClassId × FieldType)) (fed : Int32) (wM : va_W) (tM : List (ClassId × FieldType)) (ta : Int32) (zt zv : Nat) (gt : Nat → Int32) (gO : Option (sp_S × sp_F)) (gb : Int) (gD : Int) (H : Heap) (locs : List Loc) (ls : Array Slot) (cells slots : Nat), (4105 - i.toInt).toNat ≤ n9 → 0 ≤ i.toInt → i.toInt ≤ 4104 → zIC x wC tC fed ou gt gO gb gD → zIM y wM tM ta zt zv gt gO gD → fed.toInt = ta.toInt → va_P (dC, dI) vwCl (wC ++ wM) H → va_D A (wC ++ wM) → va_K (dC, dI) vwCl (tC ++ tM) s → va_S A s.heap H locs → lv_has ls 7 [(0, .ref b), (1, .ref x), (2, .ref y), (3, .ref ou), (4, .int i)] → (cells : Int) ≤ 200 + i.toInt + zG zt + zG zv → (slots : Int) ≤ 260000 + 3 * i.toInt + 4 * zt + 2 * zv → gb ≤ 250 * i.toInt → W p l e room_1 s m #[Value.ref b] below meth c H locs cells slots (lw_Z below #[Value.ref b] s) (F0 m 23 ls [])) (i : Int32) (wC : va_W) (tC : List (ClassId × FieldType)) (fed : Int32) (wM : va_W) (tM : List (ClassId × FieldType)) (ta : Int32) (zt zv : Nat) (gt : Nat → Int32) (gO : Option (sp_S × sp_F)) (gb : Int) (gD : Int) (H : Heap) (locs : List Loc) (ls : Array Slot) (cells slots : Nat) (hm9 : (4105 - i.toInt).toNat ≤ n9 + 1) (hi0 : 0 ≤ i.toInt) (hi1 : i.toInt ≤ 4104) (hIC : zIC x wC tC fed ou gt gO gb gD) (hIM : zIM y wM tM ta zt zv gt gO gD) (hft : fed.toInt = ta.toInt) (hP : va_P (dC, dI) vwCl (wC ++ wM) H) (hD : va_D A (wC ++ wM)) (hK : va_K (dC, dI) vwCl (tC ++ tM) s) (hS : va_S A s.heap H locs) (hl : lv_has ls 7 [(0, .ref b), (1, .ref x), (2, .ref y), (3, .ref ou), (4, .int i)]) (hce : (cells : Int) ≤ 200 + i.toInt + zG zt + zG zv) (hsl : (slots : Int) ≤ 260000 + 3 * i.toInt + 4 * zt + 2 * zv) (hgb : gb ≤ 250 * i.toInt) (hil : i.toInt + 8 ≤ (L : Int)) : W p l e room_1 s m #[Value.ref b] below meth c H locs cells slots (lw_Z below #[Value.ref b] s) (F0 m 490 ls []) := by
  have hsz9 := zIM_sz hIM
  have hg1 := zG_le (z := zt)
  have hg2 := zG_le (z := zv)
  have hm : (4105 - i.toInt).toNat ≤ n9 + 1 := hm9
  refine lv_aload_n hx hb dL_law_490 rfl (lv_at hl 1 rfl) ?_
  refine lv_aload_n hx hb dL_law_491 rfl (lv_at hl 0 rfl) ?_
  refine lv_iload hx hb dL_law_492 (lv_at hl 4 rfl) ?_
  refine lv_iconst (v := 1) hx hb dL_law_494 (by decide) ?_
  refine lv_iadd hx hb dL_law_495 ?_
  refine lv_topi (fun x_1 ex_1 => ?_)
  have ix_1 : x_1.toInt = i.toInt + 1 := by rw [ex_1]; exact law_ad (by decide) (by decide) (by decide) hi0 hi1
  refine va_sld hx hb hX hbl hbA hS (law_ix ix_1 (by decide) (by decide) hi0 hil) dL_law_496 ?_
  refine lv_topi (fun x_2 ex_2 => ?_)
  refine lv_aload_n hx hb dL_law_497 rfl (lv_at hl 3 rfl) ?_
  have hPc := fr_Pl hP
  have hDc := fr_Dl hD
  have hKc := fr_Kl hK
  have hFc := fr_Fl hD hS hAA
  obtain ⟨fs_3, hfs_3⟩ := zIC_hd hIC
  refine vx_calli (vx_runSX (As := [.ref x, .int x_2, .ref ou]) (rest := []) ⟨hx, hb, hml, hown, hA⟩ (fr_vx (mc := 1) (ms := 6) (post2 := fun r (v : va_W × List (ClassId × FieldType) × Int32 × Nat × (Nat → Int32) × Option (sp_S × sp_F) × Int × Int) => zIC x v.1 v.2.1 v.2.2.1 v.2.2.2.1 v.2.2.2.2.1 v.2.2.2.2.2.1 v.2.2.2.2.2.2.1 v.2.2.2.2.2.2.2 ∧ v.2.2.1 = fed ∧ v.2.2.2.1 = ou ∧ v.2.2.2.2.1 = gt ∧ v.2.2.2.2.2.1 = gO ∧ v.2.2.2.2.2.2.1 = gb ∧ v.2.2.2.2.2.2.2 = gD) (w_L_out l dC dI aK aV x wC tC fed ou gt gO gb gD x_2 H.size hlt hIC) (fun kc kn r v h => ⟨⟨h.1, h.2.1, h.2.2.2⟩, h.2.2.1.1, h.2.2.1.2⟩)) (vx_cwSW 3 hA (zw_S wi_1343 wi_1344 wi_129 (zw_good wi_1345)) rfl rfl rfl (by decide +kernel) ⟨(Nat.le_of_ble_eq_true rfl), (Nat.le_of_ble_eq_true rfl)⟩) ⟨zP_blind, zz_pre hKc hPc hDc hN hT hS hFc⟩ rfl rfl hl.1 rfl (lv_room (Nat.le_of_ble_eq_true rfl)) dL_law_498 ⟨by show cells + 1 ≤ 601024; omega, by show slots + 6 ≤ 7293034; omega⟩) hS (fun q _ h => hFc q h) hFc (fun q _ h => hFc q h) (fun E9 ce9 q9 u t H1 locs ht hvm hw hB hz1 hk1 hS hcell hcv hcl => absurd hw id) (fun r_4 u t H1 locs ht hvm hw hB hz1 hk1 hS => ?_)
  obtain ⟨w_7, t_8, z_9, z_10, z_11, z_12, z_13, z_14⟩ := u
  try dsimp only at hw hB
  obtain ⟨hI_15, hq_16, hq_18, hq_19, hq_20, hq_21, hq_22⟩ := hw
  rw [hq_16, hq_18, hq_19, hq_20, hq_21, hq_22] at hI_15
  obtain ⟨hP1, hK1, hD1⟩ := hB
  rw [ht] at hP1
  have hK1 := va_K.moved hvm.symm hK1
  obtain ⟨hP, hD⟩ := fr_apart hP hD hk1 hFc hP1 hD1
  have hK := (fr_Kr hK).app hK1
  clear hPc hDc hKc hFc hP1 hD1 hK1 hk1 hz1 ht hvm
  generalize H1 = H at hP hS ⊢
  refine lv_istore (lv' := [(5, .int r_4), (0, .ref b), (1, .ref x), (2, .ref y), (3, .ref ou), (4, .int i)]) hx hb dL_law_501 hl (by decide) rfl (fun ls hl => ?_)
  refine lv_aload_n hx hb dL_law_503 rfl (lv_at hl 3 rfl) ?_
  refine lv_aload_n hx hb dL_law_504 rfl (lv_at hl 1 rfl) ?_
  refine lv_iload hx hb dL_law_505 (lv_at hl 5 rfl) ?_
  refine lv_iconst (v := 1) hx hb dL_law_507 (by decide) ?_
  refine lv_iadd hx hb dL_law_508 ?_
  refine lv_topi (fun x_24 ex_24 => ?_)
  have ix_24 : x_24.toInt = i.toInt + 1 := by rw [ex_24]; exact law_ad (by decide) (by decide) (by decide) hi0 hi1
  refine va_sld hx hb hX hbl hbA hS (law_ix ix_24 (by decide) (by decide) hi0 hil) dL_law_509 ?_
  refine lv_topi (fun x_25 ex_25 => ?_)
  have hPc := fr_Pl hP
  have hDc := fr_Dl hD
  have hKc := fr_Kl hK
  have hFc := fr_Fl hD hS hAA
  obtain ⟨fs_26, hfs_26⟩ := zIM_hd hIM
  refine vw_calli (vw_runV (As := [.int x_25]) (rest := []) ⟨hx, hb, hml, hown, hA⟩ (w_X14_out l dC dI aK aV y wM tM ta zt zv gt gO gD x_25 H.size hlt hIM) (cwV 1 hA (zw_V wi_2013 wi_2014 wi_2015 wi_143 (zw_good wi_2016)) rfl rfl rfl (by decide +kernel) ⟨(Nat.le_of_ble_eq_true rfl), (Nat.le_of_ble_eq_true rfl)⟩) ⟨zP_blind, va_recv hKc hPc (ci := 14) (q0 := 0) rfl hfs_26, zz_pre hKc hPc hDc hN hT hS hFc⟩ rfl rfl hl.1 rfl (lv_room (Nat.le_of_ble_eq_true rfl)) dL_law_510 ⟨by show (cells + 1) + 0 ≤ 601024; omega, by show (slots + 6) + 0 ≤ 7293034; omega⟩) hS (fun q _ h => hFc q h) hFc (fun q _ h => hFc q h) (fun kc9 kn9 E9 ce9 u t H1 locs ht hvm hw hB hz1 hk1 hS hcell hcv hcl => absurd hw id) (fun kc_28 kn_29 r_27 u t H1 locs ht hvm hw hB hz1 hk1 hS => ?_)
  obtain ⟨w_30, t_31, z_32, z_33, z_34, z_35, z_36, z_37⟩ := u
  try dsimp only at hw hB
  obtain ⟨hI_38, hq_39, hq_40, hq_41, hq_42, hq_43, hq_44, hq_45⟩ := hw
  rw [hq_40, hq_41, hq_43, hq_44, hq_45] at hI_38
  skip
  have hq_42a := hq_42.1
  have hq_42b := hq_42.2
  rw [hq_39] at hI_38
  obtain ⟨hP1, hK1, hD1⟩ := hB
  rw [ht] at hP1
  have hK1 := va_K.moved hvm.symm hK1
  obtain ⟨hP, hD⟩ := fr_apart hP hD hk1 hFc hP1 hD1
  have hK := (fr_Kr hK).app hK1
  clear hPc hDc hKc hFc hP1 hD1 hK1 hk1 hz1 ht hvm
  generalize H1 = H at hP hS ⊢
  refine lv_istore (lv' := [(6, .int r_27), (5, .int r_4), (0, .ref b), (1, .ref x), (2, .ref y), (3, .ref ou), (4, .int i)]) hx hb dL_law_513 hl (by decide) rfl (fun ls hl => ?_)
  refine lv_goto (tgt := 556) hx hb dL_law_515 (by decide) ?_
  obtain ⟨x_47, ex_47⟩ : ∃ y : Int32, y = i + Int32.ofInt 8 := ⟨_, rfl⟩
  refine lv_iinc (v := x_47) (lv' := [(4, .int x_47), (6, .int r_27), (5, .int r_4), (0, .ref b), (1, .ref x), (2, .ref y), (3, .ref ou)]) hx hb dL_law_556 hl (k := 6) rfl (by rw [ex_47]) (by decide) rfl (fun ls hl => ?_)
  have ix_47 : x_47.toInt = i.toInt + 8 := by rw [ex_47]; exact law_ad (by decide) (by decide) (by decide) hi0 hi1
  refine lv_goto (tgt := 23) hx hb dL_law_559 (by decide) ?_
  have hsz9 := zIM_sz hI_38
  exact ih x_47 w_7 t_8 fed w_30 t_31 ta zt zv gt gO gb gD _ _ _ _ _ (by omega) (by omega) (by omega) hI_15 hI_38 (by omega) hP hD hK hS (lv_sub hl [3, 4, 5, 6, 0] rfl) (by omega) (by omega) (law_gb hgb ix_47 (Int.le_add_of_nonneg_right (by decide)))
set_option maxHeartbeats 40000000 in
set_option maxRecDepth 100000 in
theorem law_c9 {p : Program} {e : Env} {s : State} {m : MethodId} {below : List Frame} {meth : Method} {c : Code} (l : Launch) (hlt : l.stackTraces = false) {b L : Nat} {xs : Nat → Int32} (hL : L ≤ 4096) (hx : p.tables.exec = Jvm.exec) (hb : c.code = code) (hr : meth.sig.returnType = ret) (hml : c.maxLocals = 7) (hown : s.vm.findClass RL = some m.cls) (hA : ∀ w ∈ zw, w.before #[Value.ref b] s = true) (hX : va_X b L xs s s.heap) (hbl : b < s.heap.size) (hlocks : meth.locks = false) {A : Nat → Prop} (hAd : A = (fun q : Nat => s.heap.size ≤ q)) (hAA : ∀ q : Nat, s.heap.size ≤ q → A q) (hbA : ¬ A b) {dC : Nat → ClassId} {dI : Nat → Nat → Nat} {aK aV : Nat → Nat} (hN : zN s) (hT : zT aK aV A s s.heap) (x y ou : Nat) (n9 : Nat) (ih : ∀ (i : Int32) (wC : va_W) (tC : List (ClassId × FieldType)) (fed : Int32) (wM : va_W) (tM : List (ClassId × FieldType)) (ta : Int32) (zt zv : Nat) (gt : Nat → Int32) (gO : Option (sp_S × sp_F)) (gb : Int) (gD : Int) (H : Heap) (locs : List Loc) (ls : Array Slot) (cells slots : Nat), (4105 - i.toInt).toNat ≤ n9 → 0 ≤ i.toInt → i.toInt ≤ 4104 → zIC x wC tC fed ou gt gO gb gD → zIM y wM tM ta zt zv gt gO gD → fed.toInt = ta.toInt → va_P (dC, dI) vwCl (wC ++ wM) H → va_D A (wC ++ wM) → va_K (dC, dI) vwCl (tC ++ tM) s → va_S A s.heap H locs → lv_has ls 7 [(0, .ref b), (1, .ref x), (2, .ref y), (3, .ref ou), (4, .int i)] → (cells : Int) ≤ 200 + i.toInt + zG zt + zG zv → (slots : Int) ≤ 260000 + 3 * i.toInt + 4 * zt + 2 * zv → gb ≤ 250 * i.toInt → W p l e room_1 s m #[Value.ref b] below meth c H locs cells slots (lw_Z below #[Value.ref b] s) (F0 m 23 ls [])) (i : Int32) (wC : va_W) (tC : List (ClassId × FieldType)) (fed : Int32) (wM : va_W) (tM : List (ClassId × FieldType)) (ta : Int32) (zt zv : Nat) (gt : Nat → Int32) (gO : Option (sp_S × sp_F)) (gb : Int) (gD : Int) (H : Heap) (locs : List Loc) (ls : Array Slot) (cells slots : Nat) (hm9 : (4105 - i.toInt).toNat ≤ n9 + 1) (hi0 : 0 ≤ i.toInt) (hi1 : i.toInt ≤ 4104) (hIC : zIC x wC tC fed ou gt gO gb gD) (hIM : zIM y wM tM ta zt zv gt gO gD) (hft : fed.toInt = ta.toInt) (hP : va_P (dC, dI) vwCl (wC ++ wM) H) (hD : va_D A (wC ++ wM)) (hK : va_K (dC, dI) vwCl (tC ++ tM) s) (hS : va_S A s.heap H locs) (hl : lv_has ls 7 [(0, .ref b), (1, .ref x), (2, .ref y), (3, .ref ou), (4, .int i)]) (hce : (cells : Int) ≤ 200 + i.toInt + zG zt + zG zv) (hsl : (slots : Int) ≤ 260000 + 3 * i.toInt + 4 * zt + 2 * zv) (hgb : gb ≤ 250 * i.toInt) (hil : i.toInt + 8 ≤ (L : Int)) : W p l e room_1 s m #[Value.ref b] below meth c H locs cells slots (lw_Z below #[Value.ref b] s) (F0 m 518 ls []) := by
  have hsz9 := zIM_sz hIM
  have hg1 := zG_le (z := zt)
  have hg2 := zG_le (z := zv)
  have hm : (4105 - i.toInt).toNat ≤ n9 + 1 := hm9
  refine lv_aload_n hx hb dL_law_518 rfl (lv_at hl 1 rfl) ?_
  have hPc := fr_Pl hP
  have hDc := fr_Dl hD
  have hKc := fr_Kl hK
  have hFc := fr_Fl hD hS hAA
  obtain ⟨fs_1, hfs_1⟩ := zIC_hd hIC
  refine vw_calli (vw_runV (As := []) (rest := []) ⟨hx, hb, hml, hown, hA⟩ (w_X11_release l dC dI aK aV x wC tC fed ou gt gO gb gD  H.size hlt hIC) (cwV 0 hA (zw_V wi_1334 wi_1335 wi_1336 wi_130 (zw_good wi_1337)) rfl rfl rfl (by decide +kernel) ⟨(Nat.le_of_ble_eq_true rfl), (Nat.le_of_ble_eq_true rfl)⟩) ⟨zP_blind, va_recv hKc hPc (ci := 11) (q0 := 0) rfl hfs_1, zz_pre hKc hPc hDc hN hT hS hFc⟩ rfl rfl hl.1 rfl (lv_room (Nat.le_of_ble_eq_true rfl)) dL_law_519 ⟨by show cells + 0 ≤ 601024; omega, by show slots + 0 ≤ 7293034; omega⟩) hS (fun q _ h => hFc q h) hFc (fun q _ h => hFc q h) (fun kc9 kn9 E9 ce9 u t H1 locs ht hvm hw hB hz1 hk1 hS hcell hcv hcl => absurd hw id) (fun kc_3 kn_4 r_2 u t H1 locs ht hvm hw hB hz1 hk1 hS => ?_)
  obtain ⟨w_5, t_6, z_7, z_8, z_9, z_10, z_11, z_12⟩ := u
  try dsimp only at hw hB
  obtain ⟨hI_13, hq_14, hq_15, hq_16, hq_17, hq_18, hq_19, hq_20⟩ := hw
  rw [hq_16, hq_17, hq_18, hq_19, hq_20] at hI_13
  skip
  have hq_15a := hq_15.1
  have hq_15b := hq_15.2
  rw [hq_14] at hI_13
  obtain ⟨hP1, hK1, hD1⟩ := hB
  rw [ht] at hP1
  have hK1 := va_K.moved hvm.symm hK1
  obtain ⟨hP, hD⟩ := fr_apart hP hD hk1 hFc hP1 hD1
  have hK := (fr_Kr hK).app hK1
  clear hPc hDc hKc hFc hP1 hD1 hK1 hk1 hz1 ht hvm
  generalize H1 = H at hP hS ⊢
  refine lv_pop hx hb dL_law_522 rfl ?_
  refine lv_aload_n hx hb dL_law_523 rfl (lv_at hl 2 rfl) ?_
  have hPc := fr_Pl hP
  have hDc := fr_Dl hD
  have hKc := fr_Kl hK
  have hFc := fr_Fl hD hS hAA
  obtain ⟨fs_22, hfs_22⟩ := zIM_hd hIM
  refine vw_calli (vw_runV (As := []) (rest := []) ⟨hx, hb, hml, hown, hA⟩ (w_X14_release l dC dI aK aV y wM tM ta zt zv gt gO gD  H.size hlt hIM) (cwV 0 hA (zw_V wi_2017 wi_2018 wi_2019 wi_143 (zw_good wi_2020)) rfl rfl rfl (by decide +kernel) ⟨(Nat.le_of_ble_eq_true rfl), (Nat.le_of_ble_eq_true rfl)⟩) ⟨zP_blind, va_recv hKc hPc (ci := 14) (q0 := 0) rfl hfs_22, zz_pre hKc hPc hDc hN hT hS hFc⟩ rfl rfl hl.1 rfl (lv_room (Nat.le_of_ble_eq_true rfl)) dL_law_524 ⟨by show (cells + kc_3) + 0 ≤ 601024; omega, by show (slots + kn_4) + 0 ≤ 7293034; omega⟩) hS (fun q _ h => hFc q h) hFc (fun q _ h => hFc q h) (fun kc9 kn9 E9 ce9 u t H1 locs ht hvm hw hB hz1 hk1 hS hcell hcv hcl => absurd hw id) (fun kc_24 kn_25 r_23 u t H1 locs ht hvm hw hB hz1 hk1 hS => ?_)
  obtain ⟨w_26, t_27, z_28, z_29, z_30, z_31, z_32, z_33⟩ := u
  try dsimp only at hw hB
  obtain ⟨hI_34, hq_35, hq_36, hq_37, hq_38, hq_39, hq_40, hq_41⟩ := hw
  rw [hq_36, hq_37, hq_39, hq_40, hq_41] at hI_34
  skip
  have hq_38a := hq_38.1
  have hq_38b := hq_38.2
  rw [hq_35] at hI_34
  obtain ⟨hP1, hK1, hD1⟩ := hB
  rw [ht] at hP1
  have hK1 := va_K.moved hvm.symm hK1
  obtain ⟨hP, hD⟩ := fr_apart hP hD hk1 hFc hP1 hD1
  have hK := (fr_Kr hK).app hK1
  clear hPc hDc hKc hFc hP1 hD1 hK1 hk1 hz1 ht hvm
  generalize H1 = H at hP hS ⊢
  refine lv_pop hx hb dL_law_527 rfl ?_
  refine lv_goto (tgt := 556) hx hb dL_law_528 (by decide) ?_
  obtain ⟨x_43, ex_43⟩ : ∃ y : Int32, y = i + Int32.ofInt 8 := ⟨_, rfl⟩
  refine lv_iinc (v := x_43) (lv' := [(4, .int x_43), (0, .ref b), (1, .ref x), (2, .ref y), (3, .ref ou)]) hx hb dL_law_556 hl (k := 4) rfl (by rw [ex_43]) (by decide) rfl (fun ls hl => ?_)
  have ix_43 : x_43.toInt = i.toInt + 8 := by rw [ex_43]; exact law_ad (by decide) (by decide) (by decide) hi0 hi1
  refine lv_goto (tgt := 23) hx hb dL_law_559 (by decide) ?_
  have hsz9 := zIM_sz hI_34
  exact ih x_43 w_5 t_6 fed w_26 t_27 ta zt zv gt gO gb gD _ _ _ _ _ (by omega) (by omega) (by omega) hI_13 hI_34 (by omega) hP hD hK hS (lv_sub hl [1, 2, 3, 4, 0] rfl) (by omega) (by omega) (law_gb hgb ix_43 (Int.le_add_of_nonneg_right (by decide)))
set_option maxHeartbeats 40000000 in
set_option maxRecDepth 100000 in
theorem law_c10 {p : Program} {e : Env} {s : State} {m : MethodId} {below : List Frame} {meth : Method} {c : Code} (l : Launch) (hlt : l.stackTraces = false) {b L : Nat} {xs : Nat → Int32} (hL : L ≤ 4096) (hx : p.tables.exec = Jvm.exec) (hb : c.code = code) (hr : meth.sig.returnType = ret) (hml : c.maxLocals = 7) (hown : s.vm.findClass RL = some m.cls) (hA : ∀ w ∈ zw, w.before #[Value.ref b] s = true) (hX : va_X b L xs s s.heap) (hbl : b < s.heap.size) (hlocks : meth.locks = false) {A : Nat → Prop} (hAd : A = (fun q : Nat => s.heap.size ≤ q)) (hAA : ∀ q : Nat, s.heap.size ≤ q → A q) (hbA : ¬ A b) {dC : Nat → ClassId} {dI : Nat → Nat → Nat} {aK aV : Nat → Nat} (hN : zN s) (hT : zT aK aV A s s.heap) (x y ou : Nat) (n9 : Nat) (ih : ∀ (i : Int32) (wC : va_W) (tC : List (ClassId × FieldType)) (fed : Int32) (wM : va_W) (tM : List (ClassId × FieldType)) (ta : Int32) (zt zv : Nat) (gt : Nat → Int32) (gO : Option (sp_S × sp_F)) (gb : Int) (gD : Int) (H : Heap) (locs : List Loc) (ls : Array Slot) (cells slots : Nat), (4105 - i.toInt).toNat ≤ n9 → 0 ≤ i.toInt → i.toInt ≤ 4104 → zIC x wC tC fed ou gt gO gb gD → zIM y wM tM ta zt zv gt gO gD → fed.toInt = ta.toInt → va_P (dC, dI) vwCl (wC ++ wM) H → va_D A (wC ++ wM) → va_K (dC, dI) vwCl (tC ++ tM) s → va_S A s.heap H locs → lv_has ls 7 [(0, .ref b), (1, .ref x), (2, .ref y), (3, .ref ou), (4, .int i)] → (cells : Int) ≤ 200 + i.toInt + zG zt + zG zv → (slots : Int) ≤ 260000 + 3 * i.toInt + 4 * zt + 2 * zv → gb ≤ 250 * i.toInt → W p l e room_1 s m #[Value.ref b] below meth c H locs cells slots (lw_Z below #[Value.ref b] s) (F0 m 23 ls [])) (i : Int32) (wC : va_W) (tC : List (ClassId × FieldType)) (fed : Int32) (wM : va_W) (tM : List (ClassId × FieldType)) (ta : Int32) (zt zv : Nat) (gt : Nat → Int32) (gO : Option (sp_S × sp_F)) (gb : Int) (gD : Int) (H : Heap) (locs : List Loc) (ls : Array Slot) (cells slots : Nat) (hm9 : (4105 - i.toInt).toNat ≤ n9 + 1) (hi0 : 0 ≤ i.toInt) (hi1 : i.toInt ≤ 4104) (hIC : zIC x wC tC fed ou gt gO gb gD) (hIM : zIM y wM tM ta zt zv gt gO gD) (hft : fed.toInt = ta.toInt) (hP : va_P (dC, dI) vwCl (wC ++ wM) H) (hD : va_D A (wC ++ wM)) (hK : va_K (dC, dI) vwCl (tC ++ tM) s) (hS : va_S A s.heap H locs) (hl : lv_has ls 7 [(0, .ref b), (1, .ref x), (2, .ref y), (3, .ref ou), (4, .int i)]) (hce : (cells : Int) ≤ 200 + i.toInt + zG zt + zG zv) (hsl : (slots : Int) ≤ 260000 + 3 * i.toInt + 4 * zt + 2 * zv) (hgb : gb ≤ 250 * i.toInt) (hil : i.toInt + 8 ≤ (L : Int)) : W p l e room_1 s m #[Value.ref b] below meth c H locs cells slots (lw_Z below #[Value.ref b] s) (F0 m 531 ls []) := by
  have hsz9 := zIM_sz hIM
  have hg1 := zG_le (z := zt)
  have hg2 := zG_le (z := zv)
  have hm : (4105 - i.toInt).toNat ≤ n9 + 1 := hm9
  refine lv_aload_n hx hb dL_law_531 rfl (lv_at hl 1 rfl) ?_
  refine lv_aload_n hx hb dL_law_532 rfl (lv_at hl 0 rfl) ?_
  refine lv_iload hx hb dL_law_533 (lv_at hl 4 rfl) ?_
  refine lv_iconst (v := 1) hx hb dL_law_535 (by decide) ?_
  refine lv_iadd hx hb dL_law_536 ?_
  refine lv_topi (fun x_1 ex_1 => ?_)
  have ix_1 : x_1.toInt = i.toInt + 1 := by rw [ex_1]; exact law_ad (by decide) (by decide) (by decide) hi0 hi1
  refine va_sld hx hb hX hbl hbA hS (law_ix ix_1 (by decide) (by decide) hi0 hil) dL_law_537 ?_
  refine lv_topi (fun x_2 ex_2 => ?_)
  have hPc := fr_Pl hP
  have hDc := fr_Dl hD
  have hKc := fr_Kl hK
  have hFc := fr_Fl hD hS hAA
  obtain ⟨fs_3, hfs_3⟩ := zIC_hd hIC
  refine vw_calli (vw_runV (As := [.int x_2]) (rest := []) ⟨hx, hb, hml, hown, hA⟩ (w_X11_count l dC dI aK aV x wC tC fed ou gt gO gb gD x_2 H.size hlt hIC) (cwV 1 hA (zw_V wi_1339 wi_1340 wi_1341 wi_130 (zw_good wi_1342)) rfl rfl rfl (by decide +kernel) ⟨(Nat.le_of_ble_eq_true rfl), (Nat.le_of_ble_eq_true rfl)⟩) ⟨zP_blind, va_recv hKc hPc (ci := 11) (q0 := 0) rfl hfs_3, zz_pre hKc hPc hDc hN hT hS hFc⟩ rfl rfl hl.1 rfl (lv_room (Nat.le_of_ble_eq_true rfl)) dL_law_538 ⟨by show cells + 0 ≤ 601024; omega, by show slots + 0 ≤ 7293034; omega⟩) hS (fun q _ h => hFc q h) hFc (fun q _ h => hFc q h) (fun kc9 kn9 E9 ce9 u t H1 locs ht hvm hw hB hz1 hk1 hS hcell hcv hcl => absurd hw id) (fun kc_5 kn_6 r_4 u t H1 locs ht hvm hw hB hz1 hk1 hS => ?_)
  obtain ⟨w_7, t_8, z_9, z_10, z_11, z_12, z_13, z_14⟩ := u
  try dsimp only at hw hB
  obtain ⟨hI_15, hq_16, hq_17, hq_18, hq_19, hq_20, hq_21, hq_22⟩ := hw
  rw [hq_18, hq_19, hq_20, hq_21, hq_22] at hI_15
  skip
  have hq_17a := hq_17.1
  have hq_17b := hq_17.2
  rw [hq_16] at hI_15
  obtain ⟨hP1, hK1, hD1⟩ := hB
  rw [ht] at hP1
  have hK1 := va_K.moved hvm.symm hK1
  obtain ⟨hP, hD⟩ := fr_apart hP hD hk1 hFc hP1 hD1
  have hK := (fr_Kr hK).app hK1
  clear hPc hDc hKc hFc hP1 hD1 hK1 hk1 hz1 ht hvm
  generalize H1 = H at hP hS ⊢
  refine lv_pop hx hb dL_law_541 rfl ?_
  refine lv_aload_n hx hb dL_law_542 rfl (lv_at hl 2 rfl) ?_
  refine lv_aload_n hx hb dL_law_543 rfl (lv_at hl 0 rfl) ?_
  refine lv_iload hx hb dL_law_544 (lv_at hl 4 rfl) ?_
  refine lv_iconst (v := 1) hx hb dL_law_546 (by decide) ?_
  refine lv_iadd hx hb dL_law_547 ?_
  refine lv_topi (fun x_24 ex_24 => ?_)
  have ix_24 : x_24.toInt = i.toInt + 1 := by rw [ex_24]; exact law_ad (by decide) (by decide) (by decide) hi0 hi1
  refine va_sld hx hb hX hbl hbA hS (law_ix ix_24 (by decide) (by decide) hi0 hil) dL_law_548 ?_
  refine lv_topi (fun x_25 ex_25 => ?_)
  have hPc := fr_Pl hP
  have hDc := fr_Dl hD
  have hKc := fr_Kl hK
  have hFc := fr_Fl hD hS hAA
  obtain ⟨fs_26, hfs_26⟩ := zIM_hd hIM
  refine vw_calli (vw_runV (As := [.int x_25]) (rest := []) ⟨hx, hb, hml, hown, hA⟩ (w_X14_count l dC dI aK aV y wM tM ta zt zv gt gO gD x_25 H.size hlt hIM) (cwV 1 hA (zw_V wi_2021 wi_2022 wi_2023 wi_143 (zw_good wi_2024)) rfl rfl rfl (by decide +kernel) ⟨(Nat.le_of_ble_eq_true rfl), (Nat.le_of_ble_eq_true rfl)⟩) ⟨zP_blind, va_recv hKc hPc (ci := 14) (q0 := 0) rfl hfs_26, zz_pre hKc hPc hDc hN hT hS hFc⟩ rfl rfl hl.1 rfl (lv_room (Nat.le_of_ble_eq_true rfl)) dL_law_549 ⟨by show (cells + kc_5) + 0 ≤ 601024; omega, by show (slots + kn_6) + 0 ≤ 7293034; omega⟩) hS (fun q _ h => hFc q h) hFc (fun q _ h => hFc q h) (fun kc9 kn9 E9 ce9 u t H1 locs ht hvm hw hB hz1 hk1 hS hcell hcv hcl => absurd hw id) (fun kc_28 kn_29 r_27 u t H1 locs ht hvm hw hB hz1 hk1 hS => ?_)
  obtain ⟨w_30, t_31, z_32, z_33, z_34, z_35, z_36, z_37⟩ := u
  try dsimp only at hw hB
  obtain ⟨hI_38, hq_39, hq_40, hq_41, hq_42, hq_43, hq_44, hq_45⟩ := hw
  rw [hq_40, hq_41, hq_43, hq_44, hq_45] at hI_38
  skip
  have hq_42a := hq_42.1
  have hq_42b := hq_42.2
  rw [hq_39] at hI_38
  obtain ⟨hP1, hK1, hD1⟩ := hB
  rw [ht] at hP1
  have hK1 := va_K.moved hvm.symm hK1
  obtain ⟨hP, hD⟩ := fr_apart hP hD hk1 hFc hP1 hD1
  have hK := (fr_Kr hK).app hK1
  clear hPc hDc hKc hFc hP1 hD1 hK1 hk1 hz1 ht hvm
  generalize H1 = H at hP hS ⊢
  refine lv_pop hx hb dL_law_552 rfl ?_
  refine lv_goto (tgt := 556) hx hb dL_law_553 (by decide) ?_
  obtain ⟨x_47, ex_47⟩ : ∃ y : Int32, y = i + Int32.ofInt 8 := ⟨_, rfl⟩
  refine lv_iinc (v := x_47) (lv' := [(4, .int x_47), (0, .ref b), (1, .ref x), (2, .ref y), (3, .ref ou)]) hx hb dL_law_556 hl (k := 4) rfl (by rw [ex_47]) (by decide) rfl (fun ls hl => ?_)
  have ix_47 : x_47.toInt = i.toInt + 8 := by rw [ex_47]; exact law_ad (by decide) (by decide) (by decide) hi0 hi1
  refine lv_goto (tgt := 23) hx hb dL_law_559 (by decide) ?_
  have hsz9 := zIM_sz hI_38
  exact ih x_47 w_7 t_8 fed w_30 t_31 ta zt zv gt gO gb gD _ _ _ _ _ (by omega) (by omega) (by omega) hI_15 hI_38 (by omega) hP hD hK hS (lv_sub hl [1, 2, 3, 4, 0] rfl) (by omega) (by omega) (law_gb hgb ix_47 (Int.le_add_of_nonneg_right (by decide)))
set_option maxHeartbeats 40000000 in
set_option maxRecDepth 100000 in
theorem law_c11 {p : Program} {e : Env} {s : State} {m : MethodId} {below : List Frame} {meth : Method} {c : Code} (l : Launch) (hlt : l.stackTraces = false) {b L : Nat} {xs : Nat → Int32} (hL : L ≤ 4096) (hx : p.tables.exec = Jvm.exec) (hb : c.code = code) (hr : meth.sig.returnType = ret) (hml : c.maxLocals = 7) (hown : s.vm.findClass RL = some m.cls) (hA : ∀ w ∈ zw, w.before #[Value.ref b] s = true) (hX : va_X b L xs s s.heap) (hbl : b < s.heap.size) (hlocks : meth.locks = false) {A : Nat → Prop} (hAd : A = (fun q : Nat => s.heap.size ≤ q)) (hAA : ∀ q : Nat, s.heap.size ≤ q → A q) (hbA : ¬ A b) {dC : Nat → ClassId} {dI : Nat → Nat → Nat} {aK aV : Nat → Nat} (hN : zN s) (hT : zT aK aV A s s.heap) (x y ou : Nat) (n9 : Nat) (ih : ∀ (i : Int32) (wC : va_W) (tC : List (ClassId × FieldType)) (fed : Int32) (wM : va_W) (tM : List (ClassId × FieldType)) (ta : Int32) (zt zv : Nat) (gt : Nat → Int32) (gO : Option (sp_S × sp_F)) (gb : Int) (gD : Int) (H : Heap) (locs : List Loc) (ls : Array Slot) (cells slots : Nat), (4105 - i.toInt).toNat ≤ n9 → 0 ≤ i.toInt → i.toInt ≤ 4104 → zIC x wC tC fed ou gt gO gb gD → zIM y wM tM ta zt zv gt gO gD → fed.toInt = ta.toInt → va_P (dC, dI) vwCl (wC ++ wM) H → va_D A (wC ++ wM) → va_K (dC, dI) vwCl (tC ++ tM) s → va_S A s.heap H locs → lv_has ls 7 [(0, .ref b), (1, .ref x), (2, .ref y), (3, .ref ou), (4, .int i)] → (cells : Int) ≤ 200 + i.toInt + zG zt + zG zv → (slots : Int) ≤ 260000 + 3 * i.toInt + 4 * zt + 2 * zv → gb ≤ 250 * i.toInt → W p l e room_1 s m #[Value.ref b] below meth c H locs cells slots (lw_Z below #[Value.ref b] s) (F0 m 23 ls [])) (i : Int32) (wC : va_W) (tC : List (ClassId × FieldType)) (fed : Int32) (wM : va_W) (tM : List (ClassId × FieldType)) (ta : Int32) (zt zv : Nat) (gt : Nat → Int32) (gO : Option (sp_S × sp_F)) (gb : Int) (gD : Int) (H : Heap) (locs : List Loc) (ls : Array Slot) (cells slots : Nat) (hm9 : (4105 - i.toInt).toNat ≤ n9 + 1) (hi0 : 0 ≤ i.toInt) (hi1 : i.toInt ≤ 4104) (hIC : zIC x wC tC fed ou gt gO gb gD) (hIM : zIM y wM tM ta zt zv gt gO gD) (hft : fed.toInt = ta.toInt) (hP : va_P (dC, dI) vwCl (wC ++ wM) H) (hD : va_D A (wC ++ wM)) (hK : va_K (dC, dI) vwCl (tC ++ tM) s) (hS : va_S A s.heap H locs) (hl : lv_has ls 7 [(0, .ref b), (1, .ref x), (2, .ref y), (3, .ref ou), (4, .int i)]) (hce : (cells : Int) ≤ 200 + i.toInt + zG zt + zG zv) (hsl : (slots : Int) ≤ 260000 + 3 * i.toInt + 4 * zt + 2 * zv) (hgb : gb ≤ 250 * i.toInt) (hil : i.toInt + 8 ≤ (L : Int)) : W p l e room_1 s m #[Value.ref b] below meth c H locs cells slots (lw_Z below #[Value.ref b] s) (F0 m 556 ls []) := by
  have hsz9 := zIM_sz hIM
  have hg1 := zG_le (z := zt)
  have hg2 := zG_le (z := zv)
  have hm : (4105 - i.toInt).toNat ≤ n9 + 1 := hm9
  obtain ⟨x_1, ex_1⟩ : ∃ y : Int32, y = i + Int32.ofInt 8 := ⟨_, rfl⟩
  refine lv_iinc (v := x_1) (lv' := [(4, .int x_1), (0, .ref b), (1, .ref x), (2, .ref y), (3, .ref ou)]) hx hb dL_law_556 hl (k := 4) rfl (by rw [ex_1]) (by decide) rfl (fun ls hl => ?_)
  have ix_1 : x_1.toInt = i.toInt + 8 := by rw [ex_1]; exact law_ad (by decide) (by decide) (by decide) hi0 hi1
  refine lv_goto (tgt := 23) hx hb dL_law_559 (by decide) ?_
  have hsz9 := zIM_sz hIM
  exact ih x_1 wC tC fed wM tM ta zt zv gt gO gb gD _ _ _ _ _ (by omega) (by omega) (by omega) hIC hIM (by omega) hP hD hK hS (lv_sub hl [1, 2, 3, 4, 0] rfl) (by omega) (by omega) (law_gb hgb ix_1 (Int.le_add_of_nonneg_right (by decide)))
set_option maxHeartbeats 40000000 in
set_option maxRecDepth 100000 in
theorem law_loop {p : Program} {e : Env} {s : State} {m : MethodId} {below : List Frame} {meth : Method} {c : Code} (l : Launch) (hlt : l.stackTraces = false) {b L : Nat} {xs : Nat → Int32} (hL : L ≤ 4096) (hx : p.tables.exec = Jvm.exec) (hb : c.code = code) (hr : meth.sig.returnType = ret) (hml : c.maxLocals = 7) (hown : s.vm.findClass RL = some m.cls) (hA : ∀ w ∈ zw, w.before #[Value.ref b] s = true) (hX : va_X b L xs s s.heap) (hbl : b < s.heap.size) (hlocks : meth.locks = false) {A : Nat → Prop} (hAd : A = (fun q : Nat => s.heap.size ≤ q)) (hAA : ∀ q : Nat, s.heap.size ≤ q → A q) (hbA : ¬ A b) {dC : Nat → ClassId} {dI : Nat → Nat → Nat} {aK aV : Nat → Nat} (hN : zN s) (hT : zT aK aV A s s.heap) (x y ou : Nat) : ∀ (n9 : Nat) (i : Int32) (wC : va_W) (tC : List (ClassId × FieldType)) (fed : Int32) (wM : va_W) (tM : List (ClassId × FieldType)) (ta : Int32) (zt zv : Nat) (gt : Nat → Int32) (gO : Option (sp_S × sp_F)) (gb : Int) (gD : Int) (H : Heap) (locs : List Loc) (ls : Array Slot) (cells slots : Nat), (4105 - i.toInt).toNat ≤ n9 → 0 ≤ i.toInt → i.toInt ≤ 4104 → zIC x wC tC fed ou gt gO gb gD → zIM y wM tM ta zt zv gt gO gD → fed.toInt = ta.toInt → va_P (dC, dI) vwCl (wC ++ wM) H → va_D A (wC ++ wM) → va_K (dC, dI) vwCl (tC ++ tM) s → va_S A s.heap H locs → lv_has ls 7 [(0, .ref b), (1, .ref x), (2, .ref y), (3, .ref ou), (4, .int i)] → (cells : Int) ≤ 200 + i.toInt + zG zt + zG zv → (slots : Int) ≤ 260000 + 3 * i.toInt + 4 * zt + 2 * zv → gb ≤ 250 * i.toInt → W p l e room_1 s m #[Value.ref b] below meth c H locs cells slots (lw_Z below #[Value.ref b] s) (F0 m 23 ls []) := by
  intro n9
  induction n9 with
  | zero => intro i wC tC fed wM tM ta zt zv gt gO gb gD H locs ls cells slots hm hi0 hi1 hIC hIM hft hP hD hK hS hl hce hsl hgb; exfalso; omega
  | succ n9 ih =>
    intro i wC tC fed wM tM ta zt zv gt gO gb gD H locs ls cells slots hm hi0 hi1 hIC hIM hft hP hD hK hS hl hce hsl hgb
    have hsz9 := zIM_sz hIM
    have hg1 := zG_le (z := zt)
    have hg2 := zG_le (z := zv)
    refine lv_iload hx hb dL_law_23 (lv_at hl 4 rfl) ?_
    refine lv_aload_n hx hb dL_law_25 rfl (lv_at hl 0 rfl) ?_
    refine va_slen hx hb hX hbl hbA hS dL_law_26 ?_
    refine lv_topi (fun x_1 ex_1 => ?_)
    have ix_1 : x_1.toInt = (L : Int) := by rw [ex_1]; exact nI_toInt (by omega)
    refine lv_bipush (v := 8) hx hb dL_law_27 (by decide) ?_
    refine lv_isub hx hb dL_law_29 ?_
    refine lv_topi (fun x_2 ex_2 => ?_)
    have ix_2 : x_2.toInt = x_1.toInt - 8 := by rw [ex_2]; exact zi_subc (by decide) (by omega) (by omega)
    refine lv_icmp_gt (tgt := 562) hx hb dL_law_30 (by decide) (fun c_3 => ?_) (fun c_3 => ?_)
    · have ic_3 : x_2.toInt < i.toInt := zi_lt c_3
      refine lv_iconst (v := 1) hx hb dL_law_562 (by decide) ?_
      refine va_forget (fun q hq => by have h9 := hS.2.2 q hq; rw [hAd] at h9; exact h9) ?_
      refine W.widen (k := 601024) (n := 7293034) (by omega) (by omega) ?_
      exact lw_ret hx hb hr hlocks dL_law_563
    · have ic_3 : i.toInt ≤ x_2.toInt := zi_nlt c_3
      refine lv_aload_n hx hb dL_law_33 rfl (lv_at hl 0 rfl) ?_
      refine lv_iload hx hb dL_law_34 (lv_at hl 4 rfl) ?_
      refine va_sld hx hb hX hbl hbA hS (vp_in_iff.mpr ⟨by omega, by omega⟩) dL_law_36 ?_
      refine lv_topi (fun x_4 ex_4 => ?_)
      refine lv_bipush (v := 15) hx hb dL_law_37 (by decide) ?_
      refine lv_iand hx hb dL_law_39 ?_
      refine lv_topi (fun x_5 ex_5 => ?_)
      obtain ⟨j, hj, ej⟩ := pk_andE x_4 (m := 15) 4 (by decide)
      obtain rfl : x_5 = nI j := ex_5.trans ej
      have hc : j = 0 ∨ j = 1 ∨ j = 2 ∨ j = 3 ∨ j = 4 ∨ j = 5 ∨ j = 6 ∨ j = 7 ∨ j = 8 ∨ j = 9 ∨ j = 10 ∨ 11 ≤ j := by omega
      rcases hc with rfl | rfl | rfl | rfl | rfl | rfl | rfl | rfl | rfl | rfl | rfl | hj11
      · exact lv_tableIn (off := 60) (tgt := 100) hx hb dL_law_40 (by decide) (by decide) (by decide) (by decide) (law_c0 l hlt hL hx hb hr hml hown hA hX hbl hlocks hAd hAA hbA hN hT x y ou n9 ih i wC tC fed wM tM ta zt zv gt gO gb gD H locs ls cells slots hm hi0 hi1 hIC hIM hft hP hD hK hS hl hce hsl hgb (by omega))
      · exact lv_tableIn (off := 133) (tgt := 173) hx hb dL_law_40 (by decide) (by decide) (by decide) (by decide) (law_c1 l hlt hL hx hb hr hml hown hA hX hbl hlocks hAd hAA hbA hN hT x y ou n9 ih i wC tC fed wM tM ta zt zv gt gO gb gD H locs ls cells slots hm hi0 hi1 hIC hIM hft hP hD hK hS hl hce hsl hgb (by omega))
      · exact lv_tableIn (off := 158) (tgt := 198) hx hb dL_law_40 (by decide) (by decide) (by decide) (by decide) (law_c2 l hlt hL hx hb hr hml hown hA hX hbl hlocks hAd hAA hbA hN hT x y ou n9 ih i wC tC fed wM tM ta zt zv gt gO gb gD H locs ls cells slots hm hi0 hi1 hIC hIM hft hP hD hK hS hl hce hsl hgb (by omega))
      · exact lv_tableIn (off := 171) (tgt := 211) hx hb dL_law_40 (by decide) (by decide) (by decide) (by decide) (law_c3 l hlt hL hx hb hr hml hown hA hX hbl hlocks hAd hAA hbA hN hT x y ou n9 ih i wC tC fed wM tM ta zt zv gt gO gb gD H locs ls cells slots hm hi0 hi1 hIC hIM hft hP hD hK hS hl hce hsl hgb (by omega))
      · exact lv_tableIn (off := 184) (tgt := 224) hx hb dL_law_40 (by decide) (by decide) (by decide) (by decide) (law_c4 l hlt hL hx hb hr hml hown hA hX hbl hlocks hAd hAA hbA hN hT x y ou n9 ih i wC tC fed wM tM ta zt zv gt gO gb gD H locs ls cells slots hm hi0 hi1 hIC hIM hft hP hD hK hS hl hce hsl hgb (by omega))
      · exact lv_tableIn (off := 221) (tgt := 261) hx hb dL_law_40 (by decide) (by decide) (by decide) (by decide) (law_c5 l hlt hL hx hb hr hml hown hA hX hbl hlocks hAd hAA hbA hN hT x y ou n9 ih i wC tC fed wM tM ta zt zv gt gO gb gD H locs ls cells slots hm hi0 hi1 hIC hIM hft hP hD hK hS hl hce hsl hgb (by omega))
      · exact lv_tableIn (off := 322) (tgt := 362) hx hb dL_law_40 (by decide) (by decide) (by decide) (by decide) (law_c6 l hlt hL hx hb hr hml hown hA hX hbl hlocks hAd hAA hbA hN hT x y ou n9 ih i wC tC fed wM tM ta zt zv gt gO gb gD H locs ls cells slots hm hi0 hi1 hIC hIM hft hP hD hK hS hl hce hsl hgb (by omega))
      · exact lv_tableIn (off := 409) (tgt := 449) hx hb dL_law_40 (by decide) (by decide) (by decide) (by decide) (law_c7 l hlt hL hx hb hr hml hown hA hX hbl hlocks hAd hAA hbA hN hT x y ou n9 ih i wC tC fed wM tM ta zt zv gt gO gb gD H locs ls cells slots hm hi0 hi1 hIC hIM hft hP hD hK hS hl hce hsl hgb (by omega))
      · exact lv_tableIn (off := 450) (tgt := 490) hx hb dL_law_40 (by decide) (by decide) (by decide) (by decide) (law_c8 l hlt hL hx hb hr hml hown hA hX hbl hlocks hAd hAA hbA hN hT x y ou n9 ih i wC tC fed wM tM ta zt zv gt gO gb gD H locs ls cells slots hm hi0 hi1 hIC hIM hft hP hD hK hS hl hce hsl hgb (by omega))
      · exact lv_tableIn (off := 478) (tgt := 518) hx hb dL_law_40 (by decide) (by decide) (by decide) (by decide) (law_c9 l hlt hL hx hb hr hml hown hA hX hbl hlocks hAd hAA hbA hN hT x y ou n9 ih i wC tC fed wM tM ta zt zv gt gO gb gD H locs ls cells slots hm hi0 hi1 hIC hIM hft hP hD hK hS hl hce hsl hgb (by omega))
      · exact lv_tableIn (off := 491) (tgt := 531) hx hb dL_law_40 (by decide) (by decide) (by decide) (by decide) (law_c10 l hlt hL hx hb hr hml hown hA hX hbl hlocks hAd hAA hbA hN hT x y ou n9 ih i wC tC fed wM tM ta zt zv gt gO gb gD H locs ls cells slots hm hi0 hi1 hIC hIM hft hP hD hK hS hl hce hsl hgb (by omega))
      · exact lv_tableOut (tgt := 556) hx hb dL_law_40 (Or.inr (by rw [nI_toInt (by omega)]; omega)) (by decide) (law_c11 l hlt hL hx hb hr hml hown hA hX hbl hlocks hAd hAA hbA hN hT x y ou n9 ih i wC tC fed wM tM ta zt zv gt gO gb gD H locs ls cells slots hm hi0 hi1 hIC hIM hft hP hD hK hS hl hce hsl hgb (by omega))

end
