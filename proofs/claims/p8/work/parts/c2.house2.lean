theorem wi_594 : Cond.fieldLink RX11 65 "ReuseHouse" "wasRun" "Z" ∈ zw := zw_in (List.mem_of_getElem? (i := 594) (by decide +kernel)) (by decide +kernel)
theorem wi_595 : Cond.fieldLink RX11 69 "ReuseHouse" "runSteps" "I" ∈ zw := zw_in (List.mem_of_getElem? (i := 595) (by decide +kernel)) (by decide +kernel)
theorem wi_589 : Cond.fieldLink RX11 45 "ReuseHouse" "countedCells" "LReuseHouse$Cells;" ∈ zw := zw_in (List.mem_of_getElem? (i := 589) (by decide +kernel)) (by decide +kernel)
theorem wi_449 : Cond.fieldLink RX11 182 "ReuseHouse$Cells" "made" "I" ∈ zw := zw_in (List.mem_of_getElem? (i := 449) (by decide +kernel)) (by decide +kernel)
theorem wi_451 : Cond.fieldLink RX11 185 "ReuseHouse$Cells" "reused" "I" ∈ zw := zw_in (List.mem_of_getElem? (i := 451) (by decide +kernel)) (by decide +kernel)
theorem wi_454 : Cond.fieldLink RX11 176 "ReuseHouse$Cells" "freed" "I" ∈ zw := zw_in (List.mem_of_getElem? (i := 454) (by decide +kernel)) (by decide +kernel)
theorem wi_447 : Cond.fieldLink RX11 188 "ReuseHouse$Cells" "mostHeld" "I" ∈ zw := zw_in (List.mem_of_getElem? (i := 447) (by decide +kernel)) (by decide +kernel)
theorem wi_456 : Cond.fieldLink RX11 191 "ReuseHouse$Cells" "doubled" "I" ∈ zw := zw_in (List.mem_of_getElem? (i := 456) (by decide +kernel)) (by decide +kernel)
theorem wi_445 : Cond.fieldLink RX11 154 "ReuseHouse$Cells" "held" "I" ∈ zw := zw_in (List.mem_of_getElem? (i := 445) (by decide +kernel)) (by decide +kernel)
theorem wi_596 : Cond.fieldLink RX11 72 "ReuseHouse" "runCalls" "I" ∈ zw := zw_in (List.mem_of_getElem? (i := 596) (by decide +kernel)) (by decide +kernel)
theorem wi_597 : Cond.fieldLink RX11 75 "ReuseHouse" "hasValue" "Z" ∈ zw := zw_in (List.mem_of_getElem? (i := 597) (by decide +kernel)) (by decide +kernel)
theorem wi_598 : Cond.fieldLink RX11 78 "ReuseHouse" "value" "J" ∈ zw := zw_in (List.mem_of_getElem? (i := 598) (by decide +kernel)) (by decide +kernel)
theorem wi_1338 : Cond.methodLink RX11 179 yX1_drop ∈ zw := zw_in (List.mem_of_getElem? (i := 1338) (by decide +kernel)) (by decide +kernel)
theorem dX11_about_0 : decode cX11_about 0 = .ok (.aload_n 0, 1) := by decide +kernel
theorem dX11_about_1 : decode cX11_about 1 = .ok (.getfield 20, 3) := by decide +kernel
theorem dX11_about_4 : decode cX11_about 4 = .ok (.getfield 102, 3) := by decide +kernel
theorem dX11_about_7 : decode cX11_about 7 = .ok (.iload_n 1, 1) := by decide +kernel
theorem dX11_about_8 : decode cX11_about 8 = .ok (.invokevirtual 111, 3) := by decide +kernel
theorem dX11_about_11 : decode cX11_about 11 = .ok (.ifCond .eq 12, 3) := by decide +kernel
theorem dX11_about_14 : decode cX11_about 14 = .ok (.iload_n 2, 1) := by decide +kernel
theorem dX11_about_15 : decode cX11_about 15 = .ok (.ifCond .lt 8, 3) := by decide +kernel
theorem dX11_about_18 : decode cX11_about 18 = .ok (.iload_n 2, 1) := by decide +kernel
theorem dX11_about_19 : decode cX11_about 19 = .ok (.iconst 5, 1) := by decide +kernel
theorem dX11_about_20 : decode cX11_about 20 = .ok (.if_icmp .lt 5, 3) := by decide +kernel
theorem dX11_about_23 : decode cX11_about 23 = .ok (.iconst (-1), 1) := by decide +kernel
theorem dX11_about_24 : decode cX11_about 24 = .ok (.ireturn, 1) := by decide +kernel
theorem dX11_about_25 : decode cX11_about 25 = .ok (.aload_n 0, 1) := by decide +kernel
theorem dX11_about_26 : decode cX11_about 26 = .ok (.getfield 20, 3) := by decide +kernel
theorem dX11_about_29 : decode cX11_about 29 = .ok (.getfield 102, 3) := by decide +kernel
theorem dX11_about_32 : decode cX11_about 32 = .ok (.iload_n 1, 1) := by decide +kernel
theorem dX11_about_33 : decode cX11_about 33 = .ok (.iload_n 2, 1) := by decide +kernel
theorem dX11_about_34 : decode cX11_about 34 = .ok (.invokevirtual 115, 3) := by decide +kernel
theorem dX11_about_37 : decode cX11_about 37 = .ok (.ireturn, 1) := by decide +kernel
theorem dX11_count_0 : decode cX11_count 0 = .ok (.aload_n 0, 1) := by decide +kernel
theorem dX11_count_1 : decode cX11_count 1 = .ok (.getfield 65, 3) := by decide +kernel
theorem dX11_count_4 : decode cX11_count 4 = .ok (.ifCond .ne 5, 3) := by decide +kernel
theorem dX11_count_7 : decode cX11_count 7 = .ok (.iconst (-1), 1) := by decide +kernel
theorem dX11_count_8 : decode cX11_count 8 = .ok (.ireturn, 1) := by decide +kernel
theorem dX11_count_9 : decode cX11_count 9 = .ok (.iload_n 1, 1) := by decide +kernel
theorem dX11_count_10 : decode cX11_count 10 = .ok (.tableswitch 104 0 7 #[46, 51, 59, 67, 75, 83, 91, 99], 46) := by decide +kernel
theorem dX11_count_56 : decode cX11_count 56 = .ok (.aload_n 0, 1) := by decide +kernel
theorem dX11_count_57 : decode cX11_count 57 = .ok (.getfield 69, 3) := by decide +kernel
theorem dX11_count_60 : decode cX11_count 60 = .ok (.ireturn, 1) := by decide +kernel
theorem dX11_count_61 : decode cX11_count 61 = .ok (.aload_n 0, 1) := by decide +kernel
theorem dX11_count_62 : decode cX11_count 62 = .ok (.getfield 45, 3) := by decide +kernel
theorem dX11_count_65 : decode cX11_count 65 = .ok (.getfield 182, 3) := by decide +kernel
theorem dX11_count_68 : decode cX11_count 68 = .ok (.ireturn, 1) := by decide +kernel
theorem dX11_count_69 : decode cX11_count 69 = .ok (.aload_n 0, 1) := by decide +kernel
theorem dX11_count_70 : decode cX11_count 70 = .ok (.getfield 45, 3) := by decide +kernel
theorem dX11_count_73 : decode cX11_count 73 = .ok (.getfield 185, 3) := by decide +kernel
theorem dX11_count_76 : decode cX11_count 76 = .ok (.ireturn, 1) := by decide +kernel
theorem dX11_count_77 : decode cX11_count 77 = .ok (.aload_n 0, 1) := by decide +kernel
theorem dX11_count_78 : decode cX11_count 78 = .ok (.getfield 45, 3) := by decide +kernel
theorem dX11_count_81 : decode cX11_count 81 = .ok (.getfield 176, 3) := by decide +kernel
theorem dX11_count_84 : decode cX11_count 84 = .ok (.ireturn, 1) := by decide +kernel
theorem dX11_count_85 : decode cX11_count 85 = .ok (.aload_n 0, 1) := by decide +kernel
theorem dX11_count_86 : decode cX11_count 86 = .ok (.getfield 45, 3) := by decide +kernel
theorem dX11_count_89 : decode cX11_count 89 = .ok (.getfield 188, 3) := by decide +kernel
theorem dX11_count_92 : decode cX11_count 92 = .ok (.ireturn, 1) := by decide +kernel
theorem dX11_count_93 : decode cX11_count 93 = .ok (.aload_n 0, 1) := by decide +kernel
theorem dX11_count_94 : decode cX11_count 94 = .ok (.getfield 45, 3) := by decide +kernel
theorem dX11_count_97 : decode cX11_count 97 = .ok (.getfield 191, 3) := by decide +kernel
theorem dX11_count_100 : decode cX11_count 100 = .ok (.ireturn, 1) := by decide +kernel
theorem dX11_count_101 : decode cX11_count 101 = .ok (.aload_n 0, 1) := by decide +kernel
theorem dX11_count_102 : decode cX11_count 102 = .ok (.getfield 45, 3) := by decide +kernel
theorem dX11_count_105 : decode cX11_count 105 = .ok (.getfield 154, 3) := by decide +kernel
theorem dX11_count_108 : decode cX11_count 108 = .ok (.ireturn, 1) := by decide +kernel
theorem dX11_count_109 : decode cX11_count 109 = .ok (.aload_n 0, 1) := by decide +kernel
theorem dX11_count_110 : decode cX11_count 110 = .ok (.getfield 72, 3) := by decide +kernel
theorem dX11_count_113 : decode cX11_count 113 = .ok (.ireturn, 1) := by decide +kernel
theorem dX11_count_114 : decode cX11_count 114 = .ok (.iconst (-1), 1) := by decide +kernel
theorem dX11_count_115 : decode cX11_count 115 = .ok (.ireturn, 1) := by decide +kernel
theorem dX11_release_0 : decode cX11_release 0 = .ok (.aload_n 0, 1) := by decide +kernel
theorem dX11_release_1 : decode cX11_release 1 = .ok (.getfield 75, 3) := by decide +kernel
theorem dX11_release_4 : decode cX11_release 4 = .ok (.ifCond .ne 5, 3) := by decide +kernel
theorem dX11_release_7 : decode cX11_release 7 = .ok (.iconst (-1), 1) := by decide +kernel
theorem dX11_release_8 : decode cX11_release 8 = .ok (.ireturn, 1) := by decide +kernel
theorem dX11_release_9 : decode cX11_release 9 = .ok (.aload_n 0, 1) := by decide +kernel
theorem dX11_release_10 : decode cX11_release 10 = .ok (.iconst 0, 1) := by decide +kernel
theorem dX11_release_11 : decode cX11_release 11 = .ok (.putfield 75, 3) := by decide +kernel
theorem dX11_release_14 : decode cX11_release 14 = .ok (.aload_n 0, 1) := by decide +kernel
theorem dX11_release_15 : decode cX11_release 15 = .ok (.getfield 45, 3) := by decide +kernel
theorem dX11_release_18 : decode cX11_release 18 = .ok (.getfield 176, 3) := by decide +kernel
theorem dX11_release_21 : decode cX11_release 21 = .ok (.istore_n 1, 1) := by decide +kernel
theorem dX11_release_22 : decode cX11_release 22 = .ok (.aload_n 0, 1) := by decide +kernel
theorem dX11_release_23 : decode cX11_release 23 = .ok (.getfield 45, 3) := by decide +kernel
theorem dX11_release_26 : decode cX11_release 26 = .ok (.aload_n 0, 1) := by decide +kernel
theorem dX11_release_27 : decode cX11_release 27 = .ok (.getfield 78, 3) := by decide +kernel
theorem dX11_release_30 : decode cX11_release 30 = .ok (.invokevirtual 179, 3) := by decide +kernel
theorem dX11_release_33 : decode cX11_release 33 = .ok (.aload_n 0, 1) := by decide +kernel
theorem dX11_release_34 : decode cX11_release 34 = .ok (.getfield 45, 3) := by decide +kernel
theorem dX11_release_37 : decode cX11_release 37 = .ok (.getfield 176, 3) := by decide +kernel
theorem dX11_release_40 : decode cX11_release 40 = .ok (.iload_n 1, 1) := by decide +kernel
theorem dX11_release_41 : decode cX11_release 41 = .ok (.isub, 1) := by decide +kernel
theorem dX11_release_42 : decode cX11_release 42 = .ok (.ireturn, 1) := by decide +kernel
set_option maxHeartbeats 4000000 in
set_option maxRecDepth 100000 in
theorem c_X11_about_x (l : Launch) (dC : Nat → ClassId) (dI : Nat → Nat → Nat) (aK aV : Nat → Nat) (h0 : Nat) (h_tape : Nat) (h_fed : Int32) (h_taken : Nat) (h_parser : Nat) (h_machine : Nat) (h_countedCells : Nat) (h_plainCells : Nat) (h_printer : Nat) (h_faultNumber : Int32) (h_stopPlace : Int32) (h_wasRun : Int32) (h_runSteps : Int32) (h_runCalls : Int32) (h_hasValue : Int32) (h_value : Int64) (h_hasOther : Int32) (h_otherValue : Int64) (gco : Nat) (gar : Nat) (gki : Nat) (gfu : Nat) (fw : Nat) (fe : Nat) (ff : Nat) (f1 : ClassId) (f2 : ClassId) (f3 : ClassId) (fz : Int32) (fgw : Nat → Int64) (fge : Nat → Int32) (fgf : Nat → Int32) (fu : Int32) (wh : Int32) (sz : Nat) (hf0 : 0 ≤ fz.toInt) (hf1 : fz.toInt ≤ 30) : Met l yX11_about (Cond.code yX11_about cX11_about 3 (some .int) :: zw) ({ frames := 12, cells := 0, slots := 0, locals := 400 }) (va_Pc [.ref h0, .int fu, .int wh] (zP dC dI aK aV sz [(f1, .long), (f2, .int), (f3, .int)] [(h0, .inr (11, [.ref h_tape, .int h_fed, .ref h_taken, .ref h_parser, .ref h_machine, .ref h_countedCells, .ref h_plainCells, .ref h_printer, .int h_faultNumber, .int h_stopPlace, .int h_wasRun, .int h_runSteps, .int h_runCalls, .int h_hasValue, .long h_value, .int h_hasOther, .long h_otherValue])), (h_taken, .inr (9, [.ref gco, .ref gar, .ref gki, .ref gfu])), (gfu, .inr (3, [.ref fw, .ref fe, .ref ff, .int fz])), (fw, .inl (f1, 30, .inr (.inl fgw))), (fe, .inl (f2, 30, .inl fge)), (ff, .inl (f3, 150, .inl fgf))])) (va_Qi (fun (r : Int32) (u : Unit) => True) (fun u => zQ dC dI (va_A [(h0, .inr (11, [.ref h_tape, .int h_fed, .ref h_taken, .ref h_parser, .ref h_machine, .ref h_countedCells, .ref h_plainCells, .ref h_printer, .int h_faultNumber, .int h_stopPlace, .int h_wasRun, .int h_runSteps, .int h_runCalls, .int h_hasValue, .long h_value, .int h_hasOther, .long h_otherValue])), (h_taken, .inr (9, [.ref gco, .ref gar, .ref gki, .ref gfu])), (gfu, .inr (3, [.ref fw, .ref fe, .ref ff, .int fz])), (fw, .inl (f1, 30, .inr (.inl fgw))), (fe, .inl (f2, 30, .inl fge)), (ff, .inl (f3, 150, .inl fgf))] sz) [(f1, .long), (f2, .int), (f3, .int)] [(h0, .inr (11, [.ref h_tape, .int h_fed, .ref h_taken, .ref h_parser, .ref h_machine, .ref h_countedCells, .ref h_plainCells, .ref h_printer, .int h_faultNumber, .int h_stopPlace, .int h_wasRun, .int h_runSteps, .int h_runCalls, .int h_hasValue, .long h_value, .int h_hasOther, .long h_otherValue])), (h_taken, .inr (9, [.ref gco, .ref gar, .ref gki, .ref gfu])), (gfu, .inr (3, [.ref fw, .ref fe, .ref ff, .int fz])), (fw, .inl (f1, 30, .inr (.inl fgw))), (fe, .inl (f2, 30, .inl fge)), (ff, .inl (f3, 150, .inl fgf))]) (va_A [(h0, .inr (11, [.ref h_tape, .int h_fed, .ref h_taken, .ref h_parser, .ref h_machine, .ref h_countedCells, .ref h_plainCells, .ref h_printer, .int h_faultNumber, .int h_stopPlace, .int h_wasRun, .int h_runSteps, .int h_runCalls, .int h_hasValue, .long h_value, .int h_hasOther, .long h_otherValue])), (h_taken, .inr (9, [.ref gco, .ref gar, .ref gki, .ref gfu])), (gfu, .inr (3, [.ref fw, .ref fe, .ref ff, .int fz])), (fw, .inl (f1, 30, .inr (.inl fgw))), (fe, .inl (f2, 30, .inl fge)), (ff, .inl (f3, 150, .inl fgf))] sz)) 0 0 (va_A [(h0, .inr (11, [.ref h_tape, .int h_fed, .ref h_taken, .ref h_parser, .ref h_machine, .ref h_countedCells, .ref h_plainCells, .ref h_printer, .int h_faultNumber, .int h_stopPlace, .int h_wasRun, .int h_runSteps, .int h_runCalls, .int h_hasValue, .long h_value, .int h_hasOther, .long h_otherValue])), (h_taken, .inr (9, [.ref gco, .ref gar, .ref gki, .ref gfu])), (gfu, .inr (3, [.ref fw, .ref fe, .ref ff, .int fz])), (fw, .inl (f1, 30, .inr (.inl fgw))), (fe, .inl (f2, 30, .inl fge)), (ff, .inl (f3, 150, .inl fgf))] sz) := by
  refine Met.ofW (cc := cX11_about) (maxL := 3) (ret := (some .int)) (by decide) rfl ?_
  intro p e s m args below meth c s₁ B hml hv
  obtain ⟨rfl, hsz, hP, hK, hD0, hN, hT⟩ := hv
  have hx := B.exec
  have hb := B.bytes
  have hr := B.returns
  have hts := atoms_spec (ws := Cond.code yX11_about cX11_about 3 (some .int) :: zw) B.pre
  have hA : ∀ w ∈ zw, w.before _ s = true := fun w h => hts w (List.mem_cons_of_mem _ h)
  have hown : s.vm.findClass RX11 = some m.cls := findClass_of_methodNamed B.named
  have hlocks := B.notSynchronized
  subst hsz
  have hD := hD0.self (sz := s.heap.size)
  generalize hAe : va_A [(h0, .inr (11, [.ref h_tape, .int h_fed, .ref h_taken, .ref h_parser, .ref h_machine, .ref h_countedCells, .ref h_plainCells, .ref h_printer, .int h_faultNumber, .int h_stopPlace, .int h_wasRun, .int h_runSteps, .int h_runCalls, .int h_hasValue, .long h_value, .int h_hasOther, .long h_otherValue])), (h_taken, .inr (9, [.ref gco, .ref gar, .ref gki, .ref gfu])), (gfu, .inr (3, [.ref fw, .ref fe, .ref ff, .int fz])), (fw, .inl (f1, 30, .inr (.inl fgw))), (fe, .inl (f2, 30, .inl fge)), (ff, .inl (f3, 150, .inl fgf))] s.heap.size = A at hD hT ⊢
  have hAA : ∀ q : Nat, s.heap.size ≤ q → A q := fun q h => by rw [← hAe]; exact Or.inr h
  have hS : va_S A s.heap s.heap [] := va_S.rf
  have hl := lv_entry ([.ref h0, .int fu, .int wh]) (n := 3) (Nat.le_of_ble_eq_true rfl)
  rw [lg_entry_eq]
  generalize (lg_sl ([.ref h0, .int fu, .int wh]) ++ List.replicate (3 - (lg_sl ([.ref h0, .int fu, .int wh])).length) Slot.unset).toArray = ls at hl ⊢
  have hl : lv_has ls 3 [(0, .ref h0), (1, .int fu), (2, .int wh)] := hl
  refine lv_aload_n hx hb dX11_about_0 rfl (lv_at hl 0 rfl) ?_
  refine va_get (D := (dC, dI)) (ci := 11) (v := .ref h_taken) (C := RX11) (T := TX11) (N := 17) hx hb hA zin_X11 hown hK hP 0 rfl rfl 2 (by decide) (hA _ wi_586) (fun _ h9 => h9) rfl dX11_about_1 ?_
  refine va_get (D := (dC, dI)) (ci := 9) (v := .ref gfu) (C := RX9) (T := TX9) (N := 4) hx hb hA zin_X9 hown hK hP 1 rfl rfl 3 (by decide) (hA _ wi_321) (fun _ h9 => h9) rfl dX11_about_4 ?_
  refine lv_iload_n hx hb dX11_about_7 rfl (lv_at hl 1 rfl) ?_
  have hPc := hP.sub (ws' := [(gfu, .inr (3, [.ref fw, .ref fe, .ref ff, .int fz]))]) [2] rfl
  have hDc := hD.sub (ws' := [(gfu, .inr (3, [.ref fw, .ref fe, .ref ff, .int fz]))]) [2] (by decide) rfl
  have hKc := hK.sub (tys' := []) [] rfl
  have hFc := va_free (wc := [(gfu, .inr (3, [.ref fw, .ref fe, .ref ff, .int fz]))]) hD hS hAA [2] rfl
  refine va_calli (va_runV (As := [.int fu]) (rest := []) ⟨hx, hb, hml, hown, hA⟩ (c_X3_has_x l dC dI aK aV gfu fw fe ff fz fu s.heap.size) (cwV 1 hA (zw_V wi_1078 wi_911 wi_912 wi_135 (zw_good wi_913)) rfl rfl rfl (by decide +kernel) ⟨(Nat.le_of_ble_eq_true rfl), (Nat.le_of_ble_eq_true rfl)⟩) ⟨zP_blind, va_recv hKc hPc (ci := 3) (q0 := 0) rfl rfl, zz_pre hKc hPc hDc hN hT hS hFc⟩ rfl rfl hl.1 rfl (lv_room (Nat.le_of_ble_eq_true rfl)) dX11_about_8 ⟨(Nat.le_of_ble_eq_true rfl), (Nat.le_of_ble_eq_true rfl)⟩) hS (fun q _ h => hFc q h) hFc (fun r_1 u t H1 locs ht hvm hw hB hz1 hk1 hS => ?_)
  obtain ⟨hP1, hK1, hD1⟩ := hB
  rw [ht] at hP1
  have hK1 := va_K.moved hvm.symm hK1
  obtain ⟨hP, hD⟩ := va_join (wr := [(h0, .inr (11, [.ref h_tape, .int h_fed, .ref h_taken, .ref h_parser, .ref h_machine, .ref h_countedCells, .ref h_plainCells, .ref h_printer, .int h_faultNumber, .int h_stopPlace, .int h_wasRun, .int h_runSteps, .int h_runCalls, .int h_hasValue, .long h_value, .int h_hasOther, .long h_otherValue])), (h_taken, .inr (9, [.ref gco, .ref gar, .ref gki, .ref gfu])), (fw, .inl (f1, 30, .inr (.inl fgw))), (fe, .inl (f2, 30, .inl fge)), (ff, .inl (f3, 150, .inl fgf))]) (w1 := [(gfu, .inr (3, [.ref fw, .ref fe, .ref ff, .int fz]))]) hP hD [2] [0, 1, 3, 4, 5] rfl rfl (by decide) (by decide) hk1 hFc hP1 hD1
  have hK := (hK.sub (tys' := [(f1, .long), (f2, .int), (f3, .int)]) [0, 1, 2] rfl).app hK1
  generalize H1 = H at hP hS ⊢
  have hP : va_P (dC, dI) vwCl [(h0, .inr (11, [.ref h_tape, .int h_fed, .ref h_taken, .ref h_parser, .ref h_machine, .ref h_countedCells, .ref h_plainCells, .ref h_printer, .int h_faultNumber, .int h_stopPlace, .int h_wasRun, .int h_runSteps, .int h_runCalls, .int h_hasValue, .long h_value, .int h_hasOther, .long h_otherValue])), (h_taken, .inr (9, [.ref gco, .ref gar, .ref gki, .ref gfu])), (fw, .inl (f1, 30, .inr (.inl fgw))), (fe, .inl (f2, 30, .inl fge)), (ff, .inl (f3, 150, .inl fgf)), (gfu, .inr (3, [.ref fw, .ref fe, .ref ff, .int fz]))] H := hP
  have hD : va_D A [(h0, .inr (11, [.ref h_tape, .int h_fed, .ref h_taken, .ref h_parser, .ref h_machine, .ref h_countedCells, .ref h_plainCells, .ref h_printer, .int h_faultNumber, .int h_stopPlace, .int h_wasRun, .int h_runSteps, .int h_runCalls, .int h_hasValue, .long h_value, .int h_hasOther, .long h_otherValue])), (h_taken, .inr (9, [.ref gco, .ref gar, .ref gki, .ref gfu])), (fw, .inl (f1, 30, .inr (.inl fgw))), (fe, .inl (f2, 30, .inl fge)), (ff, .inl (f3, 150, .inl fgf)), (gfu, .inr (3, [.ref fw, .ref fe, .ref ff, .int fz]))] := hD
  have hK : va_K (dC, dI) vwCl [(f1, .long), (f2, .int), (f3, .int)] s := hK
  have hw_r_1 := hw
  try dsimp only at hw_r_1
  have hq_2 := hw
  refine lv_if_eq (tgt := 23) hx hb dX11_about_11 (by decide) (fun c_3 => ?_) (fun c_3 => ?_)
  · have ic_3 : r_1.toInt = 0 := zi_eq c_3
    refine lv_iconst (v := (-1)) hx hb dX11_about_23 (by decide) ?_
    have hlit : Int32.toInt (-1) = (-1) := by decide
    have hP9 := hP.sub (ws' := [(h0, .inr (11, [.ref h_tape, .int h_fed, .ref h_taken, .ref h_parser, .ref h_machine, .ref h_countedCells, .ref h_plainCells, .ref h_printer, .int h_faultNumber, .int h_stopPlace, .int h_wasRun, .int h_runSteps, .int h_runCalls, .int h_hasValue, .long h_value, .int h_hasOther, .long h_otherValue])), (h_taken, .inr (9, [.ref gco, .ref gar, .ref gki, .ref gfu])), (gfu, .inr (3, [.ref fw, .ref fe, .ref ff, .int fz])), (fw, .inl (f1, 30, .inr (.inl fgw))), (fe, .inl (f2, 30, .inl fge)), (ff, .inl (f3, 150, .inl fgf))]) [0, 1, 5, 2, 3, 4] rfl
    have hD9 := hD.sub (ws' := [(h0, .inr (11, [.ref h_tape, .int h_fed, .ref h_taken, .ref h_parser, .ref h_machine, .ref h_countedCells, .ref h_plainCells, .ref h_printer, .int h_faultNumber, .int h_stopPlace, .int h_wasRun, .int h_runSteps, .int h_runCalls, .int h_hasValue, .long h_value, .int h_hasOther, .long h_otherValue])), (h_taken, .inr (9, [.ref gco, .ref gar, .ref gki, .ref gfu])), (gfu, .inr (3, [.ref fw, .ref fe, .ref ff, .int fz])), (fw, .inl (f1, 30, .inr (.inl fgw))), (fe, .inl (f2, 30, .inl fge)), (ff, .inl (f3, 150, .inl fgf))]) [0, 1, 5, 2, 3, 4] (by decide) rfl
    have hK9 := hK.sub (tys' := [(f1, .long), (f2, .int), (f3, .int)]) [0, 1, 2] rfl
    exact W.iret (v := (-1)) hx hb hr (fun t ht hW => ⟨⟨(-1), (), rfl, trivial, by rw [ht]; exact hP9, va_K.moved hW.alike hK9, hD9⟩, hS.F ht⟩) hS.2.2 dX11_about_24
  · have ic_3 : r_1.toInt ≠ 0 := zi_ne c_3
    refine lv_iload_n hx hb dX11_about_14 rfl (lv_at hl 2 rfl) ?_
    refine lv_if_lt (tgt := 23) hx hb dX11_about_15 (by decide) (fun c_4 => ?_) (fun c_4 => ?_)
    · have ic_4 : wh.toInt < 0 := zi_lt c_4
      refine lv_iconst (v := (-1)) hx hb dX11_about_23 (by decide) ?_
      have hlit : Int32.toInt (-1) = (-1) := by decide
      have hP9 := hP.sub (ws' := [(h0, .inr (11, [.ref h_tape, .int h_fed, .ref h_taken, .ref h_parser, .ref h_machine, .ref h_countedCells, .ref h_plainCells, .ref h_printer, .int h_faultNumber, .int h_stopPlace, .int h_wasRun, .int h_runSteps, .int h_runCalls, .int h_hasValue, .long h_value, .int h_hasOther, .long h_otherValue])), (h_taken, .inr (9, [.ref gco, .ref gar, .ref gki, .ref gfu])), (gfu, .inr (3, [.ref fw, .ref fe, .ref ff, .int fz])), (fw, .inl (f1, 30, .inr (.inl fgw))), (fe, .inl (f2, 30, .inl fge)), (ff, .inl (f3, 150, .inl fgf))]) [0, 1, 5, 2, 3, 4] rfl
      have hD9 := hD.sub (ws' := [(h0, .inr (11, [.ref h_tape, .int h_fed, .ref h_taken, .ref h_parser, .ref h_machine, .ref h_countedCells, .ref h_plainCells, .ref h_printer, .int h_faultNumber, .int h_stopPlace, .int h_wasRun, .int h_runSteps, .int h_runCalls, .int h_hasValue, .long h_value, .int h_hasOther, .long h_otherValue])), (h_taken, .inr (9, [.ref gco, .ref gar, .ref gki, .ref gfu])), (gfu, .inr (3, [.ref fw, .ref fe, .ref ff, .int fz])), (fw, .inl (f1, 30, .inr (.inl fgw))), (fe, .inl (f2, 30, .inl fge)), (ff, .inl (f3, 150, .inl fgf))]) [0, 1, 5, 2, 3, 4] (by decide) rfl
      have hK9 := hK.sub (tys' := [(f1, .long), (f2, .int), (f3, .int)]) [0, 1, 2] rfl
      exact W.iret (v := (-1)) hx hb hr (fun t ht hW => ⟨⟨(-1), (), rfl, trivial, by rw [ht]; exact hP9, va_K.moved hW.alike hK9, hD9⟩, hS.F ht⟩) hS.2.2 dX11_about_24
    · have ic_4 : 0 ≤ wh.toInt := zi_nlt c_4
      refine lv_iload_n hx hb dX11_about_18 rfl (lv_at hl 2 rfl) ?_
      refine lv_iconst (v := 5) hx hb dX11_about_19 (by decide) ?_
      refine lv_icmp_lt (tgt := 25) hx hb dX11_about_20 (by decide) (fun c_5 => ?_) (fun c_5 => ?_)
      · have ic_5 : wh.toInt < 5 := zi_lt c_5
        refine lv_aload_n hx hb dX11_about_25 rfl (lv_at hl 0 rfl) ?_
        refine va_get (D := (dC, dI)) (ci := 11) (v := .ref h_taken) (C := RX11) (T := TX11) (N := 17) hx hb hA zin_X11 hown hK hP 0 rfl rfl 2 (by decide) (hA _ wi_586) (fun _ h9 => h9) rfl dX11_about_26 ?_
        refine va_get (D := (dC, dI)) (ci := 9) (v := .ref gfu) (C := RX9) (T := TX9) (N := 4) hx hb hA zin_X9 hown hK hP 1 rfl rfl 3 (by decide) (hA _ wi_321) (fun _ h9 => h9) rfl dX11_about_29 ?_
        refine lv_iload_n hx hb dX11_about_32 rfl (lv_at hl 1 rfl) ?_
        refine lv_iload_n hx hb dX11_about_33 rfl (lv_at hl 2 rfl) ?_
        have hPc := hP.sub (ws' := [(gfu, .inr (3, [.ref fw, .ref fe, .ref ff, .int fz])), (fw, .inl (f1, 30, .inr (.inl fgw))), (fe, .inl (f2, 30, .inl fge)), (ff, .inl (f3, 150, .inl fgf))]) [5, 2, 3, 4] rfl
        have hDc := hD.sub (ws' := [(gfu, .inr (3, [.ref fw, .ref fe, .ref ff, .int fz])), (fw, .inl (f1, 30, .inr (.inl fgw))), (fe, .inl (f2, 30, .inl fge)), (ff, .inl (f3, 150, .inl fgf))]) [5, 2, 3, 4] (by decide) rfl
        have hKc := hK.sub (tys' := [(f1, .long), (f2, .int), (f3, .int)]) [0, 1, 2] rfl
        have hFc := va_free (wc := [(gfu, .inr (3, [.ref fw, .ref fe, .ref ff, .int fz])), (fw, .inl (f1, 30, .inr (.inl fgw))), (fe, .inl (f2, 30, .inl fge)), (ff, .inl (f3, 150, .inl fgf))]) hD hS hAA [5, 2, 3, 4] rfl
        refine va_calli (va_runV (As := [.int fu, .int wh]) (rest := []) ⟨hx, hb, hml, hown, hA⟩ (c_X3_fact_x l dC dI aK aV gfu fw fe ff f1 f2 f3 fz fgw fge fgf fu wh H.size (by omega) (by omega) (by omega) (by omega) (by omega) (by omega)) (cwV 2 hA (zw_V wi_1079 wi_907 wi_908 wi_135 (zw_good wi_909)) rfl rfl rfl (by decide +kernel) ⟨(Nat.le_of_ble_eq_true rfl), (Nat.le_of_ble_eq_true rfl)⟩) ⟨zP_blind, va_recv hKc hPc (ci := 3) (q0 := 0) rfl rfl, zz_pre hKc hPc hDc hN hT hS hFc⟩ rfl rfl hl.1 rfl (lv_room (Nat.le_of_ble_eq_true rfl)) dX11_about_34 ⟨(Nat.le_of_ble_eq_true rfl), (Nat.le_of_ble_eq_true rfl)⟩) hS (fun q _ h => hFc q h) hFc (fun r_6 u t H1 locs ht hvm hw hB hz1 hk1 hS => ?_)
        obtain ⟨hP1, hK1, hD1⟩ := hB
        rw [ht] at hP1
        have hK1 := va_K.moved hvm.symm hK1
        obtain ⟨hP, hD⟩ := va_join (wr := [(h0, .inr (11, [.ref h_tape, .int h_fed, .ref h_taken, .ref h_parser, .ref h_machine, .ref h_countedCells, .ref h_plainCells, .ref h_printer, .int h_faultNumber, .int h_stopPlace, .int h_wasRun, .int h_runSteps, .int h_runCalls, .int h_hasValue, .long h_value, .int h_hasOther, .long h_otherValue])), (h_taken, .inr (9, [.ref gco, .ref gar, .ref gki, .ref gfu]))]) (w1 := [(gfu, .inr (3, [.ref fw, .ref fe, .ref ff, .int fz])), (fw, .inl (f1, 30, .inr (.inl fgw))), (fe, .inl (f2, 30, .inl fge)), (ff, .inl (f3, 150, .inl fgf))]) hP hD [5, 2, 3, 4] [0, 1] rfl rfl (by decide) (by decide) hk1 hFc hP1 hD1
        have hK := (hK.sub (tys' := []) [] rfl).app hK1
        generalize H1 = H at hP hS ⊢
        have hP : va_P (dC, dI) vwCl [(h0, .inr (11, [.ref h_tape, .int h_fed, .ref h_taken, .ref h_parser, .ref h_machine, .ref h_countedCells, .ref h_plainCells, .ref h_printer, .int h_faultNumber, .int h_stopPlace, .int h_wasRun, .int h_runSteps, .int h_runCalls, .int h_hasValue, .long h_value, .int h_hasOther, .long h_otherValue])), (h_taken, .inr (9, [.ref gco, .ref gar, .ref gki, .ref gfu])), (gfu, .inr (3, [.ref fw, .ref fe, .ref ff, .int fz])), (fw, .inl (f1, 30, .inr (.inl fgw))), (fe, .inl (f2, 30, .inl fge)), (ff, .inl (f3, 150, .inl fgf))] H := hP
        have hD : va_D A [(h0, .inr (11, [.ref h_tape, .int h_fed, .ref h_taken, .ref h_parser, .ref h_machine, .ref h_countedCells, .ref h_plainCells, .ref h_printer, .int h_faultNumber, .int h_stopPlace, .int h_wasRun, .int h_runSteps, .int h_runCalls, .int h_hasValue, .long h_value, .int h_hasOther, .long h_otherValue])), (h_taken, .inr (9, [.ref gco, .ref gar, .ref gki, .ref gfu])), (gfu, .inr (3, [.ref fw, .ref fe, .ref ff, .int fz])), (fw, .inl (f1, 30, .inr (.inl fgw))), (fe, .inl (f2, 30, .inl fge)), (ff, .inl (f3, 150, .inl fgf))] := hD
        have hK : va_K (dC, dI) vwCl [(f1, .long), (f2, .int), (f3, .int)] s := hK
        have hw_r_6 := hw
        try dsimp only at hw_r_6
        have hq_7 := hw
        have hP9 := hP.sub (ws' := [(h0, .inr (11, [.ref h_tape, .int h_fed, .ref h_taken, .ref h_parser, .ref h_machine, .ref h_countedCells, .ref h_plainCells, .ref h_printer, .int h_faultNumber, .int h_stopPlace, .int h_wasRun, .int h_runSteps, .int h_runCalls, .int h_hasValue, .long h_value, .int h_hasOther, .long h_otherValue])), (h_taken, .inr (9, [.ref gco, .ref gar, .ref gki, .ref gfu])), (gfu, .inr (3, [.ref fw, .ref fe, .ref ff, .int fz])), (fw, .inl (f1, 30, .inr (.inl fgw))), (fe, .inl (f2, 30, .inl fge)), (ff, .inl (f3, 150, .inl fgf))]) [0, 1, 2, 3, 4, 5] rfl
        have hD9 := hD.sub (ws' := [(h0, .inr (11, [.ref h_tape, .int h_fed, .ref h_taken, .ref h_parser, .ref h_machine, .ref h_countedCells, .ref h_plainCells, .ref h_printer, .int h_faultNumber, .int h_stopPlace, .int h_wasRun, .int h_runSteps, .int h_runCalls, .int h_hasValue, .long h_value, .int h_hasOther, .long h_otherValue])), (h_taken, .inr (9, [.ref gco, .ref gar, .ref gki, .ref gfu])), (gfu, .inr (3, [.ref fw, .ref fe, .ref ff, .int fz])), (fw, .inl (f1, 30, .inr (.inl fgw))), (fe, .inl (f2, 30, .inl fge)), (ff, .inl (f3, 150, .inl fgf))]) [0, 1, 2, 3, 4, 5] (by decide) rfl
        have hK9 := hK.sub (tys' := [(f1, .long), (f2, .int), (f3, .int)]) [0, 1, 2] rfl
        exact W.iret (v := r_6) hx hb hr (fun t ht hW => ⟨⟨r_6, (), rfl, trivial, by rw [ht]; exact hP9, va_K.moved hW.alike hK9, hD9⟩, hS.F ht⟩) hS.2.2 dX11_about_37
      · have ic_5 : 5 ≤ wh.toInt := zi_nlt c_5
        refine lv_iconst (v := (-1)) hx hb dX11_about_23 (by decide) ?_
        have hlit : Int32.toInt (-1) = (-1) := by decide
        have hP9 := hP.sub (ws' := [(h0, .inr (11, [.ref h_tape, .int h_fed, .ref h_taken, .ref h_parser, .ref h_machine, .ref h_countedCells, .ref h_plainCells, .ref h_printer, .int h_faultNumber, .int h_stopPlace, .int h_wasRun, .int h_runSteps, .int h_runCalls, .int h_hasValue, .long h_value, .int h_hasOther, .long h_otherValue])), (h_taken, .inr (9, [.ref gco, .ref gar, .ref gki, .ref gfu])), (gfu, .inr (3, [.ref fw, .ref fe, .ref ff, .int fz])), (fw, .inl (f1, 30, .inr (.inl fgw))), (fe, .inl (f2, 30, .inl fge)), (ff, .inl (f3, 150, .inl fgf))]) [0, 1, 5, 2, 3, 4] rfl
        have hD9 := hD.sub (ws' := [(h0, .inr (11, [.ref h_tape, .int h_fed, .ref h_taken, .ref h_parser, .ref h_machine, .ref h_countedCells, .ref h_plainCells, .ref h_printer, .int h_faultNumber, .int h_stopPlace, .int h_wasRun, .int h_runSteps, .int h_runCalls, .int h_hasValue, .long h_value, .int h_hasOther, .long h_otherValue])), (h_taken, .inr (9, [.ref gco, .ref gar, .ref gki, .ref gfu])), (gfu, .inr (3, [.ref fw, .ref fe, .ref ff, .int fz])), (fw, .inl (f1, 30, .inr (.inl fgw))), (fe, .inl (f2, 30, .inl fge)), (ff, .inl (f3, 150, .inl fgf))]) [0, 1, 5, 2, 3, 4] (by decide) rfl
        have hK9 := hK.sub (tys' := [(f1, .long), (f2, .int), (f3, .int)]) [0, 1, 2] rfl
        exact W.iret (v := (-1)) hx hb hr (fun t ht hW => ⟨⟨(-1), (), rfl, trivial, by rw [ht]; exact hP9, va_K.moved hW.alike hK9, hD9⟩, hS.F ht⟩) hS.2.2 dX11_about_24
set_option maxHeartbeats 4000000 in
set_option maxRecDepth 100000 in
theorem c_X11_count_x (l : Launch) (dC : Nat → ClassId) (dI : Nat → Nat → Nat) (aK aV : Nat → Nat) (h0 : Nat) (h_tape : Nat) (h_fed : Int32) (h_taken : Nat) (h_parser : Nat) (h_machine : Nat) (h_countedCells : Nat) (h_plainCells : Nat) (h_printer : Nat) (h_faultNumber : Int32) (h_stopPlace : Int32) (h_wasRun : Int32) (h_runSteps : Int32) (h_runCalls : Int32) (h_hasValue : Int32) (h_value : Int64) (h_hasOther : Int32) (h_otherValue : Int64) (ek : Nat) (ec : Nat) (ef : Nat) (cki : Nat) (e_limit : Int32) (e_fresh : Int32) (e_firstFree : Int32) (e_held : Int32) (e_mostHeld : Int32) (e_made : Int32) (e_reused : Int32) (e_freed : Int32) (e_doubled : Int32) (wh : Int32) (sz : Nat)  : Met l yX11_count (Cond.code yX11_count cX11_count 2 (some .int) :: zw) ({ frames := 8, cells := 0, slots := 0, locals := 200 }) (va_Pc [.ref h0, .int wh] (zP dC dI aK aV sz [] [(h0, .inr (11, [.ref h_tape, .int h_fed, .ref h_taken, .ref h_parser, .ref h_machine, .ref h_countedCells, .ref h_plainCells, .ref h_printer, .int h_faultNumber, .int h_stopPlace, .int h_wasRun, .int h_runSteps, .int h_runCalls, .int h_hasValue, .long h_value, .int h_hasOther, .long h_otherValue])), (h_countedCells, .inr (1, [.ref ek, .ref ec, .ref ef, .ref cki, .int e_limit, .int e_fresh, .int e_firstFree, .int e_held, .int e_mostHeld, .int e_made, .int e_reused, .int e_freed, .int e_doubled]))])) (va_Qi (fun (r : Int32) (u : Unit) => True) (fun u => zQ dC dI (va_A [(h0, .inr (11, [.ref h_tape, .int h_fed, .ref h_taken, .ref h_parser, .ref h_machine, .ref h_countedCells, .ref h_plainCells, .ref h_printer, .int h_faultNumber, .int h_stopPlace, .int h_wasRun, .int h_runSteps, .int h_runCalls, .int h_hasValue, .long h_value, .int h_hasOther, .long h_otherValue])), (h_countedCells, .inr (1, [.ref ek, .ref ec, .ref ef, .ref cki, .int e_limit, .int e_fresh, .int e_firstFree, .int e_held, .int e_mostHeld, .int e_made, .int e_reused, .int e_freed, .int e_doubled]))] sz) [] [(h0, .inr (11, [.ref h_tape, .int h_fed, .ref h_taken, .ref h_parser, .ref h_machine, .ref h_countedCells, .ref h_plainCells, .ref h_printer, .int h_faultNumber, .int h_stopPlace, .int h_wasRun, .int h_runSteps, .int h_runCalls, .int h_hasValue, .long h_value, .int h_hasOther, .long h_otherValue])), (h_countedCells, .inr (1, [.ref ek, .ref ec, .ref ef, .ref cki, .int e_limit, .int e_fresh, .int e_firstFree, .int e_held, .int e_mostHeld, .int e_made, .int e_reused, .int e_freed, .int e_doubled]))]) (va_A [(h0, .inr (11, [.ref h_tape, .int h_fed, .ref h_taken, .ref h_parser, .ref h_machine, .ref h_countedCells, .ref h_plainCells, .ref h_printer, .int h_faultNumber, .int h_stopPlace, .int h_wasRun, .int h_runSteps, .int h_runCalls, .int h_hasValue, .long h_value, .int h_hasOther, .long h_otherValue])), (h_countedCells, .inr (1, [.ref ek, .ref ec, .ref ef, .ref cki, .int e_limit, .int e_fresh, .int e_firstFree, .int e_held, .int e_mostHeld, .int e_made, .int e_reused, .int e_freed, .int e_doubled]))] sz)) 0 0 (va_A [(h0, .inr (11, [.ref h_tape, .int h_fed, .ref h_taken, .ref h_parser, .ref h_machine, .ref h_countedCells, .ref h_plainCells, .ref h_printer, .int h_faultNumber, .int h_stopPlace, .int h_wasRun, .int h_runSteps, .int h_runCalls, .int h_hasValue, .long h_value, .int h_hasOther, .long h_otherValue])), (h_countedCells, .inr (1, [.ref ek, .ref ec, .ref ef, .ref cki, .int e_limit, .int e_fresh, .int e_firstFree, .int e_held, .int e_mostHeld, .int e_made, .int e_reused, .int e_freed, .int e_doubled]))] sz) := by
  refine Met.ofW (cc := cX11_count) (maxL := 2) (ret := (some .int)) (by decide) rfl ?_
  intro p e s m args below meth c s₁ B hml hv
  obtain ⟨rfl, hsz, hP, hK, hD0, hN, hT⟩ := hv
  have hx := B.exec
  have hb := B.bytes
  have hr := B.returns
  have hts := atoms_spec (ws := Cond.code yX11_count cX11_count 2 (some .int) :: zw) B.pre
  have hA : ∀ w ∈ zw, w.before _ s = true := fun w h => hts w (List.mem_cons_of_mem _ h)
  have hown : s.vm.findClass RX11 = some m.cls := findClass_of_methodNamed B.named
  have hlocks := B.notSynchronized
  subst hsz
  have hD := hD0.self (sz := s.heap.size)
  generalize hAe : va_A [(h0, .inr (11, [.ref h_tape, .int h_fed, .ref h_taken, .ref h_parser, .ref h_machine, .ref h_countedCells, .ref h_plainCells, .ref h_printer, .int h_faultNumber, .int h_stopPlace, .int h_wasRun, .int h_runSteps, .int h_runCalls, .int h_hasValue, .long h_value, .int h_hasOther, .long h_otherValue])), (h_countedCells, .inr (1, [.ref ek, .ref ec, .ref ef, .ref cki, .int e_limit, .int e_fresh, .int e_firstFree, .int e_held, .int e_mostHeld, .int e_made, .int e_reused, .int e_freed, .int e_doubled]))] s.heap.size = A at hD hT ⊢
  have hAA : ∀ q : Nat, s.heap.size ≤ q → A q := fun q h => by rw [← hAe]; exact Or.inr h
  have hS : va_S A s.heap s.heap [] := va_S.rf
  have hl := lv_entry ([.ref h0, .int wh]) (n := 2) (Nat.le_of_ble_eq_true rfl)
  rw [lg_entry_eq]
  generalize (lg_sl ([.ref h0, .int wh]) ++ List.replicate (2 - (lg_sl ([.ref h0, .int wh])).length) Slot.unset).toArray = ls at hl ⊢
  have hl : lv_has ls 2 [(0, .ref h0), (1, .int wh)] := hl
  refine lv_aload_n hx hb dX11_count_0 rfl (lv_at hl 0 rfl) ?_
  refine va_get (D := (dC, dI)) (ci := 11) (v := .int h_wasRun) (C := RX11) (T := TX11) (N := 17) hx hb hA zin_X11 hown hK hP 0 rfl rfl 10 (by decide) (hA _ wi_594) (fun _ h9 => h9) rfl dX11_count_1 ?_
  refine lv_if_ne (tgt := 9) hx hb dX11_count_4 (by decide) (fun c_1 => ?_) (fun c_1 => ?_)
  · have ic_1 : h_wasRun.toInt ≠ 0 := zi_ne c_1
    refine lv_iload_n hx hb dX11_count_9 rfl (lv_at hl 1 rfl) ?_
    by_cases hk_2 : wh.toInt = 0
    · refine lv_tableIn (off := 46) (tgt := 56) hx hb dX11_count_10 (by omega) (by omega) (by rw [hk_2]; rfl) (by decide) ?_
      refine lv_aload_n hx hb dX11_count_56 rfl (lv_at hl 0 rfl) ?_
      refine va_get (D := (dC, dI)) (ci := 11) (v := .int h_runSteps) (C := RX11) (T := TX11) (N := 17) hx hb hA zin_X11 hown hK hP 0 rfl rfl 11 (by decide) (hA _ wi_595) (fun _ h9 => h9) rfl dX11_count_57 ?_
      have hP9 := hP.sub (ws' := [(h0, .inr (11, [.ref h_tape, .int h_fed, .ref h_taken, .ref h_parser, .ref h_machine, .ref h_countedCells, .ref h_plainCells, .ref h_printer, .int h_faultNumber, .int h_stopPlace, .int h_wasRun, .int h_runSteps, .int h_runCalls, .int h_hasValue, .long h_value, .int h_hasOther, .long h_otherValue])), (h_countedCells, .inr (1, [.ref ek, .ref ec, .ref ef, .ref cki, .int e_limit, .int e_fresh, .int e_firstFree, .int e_held, .int e_mostHeld, .int e_made, .int e_reused, .int e_freed, .int e_doubled]))]) [0, 1] rfl
      have hD9 := hD.sub (ws' := [(h0, .inr (11, [.ref h_tape, .int h_fed, .ref h_taken, .ref h_parser, .ref h_machine, .ref h_countedCells, .ref h_plainCells, .ref h_printer, .int h_faultNumber, .int h_stopPlace, .int h_wasRun, .int h_runSteps, .int h_runCalls, .int h_hasValue, .long h_value, .int h_hasOther, .long h_otherValue])), (h_countedCells, .inr (1, [.ref ek, .ref ec, .ref ef, .ref cki, .int e_limit, .int e_fresh, .int e_firstFree, .int e_held, .int e_mostHeld, .int e_made, .int e_reused, .int e_freed, .int e_doubled]))]) [0, 1] (by decide) rfl
      have hK9 := hK.sub (tys' := []) [] rfl
      exact W.iret (v := h_runSteps) hx hb hr (fun t ht hW => ⟨⟨h_runSteps, (), rfl, trivial, by rw [ht]; exact hP9, va_K.moved hW.alike hK9, hD9⟩, hS.F ht⟩) hS.2.2 dX11_count_60
    by_cases hk_3 : wh.toInt = 1
    · refine lv_tableIn (off := 51) (tgt := 61) hx hb dX11_count_10 (by omega) (by omega) (by rw [hk_3]; rfl) (by decide) ?_
      refine lv_aload_n hx hb dX11_count_61 rfl (lv_at hl 0 rfl) ?_
      refine va_get (D := (dC, dI)) (ci := 11) (v := .ref h_countedCells) (C := RX11) (T := TX11) (N := 17) hx hb hA zin_X11 hown hK hP 0 rfl rfl 5 (by decide) (hA _ wi_589) (fun _ h9 => h9) rfl dX11_count_62 ?_
      refine va_get (D := (dC, dI)) (ci := 1) (v := .int e_made) (C := RX1) (T := TX1) (N := 13) hx hb hA zin_X1 hown hK hP 1 rfl rfl 9 (by decide) (hA _ wi_449) (fun _ h9 => h9) rfl dX11_count_65 ?_
      have hP9 := hP.sub (ws' := [(h0, .inr (11, [.ref h_tape, .int h_fed, .ref h_taken, .ref h_parser, .ref h_machine, .ref h_countedCells, .ref h_plainCells, .ref h_printer, .int h_faultNumber, .int h_stopPlace, .int h_wasRun, .int h_runSteps, .int h_runCalls, .int h_hasValue, .long h_value, .int h_hasOther, .long h_otherValue])), (h_countedCells, .inr (1, [.ref ek, .ref ec, .ref ef, .ref cki, .int e_limit, .int e_fresh, .int e_firstFree, .int e_held, .int e_mostHeld, .int e_made, .int e_reused, .int e_freed, .int e_doubled]))]) [0, 1] rfl
      have hD9 := hD.sub (ws' := [(h0, .inr (11, [.ref h_tape, .int h_fed, .ref h_taken, .ref h_parser, .ref h_machine, .ref h_countedCells, .ref h_plainCells, .ref h_printer, .int h_faultNumber, .int h_stopPlace, .int h_wasRun, .int h_runSteps, .int h_runCalls, .int h_hasValue, .long h_value, .int h_hasOther, .long h_otherValue])), (h_countedCells, .inr (1, [.ref ek, .ref ec, .ref ef, .ref cki, .int e_limit, .int e_fresh, .int e_firstFree, .int e_held, .int e_mostHeld, .int e_made, .int e_reused, .int e_freed, .int e_doubled]))]) [0, 1] (by decide) rfl
      have hK9 := hK.sub (tys' := []) [] rfl
      exact W.iret (v := e_made) hx hb hr (fun t ht hW => ⟨⟨e_made, (), rfl, trivial, by rw [ht]; exact hP9, va_K.moved hW.alike hK9, hD9⟩, hS.F ht⟩) hS.2.2 dX11_count_68
    by_cases hk_4 : wh.toInt = 2
    · refine lv_tableIn (off := 59) (tgt := 69) hx hb dX11_count_10 (by omega) (by omega) (by rw [hk_4]; rfl) (by decide) ?_
      refine lv_aload_n hx hb dX11_count_69 rfl (lv_at hl 0 rfl) ?_
      refine va_get (D := (dC, dI)) (ci := 11) (v := .ref h_countedCells) (C := RX11) (T := TX11) (N := 17) hx hb hA zin_X11 hown hK hP 0 rfl rfl 5 (by decide) (hA _ wi_589) (fun _ h9 => h9) rfl dX11_count_70 ?_
      refine va_get (D := (dC, dI)) (ci := 1) (v := .int e_reused) (C := RX1) (T := TX1) (N := 13) hx hb hA zin_X1 hown hK hP 1 rfl rfl 10 (by decide) (hA _ wi_451) (fun _ h9 => h9) rfl dX11_count_73 ?_
      have hP9 := hP.sub (ws' := [(h0, .inr (11, [.ref h_tape, .int h_fed, .ref h_taken, .ref h_parser, .ref h_machine, .ref h_countedCells, .ref h_plainCells, .ref h_printer, .int h_faultNumber, .int h_stopPlace, .int h_wasRun, .int h_runSteps, .int h_runCalls, .int h_hasValue, .long h_value, .int h_hasOther, .long h_otherValue])), (h_countedCells, .inr (1, [.ref ek, .ref ec, .ref ef, .ref cki, .int e_limit, .int e_fresh, .int e_firstFree, .int e_held, .int e_mostHeld, .int e_made, .int e_reused, .int e_freed, .int e_doubled]))]) [0, 1] rfl
      have hD9 := hD.sub (ws' := [(h0, .inr (11, [.ref h_tape, .int h_fed, .ref h_taken, .ref h_parser, .ref h_machine, .ref h_countedCells, .ref h_plainCells, .ref h_printer, .int h_faultNumber, .int h_stopPlace, .int h_wasRun, .int h_runSteps, .int h_runCalls, .int h_hasValue, .long h_value, .int h_hasOther, .long h_otherValue])), (h_countedCells, .inr (1, [.ref ek, .ref ec, .ref ef, .ref cki, .int e_limit, .int e_fresh, .int e_firstFree, .int e_held, .int e_mostHeld, .int e_made, .int e_reused, .int e_freed, .int e_doubled]))]) [0, 1] (by decide) rfl
      have hK9 := hK.sub (tys' := []) [] rfl
      exact W.iret (v := e_reused) hx hb hr (fun t ht hW => ⟨⟨e_reused, (), rfl, trivial, by rw [ht]; exact hP9, va_K.moved hW.alike hK9, hD9⟩, hS.F ht⟩) hS.2.2 dX11_count_76
    by_cases hk_5 : wh.toInt = 3
    · refine lv_tableIn (off := 67) (tgt := 77) hx hb dX11_count_10 (by omega) (by omega) (by rw [hk_5]; rfl) (by decide) ?_
      refine lv_aload_n hx hb dX11_count_77 rfl (lv_at hl 0 rfl) ?_
      refine va_get (D := (dC, dI)) (ci := 11) (v := .ref h_countedCells) (C := RX11) (T := TX11) (N := 17) hx hb hA zin_X11 hown hK hP 0 rfl rfl 5 (by decide) (hA _ wi_589) (fun _ h9 => h9) rfl dX11_count_78 ?_
      refine va_get (D := (dC, dI)) (ci := 1) (v := .int e_freed) (C := RX1) (T := TX1) (N := 13) hx hb hA zin_X1 hown hK hP 1 rfl rfl 11 (by decide) (hA _ wi_454) (fun _ h9 => h9) rfl dX11_count_81 ?_
      have hP9 := hP.sub (ws' := [(h0, .inr (11, [.ref h_tape, .int h_fed, .ref h_taken, .ref h_parser, .ref h_machine, .ref h_countedCells, .ref h_plainCells, .ref h_printer, .int h_faultNumber, .int h_stopPlace, .int h_wasRun, .int h_runSteps, .int h_runCalls, .int h_hasValue, .long h_value, .int h_hasOther, .long h_otherValue])), (h_countedCells, .inr (1, [.ref ek, .ref ec, .ref ef, .ref cki, .int e_limit, .int e_fresh, .int e_firstFree, .int e_held, .int e_mostHeld, .int e_made, .int e_reused, .int e_freed, .int e_doubled]))]) [0, 1] rfl
      have hD9 := hD.sub (ws' := [(h0, .inr (11, [.ref h_tape, .int h_fed, .ref h_taken, .ref h_parser, .ref h_machine, .ref h_countedCells, .ref h_plainCells, .ref h_printer, .int h_faultNumber, .int h_stopPlace, .int h_wasRun, .int h_runSteps, .int h_runCalls, .int h_hasValue, .long h_value, .int h_hasOther, .long h_otherValue])), (h_countedCells, .inr (1, [.ref ek, .ref ec, .ref ef, .ref cki, .int e_limit, .int e_fresh, .int e_firstFree, .int e_held, .int e_mostHeld, .int e_made, .int e_reused, .int e_freed, .int e_doubled]))]) [0, 1] (by decide) rfl
      have hK9 := hK.sub (tys' := []) [] rfl
      exact W.iret (v := e_freed) hx hb hr (fun t ht hW => ⟨⟨e_freed, (), rfl, trivial, by rw [ht]; exact hP9, va_K.moved hW.alike hK9, hD9⟩, hS.F ht⟩) hS.2.2 dX11_count_84
    by_cases hk_6 : wh.toInt = 4
    · refine lv_tableIn (off := 75) (tgt := 85) hx hb dX11_count_10 (by omega) (by omega) (by rw [hk_6]; rfl) (by decide) ?_
      refine lv_aload_n hx hb dX11_count_85 rfl (lv_at hl 0 rfl) ?_
      refine va_get (D := (dC, dI)) (ci := 11) (v := .ref h_countedCells) (C := RX11) (T := TX11) (N := 17) hx hb hA zin_X11 hown hK hP 0 rfl rfl 5 (by decide) (hA _ wi_589) (fun _ h9 => h9) rfl dX11_count_86 ?_
      refine va_get (D := (dC, dI)) (ci := 1) (v := .int e_mostHeld) (C := RX1) (T := TX1) (N := 13) hx hb hA zin_X1 hown hK hP 1 rfl rfl 8 (by decide) (hA _ wi_447) (fun _ h9 => h9) rfl dX11_count_89 ?_
      have hP9 := hP.sub (ws' := [(h0, .inr (11, [.ref h_tape, .int h_fed, .ref h_taken, .ref h_parser, .ref h_machine, .ref h_countedCells, .ref h_plainCells, .ref h_printer, .int h_faultNumber, .int h_stopPlace, .int h_wasRun, .int h_runSteps, .int h_runCalls, .int h_hasValue, .long h_value, .int h_hasOther, .long h_otherValue])), (h_countedCells, .inr (1, [.ref ek, .ref ec, .ref ef, .ref cki, .int e_limit, .int e_fresh, .int e_firstFree, .int e_held, .int e_mostHeld, .int e_made, .int e_reused, .int e_freed, .int e_doubled]))]) [0, 1] rfl
      have hD9 := hD.sub (ws' := [(h0, .inr (11, [.ref h_tape, .int h_fed, .ref h_taken, .ref h_parser, .ref h_machine, .ref h_countedCells, .ref h_plainCells, .ref h_printer, .int h_faultNumber, .int h_stopPlace, .int h_wasRun, .int h_runSteps, .int h_runCalls, .int h_hasValue, .long h_value, .int h_hasOther, .long h_otherValue])), (h_countedCells, .inr (1, [.ref ek, .ref ec, .ref ef, .ref cki, .int e_limit, .int e_fresh, .int e_firstFree, .int e_held, .int e_mostHeld, .int e_made, .int e_reused, .int e_freed, .int e_doubled]))]) [0, 1] (by decide) rfl
      have hK9 := hK.sub (tys' := []) [] rfl
      exact W.iret (v := e_mostHeld) hx hb hr (fun t ht hW => ⟨⟨e_mostHeld, (), rfl, trivial, by rw [ht]; exact hP9, va_K.moved hW.alike hK9, hD9⟩, hS.F ht⟩) hS.2.2 dX11_count_92
    by_cases hk_7 : wh.toInt = 5
    · refine lv_tableIn (off := 83) (tgt := 93) hx hb dX11_count_10 (by omega) (by omega) (by rw [hk_7]; rfl) (by decide) ?_
      refine lv_aload_n hx hb dX11_count_93 rfl (lv_at hl 0 rfl) ?_
      refine va_get (D := (dC, dI)) (ci := 11) (v := .ref h_countedCells) (C := RX11) (T := TX11) (N := 17) hx hb hA zin_X11 hown hK hP 0 rfl rfl 5 (by decide) (hA _ wi_589) (fun _ h9 => h9) rfl dX11_count_94 ?_
      refine va_get (D := (dC, dI)) (ci := 1) (v := .int e_doubled) (C := RX1) (T := TX1) (N := 13) hx hb hA zin_X1 hown hK hP 1 rfl rfl 12 (by decide) (hA _ wi_456) (fun _ h9 => h9) rfl dX11_count_97 ?_
      have hP9 := hP.sub (ws' := [(h0, .inr (11, [.ref h_tape, .int h_fed, .ref h_taken, .ref h_parser, .ref h_machine, .ref h_countedCells, .ref h_plainCells, .ref h_printer, .int h_faultNumber, .int h_stopPlace, .int h_wasRun, .int h_runSteps, .int h_runCalls, .int h_hasValue, .long h_value, .int h_hasOther, .long h_otherValue])), (h_countedCells, .inr (1, [.ref ek, .ref ec, .ref ef, .ref cki, .int e_limit, .int e_fresh, .int e_firstFree, .int e_held, .int e_mostHeld, .int e_made, .int e_reused, .int e_freed, .int e_doubled]))]) [0, 1] rfl
      have hD9 := hD.sub (ws' := [(h0, .inr (11, [.ref h_tape, .int h_fed, .ref h_taken, .ref h_parser, .ref h_machine, .ref h_countedCells, .ref h_plainCells, .ref h_printer, .int h_faultNumber, .int h_stopPlace, .int h_wasRun, .int h_runSteps, .int h_runCalls, .int h_hasValue, .long h_value, .int h_hasOther, .long h_otherValue])), (h_countedCells, .inr (1, [.ref ek, .ref ec, .ref ef, .ref cki, .int e_limit, .int e_fresh, .int e_firstFree, .int e_held, .int e_mostHeld, .int e_made, .int e_reused, .int e_freed, .int e_doubled]))]) [0, 1] (by decide) rfl
      have hK9 := hK.sub (tys' := []) [] rfl
      exact W.iret (v := e_doubled) hx hb hr (fun t ht hW => ⟨⟨e_doubled, (), rfl, trivial, by rw [ht]; exact hP9, va_K.moved hW.alike hK9, hD9⟩, hS.F ht⟩) hS.2.2 dX11_count_100
    by_cases hk_8 : wh.toInt = 6
    · refine lv_tableIn (off := 91) (tgt := 101) hx hb dX11_count_10 (by omega) (by omega) (by rw [hk_8]; rfl) (by decide) ?_
      refine lv_aload_n hx hb dX11_count_101 rfl (lv_at hl 0 rfl) ?_
      refine va_get (D := (dC, dI)) (ci := 11) (v := .ref h_countedCells) (C := RX11) (T := TX11) (N := 17) hx hb hA zin_X11 hown hK hP 0 rfl rfl 5 (by decide) (hA _ wi_589) (fun _ h9 => h9) rfl dX11_count_102 ?_
      refine va_get (D := (dC, dI)) (ci := 1) (v := .int e_held) (C := RX1) (T := TX1) (N := 13) hx hb hA zin_X1 hown hK hP 1 rfl rfl 7 (by decide) (hA _ wi_445) (fun _ h9 => h9) rfl dX11_count_105 ?_
      have hP9 := hP.sub (ws' := [(h0, .inr (11, [.ref h_tape, .int h_fed, .ref h_taken, .ref h_parser, .ref h_machine, .ref h_countedCells, .ref h_plainCells, .ref h_printer, .int h_faultNumber, .int h_stopPlace, .int h_wasRun, .int h_runSteps, .int h_runCalls, .int h_hasValue, .long h_value, .int h_hasOther, .long h_otherValue])), (h_countedCells, .inr (1, [.ref ek, .ref ec, .ref ef, .ref cki, .int e_limit, .int e_fresh, .int e_firstFree, .int e_held, .int e_mostHeld, .int e_made, .int e_reused, .int e_freed, .int e_doubled]))]) [0, 1] rfl
      have hD9 := hD.sub (ws' := [(h0, .inr (11, [.ref h_tape, .int h_fed, .ref h_taken, .ref h_parser, .ref h_machine, .ref h_countedCells, .ref h_plainCells, .ref h_printer, .int h_faultNumber, .int h_stopPlace, .int h_wasRun, .int h_runSteps, .int h_runCalls, .int h_hasValue, .long h_value, .int h_hasOther, .long h_otherValue])), (h_countedCells, .inr (1, [.ref ek, .ref ec, .ref ef, .ref cki, .int e_limit, .int e_fresh, .int e_firstFree, .int e_held, .int e_mostHeld, .int e_made, .int e_reused, .int e_freed, .int e_doubled]))]) [0, 1] (by decide) rfl
      have hK9 := hK.sub (tys' := []) [] rfl
      exact W.iret (v := e_held) hx hb hr (fun t ht hW => ⟨⟨e_held, (), rfl, trivial, by rw [ht]; exact hP9, va_K.moved hW.alike hK9, hD9⟩, hS.F ht⟩) hS.2.2 dX11_count_108
    by_cases hk_9 : wh.toInt = 7
    · refine lv_tableIn (off := 99) (tgt := 109) hx hb dX11_count_10 (by omega) (by omega) (by rw [hk_9]; rfl) (by decide) ?_
      refine lv_aload_n hx hb dX11_count_109 rfl (lv_at hl 0 rfl) ?_
      refine va_get (D := (dC, dI)) (ci := 11) (v := .int h_runCalls) (C := RX11) (T := TX11) (N := 17) hx hb hA zin_X11 hown hK hP 0 rfl rfl 12 (by decide) (hA _ wi_596) (fun _ h9 => h9) rfl dX11_count_110 ?_
      have hP9 := hP.sub (ws' := [(h0, .inr (11, [.ref h_tape, .int h_fed, .ref h_taken, .ref h_parser, .ref h_machine, .ref h_countedCells, .ref h_plainCells, .ref h_printer, .int h_faultNumber, .int h_stopPlace, .int h_wasRun, .int h_runSteps, .int h_runCalls, .int h_hasValue, .long h_value, .int h_hasOther, .long h_otherValue])), (h_countedCells, .inr (1, [.ref ek, .ref ec, .ref ef, .ref cki, .int e_limit, .int e_fresh, .int e_firstFree, .int e_held, .int e_mostHeld, .int e_made, .int e_reused, .int e_freed, .int e_doubled]))]) [0, 1] rfl
      have hD9 := hD.sub (ws' := [(h0, .inr (11, [.ref h_tape, .int h_fed, .ref h_taken, .ref h_parser, .ref h_machine, .ref h_countedCells, .ref h_plainCells, .ref h_printer, .int h_faultNumber, .int h_stopPlace, .int h_wasRun, .int h_runSteps, .int h_runCalls, .int h_hasValue, .long h_value, .int h_hasOther, .long h_otherValue])), (h_countedCells, .inr (1, [.ref ek, .ref ec, .ref ef, .ref cki, .int e_limit, .int e_fresh, .int e_firstFree, .int e_held, .int e_mostHeld, .int e_made, .int e_reused, .int e_freed, .int e_doubled]))]) [0, 1] (by decide) rfl
      have hK9 := hK.sub (tys' := []) [] rfl
      exact W.iret (v := h_runCalls) hx hb hr (fun t ht hW => ⟨⟨h_runCalls, (), rfl, trivial, by rw [ht]; exact hP9, va_K.moved hW.alike hK9, hD9⟩, hS.F ht⟩) hS.2.2 dX11_count_113
    refine lv_tableOut (tgt := 114) hx hb dX11_count_10 (by omega) (by decide) ?_
    refine lv_iconst (v := (-1)) hx hb dX11_count_114 (by decide) ?_
    have hlit : Int32.toInt (-1) = (-1) := by decide
    have hP9 := hP.sub (ws' := [(h0, .inr (11, [.ref h_tape, .int h_fed, .ref h_taken, .ref h_parser, .ref h_machine, .ref h_countedCells, .ref h_plainCells, .ref h_printer, .int h_faultNumber, .int h_stopPlace, .int h_wasRun, .int h_runSteps, .int h_runCalls, .int h_hasValue, .long h_value, .int h_hasOther, .long h_otherValue])), (h_countedCells, .inr (1, [.ref ek, .ref ec, .ref ef, .ref cki, .int e_limit, .int e_fresh, .int e_firstFree, .int e_held, .int e_mostHeld, .int e_made, .int e_reused, .int e_freed, .int e_doubled]))]) [0, 1] rfl
    have hD9 := hD.sub (ws' := [(h0, .inr (11, [.ref h_tape, .int h_fed, .ref h_taken, .ref h_parser, .ref h_machine, .ref h_countedCells, .ref h_plainCells, .ref h_printer, .int h_faultNumber, .int h_stopPlace, .int h_wasRun, .int h_runSteps, .int h_runCalls, .int h_hasValue, .long h_value, .int h_hasOther, .long h_otherValue])), (h_countedCells, .inr (1, [.ref ek, .ref ec, .ref ef, .ref cki, .int e_limit, .int e_fresh, .int e_firstFree, .int e_held, .int e_mostHeld, .int e_made, .int e_reused, .int e_freed, .int e_doubled]))]) [0, 1] (by decide) rfl
    have hK9 := hK.sub (tys' := []) [] rfl
    exact W.iret (v := (-1)) hx hb hr (fun t ht hW => ⟨⟨(-1), (), rfl, trivial, by rw [ht]; exact hP9, va_K.moved hW.alike hK9, hD9⟩, hS.F ht⟩) hS.2.2 dX11_count_115
  · have ic_1 : h_wasRun.toInt = 0 := zi_eq c_1
    refine lv_iconst (v := (-1)) hx hb dX11_count_7 (by decide) ?_
    have hlit : Int32.toInt (-1) = (-1) := by decide
    have hP9 := hP.sub (ws' := [(h0, .inr (11, [.ref h_tape, .int h_fed, .ref h_taken, .ref h_parser, .ref h_machine, .ref h_countedCells, .ref h_plainCells, .ref h_printer, .int h_faultNumber, .int h_stopPlace, .int h_wasRun, .int h_runSteps, .int h_runCalls, .int h_hasValue, .long h_value, .int h_hasOther, .long h_otherValue])), (h_countedCells, .inr (1, [.ref ek, .ref ec, .ref ef, .ref cki, .int e_limit, .int e_fresh, .int e_firstFree, .int e_held, .int e_mostHeld, .int e_made, .int e_reused, .int e_freed, .int e_doubled]))]) [0, 1] rfl
    have hD9 := hD.sub (ws' := [(h0, .inr (11, [.ref h_tape, .int h_fed, .ref h_taken, .ref h_parser, .ref h_machine, .ref h_countedCells, .ref h_plainCells, .ref h_printer, .int h_faultNumber, .int h_stopPlace, .int h_wasRun, .int h_runSteps, .int h_runCalls, .int h_hasValue, .long h_value, .int h_hasOther, .long h_otherValue])), (h_countedCells, .inr (1, [.ref ek, .ref ec, .ref ef, .ref cki, .int e_limit, .int e_fresh, .int e_firstFree, .int e_held, .int e_mostHeld, .int e_made, .int e_reused, .int e_freed, .int e_doubled]))]) [0, 1] (by decide) rfl
    have hK9 := hK.sub (tys' := []) [] rfl
    exact W.iret (v := (-1)) hx hb hr (fun t ht hW => ⟨⟨(-1), (), rfl, trivial, by rw [ht]; exact hP9, va_K.moved hW.alike hK9, hD9⟩, hS.F ht⟩) hS.2.2 dX11_count_8
set_option maxHeartbeats 4000000 in
set_option maxRecDepth 100000 in
theorem c_X11_release_1 (l : Launch) (dC : Nat → ClassId) (dI : Nat → Nat → Nat) (aK aV : Nat → Nat) (h0 : Nat) (h_tape : Nat) (h_fed : Int32) (h_taken : Nat) (h_parser : Nat) (h_machine : Nat) (h_countedCells : Nat) (h_plainCells : Nat) (h_printer : Nat) (h_faultNumber : Int32) (h_stopPlace : Int32) (h_wasRun : Int32) (h_runSteps : Int32) (h_runCalls : Int32) (h_hasValue : Int32) (h_value : Int64) (h_hasOther : Int32) (h_otherValue : Int64) (ek : Nat) (ec : Nat) (ef : Nat) (gki : Nat) (e1 : ClassId) (e2 : ClassId) (e3 : ClassId) (e_limit : Int32) (e_fresh : Int32) (e_firstFree : Int32) (e_held : Int32) (e_mostHeld : Int32) (e_made : Int32) (e_reused : Int32) (e_freed : Int32) (e_doubled : Int32) (gk : Nat → Int32) (gc : Nat → Int32) (gv : Nat → Int64) (kw : Nat) (kf : Nat) (k1 : ClassId) (k2 : ClassId) (kz : Int32) (kgw : Nat → Int64) (kgf : Nat → Int32) (sz : Nat) (hkz0 : 0 ≤ kz.toInt) (hkz1 : kz.toInt ≤ 20) (hkf : zx 4 kgf) (hval : h_hasValue.toInt ≠ 0) (hrs : zRes kz kgf gk gc gv e_fresh e_firstFree e_held e_doubled h_value) (hdb : e_doubled.toInt < 1000000) : Met l yX11_release (Cond.code yX11_release cX11_release 2 (some .int) :: zw) ({ frames := 16, cells := 0, slots := 0, locals := 600 }) (va_Pc [.ref h0] (zP dC dI aK aV sz [(e1, .int), (e2, .int), (e3, .long), (k1, .long), (k2, .int)] [(h0, .inr (11, [.ref h_tape, .int h_fed, .ref h_taken, .ref h_parser, .ref h_machine, .ref h_countedCells, .ref h_plainCells, .ref h_printer, .int h_faultNumber, .int h_stopPlace, .int h_wasRun, .int h_runSteps, .int h_runCalls, .int h_hasValue, .long h_value, .int h_hasOther, .long h_otherValue])), (h_countedCells, .inr (1, [.ref ek, .ref ec, .ref ef, .ref gki, .int e_limit, .int e_fresh, .int e_firstFree, .int e_held, .int e_mostHeld, .int e_made, .int e_reused, .int e_freed, .int e_doubled])), (ek, .inl (e1, 400, .inl gk)), (ec, .inl (e2, 400, .inl gc)), (ef, .inl (e3, 1200, .inr (.inl gv))), (gki, .inr (4, [.ref kw, .ref kf, .int kz])), (kw, .inl (k1, 20, .inr (.inl kgw))), (kf, .inl (k2, 20, .inl kgf))])) (va_Qi (fun (r : Int32) (u : (Nat → Int32) × Int32 × Int32 × Int32) => match u with | (gc2, ff2, he2, fd2) => True) (fun u => match u with | (gc2, ff2, he2, fd2) => zQ dC dI (va_A [(h0, .inr (11, [.ref h_tape, .int h_fed, .ref h_taken, .ref h_parser, .ref h_machine, .ref h_countedCells, .ref h_plainCells, .ref h_printer, .int h_faultNumber, .int h_stopPlace, .int h_wasRun, .int h_runSteps, .int h_runCalls, .int h_hasValue, .long h_value, .int h_hasOther, .long h_otherValue])), (h_countedCells, .inr (1, [.ref ek, .ref ec, .ref ef, .ref gki, .int e_limit, .int e_fresh, .int e_firstFree, .int e_held, .int e_mostHeld, .int e_made, .int e_reused, .int e_freed, .int e_doubled])), (ek, .inl (e1, 400, .inl gk)), (ec, .inl (e2, 400, .inl gc)), (ef, .inl (e3, 1200, .inr (.inl gv))), (gki, .inr (4, [.ref kw, .ref kf, .int kz])), (kw, .inl (k1, 20, .inr (.inl kgw))), (kf, .inl (k2, 20, .inl kgf))] sz) [(e1, .int), (e2, .int), (e3, .long), (k1, .long), (k2, .int)] [(h0, .inr (11, [.ref h_tape, .int h_fed, .ref h_taken, .ref h_parser, .ref h_machine, .ref h_countedCells, .ref h_plainCells, .ref h_printer, .int h_faultNumber, .int h_stopPlace, .int h_wasRun, .int h_runSteps, .int h_runCalls, .int 0, .long h_value, .int h_hasOther, .long h_otherValue])), (h_countedCells, .inr (1, [.ref ek, .ref ec, .ref ef, .ref gki, .int e_limit, .int e_fresh, .int ff2, .int he2, .int e_mostHeld, .int e_made, .int e_reused, .int fd2, .int e_doubled])), (ek, .inl (e1, 400, .inl gk)), (ec, .inl (e2, 400, .inl gc2)), (ef, .inl (e3, 1200, .inr (.inl gv))), (gki, .inr (4, [.ref kw, .ref kf, .int kz])), (kw, .inl (k1, 20, .inr (.inl kgw))), (kf, .inl (k2, 20, .inl kgf))]) (va_A [(h0, .inr (11, [.ref h_tape, .int h_fed, .ref h_taken, .ref h_parser, .ref h_machine, .ref h_countedCells, .ref h_plainCells, .ref h_printer, .int h_faultNumber, .int h_stopPlace, .int h_wasRun, .int h_runSteps, .int h_runCalls, .int h_hasValue, .long h_value, .int h_hasOther, .long h_otherValue])), (h_countedCells, .inr (1, [.ref ek, .ref ec, .ref ef, .ref gki, .int e_limit, .int e_fresh, .int e_firstFree, .int e_held, .int e_mostHeld, .int e_made, .int e_reused, .int e_freed, .int e_doubled])), (ek, .inl (e1, 400, .inl gk)), (ec, .inl (e2, 400, .inl gc)), (ef, .inl (e3, 1200, .inr (.inl gv))), (gki, .inr (4, [.ref kw, .ref kf, .int kz])), (kw, .inl (k1, 20, .inr (.inl kgw))), (kf, .inl (k2, 20, .inl kgf))] sz)) 0 0 (va_A [(h0, .inr (11, [.ref h_tape, .int h_fed, .ref h_taken, .ref h_parser, .ref h_machine, .ref h_countedCells, .ref h_plainCells, .ref h_printer, .int h_faultNumber, .int h_stopPlace, .int h_wasRun, .int h_runSteps, .int h_runCalls, .int h_hasValue, .long h_value, .int h_hasOther, .long h_otherValue])), (h_countedCells, .inr (1, [.ref ek, .ref ec, .ref ef, .ref gki, .int e_limit, .int e_fresh, .int e_firstFree, .int e_held, .int e_mostHeld, .int e_made, .int e_reused, .int e_freed, .int e_doubled])), (ek, .inl (e1, 400, .inl gk)), (ec, .inl (e2, 400, .inl gc)), (ef, .inl (e3, 1200, .inr (.inl gv))), (gki, .inr (4, [.ref kw, .ref kf, .int kz])), (kw, .inl (k1, 20, .inr (.inl kgw))), (kf, .inl (k2, 20, .inl kgf))] sz) := by
  refine Met.ofW (cc := cX11_release) (maxL := 2) (ret := (some .int)) (by decide) rfl ?_
  intro p e s m args below meth c s₁ B hml hv
  obtain ⟨rfl, hsz, hP, hK, hD0, hN, hT⟩ := hv
  have hx := B.exec
  have hb := B.bytes
  have hr := B.returns
  have hts := atoms_spec (ws := Cond.code yX11_release cX11_release 2 (some .int) :: zw) B.pre
  have hA : ∀ w ∈ zw, w.before _ s = true := fun w h => hts w (List.mem_cons_of_mem _ h)
  have hown : s.vm.findClass RX11 = some m.cls := findClass_of_methodNamed B.named
  have hlocks := B.notSynchronized
  subst hsz
  have hD := hD0.self (sz := s.heap.size)
  generalize hAe : va_A [(h0, .inr (11, [.ref h_tape, .int h_fed, .ref h_taken, .ref h_parser, .ref h_machine, .ref h_countedCells, .ref h_plainCells, .ref h_printer, .int h_faultNumber, .int h_stopPlace, .int h_wasRun, .int h_runSteps, .int h_runCalls, .int h_hasValue, .long h_value, .int h_hasOther, .long h_otherValue])), (h_countedCells, .inr (1, [.ref ek, .ref ec, .ref ef, .ref gki, .int e_limit, .int e_fresh, .int e_firstFree, .int e_held, .int e_mostHeld, .int e_made, .int e_reused, .int e_freed, .int e_doubled])), (ek, .inl (e1, 400, .inl gk)), (ec, .inl (e2, 400, .inl gc)), (ef, .inl (e3, 1200, .inr (.inl gv))), (gki, .inr (4, [.ref kw, .ref kf, .int kz])), (kw, .inl (k1, 20, .inr (.inl kgw))), (kf, .inl (k2, 20, .inl kgf))] s.heap.size = A at hD hT ⊢
  have hAA : ∀ q : Nat, s.heap.size ≤ q → A q := fun q h => by rw [← hAe]; exact Or.inr h
  have hS : va_S A s.heap s.heap [] := va_S.rf
  have hl := lv_entry ([.ref h0]) (n := 2) (Nat.le_of_ble_eq_true rfl)
  rw [lg_entry_eq]
  generalize (lg_sl ([.ref h0]) ++ List.replicate (2 - (lg_sl ([.ref h0])).length) Slot.unset).toArray = ls at hl ⊢
  have hl : lv_has ls 2 [(0, .ref h0)] := hl
  refine lv_aload_n hx hb dX11_release_0 rfl (lv_at hl 0 rfl) ?_
  refine va_get (D := (dC, dI)) (ci := 11) (v := .int h_hasValue) (C := RX11) (T := TX11) (N := 17) hx hb hA zin_X11 hown hK hP 0 rfl rfl 13 (by decide) (hA _ wi_597) (fun _ h9 => h9) rfl dX11_release_1 ?_
  refine lv_if_ne (tgt := 9) hx hb dX11_release_4 (by decide) (fun c_1 => ?_) (fun c_1 => ?_)
  · have ic_1 : h_hasValue.toInt ≠ 0 := zi_ne c_1
    refine lv_aload_n hx hb dX11_release_9 rfl (lv_at hl 0 rfl) ?_
    refine lv_iconst (v := 0) hx hb dX11_release_10 (by decide) ?_
    refine va_put (D := (dC, dI)) (ci := 11) (v := .int 0) (ty := .boolean) (C := RX11) (T := TX11) (N := 17) hx hb hA zin_X11 tyX11 tyX11_ok nmX11 hown hK hP hD hS 0 rfl rfl 13 (by decide) (hA _ wi_597) (fun _ h9 => h9) rfl (by decide +kernel) rfl rfl (Nat.le_of_ble_eq_true rfl) dX11_release_11 (fun H locs hP hD hS => ?_)
    have hP : va_P (dC, dI) vwCl [(h0, .inr (11, [.ref h_tape, .int h_fed, .ref h_taken, .ref h_parser, .ref h_machine, .ref h_countedCells, .ref h_plainCells, .ref h_printer, .int h_faultNumber, .int h_stopPlace, .int h_wasRun, .int h_runSteps, .int h_runCalls, .int 0, .long h_value, .int h_hasOther, .long h_otherValue])), (h_countedCells, .inr (1, [.ref ek, .ref ec, .ref ef, .ref gki, .int e_limit, .int e_fresh, .int e_firstFree, .int e_held, .int e_mostHeld, .int e_made, .int e_reused, .int e_freed, .int e_doubled])), (ek, .inl (e1, 400, .inl gk)), (ec, .inl (e2, 400, .inl gc)), (ef, .inl (e3, 1200, .inr (.inl gv))), (gki, .inr (4, [.ref kw, .ref kf, .int kz])), (kw, .inl (k1, 20, .inr (.inl kgw))), (kf, .inl (k2, 20, .inl kgf))] H := hP
    have hD : va_D A [(h0, .inr (11, [.ref h_tape, .int h_fed, .ref h_taken, .ref h_parser, .ref h_machine, .ref h_countedCells, .ref h_plainCells, .ref h_printer, .int h_faultNumber, .int h_stopPlace, .int h_wasRun, .int h_runSteps, .int h_runCalls, .int 0, .long h_value, .int h_hasOther, .long h_otherValue])), (h_countedCells, .inr (1, [.ref ek, .ref ec, .ref ef, .ref gki, .int e_limit, .int e_fresh, .int e_firstFree, .int e_held, .int e_mostHeld, .int e_made, .int e_reused, .int e_freed, .int e_doubled])), (ek, .inl (e1, 400, .inl gk)), (ec, .inl (e2, 400, .inl gc)), (ef, .inl (e3, 1200, .inr (.inl gv))), (gki, .inr (4, [.ref kw, .ref kf, .int kz])), (kw, .inl (k1, 20, .inr (.inl kgw))), (kf, .inl (k2, 20, .inl kgf))] := hD
    refine lv_aload_n hx hb dX11_release_14 rfl (lv_at hl 0 rfl) ?_
    refine va_get (D := (dC, dI)) (ci := 11) (v := .ref h_countedCells) (C := RX11) (T := TX11) (N := 17) hx hb hA zin_X11 hown hK hP 0 rfl rfl 5 (by decide) (hA _ wi_589) (fun _ h9 => h9) rfl dX11_release_15 ?_
    refine va_get (D := (dC, dI)) (ci := 1) (v := .int e_freed) (C := RX1) (T := TX1) (N := 13) hx hb hA zin_X1 hown hK hP 1 rfl rfl 11 (by decide) (hA _ wi_454) (fun _ h9 => h9) rfl dX11_release_18 ?_
    refine lv_istore_n (lv' := [(1, .int e_freed), (0, .ref h0)]) hx hb dX11_release_21 rfl hl (by decide) rfl (fun ls hl => ?_)
    refine lv_aload_n hx hb dX11_release_22 rfl (lv_at hl 1 rfl) ?_
    refine va_get (D := (dC, dI)) (ci := 11) (v := .ref h_countedCells) (C := RX11) (T := TX11) (N := 17) hx hb hA zin_X11 hown hK hP 0 rfl rfl 5 (by decide) (hA _ wi_589) (fun _ h9 => h9) rfl dX11_release_23 ?_
    refine lv_aload_n hx hb dX11_release_26 rfl (lv_at hl 1 rfl) ?_
    refine va_get (D := (dC, dI)) (ci := 11) (v := .long h_value) (C := RX11) (T := TX11) (N := 17) hx hb hA zin_X11 hown hK hP 0 rfl rfl 14 (by decide) (hA _ wi_598) (fun _ h9 => h9) rfl dX11_release_27 ?_
    obtain ⟨lv9, FL9, hz9, -, hv9⟩ := hrs
    have hPc := hP.sub (ws' := [(h_countedCells, .inr (1, [.ref ek, .ref ec, .ref ef, .ref gki, .int e_limit, .int e_fresh, .int e_firstFree, .int e_held, .int e_mostHeld, .int e_made, .int e_reused, .int e_freed, .int e_doubled])), (ek, .inl (e1, 400, .inl gk)), (ec, .inl (e2, 400, .inl gc)), (ef, .inl (e3, 1200, .inr (.inl gv))), (gki, .inr (4, [.ref kw, .ref kf, .int kz])), (kw, .inl (k1, 20, .inr (.inl kgw))), (kf, .inl (k2, 20, .inl kgf))]) [1, 2, 3, 4, 5, 6, 7] rfl
    have hDc := hD.sub (ws' := [(h_countedCells, .inr (1, [.ref ek, .ref ec, .ref ef, .ref gki, .int e_limit, .int e_fresh, .int e_firstFree, .int e_held, .int e_mostHeld, .int e_made, .int e_reused, .int e_freed, .int e_doubled])), (ek, .inl (e1, 400, .inl gk)), (ec, .inl (e2, 400, .inl gc)), (ef, .inl (e3, 1200, .inr (.inl gv))), (gki, .inr (4, [.ref kw, .ref kf, .int kz])), (kw, .inl (k1, 20, .inr (.inl kgw))), (kf, .inl (k2, 20, .inl kgf))]) [1, 2, 3, 4, 5, 6, 7] (by decide) rfl
    have hKc := hK.sub (tys' := [(e1, .int), (e2, .int), (e3, .long), (k1, .long), (k2, .int)]) [0, 1, 2, 3, 4] rfl
    have hFc := va_free (wc := [(h_countedCells, .inr (1, [.ref ek, .ref ec, .ref ef, .ref gki, .int e_limit, .int e_fresh, .int e_firstFree, .int e_held, .int e_mostHeld, .int e_made, .int e_reused, .int e_freed, .int e_doubled])), (ek, .inl (e1, 400, .inl gk)), (ec, .inl (e2, 400, .inl gc)), (ef, .inl (e3, 1200, .inr (.inl gv))), (gki, .inr (4, [.ref kw, .ref kf, .int kz])), (kw, .inl (k1, 20, .inr (.inl kgw))), (kf, .inl (k2, 20, .inl kgf))]) hD hS hAA [1, 2, 3, 4, 5, 6, 7] rfl
    refine va_callv (va_runV (As := [.long h_value]) (rest := []) ⟨hx, hb, hml, hown, hA⟩ (c_X1_drop_x l dC dI aK aV h_countedCells ek ec ef gki e1 e2 e3 e_limit e_fresh e_firstFree e_held e_mostHeld e_made e_reused e_freed e_doubled gk gc gv kw kf k1 k2 kz kgw kgf h_value lv9 (fun c => zr h_value c) (fun _ => 0) FL9 H.size (by omega) (by omega) hkf hz9 hv9.1 (fun c => by show zr h_value c = 0 + zr h_value c; omega) (fun _ => Int.le_refl _) (by omega)) (cwV 1 hA (zw_V wi_1338 wi_1139 wi_1140 wi_140 (zw_good wi_1141)) rfl rfl rfl (by decide +kernel) ⟨(Nat.le_of_ble_eq_true rfl), (Nat.le_of_ble_eq_true rfl)⟩) ⟨zP_blind, va_recv hKc hPc (ci := 1) (q0 := 0) rfl rfl, zz_pre hKc hPc hDc hN hT hS hFc⟩ rfl rfl hl.1 rfl (lv_room (Nat.le_of_ble_eq_true rfl)) dX11_release_30 ⟨(Nat.le_of_ble_eq_true rfl), (Nat.le_of_ble_eq_true rfl)⟩) hS (fun q _ h => hFc q h) hFc (fun u t H1 locs ht hvm hw hB hz1 hk1 hS => ?_)
    obtain ⟨gc_3, ff_4, he_5, fd_6⟩ := u
    obtain ⟨hP1, hK1, hD1⟩ := hB
    rw [ht] at hP1
    have hK1 := va_K.moved hvm.symm hK1
    obtain ⟨hP, hD⟩ := va_join (wr := [(h0, .inr (11, [.ref h_tape, .int h_fed, .ref h_taken, .ref h_parser, .ref h_machine, .ref h_countedCells, .ref h_plainCells, .ref h_printer, .int h_faultNumber, .int h_stopPlace, .int h_wasRun, .int h_runSteps, .int h_runCalls, .int 0, .long h_value, .int h_hasOther, .long h_otherValue]))]) (w1 := [(h_countedCells, .inr (1, [.ref ek, .ref ec, .ref ef, .ref gki, .int e_limit, .int e_fresh, .int ff_4, .int he_5, .int e_mostHeld, .int e_made, .int e_reused, .int fd_6, .int e_doubled])), (ek, .inl (e1, 400, .inl gk)), (ec, .inl (e2, 400, .inl gc_3)), (ef, .inl (e3, 1200, .inr (.inl gv))), (gki, .inr (4, [.ref kw, .ref kf, .int kz])), (kw, .inl (k1, 20, .inr (.inl kgw))), (kf, .inl (k2, 20, .inl kgf))]) hP hD [1, 2, 3, 4, 5, 6, 7] [0] rfl rfl (by decide) (by decide) hk1 hFc hP1 hD1
    have hK := (hK.sub (tys' := []) [] rfl).app hK1
    generalize H1 = H at hP hS ⊢
    have hP : va_P (dC, dI) vwCl [(h0, .inr (11, [.ref h_tape, .int h_fed, .ref h_taken, .ref h_parser, .ref h_machine, .ref h_countedCells, .ref h_plainCells, .ref h_printer, .int h_faultNumber, .int h_stopPlace, .int h_wasRun, .int h_runSteps, .int h_runCalls, .int 0, .long h_value, .int h_hasOther, .long h_otherValue])), (h_countedCells, .inr (1, [.ref ek, .ref ec, .ref ef, .ref gki, .int e_limit, .int e_fresh, .int ff_4, .int he_5, .int e_mostHeld, .int e_made, .int e_reused, .int fd_6, .int e_doubled])), (ek, .inl (e1, 400, .inl gk)), (ec, .inl (e2, 400, .inl gc_3)), (ef, .inl (e3, 1200, .inr (.inl gv))), (gki, .inr (4, [.ref kw, .ref kf, .int kz])), (kw, .inl (k1, 20, .inr (.inl kgw))), (kf, .inl (k2, 20, .inl kgf))] H := hP
    have hD : va_D A [(h0, .inr (11, [.ref h_tape, .int h_fed, .ref h_taken, .ref h_parser, .ref h_machine, .ref h_countedCells, .ref h_plainCells, .ref h_printer, .int h_faultNumber, .int h_stopPlace, .int h_wasRun, .int h_runSteps, .int h_runCalls, .int 0, .long h_value, .int h_hasOther, .long h_otherValue])), (h_countedCells, .inr (1, [.ref ek, .ref ec, .ref ef, .ref gki, .int e_limit, .int e_fresh, .int ff_4, .int he_5, .int e_mostHeld, .int e_made, .int e_reused, .int fd_6, .int e_doubled])), (ek, .inl (e1, 400, .inl gk)), (ec, .inl (e2, 400, .inl gc_3)), (ef, .inl (e3, 1200, .inr (.inl gv))), (gki, .inr (4, [.ref kw, .ref kf, .int kz])), (kw, .inl (k1, 20, .inr (.inl kgw))), (kf, .inl (k2, 20, .inl kgf))] := hD
    have hK : va_K (dC, dI) vwCl [(e1, .int), (e2, .int), (e3, .long), (k1, .long), (k2, .int)] s := hK
    have hq_7 := hw
    refine lv_aload_n hx hb dX11_release_33 rfl (lv_at hl 1 rfl) ?_
    refine va_get (D := (dC, dI)) (ci := 11) (v := .ref h_countedCells) (C := RX11) (T := TX11) (N := 17) hx hb hA zin_X11 hown hK hP 0 rfl rfl 5 (by decide) (hA _ wi_589) (fun _ h9 => h9) rfl dX11_release_34 ?_
    refine va_get (D := (dC, dI)) (ci := 1) (v := .int fd_6) (C := RX1) (T := TX1) (N := 13) hx hb hA zin_X1 hown hK hP 1 rfl rfl 11 (by decide) (hA _ wi_454) (fun _ h9 => h9) rfl dX11_release_37 ?_
    refine lv_iload_n hx hb dX11_release_40 rfl (lv_at hl 0 rfl) ?_
    refine lv_isub hx hb dX11_release_41 ?_
    refine lv_topi (fun x_8 ex_8 => ?_)
    have hP9 := hP.sub (ws' := [(h0, .inr (11, [.ref h_tape, .int h_fed, .ref h_taken, .ref h_parser, .ref h_machine, .ref h_countedCells, .ref h_plainCells, .ref h_printer, .int h_faultNumber, .int h_stopPlace, .int h_wasRun, .int h_runSteps, .int h_runCalls, .int 0, .long h_value, .int h_hasOther, .long h_otherValue])), (h_countedCells, .inr (1, [.ref ek, .ref ec, .ref ef, .ref gki, .int e_limit, .int e_fresh, .int ff_4, .int he_5, .int e_mostHeld, .int e_made, .int e_reused, .int fd_6, .int e_doubled])), (ek, .inl (e1, 400, .inl gk)), (ec, .inl (e2, 400, .inl gc_3)), (ef, .inl (e3, 1200, .inr (.inl gv))), (gki, .inr (4, [.ref kw, .ref kf, .int kz])), (kw, .inl (k1, 20, .inr (.inl kgw))), (kf, .inl (k2, 20, .inl kgf))]) [0, 1, 2, 3, 4, 5, 6, 7] rfl
    have hD9 := hD.sub (ws' := [(h0, .inr (11, [.ref h_tape, .int h_fed, .ref h_taken, .ref h_parser, .ref h_machine, .ref h_countedCells, .ref h_plainCells, .ref h_printer, .int h_faultNumber, .int h_stopPlace, .int h_wasRun, .int h_runSteps, .int h_runCalls, .int 0, .long h_value, .int h_hasOther, .long h_otherValue])), (h_countedCells, .inr (1, [.ref ek, .ref ec, .ref ef, .ref gki, .int e_limit, .int e_fresh, .int ff_4, .int he_5, .int e_mostHeld, .int e_made, .int e_reused, .int fd_6, .int e_doubled])), (ek, .inl (e1, 400, .inl gk)), (ec, .inl (e2, 400, .inl gc_3)), (ef, .inl (e3, 1200, .inr (.inl gv))), (gki, .inr (4, [.ref kw, .ref kf, .int kz])), (kw, .inl (k1, 20, .inr (.inl kgw))), (kf, .inl (k2, 20, .inl kgf))]) [0, 1, 2, 3, 4, 5, 6, 7] (by decide) rfl
    have hK9 := hK.sub (tys' := [(e1, .int), (e2, .int), (e3, .long), (k1, .long), (k2, .int)]) [0, 1, 2, 3, 4] rfl
    exact W.iret (v := x_8) hx hb hr (fun t ht hW => ⟨⟨x_8, (gc_3, ff_4, he_5, fd_6), rfl, trivial, by rw [ht]; exact hP9, va_K.moved hW.alike hK9, hD9⟩, hS.F ht⟩) hS.2.2 dX11_release_42
  · have ic_1 : h_hasValue.toInt = 0 := zi_eq c_1
    exfalso
    omega
set_option maxHeartbeats 4000000 in
set_option maxRecDepth 100000 in
theorem c_X11_release_0 (l : Launch) (dC : Nat → ClassId) (dI : Nat → Nat → Nat) (aK aV : Nat → Nat) (h0 : Nat) (h_tape : Nat) (h_fed : Int32) (h_taken : Nat) (h_parser : Nat) (h_machine : Nat) (h_countedCells : Nat) (h_plainCells : Nat) (h_printer : Nat) (h_faultNumber : Int32) (h_stopPlace : Int32) (h_wasRun : Int32) (h_runSteps : Int32) (h_runCalls : Int32) (h_hasValue : Int32) (h_value : Int64) (h_hasOther : Int32) (h_otherValue : Int64) (sz : Nat) (hval : h_hasValue.toInt = 0) : Met l yX11_release (Cond.code yX11_release cX11_release 2 (some .int) :: zw) ({ frames := 16, cells := 0, slots := 0, locals := 600 }) (va_Pc [.ref h0] (zP dC dI aK aV sz [] [(h0, .inr (11, [.ref h_tape, .int h_fed, .ref h_taken, .ref h_parser, .ref h_machine, .ref h_countedCells, .ref h_plainCells, .ref h_printer, .int h_faultNumber, .int h_stopPlace, .int h_wasRun, .int h_runSteps, .int h_runCalls, .int h_hasValue, .long h_value, .int h_hasOther, .long h_otherValue]))])) (va_Qi (fun (r : Int32) (u : Unit) => True) (fun u => zQ dC dI (va_A [(h0, .inr (11, [.ref h_tape, .int h_fed, .ref h_taken, .ref h_parser, .ref h_machine, .ref h_countedCells, .ref h_plainCells, .ref h_printer, .int h_faultNumber, .int h_stopPlace, .int h_wasRun, .int h_runSteps, .int h_runCalls, .int h_hasValue, .long h_value, .int h_hasOther, .long h_otherValue]))] sz) [] [(h0, .inr (11, [.ref h_tape, .int h_fed, .ref h_taken, .ref h_parser, .ref h_machine, .ref h_countedCells, .ref h_plainCells, .ref h_printer, .int h_faultNumber, .int h_stopPlace, .int h_wasRun, .int h_runSteps, .int h_runCalls, .int h_hasValue, .long h_value, .int h_hasOther, .long h_otherValue]))]) (va_A [(h0, .inr (11, [.ref h_tape, .int h_fed, .ref h_taken, .ref h_parser, .ref h_machine, .ref h_countedCells, .ref h_plainCells, .ref h_printer, .int h_faultNumber, .int h_stopPlace, .int h_wasRun, .int h_runSteps, .int h_runCalls, .int h_hasValue, .long h_value, .int h_hasOther, .long h_otherValue]))] sz)) 0 0 (va_A [(h0, .inr (11, [.ref h_tape, .int h_fed, .ref h_taken, .ref h_parser, .ref h_machine, .ref h_countedCells, .ref h_plainCells, .ref h_printer, .int h_faultNumber, .int h_stopPlace, .int h_wasRun, .int h_runSteps, .int h_runCalls, .int h_hasValue, .long h_value, .int h_hasOther, .long h_otherValue]))] sz) := by
  refine Met.ofW (cc := cX11_release) (maxL := 2) (ret := (some .int)) (by decide) rfl ?_
  intro p e s m args below meth c s₁ B hml hv
  obtain ⟨rfl, hsz, hP, hK, hD0, hN, hT⟩ := hv
  have hx := B.exec
  have hb := B.bytes
  have hr := B.returns
  have hts := atoms_spec (ws := Cond.code yX11_release cX11_release 2 (some .int) :: zw) B.pre
  have hA : ∀ w ∈ zw, w.before _ s = true := fun w h => hts w (List.mem_cons_of_mem _ h)
  have hown : s.vm.findClass RX11 = some m.cls := findClass_of_methodNamed B.named
  have hlocks := B.notSynchronized
  subst hsz
  have hD := hD0.self (sz := s.heap.size)
  generalize hAe : va_A [(h0, .inr (11, [.ref h_tape, .int h_fed, .ref h_taken, .ref h_parser, .ref h_machine, .ref h_countedCells, .ref h_plainCells, .ref h_printer, .int h_faultNumber, .int h_stopPlace, .int h_wasRun, .int h_runSteps, .int h_runCalls, .int h_hasValue, .long h_value, .int h_hasOther, .long h_otherValue]))] s.heap.size = A at hD hT ⊢
  have hAA : ∀ q : Nat, s.heap.size ≤ q → A q := fun q h => by rw [← hAe]; exact Or.inr h
  have hS : va_S A s.heap s.heap [] := va_S.rf
  have hl := lv_entry ([.ref h0]) (n := 2) (Nat.le_of_ble_eq_true rfl)
  rw [lg_entry_eq]
  generalize (lg_sl ([.ref h0]) ++ List.replicate (2 - (lg_sl ([.ref h0])).length) Slot.unset).toArray = ls at hl ⊢
  have hl : lv_has ls 2 [(0, .ref h0)] := hl
  refine lv_aload_n hx hb dX11_release_0 rfl (lv_at hl 0 rfl) ?_
  refine va_get (D := (dC, dI)) (ci := 11) (v := .int h_hasValue) (C := RX11) (T := TX11) (N := 17) hx hb hA zin_X11 hown hK hP 0 rfl rfl 13 (by decide) (hA _ wi_597) (fun _ h9 => h9) rfl dX11_release_1 ?_
  refine lv_if_ne (tgt := 9) hx hb dX11_release_4 (by decide) (fun c_1 => ?_) (fun c_1 => ?_)
  · have ic_1 : h_hasValue.toInt ≠ 0 := zi_ne c_1
    exfalso
    omega
  · have ic_1 : h_hasValue.toInt = 0 := zi_eq c_1
    refine lv_iconst (v := (-1)) hx hb dX11_release_7 (by decide) ?_
    have hlit : Int32.toInt (-1) = (-1) := by decide
    have hP9 := hP.sub (ws' := [(h0, .inr (11, [.ref h_tape, .int h_fed, .ref h_taken, .ref h_parser, .ref h_machine, .ref h_countedCells, .ref h_plainCells, .ref h_printer, .int h_faultNumber, .int h_stopPlace, .int h_wasRun, .int h_runSteps, .int h_runCalls, .int h_hasValue, .long h_value, .int h_hasOther, .long h_otherValue]))]) [0] rfl
    have hD9 := hD.sub (ws' := [(h0, .inr (11, [.ref h_tape, .int h_fed, .ref h_taken, .ref h_parser, .ref h_machine, .ref h_countedCells, .ref h_plainCells, .ref h_printer, .int h_faultNumber, .int h_stopPlace, .int h_wasRun, .int h_runSteps, .int h_runCalls, .int h_hasValue, .long h_value, .int h_hasOther, .long h_otherValue]))]) [0] (by decide) rfl
    have hK9 := hK.sub (tys' := []) [] rfl
    exact W.iret (v := (-1)) hx hb hr (fun t ht hW => ⟨⟨(-1), (), rfl, trivial, by rw [ht]; exact hP9, va_K.moved hW.alike hK9, hD9⟩, hS.F ht⟩) hS.2.2 dX11_release_8
