set_option maxHeartbeats 4000000 in
set_option maxRecDepth 100000 in
theorem c_X11_putFour_x (l : Launch) (dC : Nat → ClassId) (dI : Nat → Nat → Nat) (aK aV : Nat → Nat) (h0 : Nat) (h_tape : Nat) (h_fed : Int32) (h_taken : Nat) (h_parser : Nat) (h_machine : Nat) (h_countedCells : Nat) (h_plainCells : Nat) (h_printer : Nat) (h_faultNumber : Int32) (h_stopPlace : Int32) (h_wasRun : Int32) (h_runSteps : Int32) (h_runCalls : Int32) (h_hasValue : Int32) (h_value : Int64) (h_hasOther : Int32) (h_otherValue : Int64) (hk : ClassId) (gt : Nat → Int32) (by_ : Int32) (sz : Nat) (hfe0 : 0 ≤ h_fed.toInt) (hfe1 : h_fed.toInt ≤ 2000) (hfe2 : h_fed.toInt + 4 ≤ 2000) (hzb : zb gt) : Met l yX11_putFour (Cond.code yX11_putFour cX11_putFour 3 none :: zw) ({ frames := 8, cells := 0, slots := 0, locals := 200 }) (va_Pc [.ref h0, .int by_] (zP dC dI aK aV sz [(hk, .byte)] [(h0, .inr (11, [.ref h_tape, .int h_fed, .ref h_taken, .ref h_parser, .ref h_machine, .ref h_countedCells, .ref h_plainCells, .ref h_printer, .int h_faultNumber, .int h_stopPlace, .int h_wasRun, .int h_runSteps, .int h_runCalls, .int h_hasValue, .long h_value, .int h_hasOther, .long h_otherValue])), (h_tape, .inl (hk, 2000, .inl gt))])) (va_Qv (fun u : Int32 × (Nat → Int32) => match u with | (fe2, gt2) => (fe2.toInt = h_fed.toInt + 4) ∧ (zb gt2)) (fun u => match u with | (fe2, gt2) => zQ dC dI (va_A [(h0, .inr (11, [.ref h_tape, .int h_fed, .ref h_taken, .ref h_parser, .ref h_machine, .ref h_countedCells, .ref h_plainCells, .ref h_printer, .int h_faultNumber, .int h_stopPlace, .int h_wasRun, .int h_runSteps, .int h_runCalls, .int h_hasValue, .long h_value, .int h_hasOther, .long h_otherValue])), (h_tape, .inl (hk, 2000, .inl gt))] sz) [(hk, .byte)] [(h0, .inr (11, [.ref h_tape, .int fe2, .ref h_taken, .ref h_parser, .ref h_machine, .ref h_countedCells, .ref h_plainCells, .ref h_printer, .int h_faultNumber, .int h_stopPlace, .int h_wasRun, .int h_runSteps, .int h_runCalls, .int h_hasValue, .long h_value, .int h_hasOther, .long h_otherValue])), (h_tape, .inl (hk, 2000, .inl gt2))]) (va_A [(h0, .inr (11, [.ref h_tape, .int h_fed, .ref h_taken, .ref h_parser, .ref h_machine, .ref h_countedCells, .ref h_plainCells, .ref h_printer, .int h_faultNumber, .int h_stopPlace, .int h_wasRun, .int h_runSteps, .int h_runCalls, .int h_hasValue, .long h_value, .int h_hasOther, .long h_otherValue])), (h_tape, .inl (hk, 2000, .inl gt))] sz)) 0 0 (va_A [(h0, .inr (11, [.ref h_tape, .int h_fed, .ref h_taken, .ref h_parser, .ref h_machine, .ref h_countedCells, .ref h_plainCells, .ref h_printer, .int h_faultNumber, .int h_stopPlace, .int h_wasRun, .int h_runSteps, .int h_runCalls, .int h_hasValue, .long h_value, .int h_hasOther, .long h_otherValue])), (h_tape, .inl (hk, 2000, .inl gt))] sz) := by
  refine Met.ofW (cc := cX11_putFour) (maxL := 3) (ret := none) (by decide) rfl ?_
  intro p e s m args below meth c s₁ B hml hv
  obtain ⟨rfl, hsz, hP, hK, hD0, hN, hT⟩ := hv
  have hx := B.exec
  have hb := B.bytes
  have hr := B.returns
  have hts := atoms_spec (ws := Cond.code yX11_putFour cX11_putFour 3 none :: zw) B.pre
  have hA : ∀ w ∈ zw, w.before _ s = true := fun w h => hts w (List.mem_cons_of_mem _ h)
  have hown : s.vm.findClass RX11 = some m.cls := findClass_of_methodNamed B.named
  have hlocks := B.notSynchronized
  subst hsz
  have hD := hD0.self (sz := s.heap.size)
  generalize hAe : va_A [(h0, .inr (11, [.ref h_tape, .int h_fed, .ref h_taken, .ref h_parser, .ref h_machine, .ref h_countedCells, .ref h_plainCells, .ref h_printer, .int h_faultNumber, .int h_stopPlace, .int h_wasRun, .int h_runSteps, .int h_runCalls, .int h_hasValue, .long h_value, .int h_hasOther, .long h_otherValue])), (h_tape, .inl (hk, 2000, .inl gt))] s.heap.size = A at hD hT ⊢
  have hAA : ∀ q : Nat, s.heap.size ≤ q → A q := fun q h => by rw [← hAe]; exact Or.inr h
  have hS : va_S A s.heap s.heap [] := va_S.rf
  have hl := lv_entry ([.ref h0, .int by_]) (n := 3) (Nat.le_of_ble_eq_true rfl)
  rw [lg_entry_eq]
  generalize (lg_sl ([.ref h0, .int by_]) ++ List.replicate (3 - (lg_sl ([.ref h0, .int by_])).length) Slot.unset).toArray = ls at hl ⊢
  have hl : lv_has ls 3 [(0, .ref h0), (1, .int by_)] := hl
  refine lv_bipush (v := 24) hx hb dX11_putFour_0 (by decide) ?_
  refine lv_istore_n (lv' := [(2, .int 24), (0, .ref h0), (1, .int by_)]) hx hb dX11_putFour_2 rfl hl (by decide) rfl (fun ls hl => ?_)
  have loop_3 : ∀ (n9 : Nat) (sh : Int32) (lf : Int32) (lg : Nat → Int32) (H : Heap) (locs : List Loc) (ls : Array Slot), (sh.toInt + 9).toNat ≤ n9 → -8 ≤ sh.toInt → sh.toInt ≤ 24 → 8 * (lf.toInt - h_fed.toInt) = 24 - sh.toInt → zb lg → va_P (dC, dI) vwCl [(h0, .inr (11, [.ref h_tape, .int lf, .ref h_taken, .ref h_parser, .ref h_machine, .ref h_countedCells, .ref h_plainCells, .ref h_printer, .int h_faultNumber, .int h_stopPlace, .int h_wasRun, .int h_runSteps, .int h_runCalls, .int h_hasValue, .long h_value, .int h_hasOther, .long h_otherValue])), (h_tape, .inl (hk, 2000, .inl lg))] H → va_D A [(h0, .inr (11, [.ref h_tape, .int lf, .ref h_taken, .ref h_parser, .ref h_machine, .ref h_countedCells, .ref h_plainCells, .ref h_printer, .int h_faultNumber, .int h_stopPlace, .int h_wasRun, .int h_runSteps, .int h_runCalls, .int h_hasValue, .long h_value, .int h_hasOther, .long h_otherValue])), (h_tape, .inl (hk, 2000, .inl lg))] → va_S A s.heap H locs → lv_has ls 3 [(2, .int sh), (0, .ref h0), (1, .int by_)] → W p l e (headSpec (Cond.code yX11_putFour cX11_putFour 3 none :: zw) ({ frames := 8, cells := 0, slots := 0, locals := 200 })).room s m #[.ref h0, .int by_] below meth c H locs 0 0 (MQ below (va_Qv (fun u : Int32 × (Nat → Int32) => match u with | (fe2, gt2) => (fe2.toInt = h_fed.toInt + 4) ∧ (zb gt2)) (fun u => match u with | (fe2, gt2) => zQ dC dI A [(hk, .byte)] [(h0, .inr (11, [.ref h_tape, .int fe2, .ref h_taken, .ref h_parser, .ref h_machine, .ref h_countedCells, .ref h_plainCells, .ref h_printer, .int h_faultNumber, .int h_stopPlace, .int h_wasRun, .int h_runSteps, .int h_runCalls, .int h_hasValue, .long h_value, .int h_hasOther, .long h_otherValue])), (h_tape, .inl (hk, 2000, .inl gt2))]) A) #[.ref h0, .int by_] s 0 0 A) (F0 m 3 ls []) := by
    intro n9
    induction n9 with
    | zero => intro sh lf lg H locs ls hm hsh0 hsh1 hlf hzl; exfalso; omega
    | succ n9 ih =>
      intro sh lf lg H locs ls hm hsh0 hsh1 hlf hzl hP hD hS hl
      refine lv_iload_n hx hb dX11_putFour_3 rfl (lv_at hl 0 rfl) ?_
      refine lv_if_lt (tgt := 46) hx hb dX11_putFour_4 (by decide) (fun c_1 => ?_) (fun c_1 => ?_)
      · have ic_1 : sh.toInt < 0 := zi_lt c_1
        have hP9 := hP.sub (ws' := [(h0, .inr (11, [.ref h_tape, .int lf, .ref h_taken, .ref h_parser, .ref h_machine, .ref h_countedCells, .ref h_plainCells, .ref h_printer, .int h_faultNumber, .int h_stopPlace, .int h_wasRun, .int h_runSteps, .int h_runCalls, .int h_hasValue, .long h_value, .int h_hasOther, .long h_otherValue])), (h_tape, .inl (hk, 2000, .inl lg))]) [0, 1] rfl
        have hD9 := hD.sub (ws' := [(h0, .inr (11, [.ref h_tape, .int lf, .ref h_taken, .ref h_parser, .ref h_machine, .ref h_countedCells, .ref h_plainCells, .ref h_printer, .int h_faultNumber, .int h_stopPlace, .int h_wasRun, .int h_runSteps, .int h_runCalls, .int h_hasValue, .long h_value, .int h_hasOther, .long h_otherValue])), (h_tape, .inl (hk, 2000, .inl lg))]) [0, 1] (by decide) rfl
        have hK9 := hK.sub (tys' := [(hk, .byte)]) [0] rfl
        exact W.vret hx hb hr (fun t ht hW => ⟨⟨(lf, lg), rfl, ⟨by omega, hzl⟩, by rw [ht]; exact hP9, va_K.moved hW.alike hK9, hD9⟩, hS.F ht⟩) hS.2.2 dX11_putFour_46
      · have ic_1 : 0 ≤ sh.toInt := zi_nlt c_1
        refine lv_aload_n hx hb dX11_putFour_7 rfl (lv_at hl 1 rfl) ?_
        refine va_get (D := (dC, dI)) (ci := 11) (v := .int lf) (C := RX11) (T := TX11) (N := 17) hx hb hA zin_X11 hown hK hP 0 rfl rfl 1 (by decide) (hA _ wi_585) (fun _ h9 => h9) rfl dX11_putFour_8 ?_
        refine lv_sipush (v := 2000) hx hb dX11_putFour_11 (by decide) ?_
        refine lv_icmp_ge (tgt := 46) hx hb dX11_putFour_14 (by decide) (fun c_2 => ?_) (fun c_2 => ?_)
        · have ic_2 : 2000 ≤ lf.toInt := zi_le c_2
          exfalso
          omega
        · have ic_2 : lf.toInt < 2000 := zi_nle c_2
          refine lv_aload_n hx hb dX11_putFour_17 rfl (lv_at hl 1 rfl) ?_
          refine va_get (D := (dC, dI)) (ci := 11) (v := .ref h_tape) (C := RX11) (T := TX11) (N := 17) hx hb hA zin_X11 hown hK hP 0 rfl rfl 0 (by decide) (hA _ wi_584) (fun _ h9 => h9) rfl dX11_putFour_18 ?_
          refine lv_aload_n hx hb dX11_putFour_21 rfl (lv_at hl 1 rfl) ?_
          refine va_get (D := (dC, dI)) (ci := 11) (v := .int lf) (C := RX11) (T := TX11) (N := 17) hx hb hA zin_X11 hown hK hP 0 rfl rfl 1 (by decide) (hA _ wi_585) (fun _ h9 => h9) rfl dX11_putFour_22 ?_
          refine lv_iload_n hx hb dX11_putFour_25 rfl (lv_at hl 2 rfl) ?_
          refine lv_iload_n hx hb dX11_putFour_26 rfl (lv_at hl 0 rfl) ?_
          obtain ⟨x_3, ex_3⟩ : ∃ z : Int32, z = (Int32.toUInt32 by_ >>> (Int32.toUInt32 sh &&& Int32.toUInt32 31)).toInt32 := ⟨_, rfl⟩
          refine lv_iushr (v := x_3) hx hb dX11_putFour_27 ex_3.symm ?_
          obtain ⟨x_4, ex_4⟩ : ∃ z : Int32, z = (Int32.toInt8 x_3).toInt32 := ⟨_, rfl⟩
          refine lv_i2b (v := x_4) hx hb dX11_putFour_28 ex_4.symm ?_
          refine va_bast hx hb hK hP hD hS 1 0 rfl rfl (vp_in_iff.mpr ⟨by omega, by omega⟩) dX11_putFour_29 (fun H locs hP hD hS => ?_)
          obtain ⟨f_5, ef_5⟩ : ∃ gz9 : Nat → Int32, gz9 = upd lg (Int32.toNatClampNeg lf) (vp_nar .byte x_4) := ⟨_, rfl⟩
          rw [← ef_5] at hP hD
          have hP : va_P (dC, dI) vwCl [(h0, .inr (11, [.ref h_tape, .int lf, .ref h_taken, .ref h_parser, .ref h_machine, .ref h_countedCells, .ref h_plainCells, .ref h_printer, .int h_faultNumber, .int h_stopPlace, .int h_wasRun, .int h_runSteps, .int h_runCalls, .int h_hasValue, .long h_value, .int h_hasOther, .long h_otherValue])), (h_tape, .inl (hk, 2000, .inl f_5))] H := hP
          have hD : va_D A [(h0, .inr (11, [.ref h_tape, .int lf, .ref h_taken, .ref h_parser, .ref h_machine, .ref h_countedCells, .ref h_plainCells, .ref h_printer, .int h_faultNumber, .int h_stopPlace, .int h_wasRun, .int h_runSteps, .int h_runCalls, .int h_hasValue, .long h_value, .int h_hasOther, .long h_otherValue])), (h_tape, .inl (hk, 2000, .inl f_5))] := hD
          have hzb_6 : zb f_5 := zb_upd hzl ef_5
          refine lv_aload_n hx hb dX11_putFour_30 rfl (lv_at hl 1 rfl) ?_
          refine lv_dup hx hb dX11_putFour_31 rfl ?_
          refine va_get (D := (dC, dI)) (ci := 11) (v := .int lf) (C := RX11) (T := TX11) (N := 17) hx hb hA zin_X11 hown hK hP 0 rfl rfl 1 (by decide) (hA _ wi_585) (fun _ h9 => h9) rfl dX11_putFour_32 ?_
          refine lv_iconst (v := 1) hx hb dX11_putFour_35 (by decide) ?_
          refine lv_iadd hx hb dX11_putFour_36 ?_
          refine lv_topi (fun x_7 ex_7 => ?_)
          have ix_7 : x_7.toInt = lf.toInt + 1 := by rw [ex_7]; exact zi_addc (by decide) (by omega) (by omega)
          refine va_put (D := (dC, dI)) (ci := 11) (v := .int x_7) (ty := .int) (C := RX11) (T := TX11) (N := 17) hx hb hA zin_X11 tyX11 tyX11_ok nmX11 hown hK hP hD hS 0 rfl rfl 1 (by decide) (hA _ wi_585) (fun _ h9 => h9) rfl (by decide +kernel) rfl rfl (Nat.le_of_ble_eq_true rfl) dX11_putFour_37 (fun H locs hP hD hS => ?_)
          have hP : va_P (dC, dI) vwCl [(h0, .inr (11, [.ref h_tape, .int x_7, .ref h_taken, .ref h_parser, .ref h_machine, .ref h_countedCells, .ref h_plainCells, .ref h_printer, .int h_faultNumber, .int h_stopPlace, .int h_wasRun, .int h_runSteps, .int h_runCalls, .int h_hasValue, .long h_value, .int h_hasOther, .long h_otherValue])), (h_tape, .inl (hk, 2000, .inl f_5))] H := hP
          have hD : va_D A [(h0, .inr (11, [.ref h_tape, .int x_7, .ref h_taken, .ref h_parser, .ref h_machine, .ref h_countedCells, .ref h_plainCells, .ref h_printer, .int h_faultNumber, .int h_stopPlace, .int h_wasRun, .int h_runSteps, .int h_runCalls, .int h_hasValue, .long h_value, .int h_hasOther, .long h_otherValue])), (h_tape, .inl (hk, 2000, .inl f_5))] := hD
          obtain ⟨x_8, ex_8⟩ : ∃ y : Int32, y = sh + Int32.ofInt (-8) := ⟨_, rfl⟩
          refine lv_iinc (v := x_8) (lv' := [(2, .int x_8), (0, .ref h0), (1, .int by_)]) hx hb dX11_putFour_40 hl (k := 0) rfl (by rw [ex_8]) (by decide) rfl (fun ls hl => ?_)
          have ix_8 : x_8.toInt = sh.toInt + (-8) := by rw [ex_8]; exact zi_addc (by decide) (by omega) (by omega)
          refine lv_goto (tgt := 3) hx hb dX11_putFour_43 (by decide) ?_
          exact ih x_8 x_7 f_5 _ _ _ (by omega) (by omega) (by omega) (by omega) hzb_6 (hP.sub [0, 1] rfl) (hD.sub [0, 1] (by decide) rfl) hS (lv_sub hl [0, 1, 2] rfl)
  exact loop_3 _ 24 h_fed gt _ _ _ (Nat.le_refl _) (by have h9_0 : Int32.toInt 24 = 24 := (by decide); omega) (by have h9_0 : Int32.toInt 24 = 24 := (by decide); omega) (by have h9_0 : Int32.toInt 24 = 24 := (by decide); omega) hzb (hP.sub [0, 1] rfl) (hD.sub [0, 1] (by decide) rfl) hS (lv_sub hl [0, 1, 2] rfl)
set_option maxHeartbeats 4000000 in
set_option maxRecDepth 100000 in
theorem c_X11_feed_x (l : Launch) (dC : Nat → ClassId) (dI : Nat → Nat → Nat) (aK aV : Nat → Nat) (h0 : Nat) (h_tape : Nat) (h_fed : Int32) (h_taken : Nat) (h_parser : Nat) (h_machine : Nat) (h_countedCells : Nat) (h_plainCells : Nat) (h_printer : Nat) (h_faultNumber : Int32) (h_stopPlace : Int32) (h_wasRun : Int32) (h_runSteps : Int32) (h_runCalls : Int32) (h_hasValue : Int32) (h_value : Int64) (h_hasOther : Int32) (h_otherValue : Int64) (hk : ClassId) (gt : Nat → Int32) (a1 : Int32) (a2 : Int32) (a3 : Int32) (a4 : Int32) (a5 : Int32) (sz : Nat) (hfe0 : 0 ≤ h_fed.toInt) (hfe1 : h_fed.toInt ≤ 2000) (hzb : zb gt) : Met l yX11_feed (Cond.code yX11_feed cX11_feed 6 (some .int) :: zw) ({ frames := 10, cells := 0, slots := 0, locals := 300 }) (va_Pc [.ref h0, .int a1, .int a2, .int a3, .int a4, .int a5] (zP dC dI aK aV sz [(hk, .byte)] [(h0, .inr (11, [.ref h_tape, .int h_fed, .ref h_taken, .ref h_parser, .ref h_machine, .ref h_countedCells, .ref h_plainCells, .ref h_printer, .int h_faultNumber, .int h_stopPlace, .int h_wasRun, .int h_runSteps, .int h_runCalls, .int h_hasValue, .long h_value, .int h_hasOther, .long h_otherValue])), (h_tape, .inl (hk, 2000, .inl gt))])) (va_Qi (fun (r : Int32) (u : Int32 × (Nat → Int32)) => match u with | (fe2, gt2) => (h_fed.toInt + 20 ≤ 2000 ∧ fe2.toInt = h_fed.toInt + 20 ∧ r.toInt = fe2.toInt ∨ 2000 < h_fed.toInt + 20 ∧ fe2.toInt = h_fed.toInt ∧ r.toInt = -1) ∧ (zb gt2)) (fun u => match u with | (fe2, gt2) => zQ dC dI (va_A [(h0, .inr (11, [.ref h_tape, .int h_fed, .ref h_taken, .ref h_parser, .ref h_machine, .ref h_countedCells, .ref h_plainCells, .ref h_printer, .int h_faultNumber, .int h_stopPlace, .int h_wasRun, .int h_runSteps, .int h_runCalls, .int h_hasValue, .long h_value, .int h_hasOther, .long h_otherValue])), (h_tape, .inl (hk, 2000, .inl gt))] sz) [(hk, .byte)] [(h0, .inr (11, [.ref h_tape, .int fe2, .ref h_taken, .ref h_parser, .ref h_machine, .ref h_countedCells, .ref h_plainCells, .ref h_printer, .int h_faultNumber, .int h_stopPlace, .int h_wasRun, .int h_runSteps, .int h_runCalls, .int h_hasValue, .long h_value, .int h_hasOther, .long h_otherValue])), (h_tape, .inl (hk, 2000, .inl gt2))]) (va_A [(h0, .inr (11, [.ref h_tape, .int h_fed, .ref h_taken, .ref h_parser, .ref h_machine, .ref h_countedCells, .ref h_plainCells, .ref h_printer, .int h_faultNumber, .int h_stopPlace, .int h_wasRun, .int h_runSteps, .int h_runCalls, .int h_hasValue, .long h_value, .int h_hasOther, .long h_otherValue])), (h_tape, .inl (hk, 2000, .inl gt))] sz)) 0 0 (va_A [(h0, .inr (11, [.ref h_tape, .int h_fed, .ref h_taken, .ref h_parser, .ref h_machine, .ref h_countedCells, .ref h_plainCells, .ref h_printer, .int h_faultNumber, .int h_stopPlace, .int h_wasRun, .int h_runSteps, .int h_runCalls, .int h_hasValue, .long h_value, .int h_hasOther, .long h_otherValue])), (h_tape, .inl (hk, 2000, .inl gt))] sz) := by
  refine Met.ofW (cc := cX11_feed) (maxL := 6) (ret := (some .int)) (by decide) rfl ?_
  intro p e s m args below meth c s₁ B hml hv
  obtain ⟨rfl, hsz, hP, hK, hD0, hN, hT⟩ := hv
  have hx := B.exec
  have hb := B.bytes
  have hr := B.returns
  have hts := atoms_spec (ws := Cond.code yX11_feed cX11_feed 6 (some .int) :: zw) B.pre
  have hA : ∀ w ∈ zw, w.before _ s = true := fun w h => hts w (List.mem_cons_of_mem _ h)
  have hown : s.vm.findClass RX11 = some m.cls := findClass_of_methodNamed B.named
  have hlocks := B.notSynchronized
  subst hsz
  have hD := hD0.self (sz := s.heap.size)
  generalize hAe : va_A [(h0, .inr (11, [.ref h_tape, .int h_fed, .ref h_taken, .ref h_parser, .ref h_machine, .ref h_countedCells, .ref h_plainCells, .ref h_printer, .int h_faultNumber, .int h_stopPlace, .int h_wasRun, .int h_runSteps, .int h_runCalls, .int h_hasValue, .long h_value, .int h_hasOther, .long h_otherValue])), (h_tape, .inl (hk, 2000, .inl gt))] s.heap.size = A at hD hT ⊢
  have hAA : ∀ q : Nat, s.heap.size ≤ q → A q := fun q h => by rw [← hAe]; exact Or.inr h
  have hS : va_S A s.heap s.heap [] := va_S.rf
  have hl := lv_entry ([.ref h0, .int a1, .int a2, .int a3, .int a4, .int a5]) (n := 6) (Nat.le_of_ble_eq_true rfl)
  rw [lg_entry_eq]
  generalize (lg_sl ([.ref h0, .int a1, .int a2, .int a3, .int a4, .int a5]) ++ List.replicate (6 - (lg_sl ([.ref h0, .int a1, .int a2, .int a3, .int a4, .int a5])).length) Slot.unset).toArray = ls at hl ⊢
  have hl : lv_has ls 6 [(0, .ref h0), (1, .int a1), (2, .int a2), (3, .int a3), (4, .int a4), (5, .int a5)] := hl
  refine lv_aload_n hx hb dX11_feed_0 rfl (lv_at hl 0 rfl) ?_
  refine va_get (D := (dC, dI)) (ci := 11) (v := .int h_fed) (C := RX11) (T := TX11) (N := 17) hx hb hA zin_X11 hown hK hP 0 rfl rfl 1 (by decide) (hA _ wi_585) (fun _ h9 => h9) rfl dX11_feed_1 ?_
  refine lv_bipush (v := 20) hx hb dX11_feed_4 (by decide) ?_
  refine lv_iadd hx hb dX11_feed_6 ?_
  refine lv_topi (fun x_1 ex_1 => ?_)
  have ix_1 : x_1.toInt = h_fed.toInt + 20 := by rw [ex_1]; exact zi_addc (by decide) (by omega) (by omega)
  refine lv_sipush (v := 2000) hx hb dX11_feed_7 (by decide) ?_
  refine lv_icmp_le (tgt := 15) hx hb dX11_feed_10 (by decide) (fun c_2 => ?_) (fun c_2 => ?_)
  · have ic_2 : x_1.toInt ≤ 2000 := zi_le c_2
    refine lv_aload_n hx hb dX11_feed_15 rfl (lv_at hl 0 rfl) ?_
    refine lv_iload_n hx hb dX11_feed_16 rfl (lv_at hl 1 rfl) ?_
    have hPc := hP.sub (ws' := [(h0, .inr (11, [.ref h_tape, .int h_fed, .ref h_taken, .ref h_parser, .ref h_machine, .ref h_countedCells, .ref h_plainCells, .ref h_printer, .int h_faultNumber, .int h_stopPlace, .int h_wasRun, .int h_runSteps, .int h_runCalls, .int h_hasValue, .long h_value, .int h_hasOther, .long h_otherValue])), (h_tape, .inl (hk, 2000, .inl gt))]) [0, 1] rfl
    have hDc := hD.sub (ws' := [(h0, .inr (11, [.ref h_tape, .int h_fed, .ref h_taken, .ref h_parser, .ref h_machine, .ref h_countedCells, .ref h_plainCells, .ref h_printer, .int h_faultNumber, .int h_stopPlace, .int h_wasRun, .int h_runSteps, .int h_runCalls, .int h_hasValue, .long h_value, .int h_hasOther, .long h_otherValue])), (h_tape, .inl (hk, 2000, .inl gt))]) [0, 1] (by decide) rfl
    have hKc := hK.sub (tys' := [(hk, .byte)]) [0] rfl
    have hFc := va_free (wc := [(h0, .inr (11, [.ref h_tape, .int h_fed, .ref h_taken, .ref h_parser, .ref h_machine, .ref h_countedCells, .ref h_plainCells, .ref h_printer, .int h_faultNumber, .int h_stopPlace, .int h_wasRun, .int h_runSteps, .int h_runCalls, .int h_hasValue, .long h_value, .int h_hasOther, .long h_otherValue])), (h_tape, .inl (hk, 2000, .inl gt))]) hD hS hAA [0, 1] rfl
    refine va_callv (va_runV (As := [.int a1]) (rest := []) ⟨hx, hb, hml, hown, hA⟩ (c_X11_putFour_x l dC dI aK aV h0 h_tape h_fed h_taken h_parser h_machine h_countedCells h_plainCells h_printer h_faultNumber h_stopPlace h_wasRun h_runSteps h_runCalls h_hasValue h_value h_hasOther h_otherValue hk gt a1 s.heap.size (by omega) (by omega) (by omega) hzb) (cwV 1 hA (zw_V wi_640 wi_642 wi_0 wi_130 (zw_good wi_643)) rfl rfl rfl (by decide +kernel) ⟨(Nat.le_of_ble_eq_true rfl), (Nat.le_of_ble_eq_true rfl)⟩) ⟨zP_blind, va_recv hKc hPc (ci := 11) (q0 := 0) rfl rfl, zz_pre hKc hPc hDc hN hT hS hFc⟩ rfl rfl hl.1 rfl (lv_room (Nat.le_of_ble_eq_true rfl)) dX11_feed_17 ⟨(Nat.le_of_ble_eq_true rfl), (Nat.le_of_ble_eq_true rfl)⟩) hS (fun q _ h => hFc q h) hFc (fun u t H1 locs ht hvm hw hB hz1 hk1 hS => ?_)
    obtain ⟨fe_4, gt_5⟩ := u
    obtain ⟨hP1, hK1, hD1⟩ := hB
    rw [ht] at hP1
    have hK1 := va_K.moved hvm.symm hK1
    obtain ⟨hP, hD⟩ := va_join (wr := []) (w1 := [(h0, .inr (11, [.ref h_tape, .int fe_4, .ref h_taken, .ref h_parser, .ref h_machine, .ref h_countedCells, .ref h_plainCells, .ref h_printer, .int h_faultNumber, .int h_stopPlace, .int h_wasRun, .int h_runSteps, .int h_runCalls, .int h_hasValue, .long h_value, .int h_hasOther, .long h_otherValue])), (h_tape, .inl (hk, 2000, .inl gt_5))]) hP hD [0, 1] [] rfl rfl (by decide) (by decide) hk1 hFc hP1 hD1
    have hK := (hK.sub (tys' := []) [] rfl).app hK1
    generalize H1 = H at hP hS ⊢
    have hP : va_P (dC, dI) vwCl [(h0, .inr (11, [.ref h_tape, .int fe_4, .ref h_taken, .ref h_parser, .ref h_machine, .ref h_countedCells, .ref h_plainCells, .ref h_printer, .int h_faultNumber, .int h_stopPlace, .int h_wasRun, .int h_runSteps, .int h_runCalls, .int h_hasValue, .long h_value, .int h_hasOther, .long h_otherValue])), (h_tape, .inl (hk, 2000, .inl gt_5))] H := hP
    have hD : va_D A [(h0, .inr (11, [.ref h_tape, .int fe_4, .ref h_taken, .ref h_parser, .ref h_machine, .ref h_countedCells, .ref h_plainCells, .ref h_printer, .int h_faultNumber, .int h_stopPlace, .int h_wasRun, .int h_runSteps, .int h_runCalls, .int h_hasValue, .long h_value, .int h_hasOther, .long h_otherValue])), (h_tape, .inl (hk, 2000, .inl gt_5))] := hD
    have hK : va_K (dC, dI) vwCl [(hk, .byte)] s := hK
    obtain ⟨hq_6, hq_7⟩ := hw
    refine lv_aload_n hx hb dX11_feed_20 rfl (lv_at hl 0 rfl) ?_
    refine lv_iload_n hx hb dX11_feed_21 rfl (lv_at hl 2 rfl) ?_
    have hPc := hP.sub (ws' := [(h0, .inr (11, [.ref h_tape, .int fe_4, .ref h_taken, .ref h_parser, .ref h_machine, .ref h_countedCells, .ref h_plainCells, .ref h_printer, .int h_faultNumber, .int h_stopPlace, .int h_wasRun, .int h_runSteps, .int h_runCalls, .int h_hasValue, .long h_value, .int h_hasOther, .long h_otherValue])), (h_tape, .inl (hk, 2000, .inl gt_5))]) [0, 1] rfl
    have hDc := hD.sub (ws' := [(h0, .inr (11, [.ref h_tape, .int fe_4, .ref h_taken, .ref h_parser, .ref h_machine, .ref h_countedCells, .ref h_plainCells, .ref h_printer, .int h_faultNumber, .int h_stopPlace, .int h_wasRun, .int h_runSteps, .int h_runCalls, .int h_hasValue, .long h_value, .int h_hasOther, .long h_otherValue])), (h_tape, .inl (hk, 2000, .inl gt_5))]) [0, 1] (by decide) rfl
    have hKc := hK.sub (tys' := [(hk, .byte)]) [0] rfl
    have hFc := va_free (wc := [(h0, .inr (11, [.ref h_tape, .int fe_4, .ref h_taken, .ref h_parser, .ref h_machine, .ref h_countedCells, .ref h_plainCells, .ref h_printer, .int h_faultNumber, .int h_stopPlace, .int h_wasRun, .int h_runSteps, .int h_runCalls, .int h_hasValue, .long h_value, .int h_hasOther, .long h_otherValue])), (h_tape, .inl (hk, 2000, .inl gt_5))]) hD hS hAA [0, 1] rfl
    refine va_callv (va_runV (As := [.int a2]) (rest := []) ⟨hx, hb, hml, hown, hA⟩ (c_X11_putFour_x l dC dI aK aV h0 h_tape fe_4 h_taken h_parser h_machine h_countedCells h_plainCells h_printer h_faultNumber h_stopPlace h_wasRun h_runSteps h_runCalls h_hasValue h_value h_hasOther h_otherValue hk gt_5 a2 H.size (by omega) (by omega) (by omega) hq_7) (cwV 1 hA (zw_V wi_640 wi_642 wi_0 wi_130 (zw_good wi_643)) rfl rfl rfl (by decide +kernel) ⟨(Nat.le_of_ble_eq_true rfl), (Nat.le_of_ble_eq_true rfl)⟩) ⟨zP_blind, va_recv hKc hPc (ci := 11) (q0 := 0) rfl rfl, zz_pre hKc hPc hDc hN hT hS hFc⟩ rfl rfl hl.1 rfl (lv_room (Nat.le_of_ble_eq_true rfl)) dX11_feed_22 ⟨(Nat.le_of_ble_eq_true rfl), (Nat.le_of_ble_eq_true rfl)⟩) hS (fun q _ h => hFc q h) hFc (fun u t H1 locs ht hvm hw hB hz1 hk1 hS => ?_)
    obtain ⟨fe_9, gt_10⟩ := u
    obtain ⟨hP1, hK1, hD1⟩ := hB
    rw [ht] at hP1
    have hK1 := va_K.moved hvm.symm hK1
    obtain ⟨hP, hD⟩ := va_join (wr := []) (w1 := [(h0, .inr (11, [.ref h_tape, .int fe_9, .ref h_taken, .ref h_parser, .ref h_machine, .ref h_countedCells, .ref h_plainCells, .ref h_printer, .int h_faultNumber, .int h_stopPlace, .int h_wasRun, .int h_runSteps, .int h_runCalls, .int h_hasValue, .long h_value, .int h_hasOther, .long h_otherValue])), (h_tape, .inl (hk, 2000, .inl gt_10))]) hP hD [0, 1] [] rfl rfl (by decide) (by decide) hk1 hFc hP1 hD1
    have hK := (hK.sub (tys' := []) [] rfl).app hK1
    generalize H1 = H at hP hS ⊢
    have hP : va_P (dC, dI) vwCl [(h0, .inr (11, [.ref h_tape, .int fe_9, .ref h_taken, .ref h_parser, .ref h_machine, .ref h_countedCells, .ref h_plainCells, .ref h_printer, .int h_faultNumber, .int h_stopPlace, .int h_wasRun, .int h_runSteps, .int h_runCalls, .int h_hasValue, .long h_value, .int h_hasOther, .long h_otherValue])), (h_tape, .inl (hk, 2000, .inl gt_10))] H := hP
    have hD : va_D A [(h0, .inr (11, [.ref h_tape, .int fe_9, .ref h_taken, .ref h_parser, .ref h_machine, .ref h_countedCells, .ref h_plainCells, .ref h_printer, .int h_faultNumber, .int h_stopPlace, .int h_wasRun, .int h_runSteps, .int h_runCalls, .int h_hasValue, .long h_value, .int h_hasOther, .long h_otherValue])), (h_tape, .inl (hk, 2000, .inl gt_10))] := hD
    have hK : va_K (dC, dI) vwCl [(hk, .byte)] s := hK
    obtain ⟨hq_11, hq_12⟩ := hw
    refine lv_aload_n hx hb dX11_feed_25 rfl (lv_at hl 0 rfl) ?_
    refine lv_iload_n hx hb dX11_feed_26 rfl (lv_at hl 3 rfl) ?_
    have hPc := hP.sub (ws' := [(h0, .inr (11, [.ref h_tape, .int fe_9, .ref h_taken, .ref h_parser, .ref h_machine, .ref h_countedCells, .ref h_plainCells, .ref h_printer, .int h_faultNumber, .int h_stopPlace, .int h_wasRun, .int h_runSteps, .int h_runCalls, .int h_hasValue, .long h_value, .int h_hasOther, .long h_otherValue])), (h_tape, .inl (hk, 2000, .inl gt_10))]) [0, 1] rfl
    have hDc := hD.sub (ws' := [(h0, .inr (11, [.ref h_tape, .int fe_9, .ref h_taken, .ref h_parser, .ref h_machine, .ref h_countedCells, .ref h_plainCells, .ref h_printer, .int h_faultNumber, .int h_stopPlace, .int h_wasRun, .int h_runSteps, .int h_runCalls, .int h_hasValue, .long h_value, .int h_hasOther, .long h_otherValue])), (h_tape, .inl (hk, 2000, .inl gt_10))]) [0, 1] (by decide) rfl
    have hKc := hK.sub (tys' := [(hk, .byte)]) [0] rfl
    have hFc := va_free (wc := [(h0, .inr (11, [.ref h_tape, .int fe_9, .ref h_taken, .ref h_parser, .ref h_machine, .ref h_countedCells, .ref h_plainCells, .ref h_printer, .int h_faultNumber, .int h_stopPlace, .int h_wasRun, .int h_runSteps, .int h_runCalls, .int h_hasValue, .long h_value, .int h_hasOther, .long h_otherValue])), (h_tape, .inl (hk, 2000, .inl gt_10))]) hD hS hAA [0, 1] rfl
    refine va_callv (va_runV (As := [.int a3]) (rest := []) ⟨hx, hb, hml, hown, hA⟩ (c_X11_putFour_x l dC dI aK aV h0 h_tape fe_9 h_taken h_parser h_machine h_countedCells h_plainCells h_printer h_faultNumber h_stopPlace h_wasRun h_runSteps h_runCalls h_hasValue h_value h_hasOther h_otherValue hk gt_10 a3 H.size (by omega) (by omega) (by omega) hq_12) (cwV 1 hA (zw_V wi_640 wi_642 wi_0 wi_130 (zw_good wi_643)) rfl rfl rfl (by decide +kernel) ⟨(Nat.le_of_ble_eq_true rfl), (Nat.le_of_ble_eq_true rfl)⟩) ⟨zP_blind, va_recv hKc hPc (ci := 11) (q0 := 0) rfl rfl, zz_pre hKc hPc hDc hN hT hS hFc⟩ rfl rfl hl.1 rfl (lv_room (Nat.le_of_ble_eq_true rfl)) dX11_feed_27 ⟨(Nat.le_of_ble_eq_true rfl), (Nat.le_of_ble_eq_true rfl)⟩) hS (fun q _ h => hFc q h) hFc (fun u t H1 locs ht hvm hw hB hz1 hk1 hS => ?_)
    obtain ⟨fe_14, gt_15⟩ := u
    obtain ⟨hP1, hK1, hD1⟩ := hB
    rw [ht] at hP1
    have hK1 := va_K.moved hvm.symm hK1
    obtain ⟨hP, hD⟩ := va_join (wr := []) (w1 := [(h0, .inr (11, [.ref h_tape, .int fe_14, .ref h_taken, .ref h_parser, .ref h_machine, .ref h_countedCells, .ref h_plainCells, .ref h_printer, .int h_faultNumber, .int h_stopPlace, .int h_wasRun, .int h_runSteps, .int h_runCalls, .int h_hasValue, .long h_value, .int h_hasOther, .long h_otherValue])), (h_tape, .inl (hk, 2000, .inl gt_15))]) hP hD [0, 1] [] rfl rfl (by decide) (by decide) hk1 hFc hP1 hD1
    have hK := (hK.sub (tys' := []) [] rfl).app hK1
    generalize H1 = H at hP hS ⊢
    have hP : va_P (dC, dI) vwCl [(h0, .inr (11, [.ref h_tape, .int fe_14, .ref h_taken, .ref h_parser, .ref h_machine, .ref h_countedCells, .ref h_plainCells, .ref h_printer, .int h_faultNumber, .int h_stopPlace, .int h_wasRun, .int h_runSteps, .int h_runCalls, .int h_hasValue, .long h_value, .int h_hasOther, .long h_otherValue])), (h_tape, .inl (hk, 2000, .inl gt_15))] H := hP
    have hD : va_D A [(h0, .inr (11, [.ref h_tape, .int fe_14, .ref h_taken, .ref h_parser, .ref h_machine, .ref h_countedCells, .ref h_plainCells, .ref h_printer, .int h_faultNumber, .int h_stopPlace, .int h_wasRun, .int h_runSteps, .int h_runCalls, .int h_hasValue, .long h_value, .int h_hasOther, .long h_otherValue])), (h_tape, .inl (hk, 2000, .inl gt_15))] := hD
    have hK : va_K (dC, dI) vwCl [(hk, .byte)] s := hK
    obtain ⟨hq_16, hq_17⟩ := hw
    refine lv_aload_n hx hb dX11_feed_30 rfl (lv_at hl 0 rfl) ?_
    refine lv_iload hx hb dX11_feed_31 (lv_at hl 4 rfl) ?_
    have hPc := hP.sub (ws' := [(h0, .inr (11, [.ref h_tape, .int fe_14, .ref h_taken, .ref h_parser, .ref h_machine, .ref h_countedCells, .ref h_plainCells, .ref h_printer, .int h_faultNumber, .int h_stopPlace, .int h_wasRun, .int h_runSteps, .int h_runCalls, .int h_hasValue, .long h_value, .int h_hasOther, .long h_otherValue])), (h_tape, .inl (hk, 2000, .inl gt_15))]) [0, 1] rfl
    have hDc := hD.sub (ws' := [(h0, .inr (11, [.ref h_tape, .int fe_14, .ref h_taken, .ref h_parser, .ref h_machine, .ref h_countedCells, .ref h_plainCells, .ref h_printer, .int h_faultNumber, .int h_stopPlace, .int h_wasRun, .int h_runSteps, .int h_runCalls, .int h_hasValue, .long h_value, .int h_hasOther, .long h_otherValue])), (h_tape, .inl (hk, 2000, .inl gt_15))]) [0, 1] (by decide) rfl
    have hKc := hK.sub (tys' := [(hk, .byte)]) [0] rfl
    have hFc := va_free (wc := [(h0, .inr (11, [.ref h_tape, .int fe_14, .ref h_taken, .ref h_parser, .ref h_machine, .ref h_countedCells, .ref h_plainCells, .ref h_printer, .int h_faultNumber, .int h_stopPlace, .int h_wasRun, .int h_runSteps, .int h_runCalls, .int h_hasValue, .long h_value, .int h_hasOther, .long h_otherValue])), (h_tape, .inl (hk, 2000, .inl gt_15))]) hD hS hAA [0, 1] rfl
    refine va_callv (va_runV (As := [.int a4]) (rest := []) ⟨hx, hb, hml, hown, hA⟩ (c_X11_putFour_x l dC dI aK aV h0 h_tape fe_14 h_taken h_parser h_machine h_countedCells h_plainCells h_printer h_faultNumber h_stopPlace h_wasRun h_runSteps h_runCalls h_hasValue h_value h_hasOther h_otherValue hk gt_15 a4 H.size (by omega) (by omega) (by omega) hq_17) (cwV 1 hA (zw_V wi_640 wi_642 wi_0 wi_130 (zw_good wi_643)) rfl rfl rfl (by decide +kernel) ⟨(Nat.le_of_ble_eq_true rfl), (Nat.le_of_ble_eq_true rfl)⟩) ⟨zP_blind, va_recv hKc hPc (ci := 11) (q0 := 0) rfl rfl, zz_pre hKc hPc hDc hN hT hS hFc⟩ rfl rfl hl.1 rfl (lv_room (Nat.le_of_ble_eq_true rfl)) dX11_feed_33 ⟨(Nat.le_of_ble_eq_true rfl), (Nat.le_of_ble_eq_true rfl)⟩) hS (fun q _ h => hFc q h) hFc (fun u t H1 locs ht hvm hw hB hz1 hk1 hS => ?_)
    obtain ⟨fe_19, gt_20⟩ := u
    obtain ⟨hP1, hK1, hD1⟩ := hB
    rw [ht] at hP1
    have hK1 := va_K.moved hvm.symm hK1
    obtain ⟨hP, hD⟩ := va_join (wr := []) (w1 := [(h0, .inr (11, [.ref h_tape, .int fe_19, .ref h_taken, .ref h_parser, .ref h_machine, .ref h_countedCells, .ref h_plainCells, .ref h_printer, .int h_faultNumber, .int h_stopPlace, .int h_wasRun, .int h_runSteps, .int h_runCalls, .int h_hasValue, .long h_value, .int h_hasOther, .long h_otherValue])), (h_tape, .inl (hk, 2000, .inl gt_20))]) hP hD [0, 1] [] rfl rfl (by decide) (by decide) hk1 hFc hP1 hD1
    have hK := (hK.sub (tys' := []) [] rfl).app hK1
    generalize H1 = H at hP hS ⊢
    have hP : va_P (dC, dI) vwCl [(h0, .inr (11, [.ref h_tape, .int fe_19, .ref h_taken, .ref h_parser, .ref h_machine, .ref h_countedCells, .ref h_plainCells, .ref h_printer, .int h_faultNumber, .int h_stopPlace, .int h_wasRun, .int h_runSteps, .int h_runCalls, .int h_hasValue, .long h_value, .int h_hasOther, .long h_otherValue])), (h_tape, .inl (hk, 2000, .inl gt_20))] H := hP
    have hD : va_D A [(h0, .inr (11, [.ref h_tape, .int fe_19, .ref h_taken, .ref h_parser, .ref h_machine, .ref h_countedCells, .ref h_plainCells, .ref h_printer, .int h_faultNumber, .int h_stopPlace, .int h_wasRun, .int h_runSteps, .int h_runCalls, .int h_hasValue, .long h_value, .int h_hasOther, .long h_otherValue])), (h_tape, .inl (hk, 2000, .inl gt_20))] := hD
    have hK : va_K (dC, dI) vwCl [(hk, .byte)] s := hK
    obtain ⟨hq_21, hq_22⟩ := hw
    refine lv_aload_n hx hb dX11_feed_36 rfl (lv_at hl 0 rfl) ?_
    refine lv_iload hx hb dX11_feed_37 (lv_at hl 5 rfl) ?_
    have hPc := hP.sub (ws' := [(h0, .inr (11, [.ref h_tape, .int fe_19, .ref h_taken, .ref h_parser, .ref h_machine, .ref h_countedCells, .ref h_plainCells, .ref h_printer, .int h_faultNumber, .int h_stopPlace, .int h_wasRun, .int h_runSteps, .int h_runCalls, .int h_hasValue, .long h_value, .int h_hasOther, .long h_otherValue])), (h_tape, .inl (hk, 2000, .inl gt_20))]) [0, 1] rfl
    have hDc := hD.sub (ws' := [(h0, .inr (11, [.ref h_tape, .int fe_19, .ref h_taken, .ref h_parser, .ref h_machine, .ref h_countedCells, .ref h_plainCells, .ref h_printer, .int h_faultNumber, .int h_stopPlace, .int h_wasRun, .int h_runSteps, .int h_runCalls, .int h_hasValue, .long h_value, .int h_hasOther, .long h_otherValue])), (h_tape, .inl (hk, 2000, .inl gt_20))]) [0, 1] (by decide) rfl
    have hKc := hK.sub (tys' := [(hk, .byte)]) [0] rfl
    have hFc := va_free (wc := [(h0, .inr (11, [.ref h_tape, .int fe_19, .ref h_taken, .ref h_parser, .ref h_machine, .ref h_countedCells, .ref h_plainCells, .ref h_printer, .int h_faultNumber, .int h_stopPlace, .int h_wasRun, .int h_runSteps, .int h_runCalls, .int h_hasValue, .long h_value, .int h_hasOther, .long h_otherValue])), (h_tape, .inl (hk, 2000, .inl gt_20))]) hD hS hAA [0, 1] rfl
    refine va_callv (va_runV (As := [.int a5]) (rest := []) ⟨hx, hb, hml, hown, hA⟩ (c_X11_putFour_x l dC dI aK aV h0 h_tape fe_19 h_taken h_parser h_machine h_countedCells h_plainCells h_printer h_faultNumber h_stopPlace h_wasRun h_runSteps h_runCalls h_hasValue h_value h_hasOther h_otherValue hk gt_20 a5 H.size (by omega) (by omega) (by omega) hq_22) (cwV 1 hA (zw_V wi_640 wi_642 wi_0 wi_130 (zw_good wi_643)) rfl rfl rfl (by decide +kernel) ⟨(Nat.le_of_ble_eq_true rfl), (Nat.le_of_ble_eq_true rfl)⟩) ⟨zP_blind, va_recv hKc hPc (ci := 11) (q0 := 0) rfl rfl, zz_pre hKc hPc hDc hN hT hS hFc⟩ rfl rfl hl.1 rfl (lv_room (Nat.le_of_ble_eq_true rfl)) dX11_feed_39 ⟨(Nat.le_of_ble_eq_true rfl), (Nat.le_of_ble_eq_true rfl)⟩) hS (fun q _ h => hFc q h) hFc (fun u t H1 locs ht hvm hw hB hz1 hk1 hS => ?_)
    obtain ⟨fe_24, gt_25⟩ := u
    obtain ⟨hP1, hK1, hD1⟩ := hB
    rw [ht] at hP1
    have hK1 := va_K.moved hvm.symm hK1
    obtain ⟨hP, hD⟩ := va_join (wr := []) (w1 := [(h0, .inr (11, [.ref h_tape, .int fe_24, .ref h_taken, .ref h_parser, .ref h_machine, .ref h_countedCells, .ref h_plainCells, .ref h_printer, .int h_faultNumber, .int h_stopPlace, .int h_wasRun, .int h_runSteps, .int h_runCalls, .int h_hasValue, .long h_value, .int h_hasOther, .long h_otherValue])), (h_tape, .inl (hk, 2000, .inl gt_25))]) hP hD [0, 1] [] rfl rfl (by decide) (by decide) hk1 hFc hP1 hD1
    have hK := (hK.sub (tys' := []) [] rfl).app hK1
    generalize H1 = H at hP hS ⊢
    have hP : va_P (dC, dI) vwCl [(h0, .inr (11, [.ref h_tape, .int fe_24, .ref h_taken, .ref h_parser, .ref h_machine, .ref h_countedCells, .ref h_plainCells, .ref h_printer, .int h_faultNumber, .int h_stopPlace, .int h_wasRun, .int h_runSteps, .int h_runCalls, .int h_hasValue, .long h_value, .int h_hasOther, .long h_otherValue])), (h_tape, .inl (hk, 2000, .inl gt_25))] H := hP
    have hD : va_D A [(h0, .inr (11, [.ref h_tape, .int fe_24, .ref h_taken, .ref h_parser, .ref h_machine, .ref h_countedCells, .ref h_plainCells, .ref h_printer, .int h_faultNumber, .int h_stopPlace, .int h_wasRun, .int h_runSteps, .int h_runCalls, .int h_hasValue, .long h_value, .int h_hasOther, .long h_otherValue])), (h_tape, .inl (hk, 2000, .inl gt_25))] := hD
    have hK : va_K (dC, dI) vwCl [(hk, .byte)] s := hK
    obtain ⟨hq_26, hq_27⟩ := hw
    refine lv_aload_n hx hb dX11_feed_42 rfl (lv_at hl 0 rfl) ?_
    refine va_get (D := (dC, dI)) (ci := 11) (v := .int fe_24) (C := RX11) (T := TX11) (N := 17) hx hb hA zin_X11 hown hK hP 0 rfl rfl 1 (by decide) (hA _ wi_585) (fun _ h9 => h9) rfl dX11_feed_43 ?_
    have hP9 := hP.sub (ws' := [(h0, .inr (11, [.ref h_tape, .int fe_24, .ref h_taken, .ref h_parser, .ref h_machine, .ref h_countedCells, .ref h_plainCells, .ref h_printer, .int h_faultNumber, .int h_stopPlace, .int h_wasRun, .int h_runSteps, .int h_runCalls, .int h_hasValue, .long h_value, .int h_hasOther, .long h_otherValue])), (h_tape, .inl (hk, 2000, .inl gt_25))]) [0, 1] rfl
    have hD9 := hD.sub (ws' := [(h0, .inr (11, [.ref h_tape, .int fe_24, .ref h_taken, .ref h_parser, .ref h_machine, .ref h_countedCells, .ref h_plainCells, .ref h_printer, .int h_faultNumber, .int h_stopPlace, .int h_wasRun, .int h_runSteps, .int h_runCalls, .int h_hasValue, .long h_value, .int h_hasOther, .long h_otherValue])), (h_tape, .inl (hk, 2000, .inl gt_25))]) [0, 1] (by decide) rfl
    have hK9 := hK.sub (tys' := [(hk, .byte)]) [0] rfl
    exact W.iret (v := fe_24) hx hb hr (fun t ht hW => ⟨⟨fe_24, (fe_24, gt_25), rfl, ⟨by omega, hq_27⟩, by rw [ht]; exact hP9, va_K.moved hW.alike hK9, hD9⟩, hS.F ht⟩) hS.2.2 dX11_feed_46
  · have ic_2 : 2000 < x_1.toInt := zi_nle c_2
    refine lv_iconst (v := (-1)) hx hb dX11_feed_13 (by decide) ?_
    have hlit : Int32.toInt (-1) = (-1) := by decide
    have hP9 := hP.sub (ws' := [(h0, .inr (11, [.ref h_tape, .int h_fed, .ref h_taken, .ref h_parser, .ref h_machine, .ref h_countedCells, .ref h_plainCells, .ref h_printer, .int h_faultNumber, .int h_stopPlace, .int h_wasRun, .int h_runSteps, .int h_runCalls, .int h_hasValue, .long h_value, .int h_hasOther, .long h_otherValue])), (h_tape, .inl (hk, 2000, .inl gt))]) [0, 1] rfl
    have hD9 := hD.sub (ws' := [(h0, .inr (11, [.ref h_tape, .int h_fed, .ref h_taken, .ref h_parser, .ref h_machine, .ref h_countedCells, .ref h_plainCells, .ref h_printer, .int h_faultNumber, .int h_stopPlace, .int h_wasRun, .int h_runSteps, .int h_runCalls, .int h_hasValue, .long h_value, .int h_hasOther, .long h_otherValue])), (h_tape, .inl (hk, 2000, .inl gt))]) [0, 1] (by decide) rfl
    have hK9 := hK.sub (tys' := [(hk, .byte)]) [0] rfl
    exact W.iret (v := (-1)) hx hb hr (fun t ht hW => ⟨⟨(-1), (h_fed, gt), rfl, ⟨by omega, hzb⟩, by rw [ht]; exact hP9, va_K.moved hW.alike hK9, hD9⟩, hS.F ht⟩) hS.2.2 dX11_feed_14
