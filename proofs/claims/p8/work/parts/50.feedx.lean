/-- a byte of a number -/
def fd_x (a s : Int32) : Int32 := vp_nar .byte ((Int32.toInt8 ((a.toUInt32 >>> (s.toUInt32 &&& Int32.toUInt32 31)).toInt32)).toInt32)
def fd_b (a : Int32) (j : Nat) : Int32 := fd_x a (Int32.ofInt (24 - 8 * (j : Int)))
def fd_4 (g g2 : Nat → Int32) (f n : Nat) (a : Int32) : Prop := ∀ k : Nat, g2 k = if f ≤ k ∧ k < f + n then fd_b a (k - f) else g k
theorem fd_4_0 {g : Nat → Int32} {f n : Nat} {a : Int32} (h : n = 0) : fd_4 g g f n a := fun k => by rw [if_neg (by omega)]
theorem fd_4_s {g lg g2 : Nat → Int32} {f n n2 k : Nat} {a sh x : Int32} (h : fd_4 g lg f n a) (e : g2 = upd lg k (vp_nar .byte x)) (ek : k = f + n) (ex : x = (Int32.toInt8 ((a.toUInt32 >>> (sh.toUInt32 &&& Int32.toUInt32 31)).toInt32)).toInt32) (es : sh.toInt = 24 - 8 * (n : Int)) (en : n2 = n + 1) : fd_4 g g2 f n2 a := fun j => by
  subst en
  have es2 : sh = Int32.ofInt (24 - 8 * (n : Int)) := by rw [← es]; exact (Int32.ofInt_toInt sh).symm
  rw [e]
  by_cases u : j = k
  · rw [u, zu_s, ek, if_pos (by omega), show f + n - f = n by omega, ex, es2]; rfl
  · rw [zu_n u, h j]
    by_cases w : f ≤ j ∧ j < f + n
    · rw [if_pos w, if_pos (by omega)]
    · rw [if_neg w, if_neg (by omega)]
def fd_5 (a b c d e : Int32) (j : Nat) : Int32 := fd_b (if j < 4 then a else if j < 8 then b else if j < 12 then c else if j < 16 then d else e) (j % 4)
def fd_20 (g g2 : Nat → Int32) (f : Nat) (a b c d e : Int32) : Prop := ∀ k : Nat, g2 k = if f ≤ k ∧ k < f + 20 then fd_5 a b c d e (k - f) else g k
def fd_r (r : Int32) (g g2 : Nat → Int32) (f : Nat) (a b c d e : Int32) : Prop := (r.toInt = -1 ∧ g2 = g) ∨ (r.toInt ≠ -1 ∧ fd_20 g g2 f a b c d e)
theorem fd_20_mk {g g1 g2 g3 g4 g5 : Nat → Int32} {f f1 f2 f3 f4 : Nat} {a b c d e : Int32} (h1 : fd_4 g g1 f 4 a) (h2 : fd_4 g1 g2 f1 4 b) (h3 : fd_4 g2 g3 f2 4 c) (h4 : fd_4 g3 g4 f3 4 d) (h5 : fd_4 g4 g5 f4 4 e) (e1 : f1 = f + 4) (e2 : f2 = f + 8) (e3 : f3 = f + 12) (e4 : f4 = f + 16) : fd_20 g g5 f a b c d e := fun k => by
  subst e1; subst e2; subst e3; subst e4
  rw [h5 k, h4 k, h3 k, h2 k, h1 k]
  unfold fd_5
  by_cases u5 : f + 16 ≤ k ∧ k < f + 16 + 4
  · rw [if_pos u5, if_pos (by omega), if_neg (by omega), if_neg (by omega), if_neg (by omega), if_neg (by omega), show (k - f) % 4 = k - (f + 16) by omega]
  · rw [if_neg u5]
    by_cases u4 : f + 12 ≤ k ∧ k < f + 12 + 4
    · rw [if_pos u4, if_pos (by omega), if_neg (by omega), if_neg (by omega), if_neg (by omega), if_pos (by omega), show (k - f) % 4 = k - (f + 12) by omega]
    · rw [if_neg u4]
      by_cases u3 : f + 8 ≤ k ∧ k < f + 8 + 4
      · rw [if_pos u3, if_pos (by omega), if_neg (by omega), if_neg (by omega), if_pos (by omega), show (k - f) % 4 = k - (f + 8) by omega]
      · rw [if_neg u3]
        by_cases u2 : f + 4 ≤ k ∧ k < f + 4 + 4
        · rw [if_pos u2, if_pos (by omega), if_neg (by omega), if_pos (by omega), show (k - f) % 4 = k - (f + 4) by omega]
        · rw [if_neg u2]
          by_cases u1 : f ≤ k ∧ k < f + 4
          · rw [if_pos u1, if_pos (by omega), if_pos (by omega), show (k - f) % 4 = k - f by omega]
          · rw [if_neg u1, if_neg (by omega)]

set_option maxHeartbeats 4000000 in
set_option maxRecDepth 100000 in
theorem c_X11_putFour_x (l : Launch) (dC : Nat → ClassId) (dI : Nat → Nat → Nat) (aK aV : Nat → Nat) (h0 : Nat) (h_tape : Nat) (h_fed : Int32) (h_taken : Nat) (h_parser : Nat) (h_machine : Nat) (h_countedCells : Nat) (h_plainCells : Nat) (h_printer : Nat) (h_faultNumber : Int32) (h_stopPlace : Int32) (h_wasRun : Int32) (h_runSteps : Int32) (h_runCalls : Int32) (h_hasValue : Int32) (h_value : Int64) (h_hasOther : Int32) (h_otherValue : Int64) (hk : ClassId) (gt : Nat → Int32) (by_ : Int32) (sz : Nat) (hfe0 : 0 ≤ h_fed.toInt) (hfe1 : h_fed.toInt ≤ 2000) (hfe2 : h_fed.toInt + 4 ≤ 2000) (hzb : zb gt) : Met l yX11_putFour (Cond.code yX11_putFour cX11_putFour 3 none :: zw) ({ frames := 8, cells := 0, slots := 0, locals := 200 }) (va_Pc [.ref h0, .int by_] (zP dC dI aK aV sz [(hk, .byte)] [(h0, .inr (11, [.ref h_tape, .int h_fed, .ref h_taken, .ref h_parser, .ref h_machine, .ref h_countedCells, .ref h_plainCells, .ref h_printer, .int h_faultNumber, .int h_stopPlace, .int h_wasRun, .int h_runSteps, .int h_runCalls, .int h_hasValue, .long h_value, .int h_hasOther, .long h_otherValue])), (h_tape, .inl (hk, 2000, .inl gt))])) (va_Qv (fun u : Int32 × (Nat → Int32) => match u with | (fe2, gt2) => (fe2.toInt = h_fed.toInt + 4) ∧ (zb gt2) ∧ (fd_4 gt gt2 (Int32.toNatClampNeg h_fed) 4 by_)) (fun u => match u with | (fe2, gt2) => zQ dC dI (va_A [(h0, .inr (11, [.ref h_tape, .int h_fed, .ref h_taken, .ref h_parser, .ref h_machine, .ref h_countedCells, .ref h_plainCells, .ref h_printer, .int h_faultNumber, .int h_stopPlace, .int h_wasRun, .int h_runSteps, .int h_runCalls, .int h_hasValue, .long h_value, .int h_hasOther, .long h_otherValue])), (h_tape, .inl (hk, 2000, .inl gt))] sz) [(hk, .byte)] [(h0, .inr (11, [.ref h_tape, .int fe2, .ref h_taken, .ref h_parser, .ref h_machine, .ref h_countedCells, .ref h_plainCells, .ref h_printer, .int h_faultNumber, .int h_stopPlace, .int h_wasRun, .int h_runSteps, .int h_runCalls, .int h_hasValue, .long h_value, .int h_hasOther, .long h_otherValue])), (h_tape, .inl (hk, 2000, .inl gt2))]) (va_A [(h0, .inr (11, [.ref h_tape, .int h_fed, .ref h_taken, .ref h_parser, .ref h_machine, .ref h_countedCells, .ref h_plainCells, .ref h_printer, .int h_faultNumber, .int h_stopPlace, .int h_wasRun, .int h_runSteps, .int h_runCalls, .int h_hasValue, .long h_value, .int h_hasOther, .long h_otherValue])), (h_tape, .inl (hk, 2000, .inl gt))] sz)) 0 0 (va_A [(h0, .inr (11, [.ref h_tape, .int h_fed, .ref h_taken, .ref h_parser, .ref h_machine, .ref h_countedCells, .ref h_plainCells, .ref h_printer, .int h_faultNumber, .int h_stopPlace, .int h_wasRun, .int h_runSteps, .int h_runCalls, .int h_hasValue, .long h_value, .int h_hasOther, .long h_otherValue])), (h_tape, .inl (hk, 2000, .inl gt))] sz) := by
  refine Met.ofW (cc := cX11_putFour) (maxL := 3) (ret := none) (by decide) rfl ?_
  intro p e s m args below meth c s₁ B hml hv
  obtain ⟨rfl, hsz, hP, hK, hD0, hN, hT⟩ := hv
  have hx := B.exec
  have hb := B.bytes
  have hr := B.returns
  have hts := atoms_spec (ws := Cond.code yX11_putFour cX11_putFour 3 none :: zw) B.pre
  have hA : ∀ w ∈ zw, w.before _ s = true := fun w h => hts w (List.mem_cons_of_mem _ h)
  have hown : s.vm.findClass RX11 = some m.cls := findClass_of_methodNamed B.named
  have hlocks := B.notSynchronized
  subst hsz
  have hD := hD0.self (sz := s.heap.size)
  generalize hAe : va_A [(h0, .inr (11, [.ref h_tape, .int h_fed, .ref h_taken, .ref h_parser, .ref h_machine, .ref h_countedCells, .ref h_plainCells, .ref h_printer, .int h_faultNumber, .int h_stopPlace, .int h_wasRun, .int h_runSteps, .int h_runCalls, .int h_hasValue, .long h_value, .int h_hasOther, .long h_otherValue])), (h_tape, .inl (hk, 2000, .inl gt))] s.heap.size = A at hD hT ⊢
  have hAA : ∀ q : Nat, s.heap.size ≤ q → A q := fun q h => by rw [← hAe]; exact Or.inr h
  have hS : va_S A s.heap s.heap [] := va_S.rf
  have hl := lv_entry ([.ref h0, .int by_]) (n := 3) (Nat.le_of_ble_eq_true rfl)
  rw [lg_entry_eq]
  generalize (lg_sl ([.ref h0, .int by_]) ++ List.replicate (3 - (lg_sl ([.ref h0, .int by_])).length) Slot.unset).toArray = ls at hl ⊢
  have hl : lv_has ls 3 [(0, .ref h0), (1, .int by_)] := hl
  refine lv_bipush (v := 24) hx hb dX11_putFour_0 (by decide) ?_
  refine lv_istore_n (lv' := [(2, .int 24), (0, .ref h0), (1, .int by_)]) hx hb dX11_putFour_2 rfl hl (by decide) rfl (fun ls hl => ?_)
  have loop_3 : ∀ (n9 : Nat) (sh : Int32) (lf : Int32) (lg : Nat → Int32) (H : Heap) (locs : List Loc) (ls : Array Slot), (sh.toInt + 9).toNat ≤ n9 → -8 ≤ sh.toInt → sh.toInt ≤ 24 → 8 * (lf.toInt - h_fed.toInt) = 24 - sh.toInt → zb lg → fd_4 gt lg (Int32.toNatClampNeg h_fed) (Int32.toNatClampNeg lf - Int32.toNatClampNeg h_fed) by_ → va_P (dC, dI) vwCl [(h0, .inr (11, [.ref h_tape, .int lf, .ref h_taken, .ref h_parser, .ref h_machine, .ref h_countedCells, .ref h_plainCells, .ref h_printer, .int h_faultNumber, .int h_stopPlace, .int h_wasRun, .int h_runSteps, .int h_runCalls, .int h_hasValue, .long h_value, .int h_hasOther, .long h_otherValue])), (h_tape, .inl (hk, 2000, .inl lg))] H → va_D A [(h0, .inr (11, [.ref h_tape, .int lf, .ref h_taken, .ref h_parser, .ref h_machine, .ref h_countedCells, .ref h_plainCells, .ref h_printer, .int h_faultNumber, .int h_stopPlace, .int h_wasRun, .int h_runSteps, .int h_runCalls, .int h_hasValue, .long h_value, .int h_hasOther, .long h_otherValue])), (h_tape, .inl (hk, 2000, .inl lg))] → va_S A s.heap H locs → lv_has ls 3 [(2, .int sh), (0, .ref h0), (1, .int by_)] → W p l e (headSpec (Cond.code yX11_putFour cX11_putFour 3 none :: zw) ({ frames := 8, cells := 0, slots := 0, locals := 200 })).room s m #[.ref h0, .int by_] below meth c H locs 0 0 (MQ below (va_Qv (fun u : Int32 × (Nat → Int32) => match u with | (fe2, gt2) => (fe2.toInt = h_fed.toInt + 4) ∧ (zb gt2) ∧ (fd_4 gt gt2 (Int32.toNatClampNeg h_fed) 4 by_)) (fun u => match u with | (fe2, gt2) => zQ dC dI A [(hk, .byte)] [(h0, .inr (11, [.ref h_tape, .int fe2, .ref h_taken, .ref h_parser, .ref h_machine, .ref h_countedCells, .ref h_plainCells, .ref h_printer, .int h_faultNumber, .int h_stopPlace, .int h_wasRun, .int h_runSteps, .int h_runCalls, .int h_hasValue, .long h_value, .int h_hasOther, .long h_otherValue])), (h_tape, .inl (hk, 2000, .inl gt2))]) A) #[.ref h0, .int by_] s 0 0 A) (F0 m 3 ls []) := by
    intro n9
    induction n9 with
    | zero => intro sh lf lg H locs ls hm hsh0 hsh1 hlf hzl hl4; exfalso; omega
    | succ n9 ih =>
      intro sh lf lg H locs ls hm hsh0 hsh1 hlf hzl hl4 hP hD hS hl
      refine lv_iload_n hx hb dX11_putFour_3 rfl (lv_at hl 0 rfl) ?_
      refine lv_if_lt (tgt := 46) hx hb dX11_putFour_4 (by decide) (fun c_1 => ?_) (fun c_1 => ?_)
      · have ic_1 : sh.toInt < 0 := zi_lt c_1
        have hP9 := hP.sub (ws' := [(h0, .inr (11, [.ref h_tape, .int lf, .ref h_taken, .ref h_parser, .ref h_machine, .ref h_countedCells, .ref h_plainCells, .ref h_printer, .int h_faultNumber, .int h_stopPlace, .int h_wasRun, .int h_runSteps, .int h_runCalls, .int h_hasValue, .long h_value, .int h_hasOther, .long h_otherValue])), (h_tape, .inl (hk, 2000, .inl lg))]) [0, 1] rfl
        have hD9 := hD.sub (ws' := [(h0, .inr (11, [.ref h_tape, .int lf, .ref h_taken, .ref h_parser, .ref h_machine, .ref h_countedCells, .ref h_plainCells, .ref h_printer, .int h_faultNumber, .int h_stopPlace, .int h_wasRun, .int h_runSteps, .int h_runCalls, .int h_hasValue, .long h_value, .int h_hasOther, .long h_otherValue])), (h_tape, .inl (hk, 2000, .inl lg))]) [0, 1] (by decide) rfl
        have hK9 := hK.sub (tys' := [(hk, .byte)]) [0] rfl
        exact W.vret hx hb hr (fun t ht hW => ⟨⟨(lf, lg), rfl, ⟨by omega, hzl, (by have h1 := zn_nat (x := h_fed) (by omega); have h2 := zn_nat (x := lf) (by omega); have h3 := hl4; rw [show Int32.toNatClampNeg lf - Int32.toNatClampNeg h_fed = 4 by omega] at h3; exact h3)⟩, by rw [ht]; exact hP9, va_K.moved hW.alike hK9, hD9⟩, hS.F ht⟩) hS.2.2 dX11_putFour_46
      · have ic_1 : 0 ≤ sh.toInt := zi_nlt c_1
        refine lv_aload_n hx hb dX11_putFour_7 rfl (lv_at hl 1 rfl) ?_
        refine va_get (D := (dC, dI)) (ci := 11) (v := .int lf) (C := RX11) (T := TX11) (N := 17) hx hb hA zin_X11 hown hK hP 0 rfl rfl 1 (by decide) (hA _ wi_585) (fun _ h9 => h9) rfl dX11_putFour_8 ?_
        refine lv_sipush (v := 2000) hx hb dX11_putFour_11 (by decide) ?_
        refine lv_icmp_ge (tgt := 46) hx hb dX11_putFour_14 (by decide) (fun c_2 => ?_) (fun c_2 => ?_)
        · have ic_2 : 2000 ≤ lf.toInt := zi_le c_2
          exfalso
          omega
        · have ic_2 : lf.toInt < 2000 := zi_nle c_2
          refine lv_aload_n hx hb dX11_putFour_17 rfl (lv_at hl 1 rfl) ?_
          refine va_get (D := (dC, dI)) (ci := 11) (v := .ref h_tape) (C := RX11) (T := TX11) (N := 17) hx hb hA zin_X11 hown hK hP 0 rfl rfl 0 (by decide) (hA _ wi_584) (fun _ h9 => h9) rfl dX11_putFour_18 ?_
          refine lv_aload_n hx hb dX11_putFour_21 rfl (lv_at hl 1 rfl) ?_
          refine va_get (D := (dC, dI)) (ci := 11) (v := .int lf) (C := RX11) (T := TX11) (N := 17) hx hb hA zin_X11 hown hK hP 0 rfl rfl 1 (by decide) (hA _ wi_585) (fun _ h9 => h9) rfl dX11_putFour_22 ?_
          refine lv_iload_n hx hb dX11_putFour_25 rfl (lv_at hl 2 rfl) ?_
          refine lv_iload_n hx hb dX11_putFour_26 rfl (lv_at hl 0 rfl) ?_
          obtain ⟨x_3, ex_3⟩ : ∃ z : Int32, z = (Int32.toUInt32 by_ >>> (Int32.toUInt32 sh &&& Int32.toUInt32 31)).toInt32 := ⟨_, rfl⟩
          refine lv_iushr (v := x_3) hx hb dX11_putFour_27 ex_3.symm ?_
          obtain ⟨x_4, ex_4⟩ : ∃ z : Int32, z = (Int32.toInt8 x_3).toInt32 := ⟨_, rfl⟩
          refine lv_i2b (v := x_4) hx hb dX11_putFour_28 ex_4.symm ?_
          refine va_bast hx hb hK hP hD hS 1 0 rfl rfl (vp_in_iff.mpr ⟨by omega, by omega⟩) dX11_putFour_29 (fun H locs hP hD hS => ?_)
          obtain ⟨f_5, ef_5⟩ : ∃ gz9 : Nat → Int32, gz9 = upd lg (Int32.toNatClampNeg lf) (vp_nar .byte x_4) := ⟨_, rfl⟩
          rw [← ef_5] at hP hD
          have hP : va_P (dC, dI) vwCl [(h0, .inr (11, [.ref h_tape, .int lf, .ref h_taken, .ref h_parser, .ref h_machine, .ref h_countedCells, .ref h_plainCells, .ref h_printer, .int h_faultNumber, .int h_stopPlace, .int h_wasRun, .int h_runSteps, .int h_runCalls, .int h_hasValue, .long h_value, .int h_hasOther, .long h_otherValue])), (h_tape, .inl (hk, 2000, .inl f_5))] H := hP
          have hD : va_D A [(h0, .inr (11, [.ref h_tape, .int lf, .ref h_taken, .ref h_parser, .ref h_machine, .ref h_countedCells, .ref h_plainCells, .ref h_printer, .int h_faultNumber, .int h_stopPlace, .int h_wasRun, .int h_runSteps, .int h_runCalls, .int h_hasValue, .long h_value, .int h_hasOther, .long h_otherValue])), (h_tape, .inl (hk, 2000, .inl f_5))] := hD
          have hzb_6 : zb f_5 := zb_upd hzl ef_5
          refine lv_aload_n hx hb dX11_putFour_30 rfl (lv_at hl 1 rfl) ?_
          refine lv_dup hx hb dX11_putFour_31 rfl ?_
          refine va_get (D := (dC, dI)) (ci := 11) (v := .int lf) (C := RX11) (T := TX11) (N := 17) hx hb hA zin_X11 hown hK hP 0 rfl rfl 1 (by decide) (hA _ wi_585) (fun _ h9 => h9) rfl dX11_putFour_32 ?_
          refine lv_iconst (v := 1) hx hb dX11_putFour_35 (by decide) ?_
          refine lv_iadd hx hb dX11_putFour_36 ?_
          refine lv_topi (fun x_7 ex_7 => ?_)
          have ix_7 : x_7.toInt = lf.toInt + 1 := by rw [ex_7]; exact zi_addc (by decide) (by omega) (by omega)
          refine va_put (D := (dC, dI)) (ci := 11) (v := .int x_7) (ty := .int) (C := RX11) (T := TX11) (N := 17) hx hb hA zin_X11 tyX11 tyX11_ok nmX11 hown hK hP hD hS 0 rfl rfl 1 (by decide) (hA _ wi_585) (fun _ h9 => h9) rfl (by decide +kernel) rfl rfl (Nat.le_of_ble_eq_true rfl) dX11_putFour_37 (fun H locs hP hD hS => ?_)
          have hP : va_P (dC, dI) vwCl [(h0, .inr (11, [.ref h_tape, .int x_7, .ref h_taken, .ref h_parser, .ref h_machine, .ref h_countedCells, .ref h_plainCells, .ref h_printer, .int h_faultNumber, .int h_stopPlace, .int h_wasRun, .int h_runSteps, .int h_runCalls, .int h_hasValue, .long h_value, .int h_hasOther, .long h_otherValue])), (h_tape, .inl (hk, 2000, .inl f_5))] H := hP
          have hD : va_D A [(h0, .inr (11, [.ref h_tape, .int x_7, .ref h_taken, .ref h_parser, .ref h_machine, .ref h_countedCells, .ref h_plainCells, .ref h_printer, .int h_faultNumber, .int h_stopPlace, .int h_wasRun, .int h_runSteps, .int h_runCalls, .int h_hasValue, .long h_value, .int h_hasOther, .long h_otherValue])), (h_tape, .inl (hk, 2000, .inl f_5))] := hD
          obtain ⟨x_8, ex_8⟩ : ∃ y : Int32, y = sh + Int32.ofInt (-8) := ⟨_, rfl⟩
          refine lv_iinc (v := x_8) (lv' := [(2, .int x_8), (0, .ref h0), (1, .int by_)]) hx hb dX11_putFour_40 hl (k := 0) rfl (by rw [ex_8]) (by decide) rfl (fun ls hl => ?_)
          have ix_8 : x_8.toInt = sh.toInt + (-8) := by rw [ex_8]; exact zi_addc (by decide) (by omega) (by omega)
          refine lv_goto (tgt := 3) hx hb dX11_putFour_43 (by decide) ?_
          have hl4_9 : fd_4 gt f_5 (Int32.toNatClampNeg h_fed) (Int32.toNatClampNeg x_7 - Int32.toNatClampNeg h_fed) by_ := (by have h1 := zn_nat (x := h_fed) (by omega); have h2 := zn_nat (x := lf) (by omega); have h3 := zn_nat (x := x_7) (by omega); exact fd_4_s (sh := sh) hl4 ef_5 (by omega) (by rw [ex_4, ex_3]) (by omega) (by omega))
          exact ih x_8 x_7 f_5 _ _ _ (by omega) (by omega) (by omega) (by omega) hzb_6 hl4_9 (hP.sub [0, 1] rfl) (hD.sub [0, 1] (by decide) rfl) hS (lv_sub hl [0, 1, 2] rfl)
  have hl4_10 : fd_4 gt gt (Int32.toNatClampNeg h_fed) (Int32.toNatClampNeg h_fed - Int32.toNatClampNeg h_fed) by_ := fd_4_0 (by omega)
  exact loop_3 _ 24 h_fed gt _ _ _ (Nat.le_refl _) (by have h9_0 : Int32.toInt 24 = 24 := (by decide); omega) (by have h9_0 : Int32.toInt 24 = 24 := (by decide); omega) (by have h9_0 : Int32.toInt 24 = 24 := (by decide); omega) hzb hl4_10 (hP.sub [0, 1] rfl) (hD.sub [0, 1] (by decide) rfl) hS (lv_sub hl [0, 1, 2] rfl)
set_option maxHeartbeats 4000000 in
set_option maxRecDepth 100000 in
theorem c_X11_feed_x (l : Launch) (dC : Nat → ClassId) (dI : Nat → Nat → Nat) (aK aV : Nat → Nat) (h0 : Nat) (h_tape : Nat) (h_fed : Int32) (h_taken : Nat) (h_parser : Nat) (h_machine : Nat) (h_countedCells : Nat) (h_plainCells : Nat) (h_printer : Nat) (h_faultNumber : Int32) (h_stopPlace : Int32) (h_wasRun : Int32) (h_runSteps : Int32) (h_runCalls : Int32) (h_hasValue : Int32) (h_value : Int64) (h_hasOther : Int32) (h_otherValue : Int64) (hk : ClassId) (gt : Nat → Int32) (a1 : Int32) (a2 : Int32) (a3 : Int32) (a4 : Int32) (a5 : Int32) (sz : Nat) (hfe0 : 0 ≤ h_fed.toInt) (hfe1 : h_fed.toInt ≤ 2000) (hzb : zb gt) : Met l yX11_feed (Cond.code yX11_feed cX11_feed 6 (some .int) :: zw) ({ frames := 10, cells := 0, slots := 0, locals := 300 }) (va_Pc [.ref h0, .int a1, .int a2, .int a3, .int a4, .int a5] (zP dC dI aK aV sz [(hk, .byte)] [(h0, .inr (11, [.ref h_tape, .int h_fed, .ref h_taken, .ref h_parser, .ref h_machine, .ref h_countedCells, .ref h_plainCells, .ref h_printer, .int h_faultNumber, .int h_stopPlace, .int h_wasRun, .int h_runSteps, .int h_runCalls, .int h_hasValue, .long h_value, .int h_hasOther, .long h_otherValue])), (h_tape, .inl (hk, 2000, .inl gt))])) (va_Qi (fun (r : Int32) (u : Int32 × (Nat → Int32)) => match u with | (fe2, gt2) => (h_fed.toInt + 20 ≤ 2000 ∧ fe2.toInt = h_fed.toInt + 20 ∧ r.toInt = fe2.toInt ∨ 2000 < h_fed.toInt + 20 ∧ fe2.toInt = h_fed.toInt ∧ r.toInt = -1) ∧ (zb gt2) ∧ (fd_r r gt gt2 (Int32.toNatClampNeg h_fed) a1 a2 a3 a4 a5)) (fun u => match u with | (fe2, gt2) => zQ dC dI (va_A [(h0, .inr (11, [.ref h_tape, .int h_fed, .ref h_taken, .ref h_parser, .ref h_machine, .ref h_countedCells, .ref h_plainCells, .ref h_printer, .int h_faultNumber, .int h_stopPlace, .int h_wasRun, .int h_runSteps, .int h_runCalls, .int h_hasValue, .long h_value, .int h_hasOther, .long h_otherValue])), (h_tape, .inl (hk, 2000, .inl gt))] sz) [(hk, .byte)] [(h0, .inr (11, [.ref h_tape, .int fe2, .ref h_taken, .ref h_parser, .ref h_machine, .ref h_countedCells, .ref h_plainCells, .ref h_printer, .int h_faultNumber, .int h_stopPlace, .int h_wasRun, .int h_runSteps, .int h_runCalls, .int h_hasValue, .long h_value, .int h_hasOther, .long h_otherValue])), (h_tape, .inl (hk, 2000, .inl gt2))]) (va_A [(h0, .inr (11, [.ref h_tape, .int h_fed, .ref h_taken, .ref h_parser, .ref h_machine, .ref h_countedCells, .ref h_plainCells, .ref h_printer, .int h_faultNumber, .int h_stopPlace, .int h_wasRun, .int h_runSteps, .int h_runCalls, .int h_hasValue, .long h_value, .int h_hasOther, .long h_otherValue])), (h_tape, .inl (hk, 2000, .inl gt))] sz)) 0 0 (va_A [(h0, .inr (11, [.ref h_tape, .int h_fed, .ref h_taken, .ref h_parser, .ref h_machine, .ref h_countedCells, .ref h_plainCells, .ref h_printer, .int h_faultNumber, .int h_stopPlace, .int h_wasRun, .int h_runSteps, .int h_runCalls, .int h_hasValue, .long h_value, .int h_hasOther, .long h_otherValue])), (h_tape, .inl (hk, 2000, .inl gt))] sz) := by
  refine Met.ofW (cc := cX11_feed) (maxL := 6) (ret := (some .int)) (by decide) rfl ?_
  intro p e s m args below meth c s₁ B hml hv
  obtain ⟨rfl, hsz, hP, hK, hD0, hN, hT⟩ := hv
  have hx := B.exec
  have hb := B.bytes
  have hr := B.returns
  have hts := atoms_spec (ws := Cond.code yX11_feed cX11_feed 6 (some .int) :: zw) B.pre
  have hA : ∀ w ∈ zw, w.before _ s = true := fun w h => hts w (List.mem_cons_of_mem _ h)
  have hown : s.vm.findClass RX11 = some m.cls := findClass_of_methodNamed B.named
  have hlocks := B.notSynchronized
  subst hsz
  have hD := hD0.self (sz := s.heap.size)
  generalize hAe : va_A [(h0, .inr (11, [.ref h_tape, .int h_fed, .ref h_taken, .ref h_parser, .ref h_machine, .ref h_countedCells, .ref h_plainCells, .ref h_printer, .int h_faultNumber, .int h_stopPlace, .int h_wasRun, .int h_runSteps, .int h_runCalls, .int h_hasValue, .long h_value, .int h_hasOther, .long h_otherValue])), (h_tape, .inl (hk, 2000, .inl gt))] s.heap.size = A at hD hT ⊢
  have hAA : ∀ q : Nat, s.heap.size ≤ q → A q := fun q h => by rw [← hAe]; exact Or.inr h
  have hS : va_S A s.heap s.heap [] := va_S.rf
  have hl := lv_entry ([.ref h0, .int a1, .int a2, .int a3, .int a4, .int a5]) (n := 6) (Nat.le_of_ble_eq_true rfl)
  rw [lg_entry_eq]
  generalize (lg_sl ([.ref h0, .int a1, .int a2, .int a3, .int a4, .int a5]) ++ List.replicate (6 - (lg_sl ([.ref h0, .int a1, .int a2, .int a3, .int a4, .int a5])).length) Slot.unset).toArray = ls at hl ⊢
  have hl : lv_has ls 6 [(0, .ref h0), (1, .int a1), (2, .int a2), (3, .int a3), (4, .int a4), (5, .int a5)] := hl
  refine lv_aload_n hx hb dX11_feed_0 rfl (lv_at hl 0 rfl) ?_
  refine va_get (D := (dC, dI)) (ci := 11) (v := .int h_fed) (C := RX11) (T := TX11) (N := 17) hx hb hA zin_X11 hown hK hP 0 rfl rfl 1 (by decide) (hA _ wi_585) (fun _ h9 => h9) rfl dX11_feed_1 ?_
  refine lv_bipush (v := 20) hx hb dX11_feed_4 (by decide) ?_
  refine lv_iadd hx hb dX11_feed_6 ?_
  refine lv_topi (fun x_1 ex_1 => ?_)
  have ix_1 : x_1.toInt = h_fed.toInt + 20 := by rw [ex_1]; exact zi_addc (by decide) (by omega) (by omega)
  refine lv_sipush (v := 2000) hx hb dX11_feed_7 (by decide) ?_
  refine lv_icmp_le (tgt := 15) hx hb dX11_feed_10 (by decide) (fun c_2 => ?_) (fun c_2 => ?_)
  · have ic_2 : x_1.toInt ≤ 2000 := zi_le c_2
    refine lv_aload_n hx hb dX11_feed_15 rfl (lv_at hl 0 rfl) ?_
    refine lv_iload_n hx hb dX11_feed_16 rfl (lv_at hl 1 rfl) ?_
    have hPc := hP.sub (ws' := [(h0, .inr (11, [.ref h_tape, .int h_fed, .ref h_taken, .ref h_parser, .ref h_machine, .ref h_countedCells, .ref h_plainCells, .ref h_printer, .int h_faultNumber, .int h_stopPlace, .int h_wasRun, .int h_runSteps, .int h_runCalls, .int h_hasValue, .long h_value, .int h_hasOther, .long h_otherValue])), (h_tape, .inl (hk, 2000, .inl gt))]) [0, 1] rfl
    have hDc := hD.sub (ws' := [(h0, .inr (11, [.ref h_tape, .int h_fed, .ref h_taken, .ref h_parser, .ref h_machine, .ref h_countedCells, .ref h_plainCells, .ref h_printer, .int h_faultNumber, .int h_stopPlace, .int h_wasRun, .int h_runSteps, .int h_runCalls, .int h_hasValue, .long h_value, .int h_hasOther, .long h_otherValue])), (h_tape, .inl (hk, 2000, .inl gt))]) [0, 1] (by decide) rfl
    have hKc := hK.sub (tys' := [(hk, .byte)]) [0] rfl
    have hFc := va_free (wc := [(h0, .inr (11, [.ref h_tape, .int h_fed, .ref h_taken, .ref h_parser, .ref h_machine, .ref h_countedCells, .ref h_plainCells, .ref h_printer, .int h_faultNumber, .int h_stopPlace, .int h_wasRun, .int h_runSteps, .int h_runCalls, .int h_hasValue, .long h_value, .int h_hasOther, .long h_otherValue])), (h_tape, .inl (hk, 2000, .inl gt))]) hD hS hAA [0, 1] rfl
    refine va_callv (va_runV (As := [.int a1]) (rest := []) ⟨hx, hb, hml, hown, hA⟩ (c_X11_putFour_x l dC dI aK aV h0 h_tape h_fed h_taken h_parser h_machine h_countedCells h_plainCells h_printer h_faultNumber h_stopPlace h_wasRun h_runSteps h_runCalls h_hasValue h_value h_hasOther h_otherValue hk gt a1 s.heap.size (by omega) (by omega) (by omega) hzb) (cwV 1 hA (zw_V wi_640 wi_642 wi_0 wi_130 (zw_good wi_643)) rfl rfl rfl (by decide +kernel) ⟨(Nat.le_of_ble_eq_true rfl), (Nat.le_of_ble_eq_true rfl)⟩) ⟨zP_blind, va_recv hKc hPc (ci := 11) (q0 := 0) rfl rfl, zz_pre hKc hPc hDc hN hT hS hFc⟩ rfl rfl hl.1 rfl (lv_room (Nat.le_of_ble_eq_true rfl)) dX11_feed_17 ⟨(Nat.le_of_ble_eq_true rfl), (Nat.le_of_ble_eq_true rfl)⟩) hS (fun q _ h => hFc q h) hFc (fun u t H1 locs ht hvm hw hB hz1 hk1 hS => ?_)
    obtain ⟨fe_4, gt_5⟩ := u
    obtain ⟨hP1, hK1, hD1⟩ := hB
    rw [ht] at hP1
    have hK1 := va_K.moved hvm.symm hK1
    obtain ⟨hP, hD⟩ := va_join (wr := []) (w1 := [(h0, .inr (11, [.ref h_tape, .int fe_4, .ref h_taken, .ref h_parser, .ref h_machine, .ref h_countedCells, .ref h_plainCells, .ref h_printer, .int h_faultNumber, .int h_stopPlace, .int h_wasRun, .int h_runSteps, .int h_runCalls, .int h_hasValue, .long h_value, .int h_hasOther, .long h_otherValue])), (h_tape, .inl (hk, 2000, .inl gt_5))]) hP hD [0, 1] [] rfl rfl (by decide) (by decide) hk1 hFc hP1 hD1
    have hK := (hK.sub (tys' := []) [] rfl).app hK1
    generalize H1 = H at hP hS ⊢
    have hP : va_P (dC, dI) vwCl [(h0, .inr (11, [.ref h_tape, .int fe_4, .ref h_taken, .ref h_parser, .ref h_machine, .ref h_countedCells, .ref h_plainCells, .ref h_printer, .int h_faultNumber, .int h_stopPlace, .int h_wasRun, .int h_runSteps, .int h_runCalls, .int h_hasValue, .long h_value, .int h_hasOther, .long h_otherValue])), (h_tape, .inl (hk, 2000, .inl gt_5))] H := hP
    have hD : va_D A [(h0, .inr (11, [.ref h_tape, .int fe_4, .ref h_taken, .ref h_parser, .ref h_machine, .ref h_countedCells, .ref h_plainCells, .ref h_printer, .int h_faultNumber, .int h_stopPlace, .int h_wasRun, .int h_runSteps, .int h_runCalls, .int h_hasValue, .long h_value, .int h_hasOther, .long h_otherValue])), (h_tape, .inl (hk, 2000, .inl gt_5))] := hD
    have hK : va_K (dC, dI) vwCl [(hk, .byte)] s := hK
    obtain ⟨hq_6, hq_7, hq_8⟩ := hw
    refine lv_aload_n hx hb dX11_feed_20 rfl (lv_at hl 0 rfl) ?_
    refine lv_iload_n hx hb dX11_feed_21 rfl (lv_at hl 2 rfl) ?_
    have hPc := hP.sub (ws' := [(h0, .inr (11, [.ref h_tape, .int fe_4, .ref h_taken, .ref h_parser, .ref h_machine, .ref h_countedCells, .ref h_plainCells, .ref h_printer, .int h_faultNumber, .int h_stopPlace, .int h_wasRun, .int h_runSteps, .int h_runCalls, .int h_hasValue, .long h_value, .int h_hasOther, .long h_otherValue])), (h_tape, .inl (hk, 2000, .inl gt_5))]) [0, 1] rfl
    have hDc := hD.sub (ws' := [(h0, .inr (11, [.ref h_tape, .int fe_4, .ref h_taken, .ref h_parser, .ref h_machine, .ref h_countedCells, .ref h_plainCells, .ref h_printer, .int h_faultNumber, .int h_stopPlace, .int h_wasRun, .int h_runSteps, .int h_runCalls, .int h_hasValue, .long h_value, .int h_hasOther, .long h_otherValue])), (h_tape, .inl (hk, 2000, .inl gt_5))]) [0, 1] (by decide) rfl
    have hKc := hK.sub (tys' := [(hk, .byte)]) [0] rfl
    have hFc := va_free (wc := [(h0, .inr (11, [.ref h_tape, .int fe_4, .ref h_taken, .ref h_parser, .ref h_machine, .ref h_countedCells, .ref h_plainCells, .ref h_printer, .int h_faultNumber, .int h_stopPlace, .int h_wasRun, .int h_runSteps, .int h_runCalls, .int h_hasValue, .long h_value, .int h_hasOther, .long h_otherValue])), (h_tape, .inl (hk, 2000, .inl gt_5))]) hD hS hAA [0, 1] rfl
    refine va_callv (va_runV (As := [.int a2]) (rest := []) ⟨hx, hb, hml, hown, hA⟩ (c_X11_putFour_x l dC dI aK aV h0 h_tape fe_4 h_taken h_parser h_machine h_countedCells h_plainCells h_printer h_faultNumber h_stopPlace h_wasRun h_runSteps h_runCalls h_hasValue h_value h_hasOther h_otherValue hk gt_5 a2 H.size (by omega) (by omega) (by omega) hq_7) (cwV 1 hA (zw_V wi_640 wi_642 wi_0 wi_130 (zw_good wi_643)) rfl rfl rfl (by decide +kernel) ⟨(Nat.le_of_ble_eq_true rfl), (Nat.le_of_ble_eq_true rfl)⟩) ⟨zP_blind, va_recv hKc hPc (ci := 11) (q0 := 0) rfl rfl, zz_pre hKc hPc hDc hN hT hS hFc⟩ rfl rfl hl.1 rfl (lv_room (Nat.le_of_ble_eq_true rfl)) dX11_feed_22 ⟨(Nat.le_of_ble_eq_true rfl), (Nat.le_of_ble_eq_true rfl)⟩) hS (fun q _ h => hFc q h) hFc (fun u t H1 locs ht hvm hw hB hz1 hk1 hS => ?_)
    obtain ⟨fe_10, gt_11⟩ := u
    obtain ⟨hP1, hK1, hD1⟩ := hB
    rw [ht] at hP1
    have hK1 := va_K.moved hvm.symm hK1
    obtain ⟨hP, hD⟩ := va_join (wr := []) (w1 := [(h0, .inr (11, [.ref h_tape, .int fe_10, .ref h_taken, .ref h_parser, .ref h_machine, .ref h_countedCells, .ref h_plainCells, .ref h_printer, .int h_faultNumber, .int h_stopPlace, .int h_wasRun, .int h_runSteps, .int h_runCalls, .int h_hasValue, .long h_value, .int h_hasOther, .long h_otherValue])), (h_tape, .inl (hk, 2000, .inl gt_11))]) hP hD [0, 1] [] rfl rfl (by decide) (by decide) hk1 hFc hP1 hD1
    have hK := (hK.sub (tys' := []) [] rfl).app hK1
    generalize H1 = H at hP hS ⊢
    have hP : va_P (dC, dI) vwCl [(h0, .inr (11, [.ref h_tape, .int fe_10, .ref h_taken, .ref h_parser, .ref h_machine, .ref h_countedCells, .ref h_plainCells, .ref h_printer, .int h_faultNumber, .int h_stopPlace, .int h_wasRun, .int h_runSteps, .int h_runCalls, .int h_hasValue, .long h_value, .int h_hasOther, .long h_otherValue])), (h_tape, .inl (hk, 2000, .inl gt_11))] H := hP
    have hD : va_D A [(h0, .inr (11, [.ref h_tape, .int fe_10, .ref h_taken, .ref h_parser, .ref h_machine, .ref h_countedCells, .ref h_plainCells, .ref h_printer, .int h_faultNumber, .int h_stopPlace, .int h_wasRun, .int h_runSteps, .int h_runCalls, .int h_hasValue, .long h_value, .int h_hasOther, .long h_otherValue])), (h_tape, .inl (hk, 2000, .inl gt_11))] := hD
    have hK : va_K (dC, dI) vwCl [(hk, .byte)] s := hK
    obtain ⟨hq_12, hq_13, hq_14⟩ := hw
    refine lv_aload_n hx hb dX11_feed_25 rfl (lv_at hl 0 rfl) ?_
    refine lv_iload_n hx hb dX11_feed_26 rfl (lv_at hl 3 rfl) ?_
    have hPc := hP.sub (ws' := [(h0, .inr (11, [.ref h_tape, .int fe_10, .ref h_taken, .ref h_parser, .ref h_machine, .ref h_countedCells, .ref h_plainCells, .ref h_printer, .int h_faultNumber, .int h_stopPlace, .int h_wasRun, .int h_runSteps, .int h_runCalls, .int h_hasValue, .long h_value, .int h_hasOther, .long h_otherValue])), (h_tape, .inl (hk, 2000, .inl gt_11))]) [0, 1] rfl
    have hDc := hD.sub (ws' := [(h0, .inr (11, [.ref h_tape, .int fe_10, .ref h_taken, .ref h_parser, .ref h_machine, .ref h_countedCells, .ref h_plainCells, .ref h_printer, .int h_faultNumber, .int h_stopPlace, .int h_wasRun, .int h_runSteps, .int h_runCalls, .int h_hasValue, .long h_value, .int h_hasOther, .long h_otherValue])), (h_tape, .inl (hk, 2000, .inl gt_11))]) [0, 1] (by decide) rfl
    have hKc := hK.sub (tys' := [(hk, .byte)]) [0] rfl
    have hFc := va_free (wc := [(h0, .inr (11, [.ref h_tape, .int fe_10, .ref h_taken, .ref h_parser, .ref h_machine, .ref h_countedCells, .ref h_plainCells, .ref h_printer, .int h_faultNumber, .int h_stopPlace, .int h_wasRun, .int h_runSteps, .int h_runCalls, .int h_hasValue, .long h_value, .int h_hasOther, .long h_otherValue])), (h_tape, .inl (hk, 2000, .inl gt_11))]) hD hS hAA [0, 1] rfl
    refine va_callv (va_runV (As := [.int a3]) (rest := []) ⟨hx, hb, hml, hown, hA⟩ (c_X11_putFour_x l dC dI aK aV h0 h_tape fe_10 h_taken h_parser h_machine h_countedCells h_plainCells h_printer h_faultNumber h_stopPlace h_wasRun h_runSteps h_runCalls h_hasValue h_value h_hasOther h_otherValue hk gt_11 a3 H.size (by omega) (by omega) (by omega) hq_13) (cwV 1 hA (zw_V wi_640 wi_642 wi_0 wi_130 (zw_good wi_643)) rfl rfl rfl (by decide +kernel) ⟨(Nat.le_of_ble_eq_true rfl), (Nat.le_of_ble_eq_true rfl)⟩) ⟨zP_blind, va_recv hKc hPc (ci := 11) (q0 := 0) rfl rfl, zz_pre hKc hPc hDc hN hT hS hFc⟩ rfl rfl hl.1 rfl (lv_room (Nat.le_of_ble_eq_true rfl)) dX11_feed_27 ⟨(Nat.le_of_ble_eq_true rfl), (Nat.le_of_ble_eq_true rfl)⟩) hS (fun q _ h => hFc q h) hFc (fun u t H1 locs ht hvm hw hB hz1 hk1 hS => ?_)
    obtain ⟨fe_16, gt_17⟩ := u
    obtain ⟨hP1, hK1, hD1⟩ := hB
    rw [ht] at hP1
    have hK1 := va_K.moved hvm.symm hK1
    obtain ⟨hP, hD⟩ := va_join (wr := []) (w1 := [(h0, .inr (11, [.ref h_tape, .int fe_16, .ref h_taken, .ref h_parser, .ref h_machine, .ref h_countedCells, .ref h_plainCells, .ref h_printer, .int h_faultNumber, .int h_stopPlace, .int h_wasRun, .int h_runSteps, .int h_runCalls, .int h_hasValue, .long h_value, .int h_hasOther, .long h_otherValue])), (h_tape, .inl (hk, 2000, .inl gt_17))]) hP hD [0, 1] [] rfl rfl (by decide) (by decide) hk1 hFc hP1 hD1
    have hK := (hK.sub (tys' := []) [] rfl).app hK1
    generalize H1 = H at hP hS ⊢
    have hP : va_P (dC, dI) vwCl [(h0, .inr (11, [.ref h_tape, .int fe_16, .ref h_taken, .ref h_parser, .ref h_machine, .ref h_countedCells, .ref h_plainCells, .ref h_printer, .int h_faultNumber, .int h_stopPlace, .int h_wasRun, .int h_runSteps, .int h_runCalls, .int h_hasValue, .long h_value, .int h_hasOther, .long h_otherValue])), (h_tape, .inl (hk, 2000, .inl gt_17))] H := hP
    have hD : va_D A [(h0, .inr (11, [.ref h_tape, .int fe_16, .ref h_taken, .ref h_parser, .ref h_machine, .ref h_countedCells, .ref h_plainCells, .ref h_printer, .int h_faultNumber, .int h_stopPlace, .int h_wasRun, .int h_runSteps, .int h_runCalls, .int h_hasValue, .long h_value, .int h_hasOther, .long h_otherValue])), (h_tape, .inl (hk, 2000, .inl gt_17))] := hD
    have hK : va_K (dC, dI) vwCl [(hk, .byte)] s := hK
    obtain ⟨hq_18, hq_19, hq_20⟩ := hw
    refine lv_aload_n hx hb dX11_feed_30 rfl (lv_at hl 0 rfl) ?_
    refine lv_iload hx hb dX11_feed_31 (lv_at hl 4 rfl) ?_
    have hPc := hP.sub (ws' := [(h0, .inr (11, [.ref h_tape, .int fe_16, .ref h_taken, .ref h_parser, .ref h_machine, .ref h_countedCells, .ref h_plainCells, .ref h_printer, .int h_faultNumber, .int h_stopPlace, .int h_wasRun, .int h_runSteps, .int h_runCalls, .int h_hasValue, .long h_value, .int h_hasOther, .long h_otherValue])), (h_tape, .inl (hk, 2000, .inl gt_17))]) [0, 1] rfl
    have hDc := hD.sub (ws' := [(h0, .inr (11, [.ref h_tape, .int fe_16, .ref h_taken, .ref h_parser, .ref h_machine, .ref h_countedCells, .ref h_plainCells, .ref h_printer, .int h_faultNumber, .int h_stopPlace, .int h_wasRun, .int h_runSteps, .int h_runCalls, .int h_hasValue, .long h_value, .int h_hasOther, .long h_otherValue])), (h_tape, .inl (hk, 2000, .inl gt_17))]) [0, 1] (by decide) rfl
    have hKc := hK.sub (tys' := [(hk, .byte)]) [0] rfl
    have hFc := va_free (wc := [(h0, .inr (11, [.ref h_tape, .int fe_16, .ref h_taken, .ref h_parser, .ref h_machine, .ref h_countedCells, .ref h_plainCells, .ref h_printer, .int h_faultNumber, .int h_stopPlace, .int h_wasRun, .int h_runSteps, .int h_runCalls, .int h_hasValue, .long h_value, .int h_hasOther, .long h_otherValue])), (h_tape, .inl (hk, 2000, .inl gt_17))]) hD hS hAA [0, 1] rfl
    refine va_callv (va_runV (As := [.int a4]) (rest := []) ⟨hx, hb, hml, hown, hA⟩ (c_X11_putFour_x l dC dI aK aV h0 h_tape fe_16 h_taken h_parser h_machine h_countedCells h_plainCells h_printer h_faultNumber h_stopPlace h_wasRun h_runSteps h_runCalls h_hasValue h_value h_hasOther h_otherValue hk gt_17 a4 H.size (by omega) (by omega) (by omega) hq_19) (cwV 1 hA (zw_V wi_640 wi_642 wi_0 wi_130 (zw_good wi_643)) rfl rfl rfl (by decide +kernel) ⟨(Nat.le_of_ble_eq_true rfl), (Nat.le_of_ble_eq_true rfl)⟩) ⟨zP_blind, va_recv hKc hPc (ci := 11) (q0 := 0) rfl rfl, zz_pre hKc hPc hDc hN hT hS hFc⟩ rfl rfl hl.1 rfl (lv_room (Nat.le_of_ble_eq_true rfl)) dX11_feed_33 ⟨(Nat.le_of_ble_eq_true rfl), (Nat.le_of_ble_eq_true rfl)⟩) hS (fun q _ h => hFc q h) hFc (fun u t H1 locs ht hvm hw hB hz1 hk1 hS => ?_)
    obtain ⟨fe_22, gt_23⟩ := u
    obtain ⟨hP1, hK1, hD1⟩ := hB
    rw [ht] at hP1
    have hK1 := va_K.moved hvm.symm hK1
    obtain ⟨hP, hD⟩ := va_join (wr := []) (w1 := [(h0, .inr (11, [.ref h_tape, .int fe_22, .ref h_taken, .ref h_parser, .ref h_machine, .ref h_countedCells, .ref h_plainCells, .ref h_printer, .int h_faultNumber, .int h_stopPlace, .int h_wasRun, .int h_runSteps, .int h_runCalls, .int h_hasValue, .long h_value, .int h_hasOther, .long h_otherValue])), (h_tape, .inl (hk, 2000, .inl gt_23))]) hP hD [0, 1] [] rfl rfl (by decide) (by decide) hk1 hFc hP1 hD1
    have hK := (hK.sub (tys' := []) [] rfl).app hK1
    generalize H1 = H at hP hS ⊢
    have hP : va_P (dC, dI) vwCl [(h0, .inr (11, [.ref h_tape, .int fe_22, .ref h_taken, .ref h_parser, .ref h_machine, .ref h_countedCells, .ref h_plainCells, .ref h_printer, .int h_faultNumber, .int h_stopPlace, .int h_wasRun, .int h_runSteps, .int h_runCalls, .int h_hasValue, .long h_value, .int h_hasOther, .long h_otherValue])), (h_tape, .inl (hk, 2000, .inl gt_23))] H := hP
    have hD : va_D A [(h0, .inr (11, [.ref h_tape, .int fe_22, .ref h_taken, .ref h_parser, .ref h_machine, .ref h_countedCells, .ref h_plainCells, .ref h_printer, .int h_faultNumber, .int h_stopPlace, .int h_wasRun, .int h_runSteps, .int h_runCalls, .int h_hasValue, .long h_value, .int h_hasOther, .long h_otherValue])), (h_tape, .inl (hk, 2000, .inl gt_23))] := hD
    have hK : va_K (dC, dI) vwCl [(hk, .byte)] s := hK
    obtain ⟨hq_24, hq_25, hq_26⟩ := hw
    refine lv_aload_n hx hb dX11_feed_36 rfl (lv_at hl 0 rfl) ?_
    refine lv_iload hx hb dX11_feed_37 (lv_at hl 5 rfl) ?_
    have hPc := hP.sub (ws' := [(h0, .inr (11, [.ref h_tape, .int fe_22, .ref h_taken, .ref h_parser, .ref h_machine, .ref h_countedCells, .ref h_plainCells, .ref h_printer, .int h_faultNumber, .int h_stopPlace, .int h_wasRun, .int h_runSteps, .int h_runCalls, .int h_hasValue, .long h_value, .int h_hasOther, .long h_otherValue])), (h_tape, .inl (hk, 2000, .inl gt_23))]) [0, 1] rfl
    have hDc := hD.sub (ws' := [(h0, .inr (11, [.ref h_tape, .int fe_22, .ref h_taken, .ref h_parser, .ref h_machine, .ref h_countedCells, .ref h_plainCells, .ref h_printer, .int h_faultNumber, .int h_stopPlace, .int h_wasRun, .int h_runSteps, .int h_runCalls, .int h_hasValue, .long h_value, .int h_hasOther, .long h_otherValue])), (h_tape, .inl (hk, 2000, .inl gt_23))]) [0, 1] (by decide) rfl
    have hKc := hK.sub (tys' := [(hk, .byte)]) [0] rfl
    have hFc := va_free (wc := [(h0, .inr (11, [.ref h_tape, .int fe_22, .ref h_taken, .ref h_parser, .ref h_machine, .ref h_countedCells, .ref h_plainCells, .ref h_printer, .int h_faultNumber, .int h_stopPlace, .int h_wasRun, .int h_runSteps, .int h_runCalls, .int h_hasValue, .long h_value, .int h_hasOther, .long h_otherValue])), (h_tape, .inl (hk, 2000, .inl gt_23))]) hD hS hAA [0, 1] rfl
    refine va_callv (va_runV (As := [.int a5]) (rest := []) ⟨hx, hb, hml, hown, hA⟩ (c_X11_putFour_x l dC dI aK aV h0 h_tape fe_22 h_taken h_parser h_machine h_countedCells h_plainCells h_printer h_faultNumber h_stopPlace h_wasRun h_runSteps h_runCalls h_hasValue h_value h_hasOther h_otherValue hk gt_23 a5 H.size (by omega) (by omega) (by omega) hq_25) (cwV 1 hA (zw_V wi_640 wi_642 wi_0 wi_130 (zw_good wi_643)) rfl rfl rfl (by decide +kernel) ⟨(Nat.le_of_ble_eq_true rfl), (Nat.le_of_ble_eq_true rfl)⟩) ⟨zP_blind, va_recv hKc hPc (ci := 11) (q0 := 0) rfl rfl, zz_pre hKc hPc hDc hN hT hS hFc⟩ rfl rfl hl.1 rfl (lv_room (Nat.le_of_ble_eq_true rfl)) dX11_feed_39 ⟨(Nat.le_of_ble_eq_true rfl), (Nat.le_of_ble_eq_true rfl)⟩) hS (fun q _ h => hFc q h) hFc (fun u t H1 locs ht hvm hw hB hz1 hk1 hS => ?_)
    obtain ⟨fe_28, gt_29⟩ := u
    obtain ⟨hP1, hK1, hD1⟩ := hB
    rw [ht] at hP1
    have hK1 := va_K.moved hvm.symm hK1
    obtain ⟨hP, hD⟩ := va_join (wr := []) (w1 := [(h0, .inr (11, [.ref h_tape, .int fe_28, .ref h_taken, .ref h_parser, .ref h_machine, .ref h_countedCells, .ref h_plainCells, .ref h_printer, .int h_faultNumber, .int h_stopPlace, .int h_wasRun, .int h_runSteps, .int h_runCalls, .int h_hasValue, .long h_value, .int h_hasOther, .long h_otherValue])), (h_tape, .inl (hk, 2000, .inl gt_29))]) hP hD [0, 1] [] rfl rfl (by decide) (by decide) hk1 hFc hP1 hD1
    have hK := (hK.sub (tys' := []) [] rfl).app hK1
    generalize H1 = H at hP hS ⊢
    have hP : va_P (dC, dI) vwCl [(h0, .inr (11, [.ref h_tape, .int fe_28, .ref h_taken, .ref h_parser, .ref h_machine, .ref h_countedCells, .ref h_plainCells, .ref h_printer, .int h_faultNumber, .int h_stopPlace, .int h_wasRun, .int h_runSteps, .int h_runCalls, .int h_hasValue, .long h_value, .int h_hasOther, .long h_otherValue])), (h_tape, .inl (hk, 2000, .inl gt_29))] H := hP
    have hD : va_D A [(h0, .inr (11, [.ref h_tape, .int fe_28, .ref h_taken, .ref h_parser, .ref h_machine, .ref h_countedCells, .ref h_plainCells, .ref h_printer, .int h_faultNumber, .int h_stopPlace, .int h_wasRun, .int h_runSteps, .int h_runCalls, .int h_hasValue, .long h_value, .int h_hasOther, .long h_otherValue])), (h_tape, .inl (hk, 2000, .inl gt_29))] := hD
    have hK : va_K (dC, dI) vwCl [(hk, .byte)] s := hK
    obtain ⟨hq_30, hq_31, hq_32⟩ := hw
    refine lv_aload_n hx hb dX11_feed_42 rfl (lv_at hl 0 rfl) ?_
    refine va_get (D := (dC, dI)) (ci := 11) (v := .int fe_28) (C := RX11) (T := TX11) (N := 17) hx hb hA zin_X11 hown hK hP 0 rfl rfl 1 (by decide) (hA _ wi_585) (fun _ h9 => h9) rfl dX11_feed_43 ?_
    have hP9 := hP.sub (ws' := [(h0, .inr (11, [.ref h_tape, .int fe_28, .ref h_taken, .ref h_parser, .ref h_machine, .ref h_countedCells, .ref h_plainCells, .ref h_printer, .int h_faultNumber, .int h_stopPlace, .int h_wasRun, .int h_runSteps, .int h_runCalls, .int h_hasValue, .long h_value, .int h_hasOther, .long h_otherValue])), (h_tape, .inl (hk, 2000, .inl gt_29))]) [0, 1] rfl
    have hD9 := hD.sub (ws' := [(h0, .inr (11, [.ref h_tape, .int fe_28, .ref h_taken, .ref h_parser, .ref h_machine, .ref h_countedCells, .ref h_plainCells, .ref h_printer, .int h_faultNumber, .int h_stopPlace, .int h_wasRun, .int h_runSteps, .int h_runCalls, .int h_hasValue, .long h_value, .int h_hasOther, .long h_otherValue])), (h_tape, .inl (hk, 2000, .inl gt_29))]) [0, 1] (by decide) rfl
    have hK9 := hK.sub (tys' := [(hk, .byte)]) [0] rfl
    exact W.iret (v := fe_28) hx hb hr (fun t ht hW => ⟨⟨fe_28, (fe_28, gt_29), rfl, ⟨by omega, hq_31, (by have h0 := zn_nat (x := h_fed) (by omega); have h1 := zn_nat (x := fe_4) (by omega); have h2 := zn_nat (x := fe_10) (by omega); have h3 := zn_nat (x := fe_16) (by omega); have h4 := zn_nat (x := fe_22) (by omega); exact Or.inr ⟨by omega, fd_20_mk hq_8 hq_14 hq_20 hq_26 hq_32 (by omega) (by omega) (by omega) (by omega)⟩)⟩, by rw [ht]; exact hP9, va_K.moved hW.alike hK9, hD9⟩, hS.F ht⟩) hS.2.2 dX11_feed_46
  · have ic_2 : 2000 < x_1.toInt := zi_nle c_2
    refine lv_iconst (v := (-1)) hx hb dX11_feed_13 (by decide) ?_
    have hlit : Int32.toInt (-1) = (-1) := by decide
    have hP9 := hP.sub (ws' := [(h0, .inr (11, [.ref h_tape, .int h_fed, .ref h_taken, .ref h_parser, .ref h_machine, .ref h_countedCells, .ref h_plainCells, .ref h_printer, .int h_faultNumber, .int h_stopPlace, .int h_wasRun, .int h_runSteps, .int h_runCalls, .int h_hasValue, .long h_value, .int h_hasOther, .long h_otherValue])), (h_tape, .inl (hk, 2000, .inl gt))]) [0, 1] rfl
    have hD9 := hD.sub (ws' := [(h0, .inr (11, [.ref h_tape, .int h_fed, .ref h_taken, .ref h_parser, .ref h_machine, .ref h_countedCells, .ref h_plainCells, .ref h_printer, .int h_faultNumber, .int h_stopPlace, .int h_wasRun, .int h_runSteps, .int h_runCalls, .int h_hasValue, .long h_value, .int h_hasOther, .long h_otherValue])), (h_tape, .inl (hk, 2000, .inl gt))]) [0, 1] (by decide) rfl
    have hK9 := hK.sub (tys' := [(hk, .byte)]) [0] rfl
    exact W.iret (v := (-1)) hx hb hr (fun t ht hW => ⟨⟨(-1), (h_fed, gt), rfl, ⟨by omega, hzb, Or.inl ⟨by decide, rfl⟩⟩, by rw [ht]; exact hP9, va_K.moved hW.alike hK9, hD9⟩, hS.F ht⟩) hS.2.2 dX11_feed_14
