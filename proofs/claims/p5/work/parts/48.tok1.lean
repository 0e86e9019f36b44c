set_option maxHeartbeats 4000000 in
set_option maxRecDepth 100000 in
theorem c_X10_isSmall_x (l : Launch) (dC : Nat → ClassId) (dI : Nat → Nat → Nat) (aK aV : Nat → Nat) (ch : Int32) (sz : Nat)  : Met l yX10_isSmall (Cond.code yX10_isSmall cX10_isSmall 1 (some .boolean) :: zw) ({ frames := 8, cells := 0, slots := 0, locals := 200 }) (va_Pc [.int ch] (zP dC dI aK aV sz [] [])) (va_Qi (fun (r : Int32) (u : Unit) => (r.toInt = 1 ∧ 97 ≤ ch.toInt ∧ ch.toInt ≤ 122 ∨ r.toInt = 0 ∧ (ch.toInt < 97 ∨ 122 < ch.toInt))) (fun u => zQ dC dI (va_A [] sz) [] []) (va_A [] sz)) 0 0 (va_A [] sz) := by
  refine Met.ofW (cc := cX10_isSmall) (maxL := 1) (ret := (some .boolean)) (by decide) rfl ?_
  intro p e s m args below meth c s₁ B hml hv
  obtain ⟨rfl, hsz, hP, hK, hD0, hN, hT⟩ := hv
  have hx := B.exec
  have hb := B.bytes
  have hr := B.returns
  have hts := atoms_spec (ws := Cond.code yX10_isSmall cX10_isSmall 1 (some .boolean) :: zw) B.pre
  have hA : ∀ w ∈ zw, w.before _ s = true := fun w h => hts w (List.mem_cons_of_mem _ h)
  have hown : s.vm.findClass RX10 = some m.cls := findClass_of_methodNamed B.named
  have hlocks := B.notSynchronized
  subst hsz
  have hD := hD0.self (sz := s.heap.size)
  generalize hAe : va_A [] s.heap.size = A at hD hT ⊢
  have hAA : ∀ q : Nat, s.heap.size ≤ q → A q := fun q h => by rw [← hAe]; exact Or.inr h
  have hS : va_S A s.heap s.heap [] := va_S.rf
  have hl := lv_entry ([.int ch]) (n := 1) (Nat.le_of_ble_eq_true rfl)
  rw [lg_entry_eq]
  generalize (lg_sl ([.int ch]) ++ List.replicate (1 - (lg_sl ([.int ch])).length) Slot.unset).toArray = ls at hl ⊢
  have hl : lv_has ls 1 [(0, .int ch)] := hl
  refine lv_iload_n hx hb dX10_isSmall_0 rfl (lv_at hl 0 rfl) ?_
  refine lv_bipush (v := 97) hx hb dX10_isSmall_1 (by decide) ?_
  refine lv_icmp_lt (tgt := 16) hx hb dX10_isSmall_3 (by decide) (fun c_1 => ?_) (fun c_1 => ?_)
  · have ic_1 : ch.toInt < 97 := zi_lt c_1
    refine lv_iconst (v := 0) hx hb dX10_isSmall_16 (by decide) ?_
    have hlit : Int32.toInt 0 = 0 := by decide
    have hP9 := hP.sub (ws' := []) [] rfl
    have hD9 := hD.sub (ws' := []) [] (by decide) rfl
    have hK9 := hK.sub (tys' := []) [] rfl
    exact W.zret (v := 0) hx hb hr rfl (fun t ht hW => ⟨⟨0, (), rfl, by omega, by rw [ht]; exact hP9, va_K.moved hW.alike hK9, hD9⟩, hS.F ht⟩) hS.2.2 dX10_isSmall_17
  · have ic_1 : 97 ≤ ch.toInt := zi_nlt c_1
    refine lv_iload_n hx hb dX10_isSmall_6 rfl (lv_at hl 0 rfl) ?_
    refine lv_bipush (v := 122) hx hb dX10_isSmall_7 (by decide) ?_
    refine lv_icmp_gt (tgt := 16) hx hb dX10_isSmall_9 (by decide) (fun c_2 => ?_) (fun c_2 => ?_)
    · have ic_2 : 122 < ch.toInt := zi_lt c_2
      refine lv_iconst (v := 0) hx hb dX10_isSmall_16 (by decide) ?_
      have hlit : Int32.toInt 0 = 0 := by decide
      have hP9 := hP.sub (ws' := []) [] rfl
      have hD9 := hD.sub (ws' := []) [] (by decide) rfl
      have hK9 := hK.sub (tys' := []) [] rfl
      exact W.zret (v := 0) hx hb hr rfl (fun t ht hW => ⟨⟨0, (), rfl, by omega, by rw [ht]; exact hP9, va_K.moved hW.alike hK9, hD9⟩, hS.F ht⟩) hS.2.2 dX10_isSmall_17
    · have ic_2 : ch.toInt ≤ 122 := zi_nlt c_2
      refine lv_iconst (v := 1) hx hb dX10_isSmall_12 (by decide) ?_
      refine lv_goto (tgt := 17) hx hb dX10_isSmall_13 (by decide) ?_
      have hlit : Int32.toInt 1 = 1 := by decide
      have hP9 := hP.sub (ws' := []) [] rfl
      have hD9 := hD.sub (ws' := []) [] (by decide) rfl
      have hK9 := hK.sub (tys' := []) [] rfl
      exact W.zret (v := 1) hx hb hr rfl (fun t ht hW => ⟨⟨1, (), rfl, by omega, by rw [ht]; exact hP9, va_K.moved hW.alike hK9, hD9⟩, hS.F ht⟩) hS.2.2 dX10_isSmall_17
set_option maxHeartbeats 4000000 in
set_option maxRecDepth 100000 in
theorem c_X10_isGreat_x (l : Launch) (dC : Nat → ClassId) (dI : Nat → Nat → Nat) (aK aV : Nat → Nat) (ch : Int32) (sz : Nat)  : Met l yX10_isGreat (Cond.code yX10_isGreat cX10_isGreat 1 (some .boolean) :: zw) ({ frames := 8, cells := 0, slots := 0, locals := 200 }) (va_Pc [.int ch] (zP dC dI aK aV sz [] [])) (va_Qi (fun (r : Int32) (u : Unit) => (r.toInt = 1 ∧ 65 ≤ ch.toInt ∧ ch.toInt ≤ 90 ∨ r.toInt = 0 ∧ (ch.toInt < 65 ∨ 90 < ch.toInt))) (fun u => zQ dC dI (va_A [] sz) [] []) (va_A [] sz)) 0 0 (va_A [] sz) := by
  refine Met.ofW (cc := cX10_isGreat) (maxL := 1) (ret := (some .boolean)) (by decide) rfl ?_
  intro p e s m args below meth c s₁ B hml hv
  obtain ⟨rfl, hsz, hP, hK, hD0, hN, hT⟩ := hv
  have hx := B.exec
  have hb := B.bytes
  have hr := B.returns
  have hts := atoms_spec (ws := Cond.code yX10_isGreat cX10_isGreat 1 (some .boolean) :: zw) B.pre
  have hA : ∀ w ∈ zw, w.before _ s = true := fun w h => hts w (List.mem_cons_of_mem _ h)
  have hown : s.vm.findClass RX10 = some m.cls := findClass_of_methodNamed B.named
  have hlocks := B.notSynchronized
  subst hsz
  have hD := hD0.self (sz := s.heap.size)
  generalize hAe : va_A [] s.heap.size = A at hD hT ⊢
  have hAA : ∀ q : Nat, s.heap.size ≤ q → A q := fun q h => by rw [← hAe]; exact Or.inr h
  have hS : va_S A s.heap s.heap [] := va_S.rf
  have hl := lv_entry ([.int ch]) (n := 1) (Nat.le_of_ble_eq_true rfl)
  rw [lg_entry_eq]
  generalize (lg_sl ([.int ch]) ++ List.replicate (1 - (lg_sl ([.int ch])).length) Slot.unset).toArray = ls at hl ⊢
  have hl : lv_has ls 1 [(0, .int ch)] := hl
  refine lv_iload_n hx hb dX10_isGreat_0 rfl (lv_at hl 0 rfl) ?_
  refine lv_bipush (v := 65) hx hb dX10_isGreat_1 (by decide) ?_
  refine lv_icmp_lt (tgt := 16) hx hb dX10_isGreat_3 (by decide) (fun c_1 => ?_) (fun c_1 => ?_)
  · have ic_1 : ch.toInt < 65 := zi_lt c_1
    refine lv_iconst (v := 0) hx hb dX10_isGreat_16 (by decide) ?_
    have hlit : Int32.toInt 0 = 0 := by decide
    have hP9 := hP.sub (ws' := []) [] rfl
    have hD9 := hD.sub (ws' := []) [] (by decide) rfl
    have hK9 := hK.sub (tys' := []) [] rfl
    exact W.zret (v := 0) hx hb hr rfl (fun t ht hW => ⟨⟨0, (), rfl, by omega, by rw [ht]; exact hP9, va_K.moved hW.alike hK9, hD9⟩, hS.F ht⟩) hS.2.2 dX10_isGreat_17
  · have ic_1 : 65 ≤ ch.toInt := zi_nlt c_1
    refine lv_iload_n hx hb dX10_isGreat_6 rfl (lv_at hl 0 rfl) ?_
    refine lv_bipush (v := 90) hx hb dX10_isGreat_7 (by decide) ?_
    refine lv_icmp_gt (tgt := 16) hx hb dX10_isGreat_9 (by decide) (fun c_2 => ?_) (fun c_2 => ?_)
    · have ic_2 : 90 < ch.toInt := zi_lt c_2
      refine lv_iconst (v := 0) hx hb dX10_isGreat_16 (by decide) ?_
      have hlit : Int32.toInt 0 = 0 := by decide
      have hP9 := hP.sub (ws' := []) [] rfl
      have hD9 := hD.sub (ws' := []) [] (by decide) rfl
      have hK9 := hK.sub (tys' := []) [] rfl
      exact W.zret (v := 0) hx hb hr rfl (fun t ht hW => ⟨⟨0, (), rfl, by omega, by rw [ht]; exact hP9, va_K.moved hW.alike hK9, hD9⟩, hS.F ht⟩) hS.2.2 dX10_isGreat_17
    · have ic_2 : ch.toInt ≤ 90 := zi_nlt c_2
      refine lv_iconst (v := 1) hx hb dX10_isGreat_12 (by decide) ?_
      refine lv_goto (tgt := 17) hx hb dX10_isGreat_13 (by decide) ?_
      have hlit : Int32.toInt 1 = 1 := by decide
      have hP9 := hP.sub (ws' := []) [] rfl
      have hD9 := hD.sub (ws' := []) [] (by decide) rfl
      have hK9 := hK.sub (tys' := []) [] rfl
      exact W.zret (v := 1) hx hb hr rfl (fun t ht hW => ⟨⟨1, (), rfl, by omega, by rw [ht]; exact hP9, va_K.moved hW.alike hK9, hD9⟩, hS.F ht⟩) hS.2.2 dX10_isGreat_17
set_option maxHeartbeats 4000000 in
set_option maxRecDepth 100000 in
theorem c_X10_isDigit_x (l : Launch) (dC : Nat → ClassId) (dI : Nat → Nat → Nat) (aK aV : Nat → Nat) (ch : Int32) (sz : Nat)  : Met l yX10_isDigit (Cond.code yX10_isDigit cX10_isDigit 1 (some .boolean) :: zw) ({ frames := 8, cells := 0, slots := 0, locals := 200 }) (va_Pc [.int ch] (zP dC dI aK aV sz [] [])) (va_Qi (fun (r : Int32) (u : Unit) => (r.toInt = 1 ∧ 48 ≤ ch.toInt ∧ ch.toInt ≤ 57 ∨ r.toInt = 0 ∧ (ch.toInt < 48 ∨ 57 < ch.toInt))) (fun u => zQ dC dI (va_A [] sz) [] []) (va_A [] sz)) 0 0 (va_A [] sz) := by
  refine Met.ofW (cc := cX10_isDigit) (maxL := 1) (ret := (some .boolean)) (by decide) rfl ?_
  intro p e s m args below meth c s₁ B hml hv
  obtain ⟨rfl, hsz, hP, hK, hD0, hN, hT⟩ := hv
  have hx := B.exec
  have hb := B.bytes
  have hr := B.returns
  have hts := atoms_spec (ws := Cond.code yX10_isDigit cX10_isDigit 1 (some .boolean) :: zw) B.pre
  have hA : ∀ w ∈ zw, w.before _ s = true := fun w h => hts w (List.mem_cons_of_mem _ h)
  have hown : s.vm.findClass RX10 = some m.cls := findClass_of_methodNamed B.named
  have hlocks := B.notSynchronized
  subst hsz
  have hD := hD0.self (sz := s.heap.size)
  generalize hAe : va_A [] s.heap.size = A at hD hT ⊢
  have hAA : ∀ q : Nat, s.heap.size ≤ q → A q := fun q h => by rw [← hAe]; exact Or.inr h
  have hS : va_S A s.heap s.heap [] := va_S.rf
  have hl := lv_entry ([.int ch]) (n := 1) (Nat.le_of_ble_eq_true rfl)
  rw [lg_entry_eq]
  generalize (lg_sl ([.int ch]) ++ List.replicate (1 - (lg_sl ([.int ch])).length) Slot.unset).toArray = ls at hl ⊢
  have hl : lv_has ls 1 [(0, .int ch)] := hl
  refine lv_iload_n hx hb dX10_isDigit_0 rfl (lv_at hl 0 rfl) ?_
  refine lv_bipush (v := 48) hx hb dX10_isDigit_1 (by decide) ?_
  refine lv_icmp_lt (tgt := 16) hx hb dX10_isDigit_3 (by decide) (fun c_1 => ?_) (fun c_1 => ?_)
  · have ic_1 : ch.toInt < 48 := zi_lt c_1
    refine lv_iconst (v := 0) hx hb dX10_isDigit_16 (by decide) ?_
    have hlit : Int32.toInt 0 = 0 := by decide
    have hP9 := hP.sub (ws' := []) [] rfl
    have hD9 := hD.sub (ws' := []) [] (by decide) rfl
    have hK9 := hK.sub (tys' := []) [] rfl
    exact W.zret (v := 0) hx hb hr rfl (fun t ht hW => ⟨⟨0, (), rfl, by omega, by rw [ht]; exact hP9, va_K.moved hW.alike hK9, hD9⟩, hS.F ht⟩) hS.2.2 dX10_isDigit_17
  · have ic_1 : 48 ≤ ch.toInt := zi_nlt c_1
    refine lv_iload_n hx hb dX10_isDigit_6 rfl (lv_at hl 0 rfl) ?_
    refine lv_bipush (v := 57) hx hb dX10_isDigit_7 (by decide) ?_
    refine lv_icmp_gt (tgt := 16) hx hb dX10_isDigit_9 (by decide) (fun c_2 => ?_) (fun c_2 => ?_)
    · have ic_2 : 57 < ch.toInt := zi_lt c_2
      refine lv_iconst (v := 0) hx hb dX10_isDigit_16 (by decide) ?_
      have hlit : Int32.toInt 0 = 0 := by decide
      have hP9 := hP.sub (ws' := []) [] rfl
      have hD9 := hD.sub (ws' := []) [] (by decide) rfl
      have hK9 := hK.sub (tys' := []) [] rfl
      exact W.zret (v := 0) hx hb hr rfl (fun t ht hW => ⟨⟨0, (), rfl, by omega, by rw [ht]; exact hP9, va_K.moved hW.alike hK9, hD9⟩, hS.F ht⟩) hS.2.2 dX10_isDigit_17
    · have ic_2 : ch.toInt ≤ 57 := zi_nlt c_2
      refine lv_iconst (v := 1) hx hb dX10_isDigit_12 (by decide) ?_
      refine lv_goto (tgt := 17) hx hb dX10_isDigit_13 (by decide) ?_
      have hlit : Int32.toInt 1 = 1 := by decide
      have hP9 := hP.sub (ws' := []) [] rfl
      have hD9 := hD.sub (ws' := []) [] (by decide) rfl
      have hK9 := hK.sub (tys' := []) [] rfl
      exact W.zret (v := 1) hx hb hr rfl (fun t ht hW => ⟨⟨1, (), rfl, by omega, by rw [ht]; exact hP9, va_K.moved hW.alike hK9, hD9⟩, hS.F ht⟩) hS.2.2 dX10_isDigit_17
set_option maxHeartbeats 4000000 in
set_option maxRecDepth 100000 in
theorem c_X10_isWordByte_x (l : Launch) (dC : Nat → ClassId) (dI : Nat → Nat → Nat) (aK aV : Nat → Nat) (ch : Int32) (sz : Nat)  : Met l yX10_isWordByte (Cond.code yX10_isWordByte cX10_isWordByte 1 (some .boolean) :: zw) ({ frames := 10, cells := 0, slots := 0, locals := 300 }) (va_Pc [.int ch] (zP dC dI aK aV sz [] [])) (va_Qi (fun (r : Int32) (u : Unit) => (r.toInt = 1 ∧ (97 ≤ ch.toInt ∧ ch.toInt ≤ 122 ∨ 65 ≤ ch.toInt ∧ ch.toInt ≤ 90 ∨ 48 ≤ ch.toInt ∧ ch.toInt ≤ 57) ∨ r.toInt = 0 ∧ ¬ (97 ≤ ch.toInt ∧ ch.toInt ≤ 122 ∨ 65 ≤ ch.toInt ∧ ch.toInt ≤ 90 ∨ 48 ≤ ch.toInt ∧ ch.toInt ≤ 57))) (fun u => zQ dC dI (va_A [] sz) [] []) (va_A [] sz)) 0 0 (va_A [] sz) := by
  refine Met.ofW (cc := cX10_isWordByte) (maxL := 1) (ret := (some .boolean)) (by decide) rfl ?_
  intro p e s m args below meth c s₁ B hml hv
  obtain ⟨rfl, hsz, hP, hK, hD0, hN, hT⟩ := hv
  have hx := B.exec
  have hb := B.bytes
  have hr := B.returns
  have hts := atoms_spec (ws := Cond.code yX10_isWordByte cX10_isWordByte 1 (some .boolean) :: zw) B.pre
  have hA : ∀ w ∈ zw, w.before _ s = true := fun w h => hts w (List.mem_cons_of_mem _ h)
  have hown : s.vm.findClass RX10 = some m.cls := findClass_of_methodNamed B.named
  have hlocks := B.notSynchronized
  subst hsz
  have hD := hD0.self (sz := s.heap.size)
  generalize hAe : va_A [] s.heap.size = A at hD hT ⊢
  have hAA : ∀ q : Nat, s.heap.size ≤ q → A q := fun q h => by rw [← hAe]; exact Or.inr h
  have hS : va_S A s.heap s.heap [] := va_S.rf
  have hl := lv_entry ([.int ch]) (n := 1) (Nat.le_of_ble_eq_true rfl)
  rw [lg_entry_eq]
  generalize (lg_sl ([.int ch]) ++ List.replicate (1 - (lg_sl ([.int ch])).length) Slot.unset).toArray = ls at hl ⊢
  have hl : lv_has ls 1 [(0, .int ch)] := hl
  refine lv_iload_n hx hb dX10_isWordByte_0 rfl (lv_at hl 0 rfl) ?_
  have hPc := hP.sub (ws' := []) [] rfl
  have hDc := hD.sub (ws' := []) [] (by decide) rfl
  have hKc := hK.sub (tys' := []) [] rfl
  have hFc := va_free (wc := []) hD hS hAA [] rfl
  refine va_calli (va_runS (As := [.int ch]) (rest := []) ⟨hx, hb, hml, hown, hA⟩ (c_X10_isSmall_x l dC dI aK aV ch s.heap.size) (va_cwS 1 hA (zw_S wi_664 wi_665 wi_137 (zw_good wi_666)) rfl rfl rfl (by decide +kernel) ⟨(Nat.le_of_ble_eq_true rfl), (Nat.le_of_ble_eq_true rfl)⟩) ⟨zP_blind, zz_pre hKc hPc hDc hN hT hS hFc⟩ rfl rfl hl.1 rfl (lv_room (Nat.le_of_ble_eq_true rfl)) dX10_isWordByte_1 ⟨(Nat.le_of_ble_eq_true rfl), (Nat.le_of_ble_eq_true rfl)⟩) hS (fun q _ h => hFc q h) hFc (fun r_1 u t H1 locs ht hvm hw hB hz1 hk1 hS => ?_)
  obtain ⟨hP1, hK1, hD1⟩ := hB
  rw [ht] at hP1
  have hK1 := va_K.moved hvm.symm hK1
  obtain ⟨hP, hD⟩ := va_join (wr := []) (w1 := []) hP hD [] [] rfl rfl (by decide) (by decide) hk1 hFc hP1 hD1
  have hK := (hK.sub (tys' := []) [] rfl).app hK1
  generalize H1 = H at hP hS ⊢
  have hP : va_P (dC, dI) vwCl [] H := hP
  have hD : va_D A [] := hD
  have hK : va_K (dC, dI) vwCl [] s := hK
  have hw_r_1 := hw
  try dsimp only at hw_r_1
  have hq_2 := hw
  refine lv_if_ne (tgt := 21) hx hb dX10_isWordByte_4 (by decide) (fun c_3 => ?_) (fun c_3 => ?_)
  · have ic_3 : r_1.toInt ≠ 0 := zi_ne c_3
    refine lv_iconst (v := 1) hx hb dX10_isWordByte_21 (by decide) ?_
    refine lv_goto (tgt := 26) hx hb dX10_isWordByte_22 (by decide) ?_
    have hlit : Int32.toInt 1 = 1 := by decide
    have hP9 := hP.sub (ws' := []) [] rfl
    have hD9 := hD.sub (ws' := []) [] (by decide) rfl
    have hK9 := hK.sub (tys' := []) [] rfl
    exact W.zret (v := 1) hx hb hr rfl (fun t ht hW => ⟨⟨1, (), rfl, by omega, by rw [ht]; exact hP9, va_K.moved hW.alike hK9, hD9⟩, hS.F ht⟩) hS.2.2 dX10_isWordByte_26
  · have ic_3 : r_1.toInt = 0 := zi_eq c_3
    refine lv_iload_n hx hb dX10_isWordByte_7 rfl (lv_at hl 0 rfl) ?_
    have hPc := hP.sub (ws' := []) [] rfl
    have hDc := hD.sub (ws' := []) [] (by decide) rfl
    have hKc := hK.sub (tys' := []) [] rfl
    have hFc := va_free (wc := []) hD hS hAA [] rfl
    refine va_calli (va_runS (As := [.int ch]) (rest := []) ⟨hx, hb, hml, hown, hA⟩ (c_X10_isGreat_x l dC dI aK aV ch H.size) (va_cwS 1 hA (zw_S wi_667 wi_668 wi_137 (zw_good wi_669)) rfl rfl rfl (by decide +kernel) ⟨(Nat.le_of_ble_eq_true rfl), (Nat.le_of_ble_eq_true rfl)⟩) ⟨zP_blind, zz_pre hKc hPc hDc hN hT hS hFc⟩ rfl rfl hl.1 rfl (lv_room (Nat.le_of_ble_eq_true rfl)) dX10_isWordByte_8 ⟨(Nat.le_of_ble_eq_true rfl), (Nat.le_of_ble_eq_true rfl)⟩) hS (fun q _ h => hFc q h) hFc (fun r_4 u t H1 locs ht hvm hw hB hz1 hk1 hS => ?_)
    obtain ⟨hP1, hK1, hD1⟩ := hB
    rw [ht] at hP1
    have hK1 := va_K.moved hvm.symm hK1
    obtain ⟨hP, hD⟩ := va_join (wr := []) (w1 := []) hP hD [] [] rfl rfl (by decide) (by decide) hk1 hFc hP1 hD1
    have hK := (hK.sub (tys' := []) [] rfl).app hK1
    generalize H1 = H at hP hS ⊢
    have hP : va_P (dC, dI) vwCl [] H := hP
    have hD : va_D A [] := hD
    have hK : va_K (dC, dI) vwCl [] s := hK
    have hw_r_4 := hw
    try dsimp only at hw_r_4
    have hq_5 := hw
    refine lv_if_ne (tgt := 21) hx hb dX10_isWordByte_11 (by decide) (fun c_6 => ?_) (fun c_6 => ?_)
    · have ic_6 : r_4.toInt ≠ 0 := zi_ne c_6
      refine lv_iconst (v := 1) hx hb dX10_isWordByte_21 (by decide) ?_
      refine lv_goto (tgt := 26) hx hb dX10_isWordByte_22 (by decide) ?_
      have hlit : Int32.toInt 1 = 1 := by decide
      have hP9 := hP.sub (ws' := []) [] rfl
      have hD9 := hD.sub (ws' := []) [] (by decide) rfl
      have hK9 := hK.sub (tys' := []) [] rfl
      exact W.zret (v := 1) hx hb hr rfl (fun t ht hW => ⟨⟨1, (), rfl, by omega, by rw [ht]; exact hP9, va_K.moved hW.alike hK9, hD9⟩, hS.F ht⟩) hS.2.2 dX10_isWordByte_26
    · have ic_6 : r_4.toInt = 0 := zi_eq c_6
      refine lv_iload_n hx hb dX10_isWordByte_14 rfl (lv_at hl 0 rfl) ?_
      have hPc := hP.sub (ws' := []) [] rfl
      have hDc := hD.sub (ws' := []) [] (by decide) rfl
      have hKc := hK.sub (tys' := []) [] rfl
      have hFc := va_free (wc := []) hD hS hAA [] rfl
      refine va_calli (va_runS (As := [.int ch]) (rest := []) ⟨hx, hb, hml, hown, hA⟩ (c_X10_isDigit_x l dC dI aK aV ch H.size) (va_cwS 1 hA (zw_S wi_670 wi_671 wi_137 (zw_good wi_672)) rfl rfl rfl (by decide +kernel) ⟨(Nat.le_of_ble_eq_true rfl), (Nat.le_of_ble_eq_true rfl)⟩) ⟨zP_blind, zz_pre hKc hPc hDc hN hT hS hFc⟩ rfl rfl hl.1 rfl (lv_room (Nat.le_of_ble_eq_true rfl)) dX10_isWordByte_15 ⟨(Nat.le_of_ble_eq_true rfl), (Nat.le_of_ble_eq_true rfl)⟩) hS (fun q _ h => hFc q h) hFc (fun r_7 u t H1 locs ht hvm hw hB hz1 hk1 hS => ?_)
      obtain ⟨hP1, hK1, hD1⟩ := hB
      rw [ht] at hP1
      have hK1 := va_K.moved hvm.symm hK1
      obtain ⟨hP, hD⟩ := va_join (wr := []) (w1 := []) hP hD [] [] rfl rfl (by decide) (by decide) hk1 hFc hP1 hD1
      have hK := (hK.sub (tys' := []) [] rfl).app hK1
      generalize H1 = H at hP hS ⊢
      have hP : va_P (dC, dI) vwCl [] H := hP
      have hD : va_D A [] := hD
      have hK : va_K (dC, dI) vwCl [] s := hK
      have hw_r_7 := hw
      try dsimp only at hw_r_7
      have hq_8 := hw
      refine lv_if_eq (tgt := 25) hx hb dX10_isWordByte_18 (by decide) (fun c_9 => ?_) (fun c_9 => ?_)
      · have ic_9 : r_7.toInt = 0 := zi_eq c_9
        refine lv_iconst (v := 0) hx hb dX10_isWordByte_25 (by decide) ?_
        have hlit : Int32.toInt 0 = 0 := by decide
        have hP9 := hP.sub (ws' := []) [] rfl
        have hD9 := hD.sub (ws' := []) [] (by decide) rfl
        have hK9 := hK.sub (tys' := []) [] rfl
        exact W.zret (v := 0) hx hb hr rfl (fun t ht hW => ⟨⟨0, (), rfl, by omega, by rw [ht]; exact hP9, va_K.moved hW.alike hK9, hD9⟩, hS.F ht⟩) hS.2.2 dX10_isWordByte_26
      · have ic_9 : r_7.toInt ≠ 0 := zi_ne c_9
        refine lv_iconst (v := 1) hx hb dX10_isWordByte_21 (by decide) ?_
        refine lv_goto (tgt := 26) hx hb dX10_isWordByte_22 (by decide) ?_
        have hlit : Int32.toInt 1 = 1 := by decide
        have hP9 := hP.sub (ws' := []) [] rfl
        have hD9 := hD.sub (ws' := []) [] (by decide) rfl
        have hK9 := hK.sub (tys' := []) [] rfl
        exact W.zret (v := 1) hx hb hr rfl (fun t ht hW => ⟨⟨1, (), rfl, by omega, by rw [ht]; exact hP9, va_K.moved hW.alike hK9, hD9⟩, hS.F ht⟩) hS.2.2 dX10_isWordByte_26
set_option maxHeartbeats 4000000 in
set_option maxRecDepth 100000 in
theorem c_X10_sortOfSmall_x (l : Launch) (dC : Nat → ClassId) (dI : Nat → Nat → Nat) (aK aV : Nat → Nat) (wo : Int64) (sz : Nat)  : Met l yX10_sortOfSmall (Cond.code yX10_sortOfSmall cX10_sortOfSmall 2 (some .int) :: zw) ({ frames := 8, cells := 0, slots := 0, locals := 200 }) (va_Pc [.long wo] (zP dC dI aK aV sz [] [])) (va_Qi (fun (r : Int32) (u : Unit) => (r.toInt ≠ 261) ∧ (r.toInt = lx_kw wo)) (fun u => zQ dC dI (va_A [] sz) [] []) (va_A [] sz)) 0 0 (va_A [] sz) := by
  refine Met.ofW (cc := cX10_sortOfSmall) (maxL := 2) (ret := (some .int)) (by decide) rfl ?_
  intro p e s m args below meth c s₁ B hml hv
  obtain ⟨rfl, hsz, hP, hK, hD0, hN, hT⟩ := hv
  have hx := B.exec
  have hb := B.bytes
  have hr := B.returns
  have hts := atoms_spec (ws := Cond.code yX10_sortOfSmall cX10_sortOfSmall 2 (some .int) :: zw) B.pre
  have hA : ∀ w ∈ zw, w.before _ s = true := fun w h => hts w (List.mem_cons_of_mem _ h)
  have hown : s.vm.findClass RX10 = some m.cls := findClass_of_methodNamed B.named
  have hlocks := B.notSynchronized
  subst hsz
  have hD := hD0.self (sz := s.heap.size)
  generalize hAe : va_A [] s.heap.size = A at hD hT ⊢
  have hAA : ∀ q : Nat, s.heap.size ≤ q → A q := fun q h => by rw [← hAe]; exact Or.inr h
  have hS : va_S A s.heap s.heap [] := va_S.rf
  have hl := lv_entry ([.long wo]) (n := 2) (Nat.le_of_ble_eq_true rfl)
  rw [lg_entry_eq]
  generalize (lg_sl ([.long wo]) ++ List.replicate (2 - (lg_sl ([.long wo])).length) Slot.unset).toArray = ls at hl ⊢
  have hl : lv_has ls 2 [(0, .long wo)] := hl
  refine lv_lload_n hx hb dX10_sortOfSmall_0 rfl (lv_at hl 0 rfl) ?_
  refine lv_ldc2 (v := 7103860) hx hb hown (hA _ wi_680) dX10_sortOfSmall_1 ?_
  refine W.lcmp hx hb dX10_sortOfSmall_4 ?_
  refine lv_topi (fun x_1 ex_1 => ?_)
  refine lv_if_ne (tgt := 12) hx hb dX10_sortOfSmall_5 (by decide) (fun c_2 => ?_) (fun c_2 => ?_)
  · have ic_2 : x_1.toInt ≠ 0 := zi_ne c_2
    refine lv_lload_n hx hb dX10_sortOfSmall_12 rfl (lv_at hl 0 rfl) ?_
    refine lv_ldc2 (v := 26990) hx hb hown (hA _ wi_681) dX10_sortOfSmall_13 ?_
    refine W.lcmp hx hb dX10_sortOfSmall_16 ?_
    refine lv_topi (fun x_3 ex_3 => ?_)
    refine lv_if_ne (tgt := 24) hx hb dX10_sortOfSmall_17 (by decide) (fun c_4 => ?_) (fun c_4 => ?_)
    · have ic_4 : x_3.toInt ≠ 0 := zi_ne c_4
      refine lv_lload_n hx hb dX10_sortOfSmall_24 rfl (lv_at hl 0 rfl) ?_
      refine lv_ldc2 (v := 26982) hx hb hown (hA _ wi_682) dX10_sortOfSmall_25 ?_
      refine W.lcmp hx hb dX10_sortOfSmall_28 ?_
      refine lv_topi (fun x_5 ex_5 => ?_)
      refine lv_if_ne (tgt := 36) hx hb dX10_sortOfSmall_29 (by decide) (fun c_6 => ?_) (fun c_6 => ?_)
      · have ic_6 : x_5.toInt ≠ 0 := zi_ne c_6
        refine lv_lload_n hx hb dX10_sortOfSmall_36 rfl (lv_at hl 0 rfl) ?_
        refine lv_ldc2 (v := 1952998766) hx hb hown (hA _ wi_683) dX10_sortOfSmall_37 ?_
        refine W.lcmp hx hb dX10_sortOfSmall_40 ?_
        refine lv_topi (fun x_7 ex_7 => ?_)
        refine lv_if_ne (tgt := 48) hx hb dX10_sortOfSmall_41 (by decide) (fun c_8 => ?_) (fun c_8 => ?_)
        · have ic_8 : x_7.toInt ≠ 0 := zi_ne c_8
          refine lv_lload_n hx hb dX10_sortOfSmall_48 rfl (lv_at hl 0 rfl) ?_
          refine lv_ldc2 (v := 1701606245) hx hb hown (hA _ wi_684) dX10_sortOfSmall_49 ?_
          refine W.lcmp hx hb dX10_sortOfSmall_52 ?_
          refine lv_topi (fun x_9 ex_9 => ?_)
          refine lv_if_ne (tgt := 60) hx hb dX10_sortOfSmall_53 (by decide) (fun c_10 => ?_) (fun c_10 => ?_)
          · have ic_10 : x_9.toInt ≠ 0 := zi_ne c_10
            refine lv_lload_n hx hb dX10_sortOfSmall_60 rfl (lv_at hl 0 rfl) ?_
            refine lv_ldc2 (v := 469786452840) hx hb hown (hA _ wi_685) dX10_sortOfSmall_61 ?_
            refine W.lcmp hx hb dX10_sortOfSmall_64 ?_
            refine lv_topi (fun x_11 ex_11 => ?_)
            refine lv_if_ne (tgt := 72) hx hb dX10_sortOfSmall_65 (by decide) (fun c_12 => ?_) (fun c_12 => ?_)
            · have ic_12 : x_11.toInt ≠ 0 := zi_ne c_12
              refine lv_lload_n hx hb dX10_sortOfSmall_72 rfl (lv_at hl 0 rfl) ?_
              refine lv_ldc2 (v := 6714734) hx hb hown (hA _ wi_686) dX10_sortOfSmall_73 ?_
              refine W.lcmp hx hb dX10_sortOfSmall_76 ?_
              refine lv_topi (fun x_13 ex_13 => ?_)
              refine lv_if_ne (tgt := 86) hx hb dX10_sortOfSmall_77 (by decide) (fun c_14 => ?_) (fun c_14 => ?_)
              · have ic_14 : x_13.toInt ≠ 0 := zi_ne c_14
                refine lv_sipush (v := 258) hx hb dX10_sortOfSmall_86 (by decide) ?_
                have hlit : Int32.toInt 258 = 258 := by decide
                have hP9 := hP.sub (ws' := []) [] rfl
                have hD9 := hD.sub (ws' := []) [] (by decide) rfl
                have hK9 := hK.sub (tys' := []) [] rfl
                exact W.iret (v := 258) hx hb hr (fun t ht hW => ⟨⟨258, (), rfl, ⟨by omega, (by unfold lx_kw; rw [if_neg (fun e9 => absurd (show x_1.toInt = 0 by rw [ex_1, e9]; exact lc_rf) (by omega)), if_neg (fun e9 => absurd (show x_3.toInt = 0 by rw [ex_3, e9]; exact lc_rf) (by omega)), if_neg (fun e9 => absurd (show x_5.toInt = 0 by rw [ex_5, e9]; exact lc_rf) (by omega)), if_neg (fun e9 => absurd (show x_7.toInt = 0 by rw [ex_7, e9]; exact lc_rf) (by omega)), if_neg (fun e9 => absurd (show x_9.toInt = 0 by rw [ex_9, e9]; exact lc_rf) (by omega)), if_neg (fun e9 => absurd (show x_11.toInt = 0 by rw [ex_11, e9]; exact lc_rf) (by omega)), if_neg (fun e9 => absurd (show x_13.toInt = 0 by rw [ex_13, e9]; exact lc_rf) (by omega))]; decide)⟩, by rw [ht]; exact hP9, va_K.moved hW.alike hK9, hD9⟩, hS.F ht⟩) hS.2.2 dX10_sortOfSmall_89
              · have ic_14 : x_13.toInt = 0 := zi_eq c_14
                refine lv_sipush (v := 268) hx hb dX10_sortOfSmall_80 (by decide) ?_
                refine lv_goto (tgt := 89) hx hb dX10_sortOfSmall_83 (by decide) ?_
                have hlit : Int32.toInt 268 = 268 := by decide
                have hP9 := hP.sub (ws' := []) [] rfl
                have hD9 := hD.sub (ws' := []) [] (by decide) rfl
                have hK9 := hK.sub (tys' := []) [] rfl
                exact W.iret (v := 268) hx hb hr (fun t ht hW => ⟨⟨268, (), rfl, ⟨by omega, (by unfold lx_kw; rw [if_neg (fun e9 => absurd (show x_1.toInt = 0 by rw [ex_1, e9]; exact lc_rf) (by omega)), if_neg (fun e9 => absurd (show x_3.toInt = 0 by rw [ex_3, e9]; exact lc_rf) (by omega)), if_neg (fun e9 => absurd (show x_5.toInt = 0 by rw [ex_5, e9]; exact lc_rf) (by omega)), if_neg (fun e9 => absurd (show x_7.toInt = 0 by rw [ex_7, e9]; exact lc_rf) (by omega)), if_neg (fun e9 => absurd (show x_9.toInt = 0 by rw [ex_9, e9]; exact lc_rf) (by omega)), if_neg (fun e9 => absurd (show x_11.toInt = 0 by rw [ex_11, e9]; exact lc_rf) (by omega)), if_pos (show wo = 6714734 from lc_eq (by rw [← ex_13]; omega))]; decide)⟩, by rw [ht]; exact hP9, va_K.moved hW.alike hK9, hD9⟩, hS.F ht⟩) hS.2.2 dX10_sortOfSmall_89
            · have ic_12 : x_11.toInt = 0 := zi_eq c_12
              refine lv_sipush (v := 267) hx hb dX10_sortOfSmall_68 (by decide) ?_
              have hlit : Int32.toInt 267 = 267 := by decide
              have hP9 := hP.sub (ws' := []) [] rfl
              have hD9 := hD.sub (ws' := []) [] (by decide) rfl
              have hK9 := hK.sub (tys' := []) [] rfl
              exact W.iret (v := 267) hx hb hr (fun t ht hW => ⟨⟨267, (), rfl, ⟨by omega, (by unfold lx_kw; rw [if_neg (fun e9 => absurd (show x_1.toInt = 0 by rw [ex_1, e9]; exact lc_rf) (by omega)), if_neg (fun e9 => absurd (show x_3.toInt = 0 by rw [ex_3, e9]; exact lc_rf) (by omega)), if_neg (fun e9 => absurd (show x_5.toInt = 0 by rw [ex_5, e9]; exact lc_rf) (by omega)), if_neg (fun e9 => absurd (show x_7.toInt = 0 by rw [ex_7, e9]; exact lc_rf) (by omega)), if_neg (fun e9 => absurd (show x_9.toInt = 0 by rw [ex_9, e9]; exact lc_rf) (by omega)), if_pos (show wo = 469786452840 from lc_eq (by rw [← ex_11]; omega))]; decide)⟩, by rw [ht]; exact hP9, va_K.moved hW.alike hK9, hD9⟩, hS.F ht⟩) hS.2.2 dX10_sortOfSmall_71
          · have ic_10 : x_9.toInt = 0 := zi_eq c_10
            refine lv_sipush (v := 266) hx hb dX10_sortOfSmall_56 (by decide) ?_
            have hlit : Int32.toInt 266 = 266 := by decide
            have hP9 := hP.sub (ws' := []) [] rfl
            have hD9 := hD.sub (ws' := []) [] (by decide) rfl
            have hK9 := hK.sub (tys' := []) [] rfl
            exact W.iret (v := 266) hx hb hr (fun t ht hW => ⟨⟨266, (), rfl, ⟨by omega, (by unfold lx_kw; rw [if_neg (fun e9 => absurd (show x_1.toInt = 0 by rw [ex_1, e9]; exact lc_rf) (by omega)), if_neg (fun e9 => absurd (show x_3.toInt = 0 by rw [ex_3, e9]; exact lc_rf) (by omega)), if_neg (fun e9 => absurd (show x_5.toInt = 0 by rw [ex_5, e9]; exact lc_rf) (by omega)), if_neg (fun e9 => absurd (show x_7.toInt = 0 by rw [ex_7, e9]; exact lc_rf) (by omega)), if_pos (show wo = 1701606245 from lc_eq (by rw [← ex_9]; omega))]; decide)⟩, by rw [ht]; exact hP9, va_K.moved hW.alike hK9, hD9⟩, hS.F ht⟩) hS.2.2 dX10_sortOfSmall_59
        · have ic_8 : x_7.toInt = 0 := zi_eq c_8
          refine lv_sipush (v := 265) hx hb dX10_sortOfSmall_44 (by decide) ?_
          have hlit : Int32.toInt 265 = 265 := by decide
          have hP9 := hP.sub (ws' := []) [] rfl
          have hD9 := hD.sub (ws' := []) [] (by decide) rfl
          have hK9 := hK.sub (tys' := []) [] rfl
          exact W.iret (v := 265) hx hb hr (fun t ht hW => ⟨⟨265, (), rfl, ⟨by omega, (by unfold lx_kw; rw [if_neg (fun e9 => absurd (show x_1.toInt = 0 by rw [ex_1, e9]; exact lc_rf) (by omega)), if_neg (fun e9 => absurd (show x_3.toInt = 0 by rw [ex_3, e9]; exact lc_rf) (by omega)), if_neg (fun e9 => absurd (show x_5.toInt = 0 by rw [ex_5, e9]; exact lc_rf) (by omega)), if_pos (show wo = 1952998766 from lc_eq (by rw [← ex_7]; omega))]; decide)⟩, by rw [ht]; exact hP9, va_K.moved hW.alike hK9, hD9⟩, hS.F ht⟩) hS.2.2 dX10_sortOfSmall_47
      · have ic_6 : x_5.toInt = 0 := zi_eq c_6
        refine lv_sipush (v := 264) hx hb dX10_sortOfSmall_32 (by decide) ?_
        have hlit : Int32.toInt 264 = 264 := by decide
        have hP9 := hP.sub (ws' := []) [] rfl
        have hD9 := hD.sub (ws' := []) [] (by decide) rfl
        have hK9 := hK.sub (tys' := []) [] rfl
        exact W.iret (v := 264) hx hb hr (fun t ht hW => ⟨⟨264, (), rfl, ⟨by omega, (by unfold lx_kw; rw [if_neg (fun e9 => absurd (show x_1.toInt = 0 by rw [ex_1, e9]; exact lc_rf) (by omega)), if_neg (fun e9 => absurd (show x_3.toInt = 0 by rw [ex_3, e9]; exact lc_rf) (by omega)), if_pos (show wo = 26982 from lc_eq (by rw [← ex_5]; omega))]; decide)⟩, by rw [ht]; exact hP9, va_K.moved hW.alike hK9, hD9⟩, hS.F ht⟩) hS.2.2 dX10_sortOfSmall_35
    · have ic_4 : x_3.toInt = 0 := zi_eq c_4
      refine lv_sipush (v := 263) hx hb dX10_sortOfSmall_20 (by decide) ?_
      have hlit : Int32.toInt 263 = 263 := by decide
      have hP9 := hP.sub (ws' := []) [] rfl
      have hD9 := hD.sub (ws' := []) [] (by decide) rfl
      have hK9 := hK.sub (tys' := []) [] rfl
      exact W.iret (v := 263) hx hb hr (fun t ht hW => ⟨⟨263, (), rfl, ⟨by omega, (by unfold lx_kw; rw [if_neg (fun e9 => absurd (show x_1.toInt = 0 by rw [ex_1, e9]; exact lc_rf) (by omega)), if_pos (show wo = 26990 from lc_eq (by rw [← ex_3]; omega))]; decide)⟩, by rw [ht]; exact hP9, va_K.moved hW.alike hK9, hD9⟩, hS.F ht⟩) hS.2.2 dX10_sortOfSmall_23
  · have ic_2 : x_1.toInt = 0 := zi_eq c_2
    refine lv_sipush (v := 262) hx hb dX10_sortOfSmall_8 (by decide) ?_
    have hlit : Int32.toInt 262 = 262 := by decide
    have hP9 := hP.sub (ws' := []) [] rfl
    have hD9 := hD.sub (ws' := []) [] (by decide) rfl
    have hK9 := hK.sub (tys' := []) [] rfl
    exact W.iret (v := 262) hx hb hr (fun t ht hW => ⟨⟨262, (), rfl, ⟨by omega, (by unfold lx_kw; rw [if_pos (show wo = 7103860 from lc_eq (by rw [← ex_1]; omega))]; decide)⟩, by rw [ht]; exact hP9, va_K.moved hW.alike hK9, hD9⟩, hS.F ht⟩) hS.2.2 dX10_sortOfSmall_11
set_option maxHeartbeats 4000000 in
set_option maxRecDepth 100000 in
theorem c_X10_readWord_x (l : Launch) (dC : Nat → ClassId) (dI : Nat → Nat → Nat) (aK aV : Nat → Nat) (h0 : Nat) (ts : Nat) (tp : Nat) (tw : Nat) (t1 : ClassId) (t2 : ClassId) (t3 : ClassId) (z : Int32) (pa : Int32) (so : Int32) (pl : Int32) (wd : Int64) (gs : Nat → Int32) (gp : Nat → Int32) (gw : Nat → Int64) (bt : Nat) (bk : ClassId) (gt : Nat → Int32) (fr : Int32) (en : Int32) (sz : Nat) (hz0 : 0 ≤ z.toInt) (hz1 : z.toInt ≤ 2000) (hf0 : 0 ≤ fr.toInt) (hf1 : fr.toInt < en.toInt) (he : en.toInt ≤ 2000) (hwb : (97 ≤ (gt (Int32.toNatClampNeg fr)).toInt ∧ (gt (Int32.toNatClampNeg fr)).toInt ≤ 122 ∨ 65 ≤ (gt (Int32.toNatClampNeg fr)).toInt ∧ (gt (Int32.toNatClampNeg fr)).toInt ≤ 90 ∨ 48 ≤ (gt (Int32.toNatClampNeg fr)).toInt ∧ (gt (Int32.toNatClampNeg fr)).toInt ≤ 57)) : Met l yX10_readWord (Cond.code yX10_readWord cX10_readWord 11 (some .int) :: zw) ({ frames := 12, cells := 0, slots := 0, locals := 400 }) (va_Pc [.ref h0, .ref bt, .int fr, .int en] (zP dC dI aK aV sz [(t1, .int), (t2, .int), (t3, .long), (bk, .byte)] [(h0, .inr (10, [.ref ts, .ref tp, .ref tw, .int z, .int pa, .int so, .int pl, .long wd])), (ts, .inl (t1, 2001, .inl gs)), (tp, .inl (t2, 2001, .inl gp)), (tw, .inl (t3, 2001, .inr (.inl gw))), (bt, .inl (bk, 2000, .inl gt))])) (va_Qi (fun (r : Int32) (u : (Nat → Int32) × (Nat → Int64)) => match u with | (gs2, gw2) => (fr.toInt < r.toInt) ∧ (r.toInt ≤ en.toInt) ∧ (∃ (t : Int32) (v : Int64), gs2 = upd gs (Int32.toNatClampNeg z) t ∧ gw2 = vp_updL gw (Int32.toNatClampNeg z) v ∧ lx_wd gt en.toInt (Int32.toNatClampNeg fr) (Int32.toNatClampNeg r) t v) ∧ (∃ v : Int32, gs2 = upd gs (Int32.toNatClampNeg z) v ∧ v.toInt ≠ 261)) (fun u => match u with | (gs2, gw2) => zQ dC dI (va_A [(h0, .inr (10, [.ref ts, .ref tp, .ref tw, .int z, .int pa, .int so, .int pl, .long wd])), (ts, .inl (t1, 2001, .inl gs)), (tp, .inl (t2, 2001, .inl gp)), (tw, .inl (t3, 2001, .inr (.inl gw))), (bt, .inl (bk, 2000, .inl gt))] sz) [(t1, .int), (t2, .int), (t3, .long), (bk, .byte)] [(h0, .inr (10, [.ref ts, .ref tp, .ref tw, .int z, .int pa, .int so, .int pl, .long wd])), (ts, .inl (t1, 2001, .inl gs2)), (tp, .inl (t2, 2001, .inl gp)), (tw, .inl (t3, 2001, .inr (.inl gw2))), (bt, .inl (bk, 2000, .inl gt))]) (va_A [(h0, .inr (10, [.ref ts, .ref tp, .ref tw, .int z, .int pa, .int so, .int pl, .long wd])), (ts, .inl (t1, 2001, .inl gs)), (tp, .inl (t2, 2001, .inl gp)), (tw, .inl (t3, 2001, .inr (.inl gw))), (bt, .inl (bk, 2000, .inl gt))] sz)) 0 0 (va_A [(h0, .inr (10, [.ref ts, .ref tp, .ref tw, .int z, .int pa, .int so, .int pl, .long wd])), (ts, .inl (t1, 2001, .inl gs)), (tp, .inl (t2, 2001, .inl gp)), (tw, .inl (t3, 2001, .inr (.inl gw))), (bt, .inl (bk, 2000, .inl gt))] sz) := by
  refine Met.ofW (cc := cX10_readWord) (maxL := 11) (ret := (some .int)) (by decide) rfl ?_
  intro p e s m args below meth c s₁ B hml hv
  obtain ⟨rfl, hsz, hP, hK, hD0, hN, hT⟩ := hv
  have hx := B.exec
  have hb := B.bytes
  have hr := B.returns
  have hts := atoms_spec (ws := Cond.code yX10_readWord cX10_readWord 11 (some .int) :: zw) B.pre
  have hA : ∀ w ∈ zw, w.before _ s = true := fun w h => hts w (List.mem_cons_of_mem _ h)
  have hown : s.vm.findClass RX10 = some m.cls := findClass_of_methodNamed B.named
  have hlocks := B.notSynchronized
  subst hsz
  have hD := hD0.self (sz := s.heap.size)
  generalize hAe : va_A [(h0, .inr (10, [.ref ts, .ref tp, .ref tw, .int z, .int pa, .int so, .int pl, .long wd])), (ts, .inl (t1, 2001, .inl gs)), (tp, .inl (t2, 2001, .inl gp)), (tw, .inl (t3, 2001, .inr (.inl gw))), (bt, .inl (bk, 2000, .inl gt))] s.heap.size = A at hD hT ⊢
  have hAA : ∀ q : Nat, s.heap.size ≤ q → A q := fun q h => by rw [← hAe]; exact Or.inr h
  have hS : va_S A s.heap s.heap [] := va_S.rf
  have hl := lv_entry ([.ref h0, .ref bt, .int fr, .int en]) (n := 11) (Nat.le_of_ble_eq_true rfl)
  rw [lg_entry_eq]
  generalize (lg_sl ([.ref h0, .ref bt, .int fr, .int en]) ++ List.replicate (11 - (lg_sl ([.ref h0, .ref bt, .int fr, .int en])).length) Slot.unset).toArray = ls at hl ⊢
  have hl : lv_has ls 11 [(0, .ref h0), (1, .ref bt), (2, .int fr), (3, .int en)] := hl
  refine lv_iload_n hx hb dX10_readWord_0 rfl (lv_at hl 2 rfl) ?_
  refine lv_istore (lv' := [(4, .int fr), (0, .ref h0), (1, .ref bt), (2, .int fr), (3, .int en)]) hx hb dX10_readWord_1 hl (by decide) rfl (fun ls hl => ?_)
  refine lv_iconst (v := 0) hx hb dX10_readWord_3 (by decide) ?_
  refine lv_istore (lv' := [(5, .int 0), (4, .int fr), (0, .ref h0), (1, .ref bt), (2, .int fr), (3, .int en)]) hx hb dX10_readWord_4 hl (by decide) rfl (fun ls hl => ?_)
  refine lv_iconst (v := 0) hx hb dX10_readWord_6 (by decide) ?_
  refine lv_istore (lv' := [(6, .int 0), (5, .int 0), (4, .int fr), (0, .ref h0), (1, .ref bt), (2, .int fr), (3, .int en)]) hx hb dX10_readWord_7 hl (by decide) rfl (fun ls hl => ?_)
  refine lv_iconst (v := 0) hx hb dX10_readWord_9 (by decide) ?_
  refine lv_istore (lv' := [(7, .int 0), (6, .int 0), (5, .int 0), (4, .int fr), (0, .ref h0), (1, .ref bt), (2, .int fr), (3, .int en)]) hx hb dX10_readWord_10 hl (by decide) rfl (fun ls hl => ?_)
  refine lv_lconst (v := 0) hx hb dX10_readWord_12 (by decide) ?_
  refine lv_lstore (lv' := [(8, .long 0), (7, .int 0), (6, .int 0), (5, .int 0), (4, .int fr), (0, .ref h0), (1, .ref bt), (2, .int fr), (3, .int en)]) hx hb dX10_readWord_13 hl (by decide) rfl (fun ls hl => ?_)
  have loop_15 : ∀ (n9 : Nat) (to : Int32) (sm : Int32) (di : Int32) (nu : Int32) (by_ : Int64) (H : Heap) (locs : List Loc) (ls : Array Slot), (en.toInt - to.toInt + 1).toNat ≤ n9 → fr.toInt ≤ to.toInt → to.toInt ≤ en.toInt → 0 ≤ sm.toInt → sm.toInt ≤ to.toInt → 0 ≤ di.toInt → di.toInt ≤ to.toInt → (∀ k : Nat, Int32.toInt fr ≤ (k : Int) → (k : Int) < Int32.toInt to → lx_wb (gt k).toInt) → Int32.toInt sm = lx_cn 97 122 gt (Int32.toNatClampNeg fr) (Int32.toNatClampNeg to - Int32.toNatClampNeg fr) → Int32.toInt di = lx_cn 48 57 gt (Int32.toNatClampNeg fr) (Int32.toNatClampNeg to - Int32.toNatClampNeg fr) → by_ = lx_w gt (Int32.toNatClampNeg fr) (Int32.toNatClampNeg to - Int32.toNatClampNeg fr) → lx_nq gt (Int32.toNatClampNeg fr) (Int32.toNatClampNeg to - Int32.toNatClampNeg fr) nu → va_P (dC, dI) vwCl [(h0, .inr (10, [.ref ts, .ref tp, .ref tw, .int z, .int pa, .int so, .int pl, .long wd])), (ts, .inl (t1, 2001, .inl gs)), (tp, .inl (t2, 2001, .inl gp)), (tw, .inl (t3, 2001, .inr (.inl gw))), (bt, .inl (bk, 2000, .inl gt))] H → va_D A [(h0, .inr (10, [.ref ts, .ref tp, .ref tw, .int z, .int pa, .int so, .int pl, .long wd])), (ts, .inl (t1, 2001, .inl gs)), (tp, .inl (t2, 2001, .inl gp)), (tw, .inl (t3, 2001, .inr (.inl gw))), (bt, .inl (bk, 2000, .inl gt))] → va_S A s.heap H locs → lv_has ls 11 [(8, .long by_), (7, .int nu), (6, .int di), (5, .int sm), (4, .int to), (0, .ref h0), (1, .ref bt), (2, .int fr), (3, .int en)] → W p l e (headSpec (Cond.code yX10_readWord cX10_readWord 11 (some .int) :: zw) ({ frames := 12, cells := 0, slots := 0, locals := 400 })).room s m #[.ref h0, .ref bt, .int fr, .int en] below meth c H locs 0 0 (MQ below (va_Qi (fun (r : Int32) (u : (Nat → Int32) × (Nat → Int64)) => match u with | (gs2, gw2) => (fr.toInt < r.toInt) ∧ (r.toInt ≤ en.toInt) ∧ (∃ (t : Int32) (v : Int64), gs2 = upd gs (Int32.toNatClampNeg z) t ∧ gw2 = vp_updL gw (Int32.toNatClampNeg z) v ∧ lx_wd gt en.toInt (Int32.toNatClampNeg fr) (Int32.toNatClampNeg r) t v) ∧ (∃ v : Int32, gs2 = upd gs (Int32.toNatClampNeg z) v ∧ v.toInt ≠ 261)) (fun u => match u with | (gs2, gw2) => zQ dC dI A [(t1, .int), (t2, .int), (t3, .long), (bk, .byte)] [(h0, .inr (10, [.ref ts, .ref tp, .ref tw, .int z, .int pa, .int so, .int pl, .long wd])), (ts, .inl (t1, 2001, .inl gs2)), (tp, .inl (t2, 2001, .inl gp)), (tw, .inl (t3, 2001, .inr (.inl gw2))), (bt, .inl (bk, 2000, .inl gt))]) A) #[.ref h0, .ref bt, .int fr, .int en] s 0 0 A) (F0 m 15 ls []) := by
    intro n9
    induction n9 with
    | zero => intro to sm di nu by_ H locs ls hm ht0 ht1 hs0 hs1 hd0 hd1 hall hcs hcd hw8 hnq; exfalso; omega
    | succ n9 ih =>
      intro to sm di nu by_ H locs ls hm ht0 ht1 hs0 hs1 hd0 hd1 hall hcs hcd hw8 hnq hP hD hS hl
      refine lv_iload hx hb dX10_readWord_15 (lv_at hl 4 rfl) ?_
      refine lv_iload_n hx hb dX10_readWord_17 rfl (lv_at hl 8 rfl) ?_
      refine lv_icmp_ge (tgt := 94) hx hb dX10_readWord_18 (by decide) (fun c_1 => ?_) (fun c_1 => ?_)
      · have ic_1 : en.toInt ≤ to.toInt := zi_le c_1
        have hlt9 : fr.toInt < to.toInt := by omega
        have hnto := zn_nat (x := to) (by omega)
        have hnfr := zn_nat (x := fr) (by omega)
        refine lv_iload hx hb dX10_readWord_94 (lv_at hl 4 rfl) ?_
        refine lv_iload_n hx hb dX10_readWord_96 rfl (lv_at hl 7 rfl) ?_
        refine lv_isub hx hb dX10_readWord_97 ?_
        refine lv_topi (fun x_2 ex_2 => ?_)
        have ix_2 : x_2.toInt = to.toInt - fr.toInt := by rw [ex_2]; exact zi_subc rfl (by omega) (by omega)
        refine lv_istore (lv' := [(10, .int x_2), (8, .long by_), (7, .int nu), (6, .int di), (5, .int sm), (4, .int to), (0, .ref h0), (1, .ref bt), (2, .int fr), (3, .int en)]) hx hb dX10_readWord_98 hl (by decide) rfl (fun ls hl => ?_)
        refine lv_iload hx hb dX10_readWord_100 (lv_at hl 3 rfl) ?_
        refine lv_iload hx hb dX10_readWord_102 (lv_at hl 0 rfl) ?_
        refine lv_icmp_ne (tgt := 135) hx hb dX10_readWord_104 (by decide) (fun c_3 => ?_) (fun c_3 => ?_)
        · have ic_3 : di.toInt ≠ x_2.toInt := zi_ne c_3
          refine lv_iload hx hb dX10_readWord_135 (lv_at hl 0 rfl) ?_
          refine lv_bipush (v := 8) hx hb dX10_readWord_137 (by decide) ?_
          refine lv_icmp_le (tgt := 157) hx hb dX10_readWord_139 (by decide) (fun c_4 => ?_) (fun c_4 => ?_)
          · have ic_4 : x_2.toInt ≤ 8 := zi_le c_4
            refine lv_iload hx hb dX10_readWord_157 (lv_at hl 4 rfl) ?_
            refine lv_iload hx hb dX10_readWord_159 (lv_at hl 0 rfl) ?_
            refine lv_icmp_ne (tgt := 181) hx hb dX10_readWord_161 (by decide) (fun c_5 => ?_) (fun c_5 => ?_)
            · have ic_5 : sm.toInt ≠ x_2.toInt := zi_ne c_5
              refine lv_aload_n hx hb dX10_readWord_181 rfl (lv_at hl 6 rfl) ?_
              refine va_get (D := (dC, dI)) (ci := 10) (v := .ref ts) (C := RX10) (T := TX10) (N := 8) hx hb hA zin_X10 hown hK hP 0 rfl rfl 0 (by decide) (hA _ wi_346) (fun _ h9 => h9) rfl dX10_readWord_182 ?_
              refine lv_aload_n hx hb dX10_readWord_185 rfl (lv_at hl 6 rfl) ?_
              refine va_get (D := (dC, dI)) (ci := 10) (v := .int z) (C := RX10) (T := TX10) (N := 8) hx hb hA zin_X10 hown hK hP 0 rfl rfl 3 (by decide) (hA _ wi_349) (fun _ h9 => h9) rfl dX10_readWord_186 ?_
              refine lv_iload hx hb dX10_readWord_189 (lv_at hl 4 rfl) ?_
              refine lv_iload hx hb dX10_readWord_191 (lv_at hl 0 rfl) ?_
              refine lv_iconst (v := 1) hx hb dX10_readWord_193 (by decide) ?_
              refine lv_isub hx hb dX10_readWord_194 ?_
              refine lv_topi (fun x_6 ex_6 => ?_)
              have ix_6 : x_6.toInt = x_2.toInt - 1 := by rw [ex_6]; exact zi_subc (by decide) (by omega) (by omega)
              refine lv_icmp_ne (tgt := 213) hx hb dX10_readWord_195 (by decide) (fun c_7 => ?_) (fun c_7 => ?_)
              · have ic_7 : sm.toInt ≠ x_6.toInt := zi_ne c_7
                refine lv_sipush (v := 257) hx hb dX10_readWord_213 (by decide) ?_
                refine va_iast hx hb hK hP hD hS 1 0 rfl rfl (vp_in_iff.mpr ⟨by omega, by omega⟩) dX10_readWord_216 (fun H locs hP hD hS => ?_)
                obtain ⟨f_8, ef_8⟩ : ∃ gz9 : Nat → Int32, gz9 = upd gs (Int32.toNatClampNeg z) 257 := ⟨_, rfl⟩
                rw [← ef_8] at hP hD
                have hP : va_P (dC, dI) vwCl [(h0, .inr (10, [.ref ts, .ref tp, .ref tw, .int z, .int pa, .int so, .int pl, .long wd])), (ts, .inl (t1, 2001, .inl f_8)), (tp, .inl (t2, 2001, .inl gp)), (tw, .inl (t3, 2001, .inr (.inl gw))), (bt, .inl (bk, 2000, .inl gt))] H := hP
                have hD : va_D A [(h0, .inr (10, [.ref ts, .ref tp, .ref tw, .int z, .int pa, .int so, .int pl, .long wd])), (ts, .inl (t1, 2001, .inl f_8)), (tp, .inl (t2, 2001, .inl gp)), (tw, .inl (t3, 2001, .inr (.inl gw))), (bt, .inl (bk, 2000, .inl gt))] := hD
                refine lv_aload_n hx hb dX10_readWord_217 rfl (lv_at hl 6 rfl) ?_
                refine va_get (D := (dC, dI)) (ci := 10) (v := .ref tw) (C := RX10) (T := TX10) (N := 8) hx hb hA zin_X10 hown hK hP 0 rfl rfl 2 (by decide) (hA _ wi_348) (fun _ h9 => h9) rfl dX10_readWord_218 ?_
                refine lv_aload_n hx hb dX10_readWord_221 rfl (lv_at hl 6 rfl) ?_
                refine va_get (D := (dC, dI)) (ci := 10) (v := .int z) (C := RX10) (T := TX10) (N := 8) hx hb hA zin_X10 hown hK hP 0 rfl rfl 3 (by decide) (hA _ wi_349) (fun _ h9 => h9) rfl dX10_readWord_222 ?_
                refine lv_iload hx hb dX10_readWord_225 (lv_at hl 3 rfl) ?_
                refine lv_iload hx hb dX10_readWord_227 (lv_at hl 0 rfl) ?_
                refine lv_icmp_ne (tgt := 238) hx hb dX10_readWord_229 (by decide) (fun c_9 => ?_) (fun c_9 => ?_)
                · have ic_9 : di.toInt ≠ x_2.toInt := zi_ne c_9
                  refine lv_lload hx hb dX10_readWord_238 (lv_at hl 1 rfl) ?_
                  refine va_last hx hb hK hP hD hS 3 2 rfl rfl (vp_in_iff.mpr ⟨by omega, by omega⟩) dX10_readWord_240 (fun H locs hP hD hS => ?_)
                  obtain ⟨f_10, ef_10⟩ : ∃ gz9 : Nat → Int64, gz9 = vp_updL gw (Int32.toNatClampNeg z) by_ := ⟨_, rfl⟩
                  rw [← ef_10] at hP hD
                  have hP : va_P (dC, dI) vwCl [(h0, .inr (10, [.ref ts, .ref tp, .ref tw, .int z, .int pa, .int so, .int pl, .long wd])), (ts, .inl (t1, 2001, .inl f_8)), (tp, .inl (t2, 2001, .inl gp)), (tw, .inl (t3, 2001, .inr (.inl f_10))), (bt, .inl (bk, 2000, .inl gt))] H := hP
                  have hD : va_D A [(h0, .inr (10, [.ref ts, .ref tp, .ref tw, .int z, .int pa, .int so, .int pl, .long wd])), (ts, .inl (t1, 2001, .inl f_8)), (tp, .inl (t2, 2001, .inl gp)), (tw, .inl (t3, 2001, .inr (.inl f_10))), (bt, .inl (bk, 2000, .inl gt))] := hD
                  refine lv_iload hx hb dX10_readWord_241 (lv_at hl 5 rfl) ?_
                  have hP9 := hP.sub (ws' := [(h0, .inr (10, [.ref ts, .ref tp, .ref tw, .int z, .int pa, .int so, .int pl, .long wd])), (ts, .inl (t1, 2001, .inl f_8)), (tp, .inl (t2, 2001, .inl gp)), (tw, .inl (t3, 2001, .inr (.inl f_10))), (bt, .inl (bk, 2000, .inl gt))]) [0, 1, 2, 3, 4] rfl
                  have hD9 := hD.sub (ws' := [(h0, .inr (10, [.ref ts, .ref tp, .ref tw, .int z, .int pa, .int so, .int pl, .long wd])), (ts, .inl (t1, 2001, .inl f_8)), (tp, .inl (t2, 2001, .inl gp)), (tw, .inl (t3, 2001, .inr (.inl f_10))), (bt, .inl (bk, 2000, .inl gt))]) [0, 1, 2, 3, 4] (by decide) rfl
                  have hK9 := hK.sub (tys' := [(t1, .int), (t2, .int), (t3, .long), (bk, .byte)]) [0, 1, 2, 3] rfl
                  exact W.iret (v := to) hx hb hr (fun t ht hW => ⟨⟨to, (f_8, f_10), rfl, ⟨by omega, by omega, ⟨_, _, ef_8, ef_10, ⟨by omega, by omega, fun k h1 h2 => hall k (by omega) (by omega), Or.inl (by omega), (by rw [← hcs, ← hcd, ← hw8, show ((Int32.toNatClampNeg to : Nat) : Int) - (Int32.toNatClampNeg fr : Nat) = x_2.toInt by omega]; exact (show Int32.toInt 257 = 257 from by decide).trans (lx_st_6 (by omega) (by omega) (by omega) (by omega))), (fun g => absurd g (by have h9 : Int32.toInt 257 = 257 := (by decide); omega)), (fun g => absurd g (by have h9 : Int32.toInt 257 = 257 := (by decide); omega))⟩⟩, ⟨_, ef_8, by decide⟩⟩, by rw [ht]; exact hP9, va_K.moved hW.alike hK9, hD9⟩, hS.F ht⟩) hS.2.2 dX10_readWord_243
                · have ic_9 : di.toInt = x_2.toInt := zi_eq c_9
                  refine lv_iload hx hb dX10_readWord_232 (lv_at hl 2 rfl) ?_
                  obtain ⟨x_11, ex_11⟩ : ∃ z : Int64, z = Int32.toInt64 nu := ⟨_, rfl⟩
                  refine lv_i2l (v := x_11) hx hb dX10_readWord_234 ex_11.symm ?_
                  refine lv_goto (tgt := 240) hx hb dX10_readWord_235 (by decide) ?_
                  refine va_last hx hb hK hP hD hS 3 2 rfl rfl (vp_in_iff.mpr ⟨by omega, by omega⟩) dX10_readWord_240 (fun H locs hP hD hS => ?_)
                  obtain ⟨f_12, ef_12⟩ : ∃ gz9 : Nat → Int64, gz9 = vp_updL gw (Int32.toNatClampNeg z) x_11 := ⟨_, rfl⟩
                  rw [← ef_12] at hP hD
                  have hP : va_P (dC, dI) vwCl [(h0, .inr (10, [.ref ts, .ref tp, .ref tw, .int z, .int pa, .int so, .int pl, .long wd])), (ts, .inl (t1, 2001, .inl f_8)), (tp, .inl (t2, 2001, .inl gp)), (tw, .inl (t3, 2001, .inr (.inl f_12))), (bt, .inl (bk, 2000, .inl gt))] H := hP
                  have hD : va_D A [(h0, .inr (10, [.ref ts, .ref tp, .ref tw, .int z, .int pa, .int so, .int pl, .long wd])), (ts, .inl (t1, 2001, .inl f_8)), (tp, .inl (t2, 2001, .inl gp)), (tw, .inl (t3, 2001, .inr (.inl f_12))), (bt, .inl (bk, 2000, .inl gt))] := hD
                  refine lv_iload hx hb dX10_readWord_241 (lv_at hl 5 rfl) ?_
                  have hP9 := hP.sub (ws' := [(h0, .inr (10, [.ref ts, .ref tp, .ref tw, .int z, .int pa, .int so, .int pl, .long wd])), (ts, .inl (t1, 2001, .inl f_8)), (tp, .inl (t2, 2001, .inl gp)), (tw, .inl (t3, 2001, .inr (.inl f_12))), (bt, .inl (bk, 2000, .inl gt))]) [0, 1, 2, 3, 4] rfl
                  have hD9 := hD.sub (ws' := [(h0, .inr (10, [.ref ts, .ref tp, .ref tw, .int z, .int pa, .int so, .int pl, .long wd])), (ts, .inl (t1, 2001, .inl f_8)), (tp, .inl (t2, 2001, .inl gp)), (tw, .inl (t3, 2001, .inr (.inl f_12))), (bt, .inl (bk, 2000, .inl gt))]) [0, 1, 2, 3, 4] (by decide) rfl
                  have hK9 := hK.sub (tys' := [(t1, .int), (t2, .int), (t3, .long), (bk, .byte)]) [0, 1, 2, 3] rfl
                  exact W.iret (v := to) hx hb hr (fun t ht hW => ⟨⟨to, (f_8, f_12), rfl, ⟨by omega, by omega, ⟨_, _, ef_8, ef_12, ⟨by omega, by omega, fun k h1 h2 => hall k (by omega) (by omega), Or.inl (by omega), (by rw [← hcs, ← hcd, ← hw8, show ((Int32.toNatClampNeg to : Nat) : Int) - (Int32.toNatClampNeg fr : Nat) = x_2.toInt by omega]; exact (show Int32.toInt 257 = 257 from by decide).trans (lx_st_6 (by omega) (by omega) (by omega) (by omega))), (fun g => absurd g (by have h9 : Int32.toInt 257 = 257 := (by decide); omega)), (fun g => absurd g (by have h9 : Int32.toInt 257 = 257 := (by decide); omega))⟩⟩, ⟨_, ef_8, by decide⟩⟩, by rw [ht]; exact hP9, va_K.moved hW.alike hK9, hD9⟩, hS.F ht⟩) hS.2.2 dX10_readWord_243
              · have ic_7 : sm.toInt = x_6.toInt := zi_eq c_7
                refine lv_aload_n hx hb dX10_readWord_198 rfl (lv_at hl 7 rfl) ?_
                refine lv_iload_n hx hb dX10_readWord_199 rfl (lv_at hl 8 rfl) ?_
                refine va_bald hx hb hK hP 4 3 rfl rfl (vp_in_iff.mpr ⟨by omega, by omega⟩) dX10_readWord_200 ?_
                refine lv_topi (fun x_13 ex_13 => ?_)
                have ix_13 : x_13.toInt = (gt (Int32.toNatClampNeg fr)).toInt := by rw [ex_13]
                have hPc := hP.sub (ws' := []) [] rfl
                have hDc := hD.sub (ws' := []) [] (by decide) rfl
                have hKc := hK.sub (tys' := []) [] rfl
                have hFc := va_free (wc := []) hD hS hAA [] rfl
                refine va_calli (va_runS (As := [.int x_13]) (rest := [.int z, .ref ts]) ⟨hx, hb, hml, hown, hA⟩ (c_X10_isGreat_x l dC dI aK aV x_13 H.size) (va_cwS 1 hA (zw_S wi_667 wi_668 wi_137 (zw_good wi_669)) rfl rfl rfl (by decide +kernel) ⟨(Nat.le_of_ble_eq_true rfl), (Nat.le_of_ble_eq_true rfl)⟩) ⟨zP_blind, zz_pre hKc hPc hDc hN hT hS hFc⟩ rfl rfl hl.1 rfl (lv_room (Nat.le_of_ble_eq_true rfl)) dX10_readWord_201 ⟨(Nat.le_of_ble_eq_true rfl), (Nat.le_of_ble_eq_true rfl)⟩) hS (fun q _ h => hFc q h) hFc (fun r_14 u t H1 locs ht hvm hw hB hz1 hk1 hS => ?_)
                obtain ⟨hP1, hK1, hD1⟩ := hB
                rw [ht] at hP1
                have hK1 := va_K.moved hvm.symm hK1
                obtain ⟨hP, hD⟩ := va_join (wr := [(h0, .inr (10, [.ref ts, .ref tp, .ref tw, .int z, .int pa, .int so, .int pl, .long wd])), (ts, .inl (t1, 2001, .inl gs)), (tp, .inl (t2, 2001, .inl gp)), (tw, .inl (t3, 2001, .inr (.inl gw))), (bt, .inl (bk, 2000, .inl gt))]) (w1 := []) hP hD [] [0, 1, 2, 3, 4] rfl rfl (by decide) (by decide) hk1 hFc hP1 hD1
                have hK := (hK.sub (tys' := [(t1, .int), (t2, .int), (t3, .long), (bk, .byte)]) [0, 1, 2, 3] rfl).app hK1
                generalize H1 = H at hP hS ⊢
                have hP : va_P (dC, dI) vwCl [(h0, .inr (10, [.ref ts, .ref tp, .ref tw, .int z, .int pa, .int so, .int pl, .long wd])), (ts, .inl (t1, 2001, .inl gs)), (tp, .inl (t2, 2001, .inl gp)), (tw, .inl (t3, 2001, .inr (.inl gw))), (bt, .inl (bk, 2000, .inl gt))] H := hP
                have hD : va_D A [(h0, .inr (10, [.ref ts, .ref tp, .ref tw, .int z, .int pa, .int so, .int pl, .long wd])), (ts, .inl (t1, 2001, .inl gs)), (tp, .inl (t2, 2001, .inl gp)), (tw, .inl (t3, 2001, .inr (.inl gw))), (bt, .inl (bk, 2000, .inl gt))] := hD
                have hK : va_K (dC, dI) vwCl [(t1, .int), (t2, .int), (t3, .long), (bk, .byte)] s := hK
                have hw_r_14 := hw
                try dsimp only at hw_r_14
                have hq_15 := hw
                refine lv_if_eq (tgt := 213) hx hb dX10_readWord_204 (by decide) (fun c_16 => ?_) (fun c_16 => ?_)
                · have ic_16 : r_14.toInt = 0 := zi_eq c_16
                  refine lv_sipush (v := 257) hx hb dX10_readWord_213 (by decide) ?_
                  refine va_iast hx hb hK hP hD hS 1 0 rfl rfl (vp_in_iff.mpr ⟨by omega, by omega⟩) dX10_readWord_216 (fun H locs hP hD hS => ?_)
                  obtain ⟨f_17, ef_17⟩ : ∃ gz9 : Nat → Int32, gz9 = upd gs (Int32.toNatClampNeg z) 257 := ⟨_, rfl⟩
                  rw [← ef_17] at hP hD
                  have hP : va_P (dC, dI) vwCl [(h0, .inr (10, [.ref ts, .ref tp, .ref tw, .int z, .int pa, .int so, .int pl, .long wd])), (ts, .inl (t1, 2001, .inl f_17)), (tp, .inl (t2, 2001, .inl gp)), (tw, .inl (t3, 2001, .inr (.inl gw))), (bt, .inl (bk, 2000, .inl gt))] H := hP
                  have hD : va_D A [(h0, .inr (10, [.ref ts, .ref tp, .ref tw, .int z, .int pa, .int so, .int pl, .long wd])), (ts, .inl (t1, 2001, .inl f_17)), (tp, .inl (t2, 2001, .inl gp)), (tw, .inl (t3, 2001, .inr (.inl gw))), (bt, .inl (bk, 2000, .inl gt))] := hD
                  refine lv_aload_n hx hb dX10_readWord_217 rfl (lv_at hl 6 rfl) ?_
                  refine va_get (D := (dC, dI)) (ci := 10) (v := .ref tw) (C := RX10) (T := TX10) (N := 8) hx hb hA zin_X10 hown hK hP 0 rfl rfl 2 (by decide) (hA _ wi_348) (fun _ h9 => h9) rfl dX10_readWord_218 ?_
                  refine lv_aload_n hx hb dX10_readWord_221 rfl (lv_at hl 6 rfl) ?_
                  refine va_get (D := (dC, dI)) (ci := 10) (v := .int z) (C := RX10) (T := TX10) (N := 8) hx hb hA zin_X10 hown hK hP 0 rfl rfl 3 (by decide) (hA _ wi_349) (fun _ h9 => h9) rfl dX10_readWord_222 ?_
                  refine lv_iload hx hb dX10_readWord_225 (lv_at hl 3 rfl) ?_
                  refine lv_iload hx hb dX10_readWord_227 (lv_at hl 0 rfl) ?_
                  refine lv_icmp_ne (tgt := 238) hx hb dX10_readWord_229 (by decide) (fun c_18 => ?_) (fun c_18 => ?_)
                  · have ic_18 : di.toInt ≠ x_2.toInt := zi_ne c_18
                    refine lv_lload hx hb dX10_readWord_238 (lv_at hl 1 rfl) ?_
                    refine va_last hx hb hK hP hD hS 3 2 rfl rfl (vp_in_iff.mpr ⟨by omega, by omega⟩) dX10_readWord_240 (fun H locs hP hD hS => ?_)
                    obtain ⟨f_19, ef_19⟩ : ∃ gz9 : Nat → Int64, gz9 = vp_updL gw (Int32.toNatClampNeg z) by_ := ⟨_, rfl⟩
                    rw [← ef_19] at hP hD
                    have hP : va_P (dC, dI) vwCl [(h0, .inr (10, [.ref ts, .ref tp, .ref tw, .int z, .int pa, .int so, .int pl, .long wd])), (ts, .inl (t1, 2001, .inl f_17)), (tp, .inl (t2, 2001, .inl gp)), (tw, .inl (t3, 2001, .inr (.inl f_19))), (bt, .inl (bk, 2000, .inl gt))] H := hP
                    have hD : va_D A [(h0, .inr (10, [.ref ts, .ref tp, .ref tw, .int z, .int pa, .int so, .int pl, .long wd])), (ts, .inl (t1, 2001, .inl f_17)), (tp, .inl (t2, 2001, .inl gp)), (tw, .inl (t3, 2001, .inr (.inl f_19))), (bt, .inl (bk, 2000, .inl gt))] := hD
                    refine lv_iload hx hb dX10_readWord_241 (lv_at hl 5 rfl) ?_
                    have hP9 := hP.sub (ws' := [(h0, .inr (10, [.ref ts, .ref tp, .ref tw, .int z, .int pa, .int so, .int pl, .long wd])), (ts, .inl (t1, 2001, .inl f_17)), (tp, .inl (t2, 2001, .inl gp)), (tw, .inl (t3, 2001, .inr (.inl f_19))), (bt, .inl (bk, 2000, .inl gt))]) [0, 1, 2, 3, 4] rfl
                    have hD9 := hD.sub (ws' := [(h0, .inr (10, [.ref ts, .ref tp, .ref tw, .int z, .int pa, .int so, .int pl, .long wd])), (ts, .inl (t1, 2001, .inl f_17)), (tp, .inl (t2, 2001, .inl gp)), (tw, .inl (t3, 2001, .inr (.inl f_19))), (bt, .inl (bk, 2000, .inl gt))]) [0, 1, 2, 3, 4] (by decide) rfl
                    have hK9 := hK.sub (tys' := [(t1, .int), (t2, .int), (t3, .long), (bk, .byte)]) [0, 1, 2, 3] rfl
                    exact W.iret (v := to) hx hb hr (fun t ht hW => ⟨⟨to, (f_17, f_19), rfl, ⟨by omega, by omega, ⟨_, _, ef_17, ef_19, ⟨by omega, by omega, fun k h1 h2 => hall k (by omega) (by omega), Or.inl (by omega), (by rw [← hcs, ← hcd, ← hw8, show ((Int32.toNatClampNeg to : Nat) : Int) - (Int32.toNatClampNeg fr : Nat) = x_2.toInt by omega]; exact (show Int32.toInt 257 = 257 from by decide).trans (lx_st_6 (by omega) (by omega) (by omega) (by omega))), (fun g => absurd g (by have h9 : Int32.toInt 257 = 257 := (by decide); omega)), (fun g => absurd g (by have h9 : Int32.toInt 257 = 257 := (by decide); omega))⟩⟩, ⟨_, ef_17, by decide⟩⟩, by rw [ht]; exact hP9, va_K.moved hW.alike hK9, hD9⟩, hS.F ht⟩) hS.2.2 dX10_readWord_243
                  · have ic_18 : di.toInt = x_2.toInt := zi_eq c_18
                    refine lv_iload hx hb dX10_readWord_232 (lv_at hl 2 rfl) ?_
                    obtain ⟨x_20, ex_20⟩ : ∃ z : Int64, z = Int32.toInt64 nu := ⟨_, rfl⟩
                    refine lv_i2l (v := x_20) hx hb dX10_readWord_234 ex_20.symm ?_
                    refine lv_goto (tgt := 240) hx hb dX10_readWord_235 (by decide) ?_
                    refine va_last hx hb hK hP hD hS 3 2 rfl rfl (vp_in_iff.mpr ⟨by omega, by omega⟩) dX10_readWord_240 (fun H locs hP hD hS => ?_)
                    obtain ⟨f_21, ef_21⟩ : ∃ gz9 : Nat → Int64, gz9 = vp_updL gw (Int32.toNatClampNeg z) x_20 := ⟨_, rfl⟩
                    rw [← ef_21] at hP hD
                    have hP : va_P (dC, dI) vwCl [(h0, .inr (10, [.ref ts, .ref tp, .ref tw, .int z, .int pa, .int so, .int pl, .long wd])), (ts, .inl (t1, 2001, .inl f_17)), (tp, .inl (t2, 2001, .inl gp)), (tw, .inl (t3, 2001, .inr (.inl f_21))), (bt, .inl (bk, 2000, .inl gt))] H := hP
                    have hD : va_D A [(h0, .inr (10, [.ref ts, .ref tp, .ref tw, .int z, .int pa, .int so, .int pl, .long wd])), (ts, .inl (t1, 2001, .inl f_17)), (tp, .inl (t2, 2001, .inl gp)), (tw, .inl (t3, 2001, .inr (.inl f_21))), (bt, .inl (bk, 2000, .inl gt))] := hD
                    refine lv_iload hx hb dX10_readWord_241 (lv_at hl 5 rfl) ?_
                    have hP9 := hP.sub (ws' := [(h0, .inr (10, [.ref ts, .ref tp, .ref tw, .int z, .int pa, .int so, .int pl, .long wd])), (ts, .inl (t1, 2001, .inl f_17)), (tp, .inl (t2, 2001, .inl gp)), (tw, .inl (t3, 2001, .inr (.inl f_21))), (bt, .inl (bk, 2000, .inl gt))]) [0, 1, 2, 3, 4] rfl
                    have hD9 := hD.sub (ws' := [(h0, .inr (10, [.ref ts, .ref tp, .ref tw, .int z, .int pa, .int so, .int pl, .long wd])), (ts, .inl (t1, 2001, .inl f_17)), (tp, .inl (t2, 2001, .inl gp)), (tw, .inl (t3, 2001, .inr (.inl f_21))), (bt, .inl (bk, 2000, .inl gt))]) [0, 1, 2, 3, 4] (by decide) rfl
                    have hK9 := hK.sub (tys' := [(t1, .int), (t2, .int), (t3, .long), (bk, .byte)]) [0, 1, 2, 3] rfl
                    exact W.iret (v := to) hx hb hr (fun t ht hW => ⟨⟨to, (f_17, f_21), rfl, ⟨by omega, by omega, ⟨_, _, ef_17, ef_21, ⟨by omega, by omega, fun k h1 h2 => hall k (by omega) (by omega), Or.inl (by omega), (by rw [← hcs, ← hcd, ← hw8, show ((Int32.toNatClampNeg to : Nat) : Int) - (Int32.toNatClampNeg fr : Nat) = x_2.toInt by omega]; exact (show Int32.toInt 257 = 257 from by decide).trans (lx_st_6 (by omega) (by omega) (by omega) (by omega))), (fun g => absurd g (by have h9 : Int32.toInt 257 = 257 := (by decide); omega)), (fun g => absurd g (by have h9 : Int32.toInt 257 = 257 := (by decide); omega))⟩⟩, ⟨_, ef_17, by decide⟩⟩, by rw [ht]; exact hP9, va_K.moved hW.alike hK9, hD9⟩, hS.F ht⟩) hS.2.2 dX10_readWord_243
                · have ic_16 : r_14.toInt ≠ 0 := zi_ne c_16
                  refine lv_sipush (v := 259) hx hb dX10_readWord_207 (by decide) ?_
                  refine lv_goto (tgt := 216) hx hb dX10_readWord_210 (by decide) ?_
                  refine va_iast hx hb hK hP hD hS 1 0 rfl rfl (vp_in_iff.mpr ⟨by omega, by omega⟩) dX10_readWord_216 (fun H locs hP hD hS => ?_)
                  obtain ⟨f_22, ef_22⟩ : ∃ gz9 : Nat → Int32, gz9 = upd gs (Int32.toNatClampNeg z) 259 := ⟨_, rfl⟩
                  rw [← ef_22] at hP hD
                  have hP : va_P (dC, dI) vwCl [(h0, .inr (10, [.ref ts, .ref tp, .ref tw, .int z, .int pa, .int so, .int pl, .long wd])), (ts, .inl (t1, 2001, .inl f_22)), (tp, .inl (t2, 2001, .inl gp)), (tw, .inl (t3, 2001, .inr (.inl gw))), (bt, .inl (bk, 2000, .inl gt))] H := hP
                  have hD : va_D A [(h0, .inr (10, [.ref ts, .ref tp, .ref tw, .int z, .int pa, .int so, .int pl, .long wd])), (ts, .inl (t1, 2001, .inl f_22)), (tp, .inl (t2, 2001, .inl gp)), (tw, .inl (t3, 2001, .inr (.inl gw))), (bt, .inl (bk, 2000, .inl gt))] := hD
                  refine lv_aload_n hx hb dX10_readWord_217 rfl (lv_at hl 6 rfl) ?_
                  refine va_get (D := (dC, dI)) (ci := 10) (v := .ref tw) (C := RX10) (T := TX10) (N := 8) hx hb hA zin_X10 hown hK hP 0 rfl rfl 2 (by decide) (hA _ wi_348) (fun _ h9 => h9) rfl dX10_readWord_218 ?_
                  refine lv_aload_n hx hb dX10_readWord_221 rfl (lv_at hl 6 rfl) ?_
                  refine va_get (D := (dC, dI)) (ci := 10) (v := .int z) (C := RX10) (T := TX10) (N := 8) hx hb hA zin_X10 hown hK hP 0 rfl rfl 3 (by decide) (hA _ wi_349) (fun _ h9 => h9) rfl dX10_readWord_222 ?_
                  refine lv_iload hx hb dX10_readWord_225 (lv_at hl 3 rfl) ?_
                  refine lv_iload hx hb dX10_readWord_227 (lv_at hl 0 rfl) ?_
                  refine lv_icmp_ne (tgt := 238) hx hb dX10_readWord_229 (by decide) (fun c_23 => ?_) (fun c_23 => ?_)
                  · have ic_23 : di.toInt ≠ x_2.toInt := zi_ne c_23
                    refine lv_lload hx hb dX10_readWord_238 (lv_at hl 1 rfl) ?_
                    refine va_last hx hb hK hP hD hS 3 2 rfl rfl (vp_in_iff.mpr ⟨by omega, by omega⟩) dX10_readWord_240 (fun H locs hP hD hS => ?_)
                    obtain ⟨f_24, ef_24⟩ : ∃ gz9 : Nat → Int64, gz9 = vp_updL gw (Int32.toNatClampNeg z) by_ := ⟨_, rfl⟩
                    rw [← ef_24] at hP hD
                    have hP : va_P (dC, dI) vwCl [(h0, .inr (10, [.ref ts, .ref tp, .ref tw, .int z, .int pa, .int so, .int pl, .long wd])), (ts, .inl (t1, 2001, .inl f_22)), (tp, .inl (t2, 2001, .inl gp)), (tw, .inl (t3, 2001, .inr (.inl f_24))), (bt, .inl (bk, 2000, .inl gt))] H := hP
                    have hD : va_D A [(h0, .inr (10, [.ref ts, .ref tp, .ref tw, .int z, .int pa, .int so, .int pl, .long wd])), (ts, .inl (t1, 2001, .inl f_22)), (tp, .inl (t2, 2001, .inl gp)), (tw, .inl (t3, 2001, .inr (.inl f_24))), (bt, .inl (bk, 2000, .inl gt))] := hD
                    refine lv_iload hx hb dX10_readWord_241 (lv_at hl 5 rfl) ?_
                    have hP9 := hP.sub (ws' := [(h0, .inr (10, [.ref ts, .ref tp, .ref tw, .int z, .int pa, .int so, .int pl, .long wd])), (ts, .inl (t1, 2001, .inl f_22)), (tp, .inl (t2, 2001, .inl gp)), (tw, .inl (t3, 2001, .inr (.inl f_24))), (bt, .inl (bk, 2000, .inl gt))]) [0, 1, 2, 3, 4] rfl
                    have hD9 := hD.sub (ws' := [(h0, .inr (10, [.ref ts, .ref tp, .ref tw, .int z, .int pa, .int so, .int pl, .long wd])), (ts, .inl (t1, 2001, .inl f_22)), (tp, .inl (t2, 2001, .inl gp)), (tw, .inl (t3, 2001, .inr (.inl f_24))), (bt, .inl (bk, 2000, .inl gt))]) [0, 1, 2, 3, 4] (by decide) rfl
                    have hK9 := hK.sub (tys' := [(t1, .int), (t2, .int), (t3, .long), (bk, .byte)]) [0, 1, 2, 3] rfl
                    exact W.iret (v := to) hx hb hr (fun t ht hW => ⟨⟨to, (f_22, f_24), rfl, ⟨by omega, by omega, ⟨_, _, ef_22, ef_24, ⟨by omega, by omega, fun k h1 h2 => hall k (by omega) (by omega), Or.inl (by omega), (by rw [← hcs, ← hcd, ← hw8, show ((Int32.toNatClampNeg to : Nat) : Int) - (Int32.toNatClampNeg fr : Nat) = x_2.toInt by omega]; exact (show Int32.toInt 259 = 259 from by decide).trans (lx_st_5 (by omega) (by omega) (by omega) (by omega) (by omega))), (fun _ => hw8), (fun g => absurd g (by have h9 : Int32.toInt 259 = 259 := (by decide); omega))⟩⟩, ⟨_, ef_22, by decide⟩⟩, by rw [ht]; exact hP9, va_K.moved hW.alike hK9, hD9⟩, hS.F ht⟩) hS.2.2 dX10_readWord_243
                  · have ic_23 : di.toInt = x_2.toInt := zi_eq c_23
                    refine lv_iload hx hb dX10_readWord_232 (lv_at hl 2 rfl) ?_
                    obtain ⟨x_25, ex_25⟩ : ∃ z : Int64, z = Int32.toInt64 nu := ⟨_, rfl⟩
                    refine lv_i2l (v := x_25) hx hb dX10_readWord_234 ex_25.symm ?_
                    refine lv_goto (tgt := 240) hx hb dX10_readWord_235 (by decide) ?_
                    refine va_last hx hb hK hP hD hS 3 2 rfl rfl (vp_in_iff.mpr ⟨by omega, by omega⟩) dX10_readWord_240 (fun H locs hP hD hS => ?_)
                    obtain ⟨f_26, ef_26⟩ : ∃ gz9 : Nat → Int64, gz9 = vp_updL gw (Int32.toNatClampNeg z) x_25 := ⟨_, rfl⟩
                    rw [← ef_26] at hP hD
                    have hP : va_P (dC, dI) vwCl [(h0, .inr (10, [.ref ts, .ref tp, .ref tw, .int z, .int pa, .int so, .int pl, .long wd])), (ts, .inl (t1, 2001, .inl f_22)), (tp, .inl (t2, 2001, .inl gp)), (tw, .inl (t3, 2001, .inr (.inl f_26))), (bt, .inl (bk, 2000, .inl gt))] H := hP
                    have hD : va_D A [(h0, .inr (10, [.ref ts, .ref tp, .ref tw, .int z, .int pa, .int so, .int pl, .long wd])), (ts, .inl (t1, 2001, .inl f_22)), (tp, .inl (t2, 2001, .inl gp)), (tw, .inl (t3, 2001, .inr (.inl f_26))), (bt, .inl (bk, 2000, .inl gt))] := hD
                    refine lv_iload hx hb dX10_readWord_241 (lv_at hl 5 rfl) ?_
                    have hP9 := hP.sub (ws' := [(h0, .inr (10, [.ref ts, .ref tp, .ref tw, .int z, .int pa, .int so, .int pl, .long wd])), (ts, .inl (t1, 2001, .inl f_22)), (tp, .inl (t2, 2001, .inl gp)), (tw, .inl (t3, 2001, .inr (.inl f_26))), (bt, .inl (bk, 2000, .inl gt))]) [0, 1, 2, 3, 4] rfl
                    have hD9 := hD.sub (ws' := [(h0, .inr (10, [.ref ts, .ref tp, .ref tw, .int z, .int pa, .int so, .int pl, .long wd])), (ts, .inl (t1, 2001, .inl f_22)), (tp, .inl (t2, 2001, .inl gp)), (tw, .inl (t3, 2001, .inr (.inl f_26))), (bt, .inl (bk, 2000, .inl gt))]) [0, 1, 2, 3, 4] (by decide) rfl
                    have hK9 := hK.sub (tys' := [(t1, .int), (t2, .int), (t3, .long), (bk, .byte)]) [0, 1, 2, 3] rfl
                    exact W.iret (v := to) hx hb hr (fun t ht hW => ⟨⟨to, (f_22, f_26), rfl, ⟨by omega, by omega, ⟨_, _, ef_22, ef_26, ⟨by omega, by omega, fun k h1 h2 => hall k (by omega) (by omega), Or.inl (by omega), (by rw [← hcs, ← hcd, ← hw8, show ((Int32.toNatClampNeg to : Nat) : Int) - (Int32.toNatClampNeg fr : Nat) = x_2.toInt by omega]; exact (show Int32.toInt 259 = 259 from by decide).trans (lx_st_5 (by omega) (by omega) (by omega) (by omega) (by omega))), (fun _ => by exfalso; omega), (fun g => absurd g (by have h9 : Int32.toInt 259 = 259 := (by decide); omega))⟩⟩, ⟨_, ef_22, by decide⟩⟩, by rw [ht]; exact hP9, va_K.moved hW.alike hK9, hD9⟩, hS.F ht⟩) hS.2.2 dX10_readWord_243
            · have ic_5 : sm.toInt = x_2.toInt := zi_eq c_5
              refine lv_aload_n hx hb dX10_readWord_164 rfl (lv_at hl 6 rfl) ?_
              refine va_get (D := (dC, dI)) (ci := 10) (v := .ref ts) (C := RX10) (T := TX10) (N := 8) hx hb hA zin_X10 hown hK hP 0 rfl rfl 0 (by decide) (hA _ wi_346) (fun _ h9 => h9) rfl dX10_readWord_165 ?_
              refine lv_aload_n hx hb dX10_readWord_168 rfl (lv_at hl 6 rfl) ?_
              refine va_get (D := (dC, dI)) (ci := 10) (v := .int z) (C := RX10) (T := TX10) (N := 8) hx hb hA zin_X10 hown hK hP 0 rfl rfl 3 (by decide) (hA _ wi_349) (fun _ h9 => h9) rfl dX10_readWord_169 ?_
              refine lv_lload hx hb dX10_readWord_172 (lv_at hl 1 rfl) ?_
              have hPc := hP.sub (ws' := []) [] rfl
              have hDc := hD.sub (ws' := []) [] (by decide) rfl
              have hKc := hK.sub (tys' := []) [] rfl
              have hFc := va_free (wc := []) hD hS hAA [] rfl
              refine va_calli (va_runS (As := [.long by_]) (rest := [.int z, .ref ts]) ⟨hx, hb, hml, hown, hA⟩ (c_X10_sortOfSmall_x l dC dI aK aV by_ H.size) (va_cwS 1 hA (zw_S wi_677 wi_678 wi_137 (zw_good wi_679)) rfl rfl rfl (by decide +kernel) ⟨(Nat.le_of_ble_eq_true rfl), (Nat.le_of_ble_eq_true rfl)⟩) ⟨zP_blind, zz_pre hKc hPc hDc hN hT hS hFc⟩ rfl rfl hl.1 rfl (lv_room (Nat.le_of_ble_eq_true rfl)) dX10_readWord_174 ⟨(Nat.le_of_ble_eq_true rfl), (Nat.le_of_ble_eq_true rfl)⟩) hS (fun q _ h => hFc q h) hFc (fun r_27 u t H1 locs ht hvm hw hB hz1 hk1 hS => ?_)
              obtain ⟨hP1, hK1, hD1⟩ := hB
              rw [ht] at hP1
              have hK1 := va_K.moved hvm.symm hK1
              obtain ⟨hP, hD⟩ := va_join (wr := [(h0, .inr (10, [.ref ts, .ref tp, .ref tw, .int z, .int pa, .int so, .int pl, .long wd])), (ts, .inl (t1, 2001, .inl gs)), (tp, .inl (t2, 2001, .inl gp)), (tw, .inl (t3, 2001, .inr (.inl gw))), (bt, .inl (bk, 2000, .inl gt))]) (w1 := []) hP hD [] [0, 1, 2, 3, 4] rfl rfl (by decide) (by decide) hk1 hFc hP1 hD1
              have hK := (hK.sub (tys' := [(t1, .int), (t2, .int), (t3, .long), (bk, .byte)]) [0, 1, 2, 3] rfl).app hK1
              generalize H1 = H at hP hS ⊢
              have hP : va_P (dC, dI) vwCl [(h0, .inr (10, [.ref ts, .ref tp, .ref tw, .int z, .int pa, .int so, .int pl, .long wd])), (ts, .inl (t1, 2001, .inl gs)), (tp, .inl (t2, 2001, .inl gp)), (tw, .inl (t3, 2001, .inr (.inl gw))), (bt, .inl (bk, 2000, .inl gt))] H := hP
              have hD : va_D A [(h0, .inr (10, [.ref ts, .ref tp, .ref tw, .int z, .int pa, .int so, .int pl, .long wd])), (ts, .inl (t1, 2001, .inl gs)), (tp, .inl (t2, 2001, .inl gp)), (tw, .inl (t3, 2001, .inr (.inl gw))), (bt, .inl (bk, 2000, .inl gt))] := hD
              have hK : va_K (dC, dI) vwCl [(t1, .int), (t2, .int), (t3, .long), (bk, .byte)] s := hK
              have hw_r_27 := hw
              try dsimp only at hw_r_27
              obtain ⟨hq_28, hq_29⟩ := hw
              refine va_iast hx hb hK hP hD hS 1 0 rfl rfl (vp_in_iff.mpr ⟨by omega, by omega⟩) dX10_readWord_177 (fun H locs hP hD hS => ?_)
              obtain ⟨f_30, ef_30⟩ : ∃ gz9 : Nat → Int32, gz9 = upd gs (Int32.toNatClampNeg z) r_27 := ⟨_, rfl⟩
              rw [← ef_30] at hP hD
              have hP : va_P (dC, dI) vwCl [(h0, .inr (10, [.ref ts, .ref tp, .ref tw, .int z, .int pa, .int so, .int pl, .long wd])), (ts, .inl (t1, 2001, .inl f_30)), (tp, .inl (t2, 2001, .inl gp)), (tw, .inl (t3, 2001, .inr (.inl gw))), (bt, .inl (bk, 2000, .inl gt))] H := hP
              have hD : va_D A [(h0, .inr (10, [.ref ts, .ref tp, .ref tw, .int z, .int pa, .int so, .int pl, .long wd])), (ts, .inl (t1, 2001, .inl f_30)), (tp, .inl (t2, 2001, .inl gp)), (tw, .inl (t3, 2001, .inr (.inl gw))), (bt, .inl (bk, 2000, .inl gt))] := hD
              refine lv_goto (tgt := 217) hx hb dX10_readWord_178 (by decide) ?_
              refine lv_aload_n hx hb dX10_readWord_217 rfl (lv_at hl 6 rfl) ?_
              refine va_get (D := (dC, dI)) (ci := 10) (v := .ref tw) (C := RX10) (T := TX10) (N := 8) hx hb hA zin_X10 hown hK hP 0 rfl rfl 2 (by decide) (hA _ wi_348) (fun _ h9 => h9) rfl dX10_readWord_218 ?_
              refine lv_aload_n hx hb dX10_readWord_221 rfl (lv_at hl 6 rfl) ?_
              refine va_get (D := (dC, dI)) (ci := 10) (v := .int z) (C := RX10) (T := TX10) (N := 8) hx hb hA zin_X10 hown hK hP 0 rfl rfl 3 (by decide) (hA _ wi_349) (fun _ h9 => h9) rfl dX10_readWord_222 ?_
              refine lv_iload hx hb dX10_readWord_225 (lv_at hl 3 rfl) ?_
              refine lv_iload hx hb dX10_readWord_227 (lv_at hl 0 rfl) ?_
              refine lv_icmp_ne (tgt := 238) hx hb dX10_readWord_229 (by decide) (fun c_31 => ?_) (fun c_31 => ?_)
              · have ic_31 : di.toInt ≠ x_2.toInt := zi_ne c_31
                refine lv_lload hx hb dX10_readWord_238 (lv_at hl 1 rfl) ?_
                refine va_last hx hb hK hP hD hS 3 2 rfl rfl (vp_in_iff.mpr ⟨by omega, by omega⟩) dX10_readWord_240 (fun H locs hP hD hS => ?_)
                obtain ⟨f_32, ef_32⟩ : ∃ gz9 : Nat → Int64, gz9 = vp_updL gw (Int32.toNatClampNeg z) by_ := ⟨_, rfl⟩
                rw [← ef_32] at hP hD
                have hP : va_P (dC, dI) vwCl [(h0, .inr (10, [.ref ts, .ref tp, .ref tw, .int z, .int pa, .int so, .int pl, .long wd])), (ts, .inl (t1, 2001, .inl f_30)), (tp, .inl (t2, 2001, .inl gp)), (tw, .inl (t3, 2001, .inr (.inl f_32))), (bt, .inl (bk, 2000, .inl gt))] H := hP
                have hD : va_D A [(h0, .inr (10, [.ref ts, .ref tp, .ref tw, .int z, .int pa, .int so, .int pl, .long wd])), (ts, .inl (t1, 2001, .inl f_30)), (tp, .inl (t2, 2001, .inl gp)), (tw, .inl (t3, 2001, .inr (.inl f_32))), (bt, .inl (bk, 2000, .inl gt))] := hD
                refine lv_iload hx hb dX10_readWord_241 (lv_at hl 5 rfl) ?_
                have hP9 := hP.sub (ws' := [(h0, .inr (10, [.ref ts, .ref tp, .ref tw, .int z, .int pa, .int so, .int pl, .long wd])), (ts, .inl (t1, 2001, .inl f_30)), (tp, .inl (t2, 2001, .inl gp)), (tw, .inl (t3, 2001, .inr (.inl f_32))), (bt, .inl (bk, 2000, .inl gt))]) [0, 1, 2, 3, 4] rfl
                have hD9 := hD.sub (ws' := [(h0, .inr (10, [.ref ts, .ref tp, .ref tw, .int z, .int pa, .int so, .int pl, .long wd])), (ts, .inl (t1, 2001, .inl f_30)), (tp, .inl (t2, 2001, .inl gp)), (tw, .inl (t3, 2001, .inr (.inl f_32))), (bt, .inl (bk, 2000, .inl gt))]) [0, 1, 2, 3, 4] (by decide) rfl
                have hK9 := hK.sub (tys' := [(t1, .int), (t2, .int), (t3, .long), (bk, .byte)]) [0, 1, 2, 3] rfl
                exact W.iret (v := to) hx hb hr (fun t ht hW => ⟨⟨to, (f_30, f_32), rfl, ⟨by omega, by omega, ⟨_, _, ef_30, ef_32, ⟨by omega, by omega, fun k h1 h2 => hall k (by omega) (by omega), Or.inl (by omega), (by rw [← hcs, ← hcd, ← hw8, show ((Int32.toNatClampNeg to : Nat) : Int) - (Int32.toNatClampNeg fr : Nat) = x_2.toInt by omega]; exact hq_29.trans (lx_st_4 (by omega) (by omega) (by omega))), (fun _ => hw8), (fun g => absurd g (by have h8 := hq_29; unfold lx_kw at h8; omega))⟩⟩, ⟨_, ef_30, by omega⟩⟩, by rw [ht]; exact hP9, va_K.moved hW.alike hK9, hD9⟩, hS.F ht⟩) hS.2.2 dX10_readWord_243
              · have ic_31 : di.toInt = x_2.toInt := zi_eq c_31
                refine lv_iload hx hb dX10_readWord_232 (lv_at hl 2 rfl) ?_
                obtain ⟨x_33, ex_33⟩ : ∃ z : Int64, z = Int32.toInt64 nu := ⟨_, rfl⟩
                refine lv_i2l (v := x_33) hx hb dX10_readWord_234 ex_33.symm ?_
                refine lv_goto (tgt := 240) hx hb dX10_readWord_235 (by decide) ?_
                refine va_last hx hb hK hP hD hS 3 2 rfl rfl (vp_in_iff.mpr ⟨by omega, by omega⟩) dX10_readWord_240 (fun H locs hP hD hS => ?_)
                obtain ⟨f_34, ef_34⟩ : ∃ gz9 : Nat → Int64, gz9 = vp_updL gw (Int32.toNatClampNeg z) x_33 := ⟨_, rfl⟩
                rw [← ef_34] at hP hD
                have hP : va_P (dC, dI) vwCl [(h0, .inr (10, [.ref ts, .ref tp, .ref tw, .int z, .int pa, .int so, .int pl, .long wd])), (ts, .inl (t1, 2001, .inl f_30)), (tp, .inl (t2, 2001, .inl gp)), (tw, .inl (t3, 2001, .inr (.inl f_34))), (bt, .inl (bk, 2000, .inl gt))] H := hP
                have hD : va_D A [(h0, .inr (10, [.ref ts, .ref tp, .ref tw, .int z, .int pa, .int so, .int pl, .long wd])), (ts, .inl (t1, 2001, .inl f_30)), (tp, .inl (t2, 2001, .inl gp)), (tw, .inl (t3, 2001, .inr (.inl f_34))), (bt, .inl (bk, 2000, .inl gt))] := hD
                refine lv_iload hx hb dX10_readWord_241 (lv_at hl 5 rfl) ?_
                have hP9 := hP.sub (ws' := [(h0, .inr (10, [.ref ts, .ref tp, .ref tw, .int z, .int pa, .int so, .int pl, .long wd])), (ts, .inl (t1, 2001, .inl f_30)), (tp, .inl (t2, 2001, .inl gp)), (tw, .inl (t3, 2001, .inr (.inl f_34))), (bt, .inl (bk, 2000, .inl gt))]) [0, 1, 2, 3, 4] rfl
                have hD9 := hD.sub (ws' := [(h0, .inr (10, [.ref ts, .ref tp, .ref tw, .int z, .int pa, .int so, .int pl, .long wd])), (ts, .inl (t1, 2001, .inl f_30)), (tp, .inl (t2, 2001, .inl gp)), (tw, .inl (t3, 2001, .inr (.inl f_34))), (bt, .inl (bk, 2000, .inl gt))]) [0, 1, 2, 3, 4] (by decide) rfl
                have hK9 := hK.sub (tys' := [(t1, .int), (t2, .int), (t3, .long), (bk, .byte)]) [0, 1, 2, 3] rfl
                exact W.iret (v := to) hx hb hr (fun t ht hW => ⟨⟨to, (f_30, f_34), rfl, ⟨by omega, by omega, ⟨_, _, ef_30, ef_34, ⟨by omega, by omega, fun k h1 h2 => hall k (by omega) (by omega), Or.inl (by omega), (by rw [← hcs, ← hcd, ← hw8, show ((Int32.toNatClampNeg to : Nat) : Int) - (Int32.toNatClampNeg fr : Nat) = x_2.toInt by omega]; exact hq_29.trans (lx_st_4 (by omega) (by omega) (by omega))), (fun _ => by exfalso; omega), (fun g => absurd g (by have h8 := hq_29; unfold lx_kw at h8; omega))⟩⟩, ⟨_, ef_30, by omega⟩⟩, by rw [ht]; exact hP9, va_K.moved hW.alike hK9, hD9⟩, hS.F ht⟩) hS.2.2 dX10_readWord_243
          · have ic_4 : 8 < x_2.toInt := zi_nle c_4
            refine lv_aload_n hx hb dX10_readWord_142 rfl (lv_at hl 6 rfl) ?_
            refine va_get (D := (dC, dI)) (ci := 10) (v := .ref ts) (C := RX10) (T := TX10) (N := 8) hx hb hA zin_X10 hown hK hP 0 rfl rfl 0 (by decide) (hA _ wi_346) (fun _ h9 => h9) rfl dX10_readWord_143 ?_
            refine lv_aload_n hx hb dX10_readWord_146 rfl (lv_at hl 6 rfl) ?_
            refine va_get (D := (dC, dI)) (ci := 10) (v := .int z) (C := RX10) (T := TX10) (N := 8) hx hb hA zin_X10 hown hK hP 0 rfl rfl 3 (by decide) (hA _ wi_349) (fun _ h9 => h9) rfl dX10_readWord_147 ?_
            refine lv_sipush (v := 257) hx hb dX10_readWord_150 (by decide) ?_
            refine va_iast hx hb hK hP hD hS 1 0 rfl rfl (vp_in_iff.mpr ⟨by omega, by omega⟩) dX10_readWord_153 (fun H locs hP hD hS => ?_)
            obtain ⟨f_35, ef_35⟩ : ∃ gz9 : Nat → Int32, gz9 = upd gs (Int32.toNatClampNeg z) 257 := ⟨_, rfl⟩
            rw [← ef_35] at hP hD
            have hP : va_P (dC, dI) vwCl [(h0, .inr (10, [.ref ts, .ref tp, .ref tw, .int z, .int pa, .int so, .int pl, .long wd])), (ts, .inl (t1, 2001, .inl f_35)), (tp, .inl (t2, 2001, .inl gp)), (tw, .inl (t3, 2001, .inr (.inl gw))), (bt, .inl (bk, 2000, .inl gt))] H := hP
            have hD : va_D A [(h0, .inr (10, [.ref ts, .ref tp, .ref tw, .int z, .int pa, .int so, .int pl, .long wd])), (ts, .inl (t1, 2001, .inl f_35)), (tp, .inl (t2, 2001, .inl gp)), (tw, .inl (t3, 2001, .inr (.inl gw))), (bt, .inl (bk, 2000, .inl gt))] := hD
            refine lv_goto (tgt := 217) hx hb dX10_readWord_154 (by decide) ?_
            refine lv_aload_n hx hb dX10_readWord_217 rfl (lv_at hl 6 rfl) ?_
            refine va_get (D := (dC, dI)) (ci := 10) (v := .ref tw) (C := RX10) (T := TX10) (N := 8) hx hb hA zin_X10 hown hK hP 0 rfl rfl 2 (by decide) (hA _ wi_348) (fun _ h9 => h9) rfl dX10_readWord_218 ?_
            refine lv_aload_n hx hb dX10_readWord_221 rfl (lv_at hl 6 rfl) ?_
            refine va_get (D := (dC, dI)) (ci := 10) (v := .int z) (C := RX10) (T := TX10) (N := 8) hx hb hA zin_X10 hown hK hP 0 rfl rfl 3 (by decide) (hA _ wi_349) (fun _ h9 => h9) rfl dX10_readWord_222 ?_
            refine lv_iload hx hb dX10_readWord_225 (lv_at hl 3 rfl) ?_
            refine lv_iload hx hb dX10_readWord_227 (lv_at hl 0 rfl) ?_
            refine lv_icmp_ne (tgt := 238) hx hb dX10_readWord_229 (by decide) (fun c_36 => ?_) (fun c_36 => ?_)
            · have ic_36 : di.toInt ≠ x_2.toInt := zi_ne c_36
              refine lv_lload hx hb dX10_readWord_238 (lv_at hl 1 rfl) ?_
              refine va_last hx hb hK hP hD hS 3 2 rfl rfl (vp_in_iff.mpr ⟨by omega, by omega⟩) dX10_readWord_240 (fun H locs hP hD hS => ?_)
              obtain ⟨f_37, ef_37⟩ : ∃ gz9 : Nat → Int64, gz9 = vp_updL gw (Int32.toNatClampNeg z) by_ := ⟨_, rfl⟩
              rw [← ef_37] at hP hD
              have hP : va_P (dC, dI) vwCl [(h0, .inr (10, [.ref ts, .ref tp, .ref tw, .int z, .int pa, .int so, .int pl, .long wd])), (ts, .inl (t1, 2001, .inl f_35)), (tp, .inl (t2, 2001, .inl gp)), (tw, .inl (t3, 2001, .inr (.inl f_37))), (bt, .inl (bk, 2000, .inl gt))] H := hP
              have hD : va_D A [(h0, .inr (10, [.ref ts, .ref tp, .ref tw, .int z, .int pa, .int so, .int pl, .long wd])), (ts, .inl (t1, 2001, .inl f_35)), (tp, .inl (t2, 2001, .inl gp)), (tw, .inl (t3, 2001, .inr (.inl f_37))), (bt, .inl (bk, 2000, .inl gt))] := hD
              refine lv_iload hx hb dX10_readWord_241 (lv_at hl 5 rfl) ?_
              have hP9 := hP.sub (ws' := [(h0, .inr (10, [.ref ts, .ref tp, .ref tw, .int z, .int pa, .int so, .int pl, .long wd])), (ts, .inl (t1, 2001, .inl f_35)), (tp, .inl (t2, 2001, .inl gp)), (tw, .inl (t3, 2001, .inr (.inl f_37))), (bt, .inl (bk, 2000, .inl gt))]) [0, 1, 2, 3, 4] rfl
              have hD9 := hD.sub (ws' := [(h0, .inr (10, [.ref ts, .ref tp, .ref tw, .int z, .int pa, .int so, .int pl, .long wd])), (ts, .inl (t1, 2001, .inl f_35)), (tp, .inl (t2, 2001, .inl gp)), (tw, .inl (t3, 2001, .inr (.inl f_37))), (bt, .inl (bk, 2000, .inl gt))]) [0, 1, 2, 3, 4] (by decide) rfl
              have hK9 := hK.sub (tys' := [(t1, .int), (t2, .int), (t3, .long), (bk, .byte)]) [0, 1, 2, 3] rfl
              exact W.iret (v := to) hx hb hr (fun t ht hW => ⟨⟨to, (f_35, f_37), rfl, ⟨by omega, by omega, ⟨_, _, ef_35, ef_37, ⟨by omega, by omega, fun k h1 h2 => hall k (by omega) (by omega), Or.inl (by omega), (by rw [← hcs, ← hcd, ← hw8, show ((Int32.toNatClampNeg to : Nat) : Int) - (Int32.toNatClampNeg fr : Nat) = x_2.toInt by omega]; exact (show Int32.toInt 257 = 257 from by decide).trans (lx_st_3 (by omega) (by omega))), (fun g => absurd g (by have h9 : Int32.toInt 257 = 257 := (by decide); omega)), (fun g => absurd g (by have h9 : Int32.toInt 257 = 257 := (by decide); omega))⟩⟩, ⟨_, ef_35, by decide⟩⟩, by rw [ht]; exact hP9, va_K.moved hW.alike hK9, hD9⟩, hS.F ht⟩) hS.2.2 dX10_readWord_243
            · have ic_36 : di.toInt = x_2.toInt := zi_eq c_36
              refine lv_iload hx hb dX10_readWord_232 (lv_at hl 2 rfl) ?_
              obtain ⟨x_38, ex_38⟩ : ∃ z : Int64, z = Int32.toInt64 nu := ⟨_, rfl⟩
              refine lv_i2l (v := x_38) hx hb dX10_readWord_234 ex_38.symm ?_
              refine lv_goto (tgt := 240) hx hb dX10_readWord_235 (by decide) ?_
              refine va_last hx hb hK hP hD hS 3 2 rfl rfl (vp_in_iff.mpr ⟨by omega, by omega⟩) dX10_readWord_240 (fun H locs hP hD hS => ?_)
              obtain ⟨f_39, ef_39⟩ : ∃ gz9 : Nat → Int64, gz9 = vp_updL gw (Int32.toNatClampNeg z) x_38 := ⟨_, rfl⟩
              rw [← ef_39] at hP hD
              have hP : va_P (dC, dI) vwCl [(h0, .inr (10, [.ref ts, .ref tp, .ref tw, .int z, .int pa, .int so, .int pl, .long wd])), (ts, .inl (t1, 2001, .inl f_35)), (tp, .inl (t2, 2001, .inl gp)), (tw, .inl (t3, 2001, .inr (.inl f_39))), (bt, .inl (bk, 2000, .inl gt))] H := hP
              have hD : va_D A [(h0, .inr (10, [.ref ts, .ref tp, .ref tw, .int z, .int pa, .int so, .int pl, .long wd])), (ts, .inl (t1, 2001, .inl f_35)), (tp, .inl (t2, 2001, .inl gp)), (tw, .inl (t3, 2001, .inr (.inl f_39))), (bt, .inl (bk, 2000, .inl gt))] := hD
              refine lv_iload hx hb dX10_readWord_241 (lv_at hl 5 rfl) ?_
              have hP9 := hP.sub (ws' := [(h0, .inr (10, [.ref ts, .ref tp, .ref tw, .int z, .int pa, .int so, .int pl, .long wd])), (ts, .inl (t1, 2001, .inl f_35)), (tp, .inl (t2, 2001, .inl gp)), (tw, .inl (t3, 2001, .inr (.inl f_39))), (bt, .inl (bk, 2000, .inl gt))]) [0, 1, 2, 3, 4] rfl
              have hD9 := hD.sub (ws' := [(h0, .inr (10, [.ref ts, .ref tp, .ref tw, .int z, .int pa, .int so, .int pl, .long wd])), (ts, .inl (t1, 2001, .inl f_35)), (tp, .inl (t2, 2001, .inl gp)), (tw, .inl (t3, 2001, .inr (.inl f_39))), (bt, .inl (bk, 2000, .inl gt))]) [0, 1, 2, 3, 4] (by decide) rfl
              have hK9 := hK.sub (tys' := [(t1, .int), (t2, .int), (t3, .long), (bk, .byte)]) [0, 1, 2, 3] rfl
              exact W.iret (v := to) hx hb hr (fun t ht hW => ⟨⟨to, (f_35, f_39), rfl, ⟨by omega, by omega, ⟨_, _, ef_35, ef_39, ⟨by omega, by omega, fun k h1 h2 => hall k (by omega) (by omega), Or.inl (by omega), (by rw [← hcs, ← hcd, ← hw8, show ((Int32.toNatClampNeg to : Nat) : Int) - (Int32.toNatClampNeg fr : Nat) = x_2.toInt by omega]; exact (show Int32.toInt 257 = 257 from by decide).trans (lx_st_3 (by omega) (by omega))), (fun g => absurd g (by have h9 : Int32.toInt 257 = 257 := (by decide); omega)), (fun g => absurd g (by have h9 : Int32.toInt 257 = 257 := (by decide); omega))⟩⟩, ⟨_, ef_35, by decide⟩⟩, by rw [ht]; exact hP9, va_K.moved hW.alike hK9, hD9⟩, hS.F ht⟩) hS.2.2 dX10_readWord_243
        · have ic_3 : di.toInt = x_2.toInt := zi_eq c_3
          refine lv_aload_n hx hb dX10_readWord_107 rfl (lv_at hl 6 rfl) ?_
          refine va_get (D := (dC, dI)) (ci := 10) (v := .ref ts) (C := RX10) (T := TX10) (N := 8) hx hb hA zin_X10 hown hK hP 0 rfl rfl 0 (by decide) (hA _ wi_346) (fun _ h9 => h9) rfl dX10_readWord_108 ?_
          refine lv_aload_n hx hb dX10_readWord_111 rfl (lv_at hl 6 rfl) ?_
          refine va_get (D := (dC, dI)) (ci := 10) (v := .int z) (C := RX10) (T := TX10) (N := 8) hx hb hA zin_X10 hown hK hP 0 rfl rfl 3 (by decide) (hA _ wi_349) (fun _ h9 => h9) rfl dX10_readWord_112 ?_
          refine lv_iload hx hb dX10_readWord_115 (lv_at hl 0 rfl) ?_
          refine lv_bipush (v := 9) hx hb dX10_readWord_117 (by decide) ?_
          refine lv_icmp_gt (tgt := 128) hx hb dX10_readWord_119 (by decide) (fun c_40 => ?_) (fun c_40 => ?_)
          · have ic_40 : 9 < x_2.toInt := zi_lt c_40
            refine lv_sipush (v := 257) hx hb dX10_readWord_128 (by decide) ?_
            refine va_iast hx hb hK hP hD hS 1 0 rfl rfl (vp_in_iff.mpr ⟨by omega, by omega⟩) dX10_readWord_131 (fun H locs hP hD hS => ?_)
            obtain ⟨f_41, ef_41⟩ : ∃ gz9 : Nat → Int32, gz9 = upd gs (Int32.toNatClampNeg z) 257 := ⟨_, rfl⟩
            rw [← ef_41] at hP hD
            have hP : va_P (dC, dI) vwCl [(h0, .inr (10, [.ref ts, .ref tp, .ref tw, .int z, .int pa, .int so, .int pl, .long wd])), (ts, .inl (t1, 2001, .inl f_41)), (tp, .inl (t2, 2001, .inl gp)), (tw, .inl (t3, 2001, .inr (.inl gw))), (bt, .inl (bk, 2000, .inl gt))] H := hP
            have hD : va_D A [(h0, .inr (10, [.ref ts, .ref tp, .ref tw, .int z, .int pa, .int so, .int pl, .long wd])), (ts, .inl (t1, 2001, .inl f_41)), (tp, .inl (t2, 2001, .inl gp)), (tw, .inl (t3, 2001, .inr (.inl gw))), (bt, .inl (bk, 2000, .inl gt))] := hD
            refine lv_goto (tgt := 217) hx hb dX10_readWord_132 (by decide) ?_
            refine lv_aload_n hx hb dX10_readWord_217 rfl (lv_at hl 6 rfl) ?_
            refine va_get (D := (dC, dI)) (ci := 10) (v := .ref tw) (C := RX10) (T := TX10) (N := 8) hx hb hA zin_X10 hown hK hP 0 rfl rfl 2 (by decide) (hA _ wi_348) (fun _ h9 => h9) rfl dX10_readWord_218 ?_
            refine lv_aload_n hx hb dX10_readWord_221 rfl (lv_at hl 6 rfl) ?_
            refine va_get (D := (dC, dI)) (ci := 10) (v := .int z) (C := RX10) (T := TX10) (N := 8) hx hb hA zin_X10 hown hK hP 0 rfl rfl 3 (by decide) (hA _ wi_349) (fun _ h9 => h9) rfl dX10_readWord_222 ?_
            refine lv_iload hx hb dX10_readWord_225 (lv_at hl 3 rfl) ?_
            refine lv_iload hx hb dX10_readWord_227 (lv_at hl 0 rfl) ?_
            refine lv_icmp_ne (tgt := 238) hx hb dX10_readWord_229 (by decide) (fun c_42 => ?_) (fun c_42 => ?_)
            · have ic_42 : di.toInt ≠ x_2.toInt := zi_ne c_42
              refine lv_lload hx hb dX10_readWord_238 (lv_at hl 1 rfl) ?_
              refine va_last hx hb hK hP hD hS 3 2 rfl rfl (vp_in_iff.mpr ⟨by omega, by omega⟩) dX10_readWord_240 (fun H locs hP hD hS => ?_)
              obtain ⟨f_43, ef_43⟩ : ∃ gz9 : Nat → Int64, gz9 = vp_updL gw (Int32.toNatClampNeg z) by_ := ⟨_, rfl⟩
              rw [← ef_43] at hP hD
              have hP : va_P (dC, dI) vwCl [(h0, .inr (10, [.ref ts, .ref tp, .ref tw, .int z, .int pa, .int so, .int pl, .long wd])), (ts, .inl (t1, 2001, .inl f_41)), (tp, .inl (t2, 2001, .inl gp)), (tw, .inl (t3, 2001, .inr (.inl f_43))), (bt, .inl (bk, 2000, .inl gt))] H := hP
              have hD : va_D A [(h0, .inr (10, [.ref ts, .ref tp, .ref tw, .int z, .int pa, .int so, .int pl, .long wd])), (ts, .inl (t1, 2001, .inl f_41)), (tp, .inl (t2, 2001, .inl gp)), (tw, .inl (t3, 2001, .inr (.inl f_43))), (bt, .inl (bk, 2000, .inl gt))] := hD
              refine lv_iload hx hb dX10_readWord_241 (lv_at hl 5 rfl) ?_
              have hP9 := hP.sub (ws' := [(h0, .inr (10, [.ref ts, .ref tp, .ref tw, .int z, .int pa, .int so, .int pl, .long wd])), (ts, .inl (t1, 2001, .inl f_41)), (tp, .inl (t2, 2001, .inl gp)), (tw, .inl (t3, 2001, .inr (.inl f_43))), (bt, .inl (bk, 2000, .inl gt))]) [0, 1, 2, 3, 4] rfl
              have hD9 := hD.sub (ws' := [(h0, .inr (10, [.ref ts, .ref tp, .ref tw, .int z, .int pa, .int so, .int pl, .long wd])), (ts, .inl (t1, 2001, .inl f_41)), (tp, .inl (t2, 2001, .inl gp)), (tw, .inl (t3, 2001, .inr (.inl f_43))), (bt, .inl (bk, 2000, .inl gt))]) [0, 1, 2, 3, 4] (by decide) rfl
              have hK9 := hK.sub (tys' := [(t1, .int), (t2, .int), (t3, .long), (bk, .byte)]) [0, 1, 2, 3] rfl
              exact W.iret (v := to) hx hb hr (fun t ht hW => ⟨⟨to, (f_41, f_43), rfl, ⟨by omega, by omega, ⟨_, _, ef_41, ef_43, ⟨by omega, by omega, fun k h1 h2 => hall k (by omega) (by omega), Or.inl (by omega), (by rw [← hcs, ← hcd, ← hw8, show ((Int32.toNatClampNeg to : Nat) : Int) - (Int32.toNatClampNeg fr : Nat) = x_2.toInt by omega]; exact (show Int32.toInt 257 = 257 from by decide).trans (lx_st_2 (by omega) (by omega))), (fun g => absurd g (by have h9 : Int32.toInt 257 = 257 := (by decide); omega)), (fun g => absurd g (by have h9 : Int32.toInt 257 = 257 := (by decide); omega))⟩⟩, ⟨_, ef_41, by decide⟩⟩, by rw [ht]; exact hP9, va_K.moved hW.alike hK9, hD9⟩, hS.F ht⟩) hS.2.2 dX10_readWord_243
            · have ic_42 : di.toInt = x_2.toInt := zi_eq c_42
              refine lv_iload hx hb dX10_readWord_232 (lv_at hl 2 rfl) ?_
              obtain ⟨x_44, ex_44⟩ : ∃ z : Int64, z = Int32.toInt64 nu := ⟨_, rfl⟩
              refine lv_i2l (v := x_44) hx hb dX10_readWord_234 ex_44.symm ?_
              refine lv_goto (tgt := 240) hx hb dX10_readWord_235 (by decide) ?_
              refine va_last hx hb hK hP hD hS 3 2 rfl rfl (vp_in_iff.mpr ⟨by omega, by omega⟩) dX10_readWord_240 (fun H locs hP hD hS => ?_)
              obtain ⟨f_45, ef_45⟩ : ∃ gz9 : Nat → Int64, gz9 = vp_updL gw (Int32.toNatClampNeg z) x_44 := ⟨_, rfl⟩
              rw [← ef_45] at hP hD
              have hP : va_P (dC, dI) vwCl [(h0, .inr (10, [.ref ts, .ref tp, .ref tw, .int z, .int pa, .int so, .int pl, .long wd])), (ts, .inl (t1, 2001, .inl f_41)), (tp, .inl (t2, 2001, .inl gp)), (tw, .inl (t3, 2001, .inr (.inl f_45))), (bt, .inl (bk, 2000, .inl gt))] H := hP
              have hD : va_D A [(h0, .inr (10, [.ref ts, .ref tp, .ref tw, .int z, .int pa, .int so, .int pl, .long wd])), (ts, .inl (t1, 2001, .inl f_41)), (tp, .inl (t2, 2001, .inl gp)), (tw, .inl (t3, 2001, .inr (.inl f_45))), (bt, .inl (bk, 2000, .inl gt))] := hD
              refine lv_iload hx hb dX10_readWord_241 (lv_at hl 5 rfl) ?_
              have hP9 := hP.sub (ws' := [(h0, .inr (10, [.ref ts, .ref tp, .ref tw, .int z, .int pa, .int so, .int pl, .long wd])), (ts, .inl (t1, 2001, .inl f_41)), (tp, .inl (t2, 2001, .inl gp)), (tw, .inl (t3, 2001, .inr (.inl f_45))), (bt, .inl (bk, 2000, .inl gt))]) [0, 1, 2, 3, 4] rfl
              have hD9 := hD.sub (ws' := [(h0, .inr (10, [.ref ts, .ref tp, .ref tw, .int z, .int pa, .int so, .int pl, .long wd])), (ts, .inl (t1, 2001, .inl f_41)), (tp, .inl (t2, 2001, .inl gp)), (tw, .inl (t3, 2001, .inr (.inl f_45))), (bt, .inl (bk, 2000, .inl gt))]) [0, 1, 2, 3, 4] (by decide) rfl
              have hK9 := hK.sub (tys' := [(t1, .int), (t2, .int), (t3, .long), (bk, .byte)]) [0, 1, 2, 3] rfl
              exact W.iret (v := to) hx hb hr (fun t ht hW => ⟨⟨to, (f_41, f_45), rfl, ⟨by omega, by omega, ⟨_, _, ef_41, ef_45, ⟨by omega, by omega, fun k h1 h2 => hall k (by omega) (by omega), Or.inl (by omega), (by rw [← hcs, ← hcd, ← hw8, show ((Int32.toNatClampNeg to : Nat) : Int) - (Int32.toNatClampNeg fr : Nat) = x_2.toInt by omega]; exact (show Int32.toInt 257 = 257 from by decide).trans (lx_st_2 (by omega) (by omega))), (fun g => absurd g (by have h9 : Int32.toInt 257 = 257 := (by decide); omega)), (fun g => absurd g (by have h9 : Int32.toInt 257 = 257 := (by decide); omega))⟩⟩, ⟨_, ef_41, by decide⟩⟩, by rw [ht]; exact hP9, va_K.moved hW.alike hK9, hD9⟩, hS.F ht⟩) hS.2.2 dX10_readWord_243
          · have ic_40 : x_2.toInt ≤ 9 := zi_nlt c_40
            refine lv_sipush (v := 260) hx hb dX10_readWord_122 (by decide) ?_
            refine lv_goto (tgt := 131) hx hb dX10_readWord_125 (by decide) ?_
            refine va_iast hx hb hK hP hD hS 1 0 rfl rfl (vp_in_iff.mpr ⟨by omega, by omega⟩) dX10_readWord_131 (fun H locs hP hD hS => ?_)
            obtain ⟨f_46, ef_46⟩ : ∃ gz9 : Nat → Int32, gz9 = upd gs (Int32.toNatClampNeg z) 260 := ⟨_, rfl⟩
            rw [← ef_46] at hP hD
            have hP : va_P (dC, dI) vwCl [(h0, .inr (10, [.ref ts, .ref tp, .ref tw, .int z, .int pa, .int so, .int pl, .long wd])), (ts, .inl (t1, 2001, .inl f_46)), (tp, .inl (t2, 2001, .inl gp)), (tw, .inl (t3, 2001, .inr (.inl gw))), (bt, .inl (bk, 2000, .inl gt))] H := hP
            have hD : va_D A [(h0, .inr (10, [.ref ts, .ref tp, .ref tw, .int z, .int pa, .int so, .int pl, .long wd])), (ts, .inl (t1, 2001, .inl f_46)), (tp, .inl (t2, 2001, .inl gp)), (tw, .inl (t3, 2001, .inr (.inl gw))), (bt, .inl (bk, 2000, .inl gt))] := hD
            refine lv_goto (tgt := 217) hx hb dX10_readWord_132 (by decide) ?_
            refine lv_aload_n hx hb dX10_readWord_217 rfl (lv_at hl 6 rfl) ?_
            refine va_get (D := (dC, dI)) (ci := 10) (v := .ref tw) (C := RX10) (T := TX10) (N := 8) hx hb hA zin_X10 hown hK hP 0 rfl rfl 2 (by decide) (hA _ wi_348) (fun _ h9 => h9) rfl dX10_readWord_218 ?_
            refine lv_aload_n hx hb dX10_readWord_221 rfl (lv_at hl 6 rfl) ?_
            refine va_get (D := (dC, dI)) (ci := 10) (v := .int z) (C := RX10) (T := TX10) (N := 8) hx hb hA zin_X10 hown hK hP 0 rfl rfl 3 (by decide) (hA _ wi_349) (fun _ h9 => h9) rfl dX10_readWord_222 ?_
            refine lv_iload hx hb dX10_readWord_225 (lv_at hl 3 rfl) ?_
            refine lv_iload hx hb dX10_readWord_227 (lv_at hl 0 rfl) ?_
            refine lv_icmp_ne (tgt := 238) hx hb dX10_readWord_229 (by decide) (fun c_47 => ?_) (fun c_47 => ?_)
            · have ic_47 : di.toInt ≠ x_2.toInt := zi_ne c_47
              refine lv_lload hx hb dX10_readWord_238 (lv_at hl 1 rfl) ?_
              refine va_last hx hb hK hP hD hS 3 2 rfl rfl (vp_in_iff.mpr ⟨by omega, by omega⟩) dX10_readWord_240 (fun H locs hP hD hS => ?_)
              obtain ⟨f_48, ef_48⟩ : ∃ gz9 : Nat → Int64, gz9 = vp_updL gw (Int32.toNatClampNeg z) by_ := ⟨_, rfl⟩
              rw [← ef_48] at hP hD
              have hP : va_P (dC, dI) vwCl [(h0, .inr (10, [.ref ts, .ref tp, .ref tw, .int z, .int pa, .int so, .int pl, .long wd])), (ts, .inl (t1, 2001, .inl f_46)), (tp, .inl (t2, 2001, .inl gp)), (tw, .inl (t3, 2001, .inr (.inl f_48))), (bt, .inl (bk, 2000, .inl gt))] H := hP
              have hD : va_D A [(h0, .inr (10, [.ref ts, .ref tp, .ref tw, .int z, .int pa, .int so, .int pl, .long wd])), (ts, .inl (t1, 2001, .inl f_46)), (tp, .inl (t2, 2001, .inl gp)), (tw, .inl (t3, 2001, .inr (.inl f_48))), (bt, .inl (bk, 2000, .inl gt))] := hD
              refine lv_iload hx hb dX10_readWord_241 (lv_at hl 5 rfl) ?_
              have hP9 := hP.sub (ws' := [(h0, .inr (10, [.ref ts, .ref tp, .ref tw, .int z, .int pa, .int so, .int pl, .long wd])), (ts, .inl (t1, 2001, .inl f_46)), (tp, .inl (t2, 2001, .inl gp)), (tw, .inl (t3, 2001, .inr (.inl f_48))), (bt, .inl (bk, 2000, .inl gt))]) [0, 1, 2, 3, 4] rfl
              have hD9 := hD.sub (ws' := [(h0, .inr (10, [.ref ts, .ref tp, .ref tw, .int z, .int pa, .int so, .int pl, .long wd])), (ts, .inl (t1, 2001, .inl f_46)), (tp, .inl (t2, 2001, .inl gp)), (tw, .inl (t3, 2001, .inr (.inl f_48))), (bt, .inl (bk, 2000, .inl gt))]) [0, 1, 2, 3, 4] (by decide) rfl
              have hK9 := hK.sub (tys' := [(t1, .int), (t2, .int), (t3, .long), (bk, .byte)]) [0, 1, 2, 3] rfl
              exact W.iret (v := to) hx hb hr (fun t ht hW => ⟨⟨to, (f_46, f_48), rfl, ⟨by omega, by omega, ⟨_, _, ef_46, ef_48, ⟨by omega, by omega, fun k h1 h2 => hall k (by omega) (by omega), Or.inl (by omega), (by rw [← hcs, ← hcd, ← hw8, show ((Int32.toNatClampNeg to : Nat) : Int) - (Int32.toNatClampNeg fr : Nat) = x_2.toInt by omega]; exact (show Int32.toInt 260 = 260 from by decide).trans (lx_st_1 (by omega) (by omega))), (fun g => absurd g (by have h9 : Int32.toInt 260 = 260 := (by decide); omega)), (fun _ => by exfalso; omega)⟩⟩, ⟨_, ef_46, by decide⟩⟩, by rw [ht]; exact hP9, va_K.moved hW.alike hK9, hD9⟩, hS.F ht⟩) hS.2.2 dX10_readWord_243
            · have ic_47 : di.toInt = x_2.toInt := zi_eq c_47
              refine lv_iload hx hb dX10_readWord_232 (lv_at hl 2 rfl) ?_
              obtain ⟨x_49, ex_49⟩ : ∃ z : Int64, z = Int32.toInt64 nu := ⟨_, rfl⟩
              refine lv_i2l (v := x_49) hx hb dX10_readWord_234 ex_49.symm ?_
              refine lv_goto (tgt := 240) hx hb dX10_readWord_235 (by decide) ?_
              refine va_last hx hb hK hP hD hS 3 2 rfl rfl (vp_in_iff.mpr ⟨by omega, by omega⟩) dX10_readWord_240 (fun H locs hP hD hS => ?_)
              obtain ⟨f_50, ef_50⟩ : ∃ gz9 : Nat → Int64, gz9 = vp_updL gw (Int32.toNatClampNeg z) x_49 := ⟨_, rfl⟩
              rw [← ef_50] at hP hD
              have hP : va_P (dC, dI) vwCl [(h0, .inr (10, [.ref ts, .ref tp, .ref tw, .int z, .int pa, .int so, .int pl, .long wd])), (ts, .inl (t1, 2001, .inl f_46)), (tp, .inl (t2, 2001, .inl gp)), (tw, .inl (t3, 2001, .inr (.inl f_50))), (bt, .inl (bk, 2000, .inl gt))] H := hP
              have hD : va_D A [(h0, .inr (10, [.ref ts, .ref tp, .ref tw, .int z, .int pa, .int so, .int pl, .long wd])), (ts, .inl (t1, 2001, .inl f_46)), (tp, .inl (t2, 2001, .inl gp)), (tw, .inl (t3, 2001, .inr (.inl f_50))), (bt, .inl (bk, 2000, .inl gt))] := hD
              refine lv_iload hx hb dX10_readWord_241 (lv_at hl 5 rfl) ?_
              have hP9 := hP.sub (ws' := [(h0, .inr (10, [.ref ts, .ref tp, .ref tw, .int z, .int pa, .int so, .int pl, .long wd])), (ts, .inl (t1, 2001, .inl f_46)), (tp, .inl (t2, 2001, .inl gp)), (tw, .inl (t3, 2001, .inr (.inl f_50))), (bt, .inl (bk, 2000, .inl gt))]) [0, 1, 2, 3, 4] rfl
              have hD9 := hD.sub (ws' := [(h0, .inr (10, [.ref ts, .ref tp, .ref tw, .int z, .int pa, .int so, .int pl, .long wd])), (ts, .inl (t1, 2001, .inl f_46)), (tp, .inl (t2, 2001, .inl gp)), (tw, .inl (t3, 2001, .inr (.inl f_50))), (bt, .inl (bk, 2000, .inl gt))]) [0, 1, 2, 3, 4] (by decide) rfl
              have hK9 := hK.sub (tys' := [(t1, .int), (t2, .int), (t3, .long), (bk, .byte)]) [0, 1, 2, 3] rfl
              exact W.iret (v := to) hx hb hr (fun t ht hW => ⟨⟨to, (f_46, f_50), rfl, ⟨by omega, by omega, ⟨_, _, ef_46, ef_50, ⟨by omega, by omega, fun k h1 h2 => hall k (by omega) (by omega), Or.inl (by omega), (by rw [← hcs, ← hcd, ← hw8, show ((Int32.toNatClampNeg to : Nat) : Int) - (Int32.toNatClampNeg fr : Nat) = x_2.toInt by omega]; exact (show Int32.toInt 260 = 260 from by decide).trans (lx_st_1 (by omega) (by omega))), (fun g => absurd g (by have h9 : Int32.toInt 260 = 260 := (by decide); omega)), (fun _ => by rw [ex_49, Int32.toInt32_toInt64]; exact hnq (fun j hj => (lx_call (g := gt) (p := Int32.toNatClampNeg fr) (lo := 48) (hi := 57) (Int32.toNatClampNeg to - Int32.toNatClampNeg fr)).2 (by rw [← hcd]; omega) j hj) (by omega))⟩⟩, ⟨_, ef_46, by decide⟩⟩, by rw [ht]; exact hP9, va_K.moved hW.alike hK9, hD9⟩, hS.F ht⟩) hS.2.2 dX10_readWord_243
      · have ic_1 : to.toInt < en.toInt := zi_nle c_1
        refine lv_aload_n hx hb dX10_readWord_21 rfl (lv_at hl 6 rfl) ?_
        refine lv_iload hx hb dX10_readWord_22 (lv_at hl 4 rfl) ?_
        refine va_bald hx hb hK hP 4 3 rfl rfl (vp_in_iff.mpr ⟨by omega, by omega⟩) dX10_readWord_24 ?_
        refine lv_topi (fun x_51 ex_51 => ?_)
        have ix_51 : x_51.toInt = (gt (Int32.toNatClampNeg to)).toInt := by rw [ex_51]
        have hPc := hP.sub (ws' := []) [] rfl
        have hDc := hD.sub (ws' := []) [] (by decide) rfl
        have hKc := hK.sub (tys' := []) [] rfl
        have hFc := va_free (wc := []) hD hS hAA [] rfl
        refine va_calli (va_runS (As := [.int x_51]) (rest := []) ⟨hx, hb, hml, hown, hA⟩ (c_X10_isWordByte_x l dC dI aK aV x_51 H.size) (va_cwS 1 hA (zw_S wi_661 wi_662 wi_137 (zw_good wi_663)) rfl rfl rfl (by decide +kernel) ⟨(Nat.le_of_ble_eq_true rfl), (Nat.le_of_ble_eq_true rfl)⟩) ⟨zP_blind, zz_pre hKc hPc hDc hN hT hS hFc⟩ rfl rfl hl.1 rfl (lv_room (Nat.le_of_ble_eq_true rfl)) dX10_readWord_25 ⟨(Nat.le_of_ble_eq_true rfl), (Nat.le_of_ble_eq_true rfl)⟩) hS (fun q _ h => hFc q h) hFc (fun r_52 u t H1 locs ht hvm hw hB hz1 hk1 hS => ?_)
        obtain ⟨hP1, hK1, hD1⟩ := hB
        rw [ht] at hP1
        have hK1 := va_K.moved hvm.symm hK1
        obtain ⟨hP, hD⟩ := va_join (wr := [(h0, .inr (10, [.ref ts, .ref tp, .ref tw, .int z, .int pa, .int so, .int pl, .long wd])), (ts, .inl (t1, 2001, .inl gs)), (tp, .inl (t2, 2001, .inl gp)), (tw, .inl (t3, 2001, .inr (.inl gw))), (bt, .inl (bk, 2000, .inl gt))]) (w1 := []) hP hD [] [0, 1, 2, 3, 4] rfl rfl (by decide) (by decide) hk1 hFc hP1 hD1
        have hK := (hK.sub (tys' := [(t1, .int), (t2, .int), (t3, .long), (bk, .byte)]) [0, 1, 2, 3] rfl).app hK1
        generalize H1 = H at hP hS ⊢
        have hP : va_P (dC, dI) vwCl [(h0, .inr (10, [.ref ts, .ref tp, .ref tw, .int z, .int pa, .int so, .int pl, .long wd])), (ts, .inl (t1, 2001, .inl gs)), (tp, .inl (t2, 2001, .inl gp)), (tw, .inl (t3, 2001, .inr (.inl gw))), (bt, .inl (bk, 2000, .inl gt))] H := hP
        have hD : va_D A [(h0, .inr (10, [.ref ts, .ref tp, .ref tw, .int z, .int pa, .int so, .int pl, .long wd])), (ts, .inl (t1, 2001, .inl gs)), (tp, .inl (t2, 2001, .inl gp)), (tw, .inl (t3, 2001, .inr (.inl gw))), (bt, .inl (bk, 2000, .inl gt))] := hD
        have hK : va_K (dC, dI) vwCl [(t1, .int), (t2, .int), (t3, .long), (bk, .byte)] s := hK
        have hw_r_52 := hw
        try dsimp only at hw_r_52
        have hq_53 := hw
        refine lv_if_eq (tgt := 94) hx hb dX10_readWord_28 (by decide) (fun c_54 => ?_) (fun c_54 => ?_)
        · have ic_54 : r_52.toInt = 0 := zi_eq c_54
          have hv9 : to = fr → x_51.toInt = (gt (Int32.toNatClampNeg fr)).toInt := fun e => by rw [ex_51, e]
          have hlt9 : fr.toInt < to.toInt := by
            by_cases g : fr.toInt < to.toInt
            · exact g
            · have := hv9 (Int32.toInt_inj.mp (by omega)); omega
          have hnto := zn_nat (x := to) (by omega)
          have hnfr := zn_nat (x := fr) (by omega)
          refine lv_iload hx hb dX10_readWord_94 (lv_at hl 4 rfl) ?_
          refine lv_iload_n hx hb dX10_readWord_96 rfl (lv_at hl 7 rfl) ?_
          refine lv_isub hx hb dX10_readWord_97 ?_
          refine lv_topi (fun x_55 ex_55 => ?_)
          have ix_55 : x_55.toInt = to.toInt - fr.toInt := by rw [ex_55]; exact zi_subc rfl (by omega) (by omega)
          refine lv_istore (lv' := [(10, .int x_55), (8, .long by_), (7, .int nu), (6, .int di), (5, .int sm), (4, .int to), (0, .ref h0), (1, .ref bt), (2, .int fr), (3, .int en)]) hx hb dX10_readWord_98 hl (by decide) rfl (fun ls hl => ?_)
          refine lv_iload hx hb dX10_readWord_100 (lv_at hl 3 rfl) ?_
          refine lv_iload hx hb dX10_readWord_102 (lv_at hl 0 rfl) ?_
          refine lv_icmp_ne (tgt := 135) hx hb dX10_readWord_104 (by decide) (fun c_56 => ?_) (fun c_56 => ?_)
          · have ic_56 : di.toInt ≠ x_55.toInt := zi_ne c_56
            refine lv_iload hx hb dX10_readWord_135 (lv_at hl 0 rfl) ?_
            refine lv_bipush (v := 8) hx hb dX10_readWord_137 (by decide) ?_
            refine lv_icmp_le (tgt := 157) hx hb dX10_readWord_139 (by decide) (fun c_57 => ?_) (fun c_57 => ?_)
            · have ic_57 : x_55.toInt ≤ 8 := zi_le c_57
              refine lv_iload hx hb dX10_readWord_157 (lv_at hl 4 rfl) ?_
              refine lv_iload hx hb dX10_readWord_159 (lv_at hl 0 rfl) ?_
              refine lv_icmp_ne (tgt := 181) hx hb dX10_readWord_161 (by decide) (fun c_58 => ?_) (fun c_58 => ?_)
              · have ic_58 : sm.toInt ≠ x_55.toInt := zi_ne c_58
                refine lv_aload_n hx hb dX10_readWord_181 rfl (lv_at hl 6 rfl) ?_
                refine va_get (D := (dC, dI)) (ci := 10) (v := .ref ts) (C := RX10) (T := TX10) (N := 8) hx hb hA zin_X10 hown hK hP 0 rfl rfl 0 (by decide) (hA _ wi_346) (fun _ h9 => h9) rfl dX10_readWord_182 ?_
                refine lv_aload_n hx hb dX10_readWord_185 rfl (lv_at hl 6 rfl) ?_
                refine va_get (D := (dC, dI)) (ci := 10) (v := .int z) (C := RX10) (T := TX10) (N := 8) hx hb hA zin_X10 hown hK hP 0 rfl rfl 3 (by decide) (hA _ wi_349) (fun _ h9 => h9) rfl dX10_readWord_186 ?_
                refine lv_iload hx hb dX10_readWord_189 (lv_at hl 4 rfl) ?_
                refine lv_iload hx hb dX10_readWord_191 (lv_at hl 0 rfl) ?_
                refine lv_iconst (v := 1) hx hb dX10_readWord_193 (by decide) ?_
                refine lv_isub hx hb dX10_readWord_194 ?_
                refine lv_topi (fun x_59 ex_59 => ?_)
                have ix_59 : x_59.toInt = x_55.toInt - 1 := by rw [ex_59]; exact zi_subc (by decide) (by omega) (by omega)
                refine lv_icmp_ne (tgt := 213) hx hb dX10_readWord_195 (by decide) (fun c_60 => ?_) (fun c_60 => ?_)
                · have ic_60 : sm.toInt ≠ x_59.toInt := zi_ne c_60
                  refine lv_sipush (v := 257) hx hb dX10_readWord_213 (by decide) ?_
                  refine va_iast hx hb hK hP hD hS 1 0 rfl rfl (vp_in_iff.mpr ⟨by omega, by omega⟩) dX10_readWord_216 (fun H locs hP hD hS => ?_)
                  obtain ⟨f_61, ef_61⟩ : ∃ gz9 : Nat → Int32, gz9 = upd gs (Int32.toNatClampNeg z) 257 := ⟨_, rfl⟩
                  rw [← ef_61] at hP hD
                  have hP : va_P (dC, dI) vwCl [(h0, .inr (10, [.ref ts, .ref tp, .ref tw, .int z, .int pa, .int so, .int pl, .long wd])), (ts, .inl (t1, 2001, .inl f_61)), (tp, .inl (t2, 2001, .inl gp)), (tw, .inl (t3, 2001, .inr (.inl gw))), (bt, .inl (bk, 2000, .inl gt))] H := hP
                  have hD : va_D A [(h0, .inr (10, [.ref ts, .ref tp, .ref tw, .int z, .int pa, .int so, .int pl, .long wd])), (ts, .inl (t1, 2001, .inl f_61)), (tp, .inl (t2, 2001, .inl gp)), (tw, .inl (t3, 2001, .inr (.inl gw))), (bt, .inl (bk, 2000, .inl gt))] := hD
                  refine lv_aload_n hx hb dX10_readWord_217 rfl (lv_at hl 6 rfl) ?_
                  refine va_get (D := (dC, dI)) (ci := 10) (v := .ref tw) (C := RX10) (T := TX10) (N := 8) hx hb hA zin_X10 hown hK hP 0 rfl rfl 2 (by decide) (hA _ wi_348) (fun _ h9 => h9) rfl dX10_readWord_218 ?_
                  refine lv_aload_n hx hb dX10_readWord_221 rfl (lv_at hl 6 rfl) ?_
                  refine va_get (D := (dC, dI)) (ci := 10) (v := .int z) (C := RX10) (T := TX10) (N := 8) hx hb hA zin_X10 hown hK hP 0 rfl rfl 3 (by decide) (hA _ wi_349) (fun _ h9 => h9) rfl dX10_readWord_222 ?_
                  refine lv_iload hx hb dX10_readWord_225 (lv_at hl 3 rfl) ?_
                  refine lv_iload hx hb dX10_readWord_227 (lv_at hl 0 rfl) ?_
                  refine lv_icmp_ne (tgt := 238) hx hb dX10_readWord_229 (by decide) (fun c_62 => ?_) (fun c_62 => ?_)
                  · have ic_62 : di.toInt ≠ x_55.toInt := zi_ne c_62
                    refine lv_lload hx hb dX10_readWord_238 (lv_at hl 1 rfl) ?_
                    refine va_last hx hb hK hP hD hS 3 2 rfl rfl (vp_in_iff.mpr ⟨by omega, by omega⟩) dX10_readWord_240 (fun H locs hP hD hS => ?_)
                    obtain ⟨f_63, ef_63⟩ : ∃ gz9 : Nat → Int64, gz9 = vp_updL gw (Int32.toNatClampNeg z) by_ := ⟨_, rfl⟩
                    rw [← ef_63] at hP hD
                    have hP : va_P (dC, dI) vwCl [(h0, .inr (10, [.ref ts, .ref tp, .ref tw, .int z, .int pa, .int so, .int pl, .long wd])), (ts, .inl (t1, 2001, .inl f_61)), (tp, .inl (t2, 2001, .inl gp)), (tw, .inl (t3, 2001, .inr (.inl f_63))), (bt, .inl (bk, 2000, .inl gt))] H := hP
                    have hD : va_D A [(h0, .inr (10, [.ref ts, .ref tp, .ref tw, .int z, .int pa, .int so, .int pl, .long wd])), (ts, .inl (t1, 2001, .inl f_61)), (tp, .inl (t2, 2001, .inl gp)), (tw, .inl (t3, 2001, .inr (.inl f_63))), (bt, .inl (bk, 2000, .inl gt))] := hD
                    refine lv_iload hx hb dX10_readWord_241 (lv_at hl 5 rfl) ?_
                    have hP9 := hP.sub (ws' := [(h0, .inr (10, [.ref ts, .ref tp, .ref tw, .int z, .int pa, .int so, .int pl, .long wd])), (ts, .inl (t1, 2001, .inl f_61)), (tp, .inl (t2, 2001, .inl gp)), (tw, .inl (t3, 2001, .inr (.inl f_63))), (bt, .inl (bk, 2000, .inl gt))]) [0, 1, 2, 3, 4] rfl
                    have hD9 := hD.sub (ws' := [(h0, .inr (10, [.ref ts, .ref tp, .ref tw, .int z, .int pa, .int so, .int pl, .long wd])), (ts, .inl (t1, 2001, .inl f_61)), (tp, .inl (t2, 2001, .inl gp)), (tw, .inl (t3, 2001, .inr (.inl f_63))), (bt, .inl (bk, 2000, .inl gt))]) [0, 1, 2, 3, 4] (by decide) rfl
                    have hK9 := hK.sub (tys' := [(t1, .int), (t2, .int), (t3, .long), (bk, .byte)]) [0, 1, 2, 3] rfl
                    exact W.iret (v := to) hx hb hr (fun t ht hW => ⟨⟨to, (f_61, f_63), rfl, ⟨by omega, by omega, ⟨_, _, ef_61, ef_63, ⟨by omega, by omega, fun k h1 h2 => hall k (by omega) (by omega), Or.inr (by unfold lx_wb; omega), (by rw [← hcs, ← hcd, ← hw8, show ((Int32.toNatClampNeg to : Nat) : Int) - (Int32.toNatClampNeg fr : Nat) = x_55.toInt by omega]; exact (show Int32.toInt 257 = 257 from by decide).trans (lx_st_6 (by omega) (by omega) (by omega) (by omega))), (fun g => absurd g (by have h9 : Int32.toInt 257 = 257 := (by decide); omega)), (fun g => absurd g (by have h9 : Int32.toInt 257 = 257 := (by decide); omega))⟩⟩, ⟨_, ef_61, by decide⟩⟩, by rw [ht]; exact hP9, va_K.moved hW.alike hK9, hD9⟩, hS.F ht⟩) hS.2.2 dX10_readWord_243
                  · have ic_62 : di.toInt = x_55.toInt := zi_eq c_62
                    refine lv_iload hx hb dX10_readWord_232 (lv_at hl 2 rfl) ?_
                    obtain ⟨x_64, ex_64⟩ : ∃ z : Int64, z = Int32.toInt64 nu := ⟨_, rfl⟩
                    refine lv_i2l (v := x_64) hx hb dX10_readWord_234 ex_64.symm ?_
                    refine lv_goto (tgt := 240) hx hb dX10_readWord_235 (by decide) ?_
                    refine va_last hx hb hK hP hD hS 3 2 rfl rfl (vp_in_iff.mpr ⟨by omega, by omega⟩) dX10_readWord_240 (fun H locs hP hD hS => ?_)
                    obtain ⟨f_65, ef_65⟩ : ∃ gz9 : Nat → Int64, gz9 = vp_updL gw (Int32.toNatClampNeg z) x_64 := ⟨_, rfl⟩
                    rw [← ef_65] at hP hD
                    have hP : va_P (dC, dI) vwCl [(h0, .inr (10, [.ref ts, .ref tp, .ref tw, .int z, .int pa, .int so, .int pl, .long wd])), (ts, .inl (t1, 2001, .inl f_61)), (tp, .inl (t2, 2001, .inl gp)), (tw, .inl (t3, 2001, .inr (.inl f_65))), (bt, .inl (bk, 2000, .inl gt))] H := hP
                    have hD : va_D A [(h0, .inr (10, [.ref ts, .ref tp, .ref tw, .int z, .int pa, .int so, .int pl, .long wd])), (ts, .inl (t1, 2001, .inl f_61)), (tp, .inl (t2, 2001, .inl gp)), (tw, .inl (t3, 2001, .inr (.inl f_65))), (bt, .inl (bk, 2000, .inl gt))] := hD
                    refine lv_iload hx hb dX10_readWord_241 (lv_at hl 5 rfl) ?_
                    have hP9 := hP.sub (ws' := [(h0, .inr (10, [.ref ts, .ref tp, .ref tw, .int z, .int pa, .int so, .int pl, .long wd])), (ts, .inl (t1, 2001, .inl f_61)), (tp, .inl (t2, 2001, .inl gp)), (tw, .inl (t3, 2001, .inr (.inl f_65))), (bt, .inl (bk, 2000, .inl gt))]) [0, 1, 2, 3, 4] rfl
                    have hD9 := hD.sub (ws' := [(h0, .inr (10, [.ref ts, .ref tp, .ref tw, .int z, .int pa, .int so, .int pl, .long wd])), (ts, .inl (t1, 2001, .inl f_61)), (tp, .inl (t2, 2001, .inl gp)), (tw, .inl (t3, 2001, .inr (.inl f_65))), (bt, .inl (bk, 2000, .inl gt))]) [0, 1, 2, 3, 4] (by decide) rfl
                    have hK9 := hK.sub (tys' := [(t1, .int), (t2, .int), (t3, .long), (bk, .byte)]) [0, 1, 2, 3] rfl
                    exact W.iret (v := to) hx hb hr (fun t ht hW => ⟨⟨to, (f_61, f_65), rfl, ⟨by omega, by omega, ⟨_, _, ef_61, ef_65, ⟨by omega, by omega, fun k h1 h2 => hall k (by omega) (by omega), Or.inr (by unfold lx_wb; omega), (by rw [← hcs, ← hcd, ← hw8, show ((Int32.toNatClampNeg to : Nat) : Int) - (Int32.toNatClampNeg fr : Nat) = x_55.toInt by omega]; exact (show Int32.toInt 257 = 257 from by decide).trans (lx_st_6 (by omega) (by omega) (by omega) (by omega))), (fun g => absurd g (by have h9 : Int32.toInt 257 = 257 := (by decide); omega)), (fun g => absurd g (by have h9 : Int32.toInt 257 = 257 := (by decide); omega))⟩⟩, ⟨_, ef_61, by decide⟩⟩, by rw [ht]; exact hP9, va_K.moved hW.alike hK9, hD9⟩, hS.F ht⟩) hS.2.2 dX10_readWord_243
                · have ic_60 : sm.toInt = x_59.toInt := zi_eq c_60
                  refine lv_aload_n hx hb dX10_readWord_198 rfl (lv_at hl 7 rfl) ?_
                  refine lv_iload_n hx hb dX10_readWord_199 rfl (lv_at hl 8 rfl) ?_
                  refine va_bald hx hb hK hP 4 3 rfl rfl (vp_in_iff.mpr ⟨by omega, by omega⟩) dX10_readWord_200 ?_
                  refine lv_topi (fun x_66 ex_66 => ?_)
                  have ix_66 : x_66.toInt = (gt (Int32.toNatClampNeg fr)).toInt := by rw [ex_66]
                  have hPc := hP.sub (ws' := []) [] rfl
                  have hDc := hD.sub (ws' := []) [] (by decide) rfl
                  have hKc := hK.sub (tys' := []) [] rfl
                  have hFc := va_free (wc := []) hD hS hAA [] rfl
                  refine va_calli (va_runS (As := [.int x_66]) (rest := [.int z, .ref ts]) ⟨hx, hb, hml, hown, hA⟩ (c_X10_isGreat_x l dC dI aK aV x_66 H.size) (va_cwS 1 hA (zw_S wi_667 wi_668 wi_137 (zw_good wi_669)) rfl rfl rfl (by decide +kernel) ⟨(Nat.le_of_ble_eq_true rfl), (Nat.le_of_ble_eq_true rfl)⟩) ⟨zP_blind, zz_pre hKc hPc hDc hN hT hS hFc⟩ rfl rfl hl.1 rfl (lv_room (Nat.le_of_ble_eq_true rfl)) dX10_readWord_201 ⟨(Nat.le_of_ble_eq_true rfl), (Nat.le_of_ble_eq_true rfl)⟩) hS (fun q _ h => hFc q h) hFc (fun r_67 u t H1 locs ht hvm hw hB hz1 hk1 hS => ?_)
                  obtain ⟨hP1, hK1, hD1⟩ := hB
                  rw [ht] at hP1
                  have hK1 := va_K.moved hvm.symm hK1
                  obtain ⟨hP, hD⟩ := va_join (wr := [(h0, .inr (10, [.ref ts, .ref tp, .ref tw, .int z, .int pa, .int so, .int pl, .long wd])), (ts, .inl (t1, 2001, .inl gs)), (tp, .inl (t2, 2001, .inl gp)), (tw, .inl (t3, 2001, .inr (.inl gw))), (bt, .inl (bk, 2000, .inl gt))]) (w1 := []) hP hD [] [0, 1, 2, 3, 4] rfl rfl (by decide) (by decide) hk1 hFc hP1 hD1
                  have hK := (hK.sub (tys' := [(t1, .int), (t2, .int), (t3, .long), (bk, .byte)]) [0, 1, 2, 3] rfl).app hK1
                  generalize H1 = H at hP hS ⊢
                  have hP : va_P (dC, dI) vwCl [(h0, .inr (10, [.ref ts, .ref tp, .ref tw, .int z, .int pa, .int so, .int pl, .long wd])), (ts, .inl (t1, 2001, .inl gs)), (tp, .inl (t2, 2001, .inl gp)), (tw, .inl (t3, 2001, .inr (.inl gw))), (bt, .inl (bk, 2000, .inl gt))] H := hP
                  have hD : va_D A [(h0, .inr (10, [.ref ts, .ref tp, .ref tw, .int z, .int pa, .int so, .int pl, .long wd])), (ts, .inl (t1, 2001, .inl gs)), (tp, .inl (t2, 2001, .inl gp)), (tw, .inl (t3, 2001, .inr (.inl gw))), (bt, .inl (bk, 2000, .inl gt))] := hD
                  have hK : va_K (dC, dI) vwCl [(t1, .int), (t2, .int), (t3, .long), (bk, .byte)] s := hK
                  have hw_r_67 := hw
                  try dsimp only at hw_r_67
                  have hq_68 := hw
                  refine lv_if_eq (tgt := 213) hx hb dX10_readWord_204 (by decide) (fun c_69 => ?_) (fun c_69 => ?_)
                  · have ic_69 : r_67.toInt = 0 := zi_eq c_69
                    refine lv_sipush (v := 257) hx hb dX10_readWord_213 (by decide) ?_
                    refine va_iast hx hb hK hP hD hS 1 0 rfl rfl (vp_in_iff.mpr ⟨by omega, by omega⟩) dX10_readWord_216 (fun H locs hP hD hS => ?_)
                    obtain ⟨f_70, ef_70⟩ : ∃ gz9 : Nat → Int32, gz9 = upd gs (Int32.toNatClampNeg z) 257 := ⟨_, rfl⟩
                    rw [← ef_70] at hP hD
                    have hP : va_P (dC, dI) vwCl [(h0, .inr (10, [.ref ts, .ref tp, .ref tw, .int z, .int pa, .int so, .int pl, .long wd])), (ts, .inl (t1, 2001, .inl f_70)), (tp, .inl (t2, 2001, .inl gp)), (tw, .inl (t3, 2001, .inr (.inl gw))), (bt, .inl (bk, 2000, .inl gt))] H := hP
                    have hD : va_D A [(h0, .inr (10, [.ref ts, .ref tp, .ref tw, .int z, .int pa, .int so, .int pl, .long wd])), (ts, .inl (t1, 2001, .inl f_70)), (tp, .inl (t2, 2001, .inl gp)), (tw, .inl (t3, 2001, .inr (.inl gw))), (bt, .inl (bk, 2000, .inl gt))] := hD
                    refine lv_aload_n hx hb dX10_readWord_217 rfl (lv_at hl 6 rfl) ?_
                    refine va_get (D := (dC, dI)) (ci := 10) (v := .ref tw) (C := RX10) (T := TX10) (N := 8) hx hb hA zin_X10 hown hK hP 0 rfl rfl 2 (by decide) (hA _ wi_348) (fun _ h9 => h9) rfl dX10_readWord_218 ?_
                    refine lv_aload_n hx hb dX10_readWord_221 rfl (lv_at hl 6 rfl) ?_
                    refine va_get (D := (dC, dI)) (ci := 10) (v := .int z) (C := RX10) (T := TX10) (N := 8) hx hb hA zin_X10 hown hK hP 0 rfl rfl 3 (by decide) (hA _ wi_349) (fun _ h9 => h9) rfl dX10_readWord_222 ?_
                    refine lv_iload hx hb dX10_readWord_225 (lv_at hl 3 rfl) ?_
                    refine lv_iload hx hb dX10_readWord_227 (lv_at hl 0 rfl) ?_
                    refine lv_icmp_ne (tgt := 238) hx hb dX10_readWord_229 (by decide) (fun c_71 => ?_) (fun c_71 => ?_)
                    · have ic_71 : di.toInt ≠ x_55.toInt := zi_ne c_71
                      refine lv_lload hx hb dX10_readWord_238 (lv_at hl 1 rfl) ?_
                      refine va_last hx hb hK hP hD hS 3 2 rfl rfl (vp_in_iff.mpr ⟨by omega, by omega⟩) dX10_readWord_240 (fun H locs hP hD hS => ?_)
                      obtain ⟨f_72, ef_72⟩ : ∃ gz9 : Nat → Int64, gz9 = vp_updL gw (Int32.toNatClampNeg z) by_ := ⟨_, rfl⟩
                      rw [← ef_72] at hP hD
                      have hP : va_P (dC, dI) vwCl [(h0, .inr (10, [.ref ts, .ref tp, .ref tw, .int z, .int pa, .int so, .int pl, .long wd])), (ts, .inl (t1, 2001, .inl f_70)), (tp, .inl (t2, 2001, .inl gp)), (tw, .inl (t3, 2001, .inr (.inl f_72))), (bt, .inl (bk, 2000, .inl gt))] H := hP
                      have hD : va_D A [(h0, .inr (10, [.ref ts, .ref tp, .ref tw, .int z, .int pa, .int so, .int pl, .long wd])), (ts, .inl (t1, 2001, .inl f_70)), (tp, .inl (t2, 2001, .inl gp)), (tw, .inl (t3, 2001, .inr (.inl f_72))), (bt, .inl (bk, 2000, .inl gt))] := hD
                      refine lv_iload hx hb dX10_readWord_241 (lv_at hl 5 rfl) ?_
                      have hP9 := hP.sub (ws' := [(h0, .inr (10, [.ref ts, .ref tp, .ref tw, .int z, .int pa, .int so, .int pl, .long wd])), (ts, .inl (t1, 2001, .inl f_70)), (tp, .inl (t2, 2001, .inl gp)), (tw, .inl (t3, 2001, .inr (.inl f_72))), (bt, .inl (bk, 2000, .inl gt))]) [0, 1, 2, 3, 4] rfl
                      have hD9 := hD.sub (ws' := [(h0, .inr (10, [.ref ts, .ref tp, .ref tw, .int z, .int pa, .int so, .int pl, .long wd])), (ts, .inl (t1, 2001, .inl f_70)), (tp, .inl (t2, 2001, .inl gp)), (tw, .inl (t3, 2001, .inr (.inl f_72))), (bt, .inl (bk, 2000, .inl gt))]) [0, 1, 2, 3, 4] (by decide) rfl
                      have hK9 := hK.sub (tys' := [(t1, .int), (t2, .int), (t3, .long), (bk, .byte)]) [0, 1, 2, 3] rfl
                      exact W.iret (v := to) hx hb hr (fun t ht hW => ⟨⟨to, (f_70, f_72), rfl, ⟨by omega, by omega, ⟨_, _, ef_70, ef_72, ⟨by omega, by omega, fun k h1 h2 => hall k (by omega) (by omega), Or.inr (by unfold lx_wb; omega), (by rw [← hcs, ← hcd, ← hw8, show ((Int32.toNatClampNeg to : Nat) : Int) - (Int32.toNatClampNeg fr : Nat) = x_55.toInt by omega]; exact (show Int32.toInt 257 = 257 from by decide).trans (lx_st_6 (by omega) (by omega) (by omega) (by omega))), (fun g => absurd g (by have h9 : Int32.toInt 257 = 257 := (by decide); omega)), (fun g => absurd g (by have h9 : Int32.toInt 257 = 257 := (by decide); omega))⟩⟩, ⟨_, ef_70, by decide⟩⟩, by rw [ht]; exact hP9, va_K.moved hW.alike hK9, hD9⟩, hS.F ht⟩) hS.2.2 dX10_readWord_243
                    · have ic_71 : di.toInt = x_55.toInt := zi_eq c_71
                      refine lv_iload hx hb dX10_readWord_232 (lv_at hl 2 rfl) ?_
                      obtain ⟨x_73, ex_73⟩ : ∃ z : Int64, z = Int32.toInt64 nu := ⟨_, rfl⟩
                      refine lv_i2l (v := x_73) hx hb dX10_readWord_234 ex_73.symm ?_
                      refine lv_goto (tgt := 240) hx hb dX10_readWord_235 (by decide) ?_
                      refine va_last hx hb hK hP hD hS 3 2 rfl rfl (vp_in_iff.mpr ⟨by omega, by omega⟩) dX10_readWord_240 (fun H locs hP hD hS => ?_)
                      obtain ⟨f_74, ef_74⟩ : ∃ gz9 : Nat → Int64, gz9 = vp_updL gw (Int32.toNatClampNeg z) x_73 := ⟨_, rfl⟩
                      rw [← ef_74] at hP hD
                      have hP : va_P (dC, dI) vwCl [(h0, .inr (10, [.ref ts, .ref tp, .ref tw, .int z, .int pa, .int so, .int pl, .long wd])), (ts, .inl (t1, 2001, .inl f_70)), (tp, .inl (t2, 2001, .inl gp)), (tw, .inl (t3, 2001, .inr (.inl f_74))), (bt, .inl (bk, 2000, .inl gt))] H := hP
                      have hD : va_D A [(h0, .inr (10, [.ref ts, .ref tp, .ref tw, .int z, .int pa, .int so, .int pl, .long wd])), (ts, .inl (t1, 2001, .inl f_70)), (tp, .inl (t2, 2001, .inl gp)), (tw, .inl (t3, 2001, .inr (.inl f_74))), (bt, .inl (bk, 2000, .inl gt))] := hD
                      refine lv_iload hx hb dX10_readWord_241 (lv_at hl 5 rfl) ?_
                      have hP9 := hP.sub (ws' := [(h0, .inr (10, [.ref ts, .ref tp, .ref tw, .int z, .int pa, .int so, .int pl, .long wd])), (ts, .inl (t1, 2001, .inl f_70)), (tp, .inl (t2, 2001, .inl gp)), (tw, .inl (t3, 2001, .inr (.inl f_74))), (bt, .inl (bk, 2000, .inl gt))]) [0, 1, 2, 3, 4] rfl
                      have hD9 := hD.sub (ws' := [(h0, .inr (10, [.ref ts, .ref tp, .ref tw, .int z, .int pa, .int so, .int pl, .long wd])), (ts, .inl (t1, 2001, .inl f_70)), (tp, .inl (t2, 2001, .inl gp)), (tw, .inl (t3, 2001, .inr (.inl f_74))), (bt, .inl (bk, 2000, .inl gt))]) [0, 1, 2, 3, 4] (by decide) rfl
                      have hK9 := hK.sub (tys' := [(t1, .int), (t2, .int), (t3, .long), (bk, .byte)]) [0, 1, 2, 3] rfl
                      exact W.iret (v := to) hx hb hr (fun t ht hW => ⟨⟨to, (f_70, f_74), rfl, ⟨by omega, by omega, ⟨_, _, ef_70, ef_74, ⟨by omega, by omega, fun k h1 h2 => hall k (by omega) (by omega), Or.inr (by unfold lx_wb; omega), (by rw [← hcs, ← hcd, ← hw8, show ((Int32.toNatClampNeg to : Nat) : Int) - (Int32.toNatClampNeg fr : Nat) = x_55.toInt by omega]; exact (show Int32.toInt 257 = 257 from by decide).trans (lx_st_6 (by omega) (by omega) (by omega) (by omega))), (fun g => absurd g (by have h9 : Int32.toInt 257 = 257 := (by decide); omega)), (fun g => absurd g (by have h9 : Int32.toInt 257 = 257 := (by decide); omega))⟩⟩, ⟨_, ef_70, by decide⟩⟩, by rw [ht]; exact hP9, va_K.moved hW.alike hK9, hD9⟩, hS.F ht⟩) hS.2.2 dX10_readWord_243
                  · have ic_69 : r_67.toInt ≠ 0 := zi_ne c_69
                    refine lv_sipush (v := 259) hx hb dX10_readWord_207 (by decide) ?_
                    refine lv_goto (tgt := 216) hx hb dX10_readWord_210 (by decide) ?_
                    refine va_iast hx hb hK hP hD hS 1 0 rfl rfl (vp_in_iff.mpr ⟨by omega, by omega⟩) dX10_readWord_216 (fun H locs hP hD hS => ?_)
                    obtain ⟨f_75, ef_75⟩ : ∃ gz9 : Nat → Int32, gz9 = upd gs (Int32.toNatClampNeg z) 259 := ⟨_, rfl⟩
                    rw [← ef_75] at hP hD
                    have hP : va_P (dC, dI) vwCl [(h0, .inr (10, [.ref ts, .ref tp, .ref tw, .int z, .int pa, .int so, .int pl, .long wd])), (ts, .inl (t1, 2001, .inl f_75)), (tp, .inl (t2, 2001, .inl gp)), (tw, .inl (t3, 2001, .inr (.inl gw))), (bt, .inl (bk, 2000, .inl gt))] H := hP
                    have hD : va_D A [(h0, .inr (10, [.ref ts, .ref tp, .ref tw, .int z, .int pa, .int so, .int pl, .long wd])), (ts, .inl (t1, 2001, .inl f_75)), (tp, .inl (t2, 2001, .inl gp)), (tw, .inl (t3, 2001, .inr (.inl gw))), (bt, .inl (bk, 2000, .inl gt))] := hD
                    refine lv_aload_n hx hb dX10_readWord_217 rfl (lv_at hl 6 rfl) ?_
                    refine va_get (D := (dC, dI)) (ci := 10) (v := .ref tw) (C := RX10) (T := TX10) (N := 8) hx hb hA zin_X10 hown hK hP 0 rfl rfl 2 (by decide) (hA _ wi_348) (fun _ h9 => h9) rfl dX10_readWord_218 ?_
                    refine lv_aload_n hx hb dX10_readWord_221 rfl (lv_at hl 6 rfl) ?_
                    refine va_get (D := (dC, dI)) (ci := 10) (v := .int z) (C := RX10) (T := TX10) (N := 8) hx hb hA zin_X10 hown hK hP 0 rfl rfl 3 (by decide) (hA _ wi_349) (fun _ h9 => h9) rfl dX10_readWord_222 ?_
                    refine lv_iload hx hb dX10_readWord_225 (lv_at hl 3 rfl) ?_
                    refine lv_iload hx hb dX10_readWord_227 (lv_at hl 0 rfl) ?_
                    refine lv_icmp_ne (tgt := 238) hx hb dX10_readWord_229 (by decide) (fun c_76 => ?_) (fun c_76 => ?_)
                    · have ic_76 : di.toInt ≠ x_55.toInt := zi_ne c_76
                      refine lv_lload hx hb dX10_readWord_238 (lv_at hl 1 rfl) ?_
                      refine va_last hx hb hK hP hD hS 3 2 rfl rfl (vp_in_iff.mpr ⟨by omega, by omega⟩) dX10_readWord_240 (fun H locs hP hD hS => ?_)
                      obtain ⟨f_77, ef_77⟩ : ∃ gz9 : Nat → Int64, gz9 = vp_updL gw (Int32.toNatClampNeg z) by_ := ⟨_, rfl⟩
                      rw [← ef_77] at hP hD
                      have hP : va_P (dC, dI) vwCl [(h0, .inr (10, [.ref ts, .ref tp, .ref tw, .int z, .int pa, .int so, .int pl, .long wd])), (ts, .inl (t1, 2001, .inl f_75)), (tp, .inl (t2, 2001, .inl gp)), (tw, .inl (t3, 2001, .inr (.inl f_77))), (bt, .inl (bk, 2000, .inl gt))] H := hP
                      have hD : va_D A [(h0, .inr (10, [.ref ts, .ref tp, .ref tw, .int z, .int pa, .int so, .int pl, .long wd])), (ts, .inl (t1, 2001, .inl f_75)), (tp, .inl (t2, 2001, .inl gp)), (tw, .inl (t3, 2001, .inr (.inl f_77))), (bt, .inl (bk, 2000, .inl gt))] := hD
                      refine lv_iload hx hb dX10_readWord_241 (lv_at hl 5 rfl) ?_
                      have hP9 := hP.sub (ws' := [(h0, .inr (10, [.ref ts, .ref tp, .ref tw, .int z, .int pa, .int so, .int pl, .long wd])), (ts, .inl (t1, 2001, .inl f_75)), (tp, .inl (t2, 2001, .inl gp)), (tw, .inl (t3, 2001, .inr (.inl f_77))), (bt, .inl (bk, 2000, .inl gt))]) [0, 1, 2, 3, 4] rfl
                      have hD9 := hD.sub (ws' := [(h0, .inr (10, [.ref ts, .ref tp, .ref tw, .int z, .int pa, .int so, .int pl, .long wd])), (ts, .inl (t1, 2001, .inl f_75)), (tp, .inl (t2, 2001, .inl gp)), (tw, .inl (t3, 2001, .inr (.inl f_77))), (bt, .inl (bk, 2000, .inl gt))]) [0, 1, 2, 3, 4] (by decide) rfl
                      have hK9 := hK.sub (tys' := [(t1, .int), (t2, .int), (t3, .long), (bk, .byte)]) [0, 1, 2, 3] rfl
                      exact W.iret (v := to) hx hb hr (fun t ht hW => ⟨⟨to, (f_75, f_77), rfl, ⟨by omega, by omega, ⟨_, _, ef_75, ef_77, ⟨by omega, by omega, fun k h1 h2 => hall k (by omega) (by omega), Or.inr (by unfold lx_wb; omega), (by rw [← hcs, ← hcd, ← hw8, show ((Int32.toNatClampNeg to : Nat) : Int) - (Int32.toNatClampNeg fr : Nat) = x_55.toInt by omega]; exact (show Int32.toInt 259 = 259 from by decide).trans (lx_st_5 (by omega) (by omega) (by omega) (by omega) (by omega))), (fun _ => hw8), (fun g => absurd g (by have h9 : Int32.toInt 259 = 259 := (by decide); omega))⟩⟩, ⟨_, ef_75, by decide⟩⟩, by rw [ht]; exact hP9, va_K.moved hW.alike hK9, hD9⟩, hS.F ht⟩) hS.2.2 dX10_readWord_243
                    · have ic_76 : di.toInt = x_55.toInt := zi_eq c_76
                      refine lv_iload hx hb dX10_readWord_232 (lv_at hl 2 rfl) ?_
                      obtain ⟨x_78, ex_78⟩ : ∃ z : Int64, z = Int32.toInt64 nu := ⟨_, rfl⟩
                      refine lv_i2l (v := x_78) hx hb dX10_readWord_234 ex_78.symm ?_
                      refine lv_goto (tgt := 240) hx hb dX10_readWord_235 (by decide) ?_
                      refine va_last hx hb hK hP hD hS 3 2 rfl rfl (vp_in_iff.mpr ⟨by omega, by omega⟩) dX10_readWord_240 (fun H locs hP hD hS => ?_)
                      obtain ⟨f_79, ef_79⟩ : ∃ gz9 : Nat → Int64, gz9 = vp_updL gw (Int32.toNatClampNeg z) x_78 := ⟨_, rfl⟩
                      rw [← ef_79] at hP hD
                      have hP : va_P (dC, dI) vwCl [(h0, .inr (10, [.ref ts, .ref tp, .ref tw, .int z, .int pa, .int so, .int pl, .long wd])), (ts, .inl (t1, 2001, .inl f_75)), (tp, .inl (t2, 2001, .inl gp)), (tw, .inl (t3, 2001, .inr (.inl f_79))), (bt, .inl (bk, 2000, .inl gt))] H := hP
                      have hD : va_D A [(h0, .inr (10, [.ref ts, .ref tp, .ref tw, .int z, .int pa, .int so, .int pl, .long wd])), (ts, .inl (t1, 2001, .inl f_75)), (tp, .inl (t2, 2001, .inl gp)), (tw, .inl (t3, 2001, .inr (.inl f_79))), (bt, .inl (bk, 2000, .inl gt))] := hD
                      refine lv_iload hx hb dX10_readWord_241 (lv_at hl 5 rfl) ?_
                      have hP9 := hP.sub (ws' := [(h0, .inr (10, [.ref ts, .ref tp, .ref tw, .int z, .int pa, .int so, .int pl, .long wd])), (ts, .inl (t1, 2001, .inl f_75)), (tp, .inl (t2, 2001, .inl gp)), (tw, .inl (t3, 2001, .inr (.inl f_79))), (bt, .inl (bk, 2000, .inl gt))]) [0, 1, 2, 3, 4] rfl
                      have hD9 := hD.sub (ws' := [(h0, .inr (10, [.ref ts, .ref tp, .ref tw, .int z, .int pa, .int so, .int pl, .long wd])), (ts, .inl (t1, 2001, .inl f_75)), (tp, .inl (t2, 2001, .inl gp)), (tw, .inl (t3, 2001, .inr (.inl f_79))), (bt, .inl (bk, 2000, .inl gt))]) [0, 1, 2, 3, 4] (by decide) rfl
                      have hK9 := hK.sub (tys' := [(t1, .int), (t2, .int), (t3, .long), (bk, .byte)]) [0, 1, 2, 3] rfl
                      exact W.iret (v := to) hx hb hr (fun t ht hW => ⟨⟨to, (f_75, f_79), rfl, ⟨by omega, by omega, ⟨_, _, ef_75, ef_79, ⟨by omega, by omega, fun k h1 h2 => hall k (by omega) (by omega), Or.inr (by unfold lx_wb; omega), (by rw [← hcs, ← hcd, ← hw8, show ((Int32.toNatClampNeg to : Nat) : Int) - (Int32.toNatClampNeg fr : Nat) = x_55.toInt by omega]; exact (show Int32.toInt 259 = 259 from by decide).trans (lx_st_5 (by omega) (by omega) (by omega) (by omega) (by omega))), (fun _ => by exfalso; omega), (fun g => absurd g (by have h9 : Int32.toInt 259 = 259 := (by decide); omega))⟩⟩, ⟨_, ef_75, by decide⟩⟩, by rw [ht]; exact hP9, va_K.moved hW.alike hK9, hD9⟩, hS.F ht⟩) hS.2.2 dX10_readWord_243
              · have ic_58 : sm.toInt = x_55.toInt := zi_eq c_58
                refine lv_aload_n hx hb dX10_readWord_164 rfl (lv_at hl 6 rfl) ?_
                refine va_get (D := (dC, dI)) (ci := 10) (v := .ref ts) (C := RX10) (T := TX10) (N := 8) hx hb hA zin_X10 hown hK hP 0 rfl rfl 0 (by decide) (hA _ wi_346) (fun _ h9 => h9) rfl dX10_readWord_165 ?_
                refine lv_aload_n hx hb dX10_readWord_168 rfl (lv_at hl 6 rfl) ?_
                refine va_get (D := (dC, dI)) (ci := 10) (v := .int z) (C := RX10) (T := TX10) (N := 8) hx hb hA zin_X10 hown hK hP 0 rfl rfl 3 (by decide) (hA _ wi_349) (fun _ h9 => h9) rfl dX10_readWord_169 ?_
                refine lv_lload hx hb dX10_readWord_172 (lv_at hl 1 rfl) ?_
                have hPc := hP.sub (ws' := []) [] rfl
                have hDc := hD.sub (ws' := []) [] (by decide) rfl
                have hKc := hK.sub (tys' := []) [] rfl
                have hFc := va_free (wc := []) hD hS hAA [] rfl
                refine va_calli (va_runS (As := [.long by_]) (rest := [.int z, .ref ts]) ⟨hx, hb, hml, hown, hA⟩ (c_X10_sortOfSmall_x l dC dI aK aV by_ H.size) (va_cwS 1 hA (zw_S wi_677 wi_678 wi_137 (zw_good wi_679)) rfl rfl rfl (by decide +kernel) ⟨(Nat.le_of_ble_eq_true rfl), (Nat.le_of_ble_eq_true rfl)⟩) ⟨zP_blind, zz_pre hKc hPc hDc hN hT hS hFc⟩ rfl rfl hl.1 rfl (lv_room (Nat.le_of_ble_eq_true rfl)) dX10_readWord_174 ⟨(Nat.le_of_ble_eq_true rfl), (Nat.le_of_ble_eq_true rfl)⟩) hS (fun q _ h => hFc q h) hFc (fun r_80 u t H1 locs ht hvm hw hB hz1 hk1 hS => ?_)
                obtain ⟨hP1, hK1, hD1⟩ := hB
                rw [ht] at hP1
                have hK1 := va_K.moved hvm.symm hK1
                obtain ⟨hP, hD⟩ := va_join (wr := [(h0, .inr (10, [.ref ts, .ref tp, .ref tw, .int z, .int pa, .int so, .int pl, .long wd])), (ts, .inl (t1, 2001, .inl gs)), (tp, .inl (t2, 2001, .inl gp)), (tw, .inl (t3, 2001, .inr (.inl gw))), (bt, .inl (bk, 2000, .inl gt))]) (w1 := []) hP hD [] [0, 1, 2, 3, 4] rfl rfl (by decide) (by decide) hk1 hFc hP1 hD1
                have hK := (hK.sub (tys' := [(t1, .int), (t2, .int), (t3, .long), (bk, .byte)]) [0, 1, 2, 3] rfl).app hK1
                generalize H1 = H at hP hS ⊢
                have hP : va_P (dC, dI) vwCl [(h0, .inr (10, [.ref ts, .ref tp, .ref tw, .int z, .int pa, .int so, .int pl, .long wd])), (ts, .inl (t1, 2001, .inl gs)), (tp, .inl (t2, 2001, .inl gp)), (tw, .inl (t3, 2001, .inr (.inl gw))), (bt, .inl (bk, 2000, .inl gt))] H := hP
                have hD : va_D A [(h0, .inr (10, [.ref ts, .ref tp, .ref tw, .int z, .int pa, .int so, .int pl, .long wd])), (ts, .inl (t1, 2001, .inl gs)), (tp, .inl (t2, 2001, .inl gp)), (tw, .inl (t3, 2001, .inr (.inl gw))), (bt, .inl (bk, 2000, .inl gt))] := hD
                have hK : va_K (dC, dI) vwCl [(t1, .int), (t2, .int), (t3, .long), (bk, .byte)] s := hK
                have hw_r_80 := hw
                try dsimp only at hw_r_80
                obtain ⟨hq_81, hq_82⟩ := hw
                refine va_iast hx hb hK hP hD hS 1 0 rfl rfl (vp_in_iff.mpr ⟨by omega, by omega⟩) dX10_readWord_177 (fun H locs hP hD hS => ?_)
                obtain ⟨f_83, ef_83⟩ : ∃ gz9 : Nat → Int32, gz9 = upd gs (Int32.toNatClampNeg z) r_80 := ⟨_, rfl⟩
                rw [← ef_83] at hP hD
                have hP : va_P (dC, dI) vwCl [(h0, .inr (10, [.ref ts, .ref tp, .ref tw, .int z, .int pa, .int so, .int pl, .long wd])), (ts, .inl (t1, 2001, .inl f_83)), (tp, .inl (t2, 2001, .inl gp)), (tw, .inl (t3, 2001, .inr (.inl gw))), (bt, .inl (bk, 2000, .inl gt))] H := hP
                have hD : va_D A [(h0, .inr (10, [.ref ts, .ref tp, .ref tw, .int z, .int pa, .int so, .int pl, .long wd])), (ts, .inl (t1, 2001, .inl f_83)), (tp, .inl (t2, 2001, .inl gp)), (tw, .inl (t3, 2001, .inr (.inl gw))), (bt, .inl (bk, 2000, .inl gt))] := hD
                refine lv_goto (tgt := 217) hx hb dX10_readWord_178 (by decide) ?_
                refine lv_aload_n hx hb dX10_readWord_217 rfl (lv_at hl 6 rfl) ?_
                refine va_get (D := (dC, dI)) (ci := 10) (v := .ref tw) (C := RX10) (T := TX10) (N := 8) hx hb hA zin_X10 hown hK hP 0 rfl rfl 2 (by decide) (hA _ wi_348) (fun _ h9 => h9) rfl dX10_readWord_218 ?_
                refine lv_aload_n hx hb dX10_readWord_221 rfl (lv_at hl 6 rfl) ?_
                refine va_get (D := (dC, dI)) (ci := 10) (v := .int z) (C := RX10) (T := TX10) (N := 8) hx hb hA zin_X10 hown hK hP 0 rfl rfl 3 (by decide) (hA _ wi_349) (fun _ h9 => h9) rfl dX10_readWord_222 ?_
                refine lv_iload hx hb dX10_readWord_225 (lv_at hl 3 rfl) ?_
                refine lv_iload hx hb dX10_readWord_227 (lv_at hl 0 rfl) ?_
                refine lv_icmp_ne (tgt := 238) hx hb dX10_readWord_229 (by decide) (fun c_84 => ?_) (fun c_84 => ?_)
                · have ic_84 : di.toInt ≠ x_55.toInt := zi_ne c_84
                  refine lv_lload hx hb dX10_readWord_238 (lv_at hl 1 rfl) ?_
                  refine va_last hx hb hK hP hD hS 3 2 rfl rfl (vp_in_iff.mpr ⟨by omega, by omega⟩) dX10_readWord_240 (fun H locs hP hD hS => ?_)
                  obtain ⟨f_85, ef_85⟩ : ∃ gz9 : Nat → Int64, gz9 = vp_updL gw (Int32.toNatClampNeg z) by_ := ⟨_, rfl⟩
                  rw [← ef_85] at hP hD
                  have hP : va_P (dC, dI) vwCl [(h0, .inr (10, [.ref ts, .ref tp, .ref tw, .int z, .int pa, .int so, .int pl, .long wd])), (ts, .inl (t1, 2001, .inl f_83)), (tp, .inl (t2, 2001, .inl gp)), (tw, .inl (t3, 2001, .inr (.inl f_85))), (bt, .inl (bk, 2000, .inl gt))] H := hP
                  have hD : va_D A [(h0, .inr (10, [.ref ts, .ref tp, .ref tw, .int z, .int pa, .int so, .int pl, .long wd])), (ts, .inl (t1, 2001, .inl f_83)), (tp, .inl (t2, 2001, .inl gp)), (tw, .inl (t3, 2001, .inr (.inl f_85))), (bt, .inl (bk, 2000, .inl gt))] := hD
                  refine lv_iload hx hb dX10_readWord_241 (lv_at hl 5 rfl) ?_
                  have hP9 := hP.sub (ws' := [(h0, .inr (10, [.ref ts, .ref tp, .ref tw, .int z, .int pa, .int so, .int pl, .long wd])), (ts, .inl (t1, 2001, .inl f_83)), (tp, .inl (t2, 2001, .inl gp)), (tw, .inl (t3, 2001, .inr (.inl f_85))), (bt, .inl (bk, 2000, .inl gt))]) [0, 1, 2, 3, 4] rfl
                  have hD9 := hD.sub (ws' := [(h0, .inr (10, [.ref ts, .ref tp, .ref tw, .int z, .int pa, .int so, .int pl, .long wd])), (ts, .inl (t1, 2001, .inl f_83)), (tp, .inl (t2, 2001, .inl gp)), (tw, .inl (t3, 2001, .inr (.inl f_85))), (bt, .inl (bk, 2000, .inl gt))]) [0, 1, 2, 3, 4] (by decide) rfl
                  have hK9 := hK.sub (tys' := [(t1, .int), (t2, .int), (t3, .long), (bk, .byte)]) [0, 1, 2, 3] rfl
                  exact W.iret (v := to) hx hb hr (fun t ht hW => ⟨⟨to, (f_83, f_85), rfl, ⟨by omega, by omega, ⟨_, _, ef_83, ef_85, ⟨by omega, by omega, fun k h1 h2 => hall k (by omega) (by omega), Or.inr (by unfold lx_wb; omega), (by rw [← hcs, ← hcd, ← hw8, show ((Int32.toNatClampNeg to : Nat) : Int) - (Int32.toNatClampNeg fr : Nat) = x_55.toInt by omega]; exact hq_82.trans (lx_st_4 (by omega) (by omega) (by omega))), (fun _ => hw8), (fun g => absurd g (by have h8 := hq_82; unfold lx_kw at h8; omega))⟩⟩, ⟨_, ef_83, by omega⟩⟩, by rw [ht]; exact hP9, va_K.moved hW.alike hK9, hD9⟩, hS.F ht⟩) hS.2.2 dX10_readWord_243
                · have ic_84 : di.toInt = x_55.toInt := zi_eq c_84
                  refine lv_iload hx hb dX10_readWord_232 (lv_at hl 2 rfl) ?_
                  obtain ⟨x_86, ex_86⟩ : ∃ z : Int64, z = Int32.toInt64 nu := ⟨_, rfl⟩
                  refine lv_i2l (v := x_86) hx hb dX10_readWord_234 ex_86.symm ?_
                  refine lv_goto (tgt := 240) hx hb dX10_readWord_235 (by decide) ?_
                  refine va_last hx hb hK hP hD hS 3 2 rfl rfl (vp_in_iff.mpr ⟨by omega, by omega⟩) dX10_readWord_240 (fun H locs hP hD hS => ?_)
                  obtain ⟨f_87, ef_87⟩ : ∃ gz9 : Nat → Int64, gz9 = vp_updL gw (Int32.toNatClampNeg z) x_86 := ⟨_, rfl⟩
                  rw [← ef_87] at hP hD
                  have hP : va_P (dC, dI) vwCl [(h0, .inr (10, [.ref ts, .ref tp, .ref tw, .int z, .int pa, .int so, .int pl, .long wd])), (ts, .inl (t1, 2001, .inl f_83)), (tp, .inl (t2, 2001, .inl gp)), (tw, .inl (t3, 2001, .inr (.inl f_87))), (bt, .inl (bk, 2000, .inl gt))] H := hP
                  have hD : va_D A [(h0, .inr (10, [.ref ts, .ref tp, .ref tw, .int z, .int pa, .int so, .int pl, .long wd])), (ts, .inl (t1, 2001, .inl f_83)), (tp, .inl (t2, 2001, .inl gp)), (tw, .inl (t3, 2001, .inr (.inl f_87))), (bt, .inl (bk, 2000, .inl gt))] := hD
                  refine lv_iload hx hb dX10_readWord_241 (lv_at hl 5 rfl) ?_
                  have hP9 := hP.sub (ws' := [(h0, .inr (10, [.ref ts, .ref tp, .ref tw, .int z, .int pa, .int so, .int pl, .long wd])), (ts, .inl (t1, 2001, .inl f_83)), (tp, .inl (t2, 2001, .inl gp)), (tw, .inl (t3, 2001, .inr (.inl f_87))), (bt, .inl (bk, 2000, .inl gt))]) [0, 1, 2, 3, 4] rfl
                  have hD9 := hD.sub (ws' := [(h0, .inr (10, [.ref ts, .ref tp, .ref tw, .int z, .int pa, .int so, .int pl, .long wd])), (ts, .inl (t1, 2001, .inl f_83)), (tp, .inl (t2, 2001, .inl gp)), (tw, .inl (t3, 2001, .inr (.inl f_87))), (bt, .inl (bk, 2000, .inl gt))]) [0, 1, 2, 3, 4] (by decide) rfl
                  have hK9 := hK.sub (tys' := [(t1, .int), (t2, .int), (t3, .long), (bk, .byte)]) [0, 1, 2, 3] rfl
                  exact W.iret (v := to) hx hb hr (fun t ht hW => ⟨⟨to, (f_83, f_87), rfl, ⟨by omega, by omega, ⟨_, _, ef_83, ef_87, ⟨by omega, by omega, fun k h1 h2 => hall k (by omega) (by omega), Or.inr (by unfold lx_wb; omega), (by rw [← hcs, ← hcd, ← hw8, show ((Int32.toNatClampNeg to : Nat) : Int) - (Int32.toNatClampNeg fr : Nat) = x_55.toInt by omega]; exact hq_82.trans (lx_st_4 (by omega) (by omega) (by omega))), (fun _ => by exfalso; omega), (fun g => absurd g (by have h8 := hq_82; unfold lx_kw at h8; omega))⟩⟩, ⟨_, ef_83, by omega⟩⟩, by rw [ht]; exact hP9, va_K.moved hW.alike hK9, hD9⟩, hS.F ht⟩) hS.2.2 dX10_readWord_243
            · have ic_57 : 8 < x_55.toInt := zi_nle c_57
              refine lv_aload_n hx hb dX10_readWord_142 rfl (lv_at hl 6 rfl) ?_
              refine va_get (D := (dC, dI)) (ci := 10) (v := .ref ts) (C := RX10) (T := TX10) (N := 8) hx hb hA zin_X10 hown hK hP 0 rfl rfl 0 (by decide) (hA _ wi_346) (fun _ h9 => h9) rfl dX10_readWord_143 ?_
              refine lv_aload_n hx hb dX10_readWord_146 rfl (lv_at hl 6 rfl) ?_
              refine va_get (D := (dC, dI)) (ci := 10) (v := .int z) (C := RX10) (T := TX10) (N := 8) hx hb hA zin_X10 hown hK hP 0 rfl rfl 3 (by decide) (hA _ wi_349) (fun _ h9 => h9) rfl dX10_readWord_147 ?_
              refine lv_sipush (v := 257) hx hb dX10_readWord_150 (by decide) ?_
              refine va_iast hx hb hK hP hD hS 1 0 rfl rfl (vp_in_iff.mpr ⟨by omega, by omega⟩) dX10_readWord_153 (fun H locs hP hD hS => ?_)
              obtain ⟨f_88, ef_88⟩ : ∃ gz9 : Nat → Int32, gz9 = upd gs (Int32.toNatClampNeg z) 257 := ⟨_, rfl⟩
              rw [← ef_88] at hP hD
              have hP : va_P (dC, dI) vwCl [(h0, .inr (10, [.ref ts, .ref tp, .ref tw, .int z, .int pa, .int so, .int pl, .long wd])), (ts, .inl (t1, 2001, .inl f_88)), (tp, .inl (t2, 2001, .inl gp)), (tw, .inl (t3, 2001, .inr (.inl gw))), (bt, .inl (bk, 2000, .inl gt))] H := hP
              have hD : va_D A [(h0, .inr (10, [.ref ts, .ref tp, .ref tw, .int z, .int pa, .int so, .int pl, .long wd])), (ts, .inl (t1, 2001, .inl f_88)), (tp, .inl (t2, 2001, .inl gp)), (tw, .inl (t3, 2001, .inr (.inl gw))), (bt, .inl (bk, 2000, .inl gt))] := hD
              refine lv_goto (tgt := 217) hx hb dX10_readWord_154 (by decide) ?_
              refine lv_aload_n hx hb dX10_readWord_217 rfl (lv_at hl 6 rfl) ?_
              refine va_get (D := (dC, dI)) (ci := 10) (v := .ref tw) (C := RX10) (T := TX10) (N := 8) hx hb hA zin_X10 hown hK hP 0 rfl rfl 2 (by decide) (hA _ wi_348) (fun _ h9 => h9) rfl dX10_readWord_218 ?_
              refine lv_aload_n hx hb dX10_readWord_221 rfl (lv_at hl 6 rfl) ?_
              refine va_get (D := (dC, dI)) (ci := 10) (v := .int z) (C := RX10) (T := TX10) (N := 8) hx hb hA zin_X10 hown hK hP 0 rfl rfl 3 (by decide) (hA _ wi_349) (fun _ h9 => h9) rfl dX10_readWord_222 ?_
              refine lv_iload hx hb dX10_readWord_225 (lv_at hl 3 rfl) ?_
              refine lv_iload hx hb dX10_readWord_227 (lv_at hl 0 rfl) ?_
              refine lv_icmp_ne (tgt := 238) hx hb dX10_readWord_229 (by decide) (fun c_89 => ?_) (fun c_89 => ?_)
              · have ic_89 : di.toInt ≠ x_55.toInt := zi_ne c_89
                refine lv_lload hx hb dX10_readWord_238 (lv_at hl 1 rfl) ?_
                refine va_last hx hb hK hP hD hS 3 2 rfl rfl (vp_in_iff.mpr ⟨by omega, by omega⟩) dX10_readWord_240 (fun H locs hP hD hS => ?_)
                obtain ⟨f_90, ef_90⟩ : ∃ gz9 : Nat → Int64, gz9 = vp_updL gw (Int32.toNatClampNeg z) by_ := ⟨_, rfl⟩
                rw [← ef_90] at hP hD
                have hP : va_P (dC, dI) vwCl [(h0, .inr (10, [.ref ts, .ref tp, .ref tw, .int z, .int pa, .int so, .int pl, .long wd])), (ts, .inl (t1, 2001, .inl f_88)), (tp, .inl (t2, 2001, .inl gp)), (tw, .inl (t3, 2001, .inr (.inl f_90))), (bt, .inl (bk, 2000, .inl gt))] H := hP
                have hD : va_D A [(h0, .inr (10, [.ref ts, .ref tp, .ref tw, .int z, .int pa, .int so, .int pl, .long wd])), (ts, .inl (t1, 2001, .inl f_88)), (tp, .inl (t2, 2001, .inl gp)), (tw, .inl (t3, 2001, .inr (.inl f_90))), (bt, .inl (bk, 2000, .inl gt))] := hD
                refine lv_iload hx hb dX10_readWord_241 (lv_at hl 5 rfl) ?_
                have hP9 := hP.sub (ws' := [(h0, .inr (10, [.ref ts, .ref tp, .ref tw, .int z, .int pa, .int so, .int pl, .long wd])), (ts, .inl (t1, 2001, .inl f_88)), (tp, .inl (t2, 2001, .inl gp)), (tw, .inl (t3, 2001, .inr (.inl f_90))), (bt, .inl (bk, 2000, .inl gt))]) [0, 1, 2, 3, 4] rfl
                have hD9 := hD.sub (ws' := [(h0, .inr (10, [.ref ts, .ref tp, .ref tw, .int z, .int pa, .int so, .int pl, .long wd])), (ts, .inl (t1, 2001, .inl f_88)), (tp, .inl (t2, 2001, .inl gp)), (tw, .inl (t3, 2001, .inr (.inl f_90))), (bt, .inl (bk, 2000, .inl gt))]) [0, 1, 2, 3, 4] (by decide) rfl
                have hK9 := hK.sub (tys' := [(t1, .int), (t2, .int), (t3, .long), (bk, .byte)]) [0, 1, 2, 3] rfl
                exact W.iret (v := to) hx hb hr (fun t ht hW => ⟨⟨to, (f_88, f_90), rfl, ⟨by omega, by omega, ⟨_, _, ef_88, ef_90, ⟨by omega, by omega, fun k h1 h2 => hall k (by omega) (by omega), Or.inr (by unfold lx_wb; omega), (by rw [← hcs, ← hcd, ← hw8, show ((Int32.toNatClampNeg to : Nat) : Int) - (Int32.toNatClampNeg fr : Nat) = x_55.toInt by omega]; exact (show Int32.toInt 257 = 257 from by decide).trans (lx_st_3 (by omega) (by omega))), (fun g => absurd g (by have h9 : Int32.toInt 257 = 257 := (by decide); omega)), (fun g => absurd g (by have h9 : Int32.toInt 257 = 257 := (by decide); omega))⟩⟩, ⟨_, ef_88, by decide⟩⟩, by rw [ht]; exact hP9, va_K.moved hW.alike hK9, hD9⟩, hS.F ht⟩) hS.2.2 dX10_readWord_243
              · have ic_89 : di.toInt = x_55.toInt := zi_eq c_89
                refine lv_iload hx hb dX10_readWord_232 (lv_at hl 2 rfl) ?_
                obtain ⟨x_91, ex_91⟩ : ∃ z : Int64, z = Int32.toInt64 nu := ⟨_, rfl⟩
                refine lv_i2l (v := x_91) hx hb dX10_readWord_234 ex_91.symm ?_
                refine lv_goto (tgt := 240) hx hb dX10_readWord_235 (by decide) ?_
                refine va_last hx hb hK hP hD hS 3 2 rfl rfl (vp_in_iff.mpr ⟨by omega, by omega⟩) dX10_readWord_240 (fun H locs hP hD hS => ?_)
                obtain ⟨f_92, ef_92⟩ : ∃ gz9 : Nat → Int64, gz9 = vp_updL gw (Int32.toNatClampNeg z) x_91 := ⟨_, rfl⟩
                rw [← ef_92] at hP hD
                have hP : va_P (dC, dI) vwCl [(h0, .inr (10, [.ref ts, .ref tp, .ref tw, .int z, .int pa, .int so, .int pl, .long wd])), (ts, .inl (t1, 2001, .inl f_88)), (tp, .inl (t2, 2001, .inl gp)), (tw, .inl (t3, 2001, .inr (.inl f_92))), (bt, .inl (bk, 2000, .inl gt))] H := hP
                have hD : va_D A [(h0, .inr (10, [.ref ts, .ref tp, .ref tw, .int z, .int pa, .int so, .int pl, .long wd])), (ts, .inl (t1, 2001, .inl f_88)), (tp, .inl (t2, 2001, .inl gp)), (tw, .inl (t3, 2001, .inr (.inl f_92))), (bt, .inl (bk, 2000, .inl gt))] := hD
                refine lv_iload hx hb dX10_readWord_241 (lv_at hl 5 rfl) ?_
                have hP9 := hP.sub (ws' := [(h0, .inr (10, [.ref ts, .ref tp, .ref tw, .int z, .int pa, .int so, .int pl, .long wd])), (ts, .inl (t1, 2001, .inl f_88)), (tp, .inl (t2, 2001, .inl gp)), (tw, .inl (t3, 2001, .inr (.inl f_92))), (bt, .inl (bk, 2000, .inl gt))]) [0, 1, 2, 3, 4] rfl
                have hD9 := hD.sub (ws' := [(h0, .inr (10, [.ref ts, .ref tp, .ref tw, .int z, .int pa, .int so, .int pl, .long wd])), (ts, .inl (t1, 2001, .inl f_88)), (tp, .inl (t2, 2001, .inl gp)), (tw, .inl (t3, 2001, .inr (.inl f_92))), (bt, .inl (bk, 2000, .inl gt))]) [0, 1, 2, 3, 4] (by decide) rfl
                have hK9 := hK.sub (tys' := [(t1, .int), (t2, .int), (t3, .long), (bk, .byte)]) [0, 1, 2, 3] rfl
                exact W.iret (v := to) hx hb hr (fun t ht hW => ⟨⟨to, (f_88, f_92), rfl, ⟨by omega, by omega, ⟨_, _, ef_88, ef_92, ⟨by omega, by omega, fun k h1 h2 => hall k (by omega) (by omega), Or.inr (by unfold lx_wb; omega), (by rw [← hcs, ← hcd, ← hw8, show ((Int32.toNatClampNeg to : Nat) : Int) - (Int32.toNatClampNeg fr : Nat) = x_55.toInt by omega]; exact (show Int32.toInt 257 = 257 from by decide).trans (lx_st_3 (by omega) (by omega))), (fun g => absurd g (by have h9 : Int32.toInt 257 = 257 := (by decide); omega)), (fun g => absurd g (by have h9 : Int32.toInt 257 = 257 := (by decide); omega))⟩⟩, ⟨_, ef_88, by decide⟩⟩, by rw [ht]; exact hP9, va_K.moved hW.alike hK9, hD9⟩, hS.F ht⟩) hS.2.2 dX10_readWord_243
          · have ic_56 : di.toInt = x_55.toInt := zi_eq c_56
            refine lv_aload_n hx hb dX10_readWord_107 rfl (lv_at hl 6 rfl) ?_
            refine va_get (D := (dC, dI)) (ci := 10) (v := .ref ts) (C := RX10) (T := TX10) (N := 8) hx hb hA zin_X10 hown hK hP 0 rfl rfl 0 (by decide) (hA _ wi_346) (fun _ h9 => h9) rfl dX10_readWord_108 ?_
            refine lv_aload_n hx hb dX10_readWord_111 rfl (lv_at hl 6 rfl) ?_
            refine va_get (D := (dC, dI)) (ci := 10) (v := .int z) (C := RX10) (T := TX10) (N := 8) hx hb hA zin_X10 hown hK hP 0 rfl rfl 3 (by decide) (hA _ wi_349) (fun _ h9 => h9) rfl dX10_readWord_112 ?_
            refine lv_iload hx hb dX10_readWord_115 (lv_at hl 0 rfl) ?_
            refine lv_bipush (v := 9) hx hb dX10_readWord_117 (by decide) ?_
            refine lv_icmp_gt (tgt := 128) hx hb dX10_readWord_119 (by decide) (fun c_93 => ?_) (fun c_93 => ?_)
            · have ic_93 : 9 < x_55.toInt := zi_lt c_93
              refine lv_sipush (v := 257) hx hb dX10_readWord_128 (by decide) ?_
              refine va_iast hx hb hK hP hD hS 1 0 rfl rfl (vp_in_iff.mpr ⟨by omega, by omega⟩) dX10_readWord_131 (fun H locs hP hD hS => ?_)
              obtain ⟨f_94, ef_94⟩ : ∃ gz9 : Nat → Int32, gz9 = upd gs (Int32.toNatClampNeg z) 257 := ⟨_, rfl⟩
              rw [← ef_94] at hP hD
              have hP : va_P (dC, dI) vwCl [(h0, .inr (10, [.ref ts, .ref tp, .ref tw, .int z, .int pa, .int so, .int pl, .long wd])), (ts, .inl (t1, 2001, .inl f_94)), (tp, .inl (t2, 2001, .inl gp)), (tw, .inl (t3, 2001, .inr (.inl gw))), (bt, .inl (bk, 2000, .inl gt))] H := hP
              have hD : va_D A [(h0, .inr (10, [.ref ts, .ref tp, .ref tw, .int z, .int pa, .int so, .int pl, .long wd])), (ts, .inl (t1, 2001, .inl f_94)), (tp, .inl (t2, 2001, .inl gp)), (tw, .inl (t3, 2001, .inr (.inl gw))), (bt, .inl (bk, 2000, .inl gt))] := hD
              refine lv_goto (tgt := 217) hx hb dX10_readWord_132 (by decide) ?_
              refine lv_aload_n hx hb dX10_readWord_217 rfl (lv_at hl 6 rfl) ?_
              refine va_get (D := (dC, dI)) (ci := 10) (v := .ref tw) (C := RX10) (T := TX10) (N := 8) hx hb hA zin_X10 hown hK hP 0 rfl rfl 2 (by decide) (hA _ wi_348) (fun _ h9 => h9) rfl dX10_readWord_218 ?_
              refine lv_aload_n hx hb dX10_readWord_221 rfl (lv_at hl 6 rfl) ?_
              refine va_get (D := (dC, dI)) (ci := 10) (v := .int z) (C := RX10) (T := TX10) (N := 8) hx hb hA zin_X10 hown hK hP 0 rfl rfl 3 (by decide) (hA _ wi_349) (fun _ h9 => h9) rfl dX10_readWord_222 ?_
              refine lv_iload hx hb dX10_readWord_225 (lv_at hl 3 rfl) ?_
              refine lv_iload hx hb dX10_readWord_227 (lv_at hl 0 rfl) ?_
              refine lv_icmp_ne (tgt := 238) hx hb dX10_readWord_229 (by decide) (fun c_95 => ?_) (fun c_95 => ?_)
              · have ic_95 : di.toInt ≠ x_55.toInt := zi_ne c_95
                refine lv_lload hx hb dX10_readWord_238 (lv_at hl 1 rfl) ?_
                refine va_last hx hb hK hP hD hS 3 2 rfl rfl (vp_in_iff.mpr ⟨by omega, by omega⟩) dX10_readWord_240 (fun H locs hP hD hS => ?_)
                obtain ⟨f_96, ef_96⟩ : ∃ gz9 : Nat → Int64, gz9 = vp_updL gw (Int32.toNatClampNeg z) by_ := ⟨_, rfl⟩
                rw [← ef_96] at hP hD
                have hP : va_P (dC, dI) vwCl [(h0, .inr (10, [.ref ts, .ref tp, .ref tw, .int z, .int pa, .int so, .int pl, .long wd])), (ts, .inl (t1, 2001, .inl f_94)), (tp, .inl (t2, 2001, .inl gp)), (tw, .inl (t3, 2001, .inr (.inl f_96))), (bt, .inl (bk, 2000, .inl gt))] H := hP
                have hD : va_D A [(h0, .inr (10, [.ref ts, .ref tp, .ref tw, .int z, .int pa, .int so, .int pl, .long wd])), (ts, .inl (t1, 2001, .inl f_94)), (tp, .inl (t2, 2001, .inl gp)), (tw, .inl (t3, 2001, .inr (.inl f_96))), (bt, .inl (bk, 2000, .inl gt))] := hD
                refine lv_iload hx hb dX10_readWord_241 (lv_at hl 5 rfl) ?_
                have hP9 := hP.sub (ws' := [(h0, .inr (10, [.ref ts, .ref tp, .ref tw, .int z, .int pa, .int so, .int pl, .long wd])), (ts, .inl (t1, 2001, .inl f_94)), (tp, .inl (t2, 2001, .inl gp)), (tw, .inl (t3, 2001, .inr (.inl f_96))), (bt, .inl (bk, 2000, .inl gt))]) [0, 1, 2, 3, 4] rfl
                have hD9 := hD.sub (ws' := [(h0, .inr (10, [.ref ts, .ref tp, .ref tw, .int z, .int pa, .int so, .int pl, .long wd])), (ts, .inl (t1, 2001, .inl f_94)), (tp, .inl (t2, 2001, .inl gp)), (tw, .inl (t3, 2001, .inr (.inl f_96))), (bt, .inl (bk, 2000, .inl gt))]) [0, 1, 2, 3, 4] (by decide) rfl
                have hK9 := hK.sub (tys' := [(t1, .int), (t2, .int), (t3, .long), (bk, .byte)]) [0, 1, 2, 3] rfl
                exact W.iret (v := to) hx hb hr (fun t ht hW => ⟨⟨to, (f_94, f_96), rfl, ⟨by omega, by omega, ⟨_, _, ef_94, ef_96, ⟨by omega, by omega, fun k h1 h2 => hall k (by omega) (by omega), Or.inr (by unfold lx_wb; omega), (by rw [← hcs, ← hcd, ← hw8, show ((Int32.toNatClampNeg to : Nat) : Int) - (Int32.toNatClampNeg fr : Nat) = x_55.toInt by omega]; exact (show Int32.toInt 257 = 257 from by decide).trans (lx_st_2 (by omega) (by omega))), (fun g => absurd g (by have h9 : Int32.toInt 257 = 257 := (by decide); omega)), (fun g => absurd g (by have h9 : Int32.toInt 257 = 257 := (by decide); omega))⟩⟩, ⟨_, ef_94, by decide⟩⟩, by rw [ht]; exact hP9, va_K.moved hW.alike hK9, hD9⟩, hS.F ht⟩) hS.2.2 dX10_readWord_243
              · have ic_95 : di.toInt = x_55.toInt := zi_eq c_95
                refine lv_iload hx hb dX10_readWord_232 (lv_at hl 2 rfl) ?_
                obtain ⟨x_97, ex_97⟩ : ∃ z : Int64, z = Int32.toInt64 nu := ⟨_, rfl⟩
                refine lv_i2l (v := x_97) hx hb dX10_readWord_234 ex_97.symm ?_
                refine lv_goto (tgt := 240) hx hb dX10_readWord_235 (by decide) ?_
                refine va_last hx hb hK hP hD hS 3 2 rfl rfl (vp_in_iff.mpr ⟨by omega, by omega⟩) dX10_readWord_240 (fun H locs hP hD hS => ?_)
                obtain ⟨f_98, ef_98⟩ : ∃ gz9 : Nat → Int64, gz9 = vp_updL gw (Int32.toNatClampNeg z) x_97 := ⟨_, rfl⟩
                rw [← ef_98] at hP hD
                have hP : va_P (dC, dI) vwCl [(h0, .inr (10, [.ref ts, .ref tp, .ref tw, .int z, .int pa, .int so, .int pl, .long wd])), (ts, .inl (t1, 2001, .inl f_94)), (tp, .inl (t2, 2001, .inl gp)), (tw, .inl (t3, 2001, .inr (.inl f_98))), (bt, .inl (bk, 2000, .inl gt))] H := hP
                have hD : va_D A [(h0, .inr (10, [.ref ts, .ref tp, .ref tw, .int z, .int pa, .int so, .int pl, .long wd])), (ts, .inl (t1, 2001, .inl f_94)), (tp, .inl (t2, 2001, .inl gp)), (tw, .inl (t3, 2001, .inr (.inl f_98))), (bt, .inl (bk, 2000, .inl gt))] := hD
                refine lv_iload hx hb dX10_readWord_241 (lv_at hl 5 rfl) ?_
                have hP9 := hP.sub (ws' := [(h0, .inr (10, [.ref ts, .ref tp, .ref tw, .int z, .int pa, .int so, .int pl, .long wd])), (ts, .inl (t1, 2001, .inl f_94)), (tp, .inl (t2, 2001, .inl gp)), (tw, .inl (t3, 2001, .inr (.inl f_98))), (bt, .inl (bk, 2000, .inl gt))]) [0, 1, 2, 3, 4] rfl
                have hD9 := hD.sub (ws' := [(h0, .inr (10, [.ref ts, .ref tp, .ref tw, .int z, .int pa, .int so, .int pl, .long wd])), (ts, .inl (t1, 2001, .inl f_94)), (tp, .inl (t2, 2001, .inl gp)), (tw, .inl (t3, 2001, .inr (.inl f_98))), (bt, .inl (bk, 2000, .inl gt))]) [0, 1, 2, 3, 4] (by decide) rfl
                have hK9 := hK.sub (tys' := [(t1, .int), (t2, .int), (t3, .long), (bk, .byte)]) [0, 1, 2, 3] rfl
                exact W.iret (v := to) hx hb hr (fun t ht hW => ⟨⟨to, (f_94, f_98), rfl, ⟨by omega, by omega, ⟨_, _, ef_94, ef_98, ⟨by omega, by omega, fun k h1 h2 => hall k (by omega) (by omega), Or.inr (by unfold lx_wb; omega), (by rw [← hcs, ← hcd, ← hw8, show ((Int32.toNatClampNeg to : Nat) : Int) - (Int32.toNatClampNeg fr : Nat) = x_55.toInt by omega]; exact (show Int32.toInt 257 = 257 from by decide).trans (lx_st_2 (by omega) (by omega))), (fun g => absurd g (by have h9 : Int32.toInt 257 = 257 := (by decide); omega)), (fun g => absurd g (by have h9 : Int32.toInt 257 = 257 := (by decide); omega))⟩⟩, ⟨_, ef_94, by decide⟩⟩, by rw [ht]; exact hP9, va_K.moved hW.alike hK9, hD9⟩, hS.F ht⟩) hS.2.2 dX10_readWord_243
            · have ic_93 : x_55.toInt ≤ 9 := zi_nlt c_93
              refine lv_sipush (v := 260) hx hb dX10_readWord_122 (by decide) ?_
              refine lv_goto (tgt := 131) hx hb dX10_readWord_125 (by decide) ?_
              refine va_iast hx hb hK hP hD hS 1 0 rfl rfl (vp_in_iff.mpr ⟨by omega, by omega⟩) dX10_readWord_131 (fun H locs hP hD hS => ?_)
              obtain ⟨f_99, ef_99⟩ : ∃ gz9 : Nat → Int32, gz9 = upd gs (Int32.toNatClampNeg z) 260 := ⟨_, rfl⟩
              rw [← ef_99] at hP hD
              have hP : va_P (dC, dI) vwCl [(h0, .inr (10, [.ref ts, .ref tp, .ref tw, .int z, .int pa, .int so, .int pl, .long wd])), (ts, .inl (t1, 2001, .inl f_99)), (tp, .inl (t2, 2001, .inl gp)), (tw, .inl (t3, 2001, .inr (.inl gw))), (bt, .inl (bk, 2000, .inl gt))] H := hP
              have hD : va_D A [(h0, .inr (10, [.ref ts, .ref tp, .ref tw, .int z, .int pa, .int so, .int pl, .long wd])), (ts, .inl (t1, 2001, .inl f_99)), (tp, .inl (t2, 2001, .inl gp)), (tw, .inl (t3, 2001, .inr (.inl gw))), (bt, .inl (bk, 2000, .inl gt))] := hD
              refine lv_goto (tgt := 217) hx hb dX10_readWord_132 (by decide) ?_
              refine lv_aload_n hx hb dX10_readWord_217 rfl (lv_at hl 6 rfl) ?_
              refine va_get (D := (dC, dI)) (ci := 10) (v := .ref tw) (C := RX10) (T := TX10) (N := 8) hx hb hA zin_X10 hown hK hP 0 rfl rfl 2 (by decide) (hA _ wi_348) (fun _ h9 => h9) rfl dX10_readWord_218 ?_
              refine lv_aload_n hx hb dX10_readWord_221 rfl (lv_at hl 6 rfl) ?_
              refine va_get (D := (dC, dI)) (ci := 10) (v := .int z) (C := RX10) (T := TX10) (N := 8) hx hb hA zin_X10 hown hK hP 0 rfl rfl 3 (by decide) (hA _ wi_349) (fun _ h9 => h9) rfl dX10_readWord_222 ?_
              refine lv_iload hx hb dX10_readWord_225 (lv_at hl 3 rfl) ?_
              refine lv_iload hx hb dX10_readWord_227 (lv_at hl 0 rfl) ?_
              refine lv_icmp_ne (tgt := 238) hx hb dX10_readWord_229 (by decide) (fun c_100 => ?_) (fun c_100 => ?_)
              · have ic_100 : di.toInt ≠ x_55.toInt := zi_ne c_100
                refine lv_lload hx hb dX10_readWord_238 (lv_at hl 1 rfl) ?_
                refine va_last hx hb hK hP hD hS 3 2 rfl rfl (vp_in_iff.mpr ⟨by omega, by omega⟩) dX10_readWord_240 (fun H locs hP hD hS => ?_)
                obtain ⟨f_101, ef_101⟩ : ∃ gz9 : Nat → Int64, gz9 = vp_updL gw (Int32.toNatClampNeg z) by_ := ⟨_, rfl⟩
                rw [← ef_101] at hP hD
                have hP : va_P (dC, dI) vwCl [(h0, .inr (10, [.ref ts, .ref tp, .ref tw, .int z, .int pa, .int so, .int pl, .long wd])), (ts, .inl (t1, 2001, .inl f_99)), (tp, .inl (t2, 2001, .inl gp)), (tw, .inl (t3, 2001, .inr (.inl f_101))), (bt, .inl (bk, 2000, .inl gt))] H := hP
                have hD : va_D A [(h0, .inr (10, [.ref ts, .ref tp, .ref tw, .int z, .int pa, .int so, .int pl, .long wd])), (ts, .inl (t1, 2001, .inl f_99)), (tp, .inl (t2, 2001, .inl gp)), (tw, .inl (t3, 2001, .inr (.inl f_101))), (bt, .inl (bk, 2000, .inl gt))] := hD
                refine lv_iload hx hb dX10_readWord_241 (lv_at hl 5 rfl) ?_
                have hP9 := hP.sub (ws' := [(h0, .inr (10, [.ref ts, .ref tp, .ref tw, .int z, .int pa, .int so, .int pl, .long wd])), (ts, .inl (t1, 2001, .inl f_99)), (tp, .inl (t2, 2001, .inl gp)), (tw, .inl (t3, 2001, .inr (.inl f_101))), (bt, .inl (bk, 2000, .inl gt))]) [0, 1, 2, 3, 4] rfl
                have hD9 := hD.sub (ws' := [(h0, .inr (10, [.ref ts, .ref tp, .ref tw, .int z, .int pa, .int so, .int pl, .long wd])), (ts, .inl (t1, 2001, .inl f_99)), (tp, .inl (t2, 2001, .inl gp)), (tw, .inl (t3, 2001, .inr (.inl f_101))), (bt, .inl (bk, 2000, .inl gt))]) [0, 1, 2, 3, 4] (by decide) rfl
                have hK9 := hK.sub (tys' := [(t1, .int), (t2, .int), (t3, .long), (bk, .byte)]) [0, 1, 2, 3] rfl
                exact W.iret (v := to) hx hb hr (fun t ht hW => ⟨⟨to, (f_99, f_101), rfl, ⟨by omega, by omega, ⟨_, _, ef_99, ef_101, ⟨by omega, by omega, fun k h1 h2 => hall k (by omega) (by omega), Or.inr (by unfold lx_wb; omega), (by rw [← hcs, ← hcd, ← hw8, show ((Int32.toNatClampNeg to : Nat) : Int) - (Int32.toNatClampNeg fr : Nat) = x_55.toInt by omega]; exact (show Int32.toInt 260 = 260 from by decide).trans (lx_st_1 (by omega) (by omega))), (fun g => absurd g (by have h9 : Int32.toInt 260 = 260 := (by decide); omega)), (fun _ => by exfalso; omega)⟩⟩, ⟨_, ef_99, by decide⟩⟩, by rw [ht]; exact hP9, va_K.moved hW.alike hK9, hD9⟩, hS.F ht⟩) hS.2.2 dX10_readWord_243
              · have ic_100 : di.toInt = x_55.toInt := zi_eq c_100
                refine lv_iload hx hb dX10_readWord_232 (lv_at hl 2 rfl) ?_
                obtain ⟨x_102, ex_102⟩ : ∃ z : Int64, z = Int32.toInt64 nu := ⟨_, rfl⟩
                refine lv_i2l (v := x_102) hx hb dX10_readWord_234 ex_102.symm ?_
                refine lv_goto (tgt := 240) hx hb dX10_readWord_235 (by decide) ?_
                refine va_last hx hb hK hP hD hS 3 2 rfl rfl (vp_in_iff.mpr ⟨by omega, by omega⟩) dX10_readWord_240 (fun H locs hP hD hS => ?_)
                obtain ⟨f_103, ef_103⟩ : ∃ gz9 : Nat → Int64, gz9 = vp_updL gw (Int32.toNatClampNeg z) x_102 := ⟨_, rfl⟩
                rw [← ef_103] at hP hD
                have hP : va_P (dC, dI) vwCl [(h0, .inr (10, [.ref ts, .ref tp, .ref tw, .int z, .int pa, .int so, .int pl, .long wd])), (ts, .inl (t1, 2001, .inl f_99)), (tp, .inl (t2, 2001, .inl gp)), (tw, .inl (t3, 2001, .inr (.inl f_103))), (bt, .inl (bk, 2000, .inl gt))] H := hP
                have hD : va_D A [(h0, .inr (10, [.ref ts, .ref tp, .ref tw, .int z, .int pa, .int so, .int pl, .long wd])), (ts, .inl (t1, 2001, .inl f_99)), (tp, .inl (t2, 2001, .inl gp)), (tw, .inl (t3, 2001, .inr (.inl f_103))), (bt, .inl (bk, 2000, .inl gt))] := hD
                refine lv_iload hx hb dX10_readWord_241 (lv_at hl 5 rfl) ?_
                have hP9 := hP.sub (ws' := [(h0, .inr (10, [.ref ts, .ref tp, .ref tw, .int z, .int pa, .int so, .int pl, .long wd])), (ts, .inl (t1, 2001, .inl f_99)), (tp, .inl (t2, 2001, .inl gp)), (tw, .inl (t3, 2001, .inr (.inl f_103))), (bt, .inl (bk, 2000, .inl gt))]) [0, 1, 2, 3, 4] rfl
                have hD9 := hD.sub (ws' := [(h0, .inr (10, [.ref ts, .ref tp, .ref tw, .int z, .int pa, .int so, .int pl, .long wd])), (ts, .inl (t1, 2001, .inl f_99)), (tp, .inl (t2, 2001, .inl gp)), (tw, .inl (t3, 2001, .inr (.inl f_103))), (bt, .inl (bk, 2000, .inl gt))]) [0, 1, 2, 3, 4] (by decide) rfl
                have hK9 := hK.sub (tys' := [(t1, .int), (t2, .int), (t3, .long), (bk, .byte)]) [0, 1, 2, 3] rfl
                exact W.iret (v := to) hx hb hr (fun t ht hW => ⟨⟨to, (f_99, f_103), rfl, ⟨by omega, by omega, ⟨_, _, ef_99, ef_103, ⟨by omega, by omega, fun k h1 h2 => hall k (by omega) (by omega), Or.inr (by unfold lx_wb; omega), (by rw [← hcs, ← hcd, ← hw8, show ((Int32.toNatClampNeg to : Nat) : Int) - (Int32.toNatClampNeg fr : Nat) = x_55.toInt by omega]; exact (show Int32.toInt 260 = 260 from by decide).trans (lx_st_1 (by omega) (by omega))), (fun g => absurd g (by have h9 : Int32.toInt 260 = 260 := (by decide); omega)), (fun _ => by rw [ex_102, Int32.toInt32_toInt64]; exact hnq (fun j hj => (lx_call (g := gt) (p := Int32.toNatClampNeg fr) (lo := 48) (hi := 57) (Int32.toNatClampNeg to - Int32.toNatClampNeg fr)).2 (by rw [← hcd]; omega) j hj) (by omega))⟩⟩, ⟨_, ef_99, by decide⟩⟩, by rw [ht]; exact hP9, va_K.moved hW.alike hK9, hD9⟩, hS.F ht⟩) hS.2.2 dX10_readWord_243
        · have ic_54 : r_52.toInt ≠ 0 := zi_ne c_54
          refine lv_aload_n hx hb dX10_readWord_31 rfl (lv_at hl 6 rfl) ?_
          refine lv_iload hx hb dX10_readWord_32 (lv_at hl 4 rfl) ?_
          refine va_bald hx hb hK hP 4 3 rfl rfl (vp_in_iff.mpr ⟨by omega, by omega⟩) dX10_readWord_34 ?_
          refine lv_topi (fun x_104 ex_104 => ?_)
          have jx_104 : x_104.toInt = x_51.toInt := by rw [ex_104, ex_51]
          have ix_104 : x_104.toInt = (gt (Int32.toNatClampNeg to)).toInt := by rw [ex_104]
          have hPc := hP.sub (ws' := []) [] rfl
          have hDc := hD.sub (ws' := []) [] (by decide) rfl
          have hKc := hK.sub (tys' := []) [] rfl
          have hFc := va_free (wc := []) hD hS hAA [] rfl
          refine va_calli (va_runS (As := [.int x_104]) (rest := []) ⟨hx, hb, hml, hown, hA⟩ (c_X10_isSmall_x l dC dI aK aV x_104 H.size) (va_cwS 1 hA (zw_S wi_664 wi_665 wi_137 (zw_good wi_666)) rfl rfl rfl (by decide +kernel) ⟨(Nat.le_of_ble_eq_true rfl), (Nat.le_of_ble_eq_true rfl)⟩) ⟨zP_blind, zz_pre hKc hPc hDc hN hT hS hFc⟩ rfl rfl hl.1 rfl (lv_room (Nat.le_of_ble_eq_true rfl)) dX10_readWord_35 ⟨(Nat.le_of_ble_eq_true rfl), (Nat.le_of_ble_eq_true rfl)⟩) hS (fun q _ h => hFc q h) hFc (fun r_105 u t H1 locs ht hvm hw hB hz1 hk1 hS => ?_)
          obtain ⟨hP1, hK1, hD1⟩ := hB
          rw [ht] at hP1
          have hK1 := va_K.moved hvm.symm hK1
          obtain ⟨hP, hD⟩ := va_join (wr := [(h0, .inr (10, [.ref ts, .ref tp, .ref tw, .int z, .int pa, .int so, .int pl, .long wd])), (ts, .inl (t1, 2001, .inl gs)), (tp, .inl (t2, 2001, .inl gp)), (tw, .inl (t3, 2001, .inr (.inl gw))), (bt, .inl (bk, 2000, .inl gt))]) (w1 := []) hP hD [] [0, 1, 2, 3, 4] rfl rfl (by decide) (by decide) hk1 hFc hP1 hD1
          have hK := (hK.sub (tys' := [(t1, .int), (t2, .int), (t3, .long), (bk, .byte)]) [0, 1, 2, 3] rfl).app hK1
          generalize H1 = H at hP hS ⊢
          have hP : va_P (dC, dI) vwCl [(h0, .inr (10, [.ref ts, .ref tp, .ref tw, .int z, .int pa, .int so, .int pl, .long wd])), (ts, .inl (t1, 2001, .inl gs)), (tp, .inl (t2, 2001, .inl gp)), (tw, .inl (t3, 2001, .inr (.inl gw))), (bt, .inl (bk, 2000, .inl gt))] H := hP
          have hD : va_D A [(h0, .inr (10, [.ref ts, .ref tp, .ref tw, .int z, .int pa, .int so, .int pl, .long wd])), (ts, .inl (t1, 2001, .inl gs)), (tp, .inl (t2, 2001, .inl gp)), (tw, .inl (t3, 2001, .inr (.inl gw))), (bt, .inl (bk, 2000, .inl gt))] := hD
          have hK : va_K (dC, dI) vwCl [(t1, .int), (t2, .int), (t3, .long), (bk, .byte)] s := hK
          have hw_r_105 := hw
          try dsimp only at hw_r_105
          have hq_106 := hw
          refine lv_if_eq (tgt := 47) hx hb dX10_readWord_38 (by decide) (fun c_107 => ?_) (fun c_107 => ?_)
          · have ic_107 : r_105.toInt = 0 := zi_eq c_107
            refine lv_aload_n hx hb dX10_readWord_47 rfl (lv_at hl 6 rfl) ?_
            refine lv_iload hx hb dX10_readWord_48 (lv_at hl 4 rfl) ?_
            refine va_bald hx hb hK hP 4 3 rfl rfl (vp_in_iff.mpr ⟨by omega, by omega⟩) dX10_readWord_50 ?_
            refine lv_topi (fun x_108 ex_108 => ?_)
            have jx_108 : x_108.toInt = x_104.toInt := by rw [ex_108, ex_104]
            have ix_108 : x_108.toInt = (gt (Int32.toNatClampNeg to)).toInt := by rw [ex_108]
            have hPc := hP.sub (ws' := []) [] rfl
            have hDc := hD.sub (ws' := []) [] (by decide) rfl
            have hKc := hK.sub (tys' := []) [] rfl
            have hFc := va_free (wc := []) hD hS hAA [] rfl
            refine va_calli (va_runS (As := [.int x_108]) (rest := []) ⟨hx, hb, hml, hown, hA⟩ (c_X10_isDigit_x l dC dI aK aV x_108 H.size) (va_cwS 1 hA (zw_S wi_670 wi_671 wi_137 (zw_good wi_672)) rfl rfl rfl (by decide +kernel) ⟨(Nat.le_of_ble_eq_true rfl), (Nat.le_of_ble_eq_true rfl)⟩) ⟨zP_blind, zz_pre hKc hPc hDc hN hT hS hFc⟩ rfl rfl hl.1 rfl (lv_room (Nat.le_of_ble_eq_true rfl)) dX10_readWord_51 ⟨(Nat.le_of_ble_eq_true rfl), (Nat.le_of_ble_eq_true rfl)⟩) hS (fun q _ h => hFc q h) hFc (fun r_109 u t H1 locs ht hvm hw hB hz1 hk1 hS => ?_)
            obtain ⟨hP1, hK1, hD1⟩ := hB
            rw [ht] at hP1
            have hK1 := va_K.moved hvm.symm hK1
            obtain ⟨hP, hD⟩ := va_join (wr := [(h0, .inr (10, [.ref ts, .ref tp, .ref tw, .int z, .int pa, .int so, .int pl, .long wd])), (ts, .inl (t1, 2001, .inl gs)), (tp, .inl (t2, 2001, .inl gp)), (tw, .inl (t3, 2001, .inr (.inl gw))), (bt, .inl (bk, 2000, .inl gt))]) (w1 := []) hP hD [] [0, 1, 2, 3, 4] rfl rfl (by decide) (by decide) hk1 hFc hP1 hD1
            have hK := (hK.sub (tys' := [(t1, .int), (t2, .int), (t3, .long), (bk, .byte)]) [0, 1, 2, 3] rfl).app hK1
            generalize H1 = H at hP hS ⊢
            have hP : va_P (dC, dI) vwCl [(h0, .inr (10, [.ref ts, .ref tp, .ref tw, .int z, .int pa, .int so, .int pl, .long wd])), (ts, .inl (t1, 2001, .inl gs)), (tp, .inl (t2, 2001, .inl gp)), (tw, .inl (t3, 2001, .inr (.inl gw))), (bt, .inl (bk, 2000, .inl gt))] H := hP
            have hD : va_D A [(h0, .inr (10, [.ref ts, .ref tp, .ref tw, .int z, .int pa, .int so, .int pl, .long wd])), (ts, .inl (t1, 2001, .inl gs)), (tp, .inl (t2, 2001, .inl gp)), (tw, .inl (t3, 2001, .inr (.inl gw))), (bt, .inl (bk, 2000, .inl gt))] := hD
            have hK : va_K (dC, dI) vwCl [(t1, .int), (t2, .int), (t3, .long), (bk, .byte)] s := hK
            have hw_r_109 := hw
            try dsimp only at hw_r_109
            have hq_110 := hw
            refine lv_if_eq (tgt := 75) hx hb dX10_readWord_54 (by decide) (fun c_111 => ?_) (fun c_111 => ?_)
            · have ic_111 : r_109.toInt = 0 := zi_eq c_111
              refine lv_lload hx hb dX10_readWord_75 (lv_at hl 0 rfl) ?_
              refine lv_bipush (v := 8) hx hb dX10_readWord_77 (by decide) ?_
              refine lv_lshl hx hb dX10_readWord_79 rfl ?_
              refine lv_topl (fun x_112 ex_112 => ?_)
              refine lv_aload_n hx hb dX10_readWord_80 rfl (lv_at hl 6 rfl) ?_
              refine lv_iload hx hb dX10_readWord_81 (lv_at hl 4 rfl) ?_
              refine va_bald hx hb hK hP 4 3 rfl rfl (vp_in_iff.mpr ⟨by omega, by omega⟩) dX10_readWord_83 ?_
              refine lv_topi (fun x_113 ex_113 => ?_)
              have jx_113 : x_113.toInt = x_108.toInt := by rw [ex_113, ex_108]
              have ix_113 : x_113.toInt = (gt (Int32.toNatClampNeg to)).toInt := by rw [ex_113]
              obtain ⟨x_114, ex_114⟩ : ∃ z : Int64, z = Int32.toInt64 x_113 := ⟨_, rfl⟩
              refine lv_i2l (v := x_114) hx hb dX10_readWord_84 ex_114.symm ?_
              refine lv_lor hx hb dX10_readWord_85 ?_
              refine lv_topl (fun x_115 ex_115 => ?_)
              refine lv_lstore (lv' := [(8, .long x_115), (7, .int nu), (6, .int di), (5, .int sm), (4, .int to), (0, .ref h0), (1, .ref bt), (2, .int fr), (3, .int en)]) hx hb dX10_readWord_86 hl (by decide) rfl (fun ls hl => ?_)
              obtain ⟨x_116, ex_116⟩ : ∃ y : Int32, y = to + Int32.ofInt 1 := ⟨_, rfl⟩
              refine lv_iinc (v := x_116) (lv' := [(4, .int x_116), (8, .long x_115), (7, .int nu), (6, .int di), (5, .int sm), (0, .ref h0), (1, .ref bt), (2, .int fr), (3, .int en)]) hx hb dX10_readWord_88 hl (k := 4) rfl (by rw [ex_116]) (by decide) rfl (fun ls hl => ?_)
              have ix_116 : x_116.toInt = to.toInt + 1 := by rw [ex_116]; exact zi_addc (by decide) (by omega) (by omega)
              refine lv_goto (tgt := 15) hx hb dX10_readWord_91 (by decide) ?_
              have hall_117 : ∀ k : Nat, Int32.toInt fr ≤ (k : Int) → (k : Int) < Int32.toInt x_116 → lx_wb (gt k).toInt := lx_a1 hall (by omega) (by omega) (by unfold lx_wb; omega)
              have hcs_118 : Int32.toInt sm = lx_cn 97 122 gt (Int32.toNatClampNeg fr) (Int32.toNatClampNeg x_116 - Int32.toNatClampNeg fr) := lx_c0 hcs (by omega) (by omega) (by omega) (by omega)
              have hcd_119 : Int32.toInt di = lx_cn 48 57 gt (Int32.toNatClampNeg fr) (Int32.toNatClampNeg x_116 - Int32.toNatClampNeg fr) := lx_c0 hcd (by omega) (by omega) (by omega) (by omega)
              have hw8_120 : x_115 = lx_w gt (Int32.toNatClampNeg fr) (Int32.toNatClampNeg x_116 - Int32.toNatClampNeg fr) := lx_w1 hw8 (by omega) (by omega) (by omega) (by rw [ex_115, ex_112, ex_114, ex_113])
              have hnq_121 : lx_nq gt (Int32.toNatClampNeg fr) (Int32.toNatClampNeg x_116 - Int32.toNatClampNeg fr) nu := lx_nq_l (c := x_113) (show Int32.toNatClampNeg x_116 - Int32.toNatClampNeg fr = (Int32.toNatClampNeg to - Int32.toNatClampNeg fr) + 1 by have := zn_nat (x := to) (by omega); have := zn_nat (x := x_116) (by omega); have := zn_nat (x := fr) (by omega); omega) (by rw [show Int32.toNatClampNeg fr + (Int32.toNatClampNeg to - Int32.toNatClampNeg fr) = Int32.toNatClampNeg to by have := zn_nat (x := to) (by omega); have := zn_nat (x := fr) (by omega); omega]; exact ix_113) (by omega)
              exact ih x_116 sm di nu x_115 _ _ _ (by omega) (by omega) (by omega) (by omega) (by omega) (by omega) (by omega) hall_117 hcs_118 hcd_119 hw8_120 hnq_121 (hP.sub [0, 1, 2, 3, 4] rfl) (hD.sub [0, 1, 2, 3, 4] (by decide) rfl) hS (lv_sub hl [1, 2, 3, 4, 0, 5, 6, 7, 8] rfl)
            · have ic_111 : r_109.toInt ≠ 0 := zi_ne c_111
              obtain ⟨x_122, ex_122⟩ : ∃ y : Int32, y = di + Int32.ofInt 1 := ⟨_, rfl⟩
              refine lv_iinc (v := x_122) (lv' := [(6, .int x_122), (8, .long by_), (7, .int nu), (5, .int sm), (4, .int to), (0, .ref h0), (1, .ref bt), (2, .int fr), (3, .int en)]) hx hb dX10_readWord_57 hl (k := 2) rfl (by rw [ex_122]) (by decide) rfl (fun ls hl => ?_)
              have ix_122 : x_122.toInt = di.toInt + 1 := by rw [ex_122]; exact zi_addc (by decide) (by omega) (by omega)
              refine lv_iload hx hb dX10_readWord_60 (lv_at hl 2 rfl) ?_
              refine lv_bipush (v := 10) hx hb dX10_readWord_62 (by decide) ?_
              refine lv_imul hx hb dX10_readWord_64 ?_
              refine lv_topi (fun x_123 ex_123 => ?_)
              refine lv_aload_n hx hb dX10_readWord_65 rfl (lv_at hl 6 rfl) ?_
              refine lv_iload hx hb dX10_readWord_66 (lv_at hl 4 rfl) ?_
              refine va_bald hx hb hK hP 4 3 rfl rfl (vp_in_iff.mpr ⟨by omega, by omega⟩) dX10_readWord_68 ?_
              refine lv_topi (fun x_124 ex_124 => ?_)
              have jx_124 : x_124.toInt = x_108.toInt := by rw [ex_124, ex_108]
              have ix_124 : x_124.toInt = (gt (Int32.toNatClampNeg to)).toInt := by rw [ex_124]
              refine lv_bipush (v := 48) hx hb dX10_readWord_69 (by decide) ?_
              refine lv_isub hx hb dX10_readWord_71 ?_
              refine lv_topi (fun x_125 ex_125 => ?_)
              refine lv_iadd hx hb dX10_readWord_72 ?_
              refine lv_topi (fun x_126 ex_126 => ?_)
              refine lv_istore (lv' := [(7, .int x_126), (6, .int x_122), (8, .long by_), (5, .int sm), (4, .int to), (0, .ref h0), (1, .ref bt), (2, .int fr), (3, .int en)]) hx hb dX10_readWord_73 hl (by decide) rfl (fun ls hl => ?_)
              refine lv_lload hx hb dX10_readWord_75 (lv_at hl 2 rfl) ?_
              refine lv_bipush (v := 8) hx hb dX10_readWord_77 (by decide) ?_
              refine lv_lshl hx hb dX10_readWord_79 rfl ?_
              refine lv_topl (fun x_127 ex_127 => ?_)
              refine lv_aload_n hx hb dX10_readWord_80 rfl (lv_at hl 6 rfl) ?_
              refine lv_iload hx hb dX10_readWord_81 (lv_at hl 4 rfl) ?_
              refine va_bald hx hb hK hP 4 3 rfl rfl (vp_in_iff.mpr ⟨by omega, by omega⟩) dX10_readWord_83 ?_
              refine lv_topi (fun x_128 ex_128 => ?_)
              have jx_128 : x_128.toInt = x_124.toInt := by rw [ex_128, ex_124]
              have ix_128 : x_128.toInt = (gt (Int32.toNatClampNeg to)).toInt := by rw [ex_128]
              obtain ⟨x_129, ex_129⟩ : ∃ z : Int64, z = Int32.toInt64 x_128 := ⟨_, rfl⟩
              refine lv_i2l (v := x_129) hx hb dX10_readWord_84 ex_129.symm ?_
              refine lv_lor hx hb dX10_readWord_85 ?_
              refine lv_topl (fun x_130 ex_130 => ?_)
              refine lv_lstore (lv' := [(8, .long x_130), (7, .int x_126), (6, .int x_122), (5, .int sm), (4, .int to), (0, .ref h0), (1, .ref bt), (2, .int fr), (3, .int en)]) hx hb dX10_readWord_86 hl (by decide) rfl (fun ls hl => ?_)
              obtain ⟨x_131, ex_131⟩ : ∃ y : Int32, y = to + Int32.ofInt 1 := ⟨_, rfl⟩
              refine lv_iinc (v := x_131) (lv' := [(4, .int x_131), (8, .long x_130), (7, .int x_126), (6, .int x_122), (5, .int sm), (0, .ref h0), (1, .ref bt), (2, .int fr), (3, .int en)]) hx hb dX10_readWord_88 hl (k := 4) rfl (by rw [ex_131]) (by decide) rfl (fun ls hl => ?_)
              have ix_131 : x_131.toInt = to.toInt + 1 := by rw [ex_131]; exact zi_addc (by decide) (by omega) (by omega)
              refine lv_goto (tgt := 15) hx hb dX10_readWord_91 (by decide) ?_
              have hall_132 : ∀ k : Nat, Int32.toInt fr ≤ (k : Int) → (k : Int) < Int32.toInt x_131 → lx_wb (gt k).toInt := lx_a1 hall (by omega) (by omega) (by unfold lx_wb; omega)
              have hcs_133 : Int32.toInt sm = lx_cn 97 122 gt (Int32.toNatClampNeg fr) (Int32.toNatClampNeg x_131 - Int32.toNatClampNeg fr) := lx_c0 hcs (by omega) (by omega) (by omega) (by omega)
              have hcd_134 : Int32.toInt x_122 = lx_cn 48 57 gt (Int32.toNatClampNeg fr) (Int32.toNatClampNeg x_131 - Int32.toNatClampNeg fr) := (by rw [show x_122.toInt = di.toInt + 1 by omega]; exact lx_c1 hcd (by omega) (by omega) (by omega) (by omega))
              have hw8_135 : x_130 = lx_w gt (Int32.toNatClampNeg fr) (Int32.toNatClampNeg x_131 - Int32.toNatClampNeg fr) := lx_w1 hw8 (by omega) (by omega) (by omega) (by rw [ex_130, ex_127, ex_129, ex_128])
              have hnq_136 : lx_nq gt (Int32.toNatClampNeg fr) (Int32.toNatClampNeg x_131 - Int32.toNatClampNeg fr) x_126 := lx_nq_s (c := x_124) hnq (show Int32.toNatClampNeg x_131 - Int32.toNatClampNeg fr = (Int32.toNatClampNeg to - Int32.toNatClampNeg fr) + 1 by have := zn_nat (x := to) (by omega); have := zn_nat (x := x_131) (by omega); have := zn_nat (x := fr) (by omega); omega) (by rw [show Int32.toNatClampNeg fr + (Int32.toNatClampNeg to - Int32.toNatClampNeg fr) = Int32.toNatClampNeg to by have := zn_nat (x := to) (by omega); have := zn_nat (x := fr) (by omega); omega]; exact ix_124) ex_123 ex_125 ex_126
              exact ih x_131 sm x_122 x_126 x_130 _ _ _ (by omega) (by omega) (by omega) (by omega) (by omega) (by omega) (by omega) hall_132 hcs_133 hcd_134 hw8_135 hnq_136 (hP.sub [0, 1, 2, 3, 4] rfl) (hD.sub [0, 1, 2, 3, 4] (by decide) rfl) hS (lv_sub hl [1, 2, 3, 4, 0, 5, 6, 7, 8] rfl)
          · have ic_107 : r_105.toInt ≠ 0 := zi_ne c_107
            obtain ⟨x_137, ex_137⟩ : ∃ y : Int32, y = sm + Int32.ofInt 1 := ⟨_, rfl⟩
            refine lv_iinc (v := x_137) (lv' := [(5, .int x_137), (8, .long by_), (7, .int nu), (6, .int di), (4, .int to), (0, .ref h0), (1, .ref bt), (2, .int fr), (3, .int en)]) hx hb dX10_readWord_41 hl (k := 3) rfl (by rw [ex_137]) (by decide) rfl (fun ls hl => ?_)
            have ix_137 : x_137.toInt = sm.toInt + 1 := by rw [ex_137]; exact zi_addc (by decide) (by omega) (by omega)
            refine lv_goto (tgt := 75) hx hb dX10_readWord_44 (by decide) ?_
            refine lv_lload hx hb dX10_readWord_75 (lv_at hl 1 rfl) ?_
            refine lv_bipush (v := 8) hx hb dX10_readWord_77 (by decide) ?_
            refine lv_lshl hx hb dX10_readWord_79 rfl ?_
            refine lv_topl (fun x_138 ex_138 => ?_)
            refine lv_aload_n hx hb dX10_readWord_80 rfl (lv_at hl 6 rfl) ?_
            refine lv_iload hx hb dX10_readWord_81 (lv_at hl 4 rfl) ?_
            refine va_bald hx hb hK hP 4 3 rfl rfl (vp_in_iff.mpr ⟨by omega, by omega⟩) dX10_readWord_83 ?_
            refine lv_topi (fun x_139 ex_139 => ?_)
            have jx_139 : x_139.toInt = x_104.toInt := by rw [ex_139, ex_104]
            have ix_139 : x_139.toInt = (gt (Int32.toNatClampNeg to)).toInt := by rw [ex_139]
            obtain ⟨x_140, ex_140⟩ : ∃ z : Int64, z = Int32.toInt64 x_139 := ⟨_, rfl⟩
            refine lv_i2l (v := x_140) hx hb dX10_readWord_84 ex_140.symm ?_
            refine lv_lor hx hb dX10_readWord_85 ?_
            refine lv_topl (fun x_141 ex_141 => ?_)
            refine lv_lstore (lv' := [(8, .long x_141), (5, .int x_137), (7, .int nu), (6, .int di), (4, .int to), (0, .ref h0), (1, .ref bt), (2, .int fr), (3, .int en)]) hx hb dX10_readWord_86 hl (by decide) rfl (fun ls hl => ?_)
            obtain ⟨x_142, ex_142⟩ : ∃ y : Int32, y = to + Int32.ofInt 1 := ⟨_, rfl⟩
            refine lv_iinc (v := x_142) (lv' := [(4, .int x_142), (8, .long x_141), (5, .int x_137), (7, .int nu), (6, .int di), (0, .ref h0), (1, .ref bt), (2, .int fr), (3, .int en)]) hx hb dX10_readWord_88 hl (k := 4) rfl (by rw [ex_142]) (by decide) rfl (fun ls hl => ?_)
            have ix_142 : x_142.toInt = to.toInt + 1 := by rw [ex_142]; exact zi_addc (by decide) (by omega) (by omega)
            refine lv_goto (tgt := 15) hx hb dX10_readWord_91 (by decide) ?_
            have hall_143 : ∀ k : Nat, Int32.toInt fr ≤ (k : Int) → (k : Int) < Int32.toInt x_142 → lx_wb (gt k).toInt := lx_a1 hall (by omega) (by omega) (by unfold lx_wb; omega)
            have hcs_144 : Int32.toInt x_137 = lx_cn 97 122 gt (Int32.toNatClampNeg fr) (Int32.toNatClampNeg x_142 - Int32.toNatClampNeg fr) := (by rw [show x_137.toInt = sm.toInt + 1 by omega]; exact lx_c1 hcs (by omega) (by omega) (by omega) (by omega))
            have hcd_145 : Int32.toInt di = lx_cn 48 57 gt (Int32.toNatClampNeg fr) (Int32.toNatClampNeg x_142 - Int32.toNatClampNeg fr) := lx_c0 hcd (by omega) (by omega) (by omega) (by omega)
            have hw8_146 : x_141 = lx_w gt (Int32.toNatClampNeg fr) (Int32.toNatClampNeg x_142 - Int32.toNatClampNeg fr) := lx_w1 hw8 (by omega) (by omega) (by omega) (by rw [ex_141, ex_138, ex_140, ex_139])
            have hnq_147 : lx_nq gt (Int32.toNatClampNeg fr) (Int32.toNatClampNeg x_142 - Int32.toNatClampNeg fr) nu := lx_nq_l (c := x_139) (show Int32.toNatClampNeg x_142 - Int32.toNatClampNeg fr = (Int32.toNatClampNeg to - Int32.toNatClampNeg fr) + 1 by have := zn_nat (x := to) (by omega); have := zn_nat (x := x_142) (by omega); have := zn_nat (x := fr) (by omega); omega) (by rw [show Int32.toNatClampNeg fr + (Int32.toNatClampNeg to - Int32.toNatClampNeg fr) = Int32.toNatClampNeg to by have := zn_nat (x := to) (by omega); have := zn_nat (x := fr) (by omega); omega]; exact ix_139) (by omega)
            exact ih x_142 x_137 di nu x_141 _ _ _ (by omega) (by omega) (by omega) (by omega) (by omega) (by omega) (by omega) hall_143 hcs_144 hcd_145 hw8_146 hnq_147 (hP.sub [0, 1, 2, 3, 4] rfl) (hD.sub [0, 1, 2, 3, 4] (by decide) rfl) hS (lv_sub hl [1, 3, 4, 2, 0, 5, 6, 7, 8] rfl)
  have hall_148 : ∀ k : Nat, Int32.toInt fr ≤ (k : Int) → (k : Int) < Int32.toInt fr → lx_wb (gt k).toInt := fun k h1 h2 => by exfalso; omega
  have hcs_149 : Int32.toInt 0 = lx_cn 97 122 gt (Int32.toNatClampNeg fr) (Int32.toNatClampNeg fr - Int32.toNatClampNeg fr) := (by rw [Nat.sub_self]; rfl)
  have hcd_150 : Int32.toInt 0 = lx_cn 48 57 gt (Int32.toNatClampNeg fr) (Int32.toNatClampNeg fr - Int32.toNatClampNeg fr) := (by rw [Nat.sub_self]; rfl)
  have hw8_151 : 0 = lx_w gt (Int32.toNatClampNeg fr) (Int32.toNatClampNeg fr - Int32.toNatClampNeg fr) := (by rw [Nat.sub_self]; rfl)
  have hnq_152 : lx_nq gt (Int32.toNatClampNeg fr) (Int32.toNatClampNeg fr - Int32.toNatClampNeg fr) 0 := (by rw [Nat.sub_self]; exact fun _ _ => (show Int32.toInt 0 = (0 : Int) by decide))
  exact loop_15 _ fr 0 0 0 0 _ _ _ (Nat.le_refl _) (by have h9_0 : Int32.toInt 0 = 0 := (by decide); omega) (by have h9_0 : Int32.toInt 0 = 0 := (by decide); omega) (by have h9_0 : Int32.toInt 0 = 0 := (by decide); omega) (by have h9_0 : Int32.toInt 0 = 0 := (by decide); omega) (by have h9_0 : Int32.toInt 0 = 0 := (by decide); omega) (by have h9_0 : Int32.toInt 0 = 0 := (by decide); omega) hall_148 hcs_149 hcd_150 hw8_151 hnq_152 (hP.sub [0, 1, 2, 3, 4] rfl) (hD.sub [0, 1, 2, 3, 4] (by decide) rfl) hS (lv_sub hl [0, 1, 2, 3, 4, 5, 6, 7, 8] rfl)
