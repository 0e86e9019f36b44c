theorem wi_560 : Cond.fieldLink RX8 15 "ReuseHouse$Printer" "size" "I" ∈ zw := zw_in (List.mem_of_getElem? (i := 560) (by decide +kernel)) (by decide +kernel)
theorem wi_562 : Cond.fieldLink RX8 22 "ReuseHouse$Printer" "spareSize" "I" ∈ zw := zw_in (List.mem_of_getElem? (i := 562) (by decide +kernel)) (by decide +kernel)
theorem wi_563 : Cond.fieldLink RX8 25 "ReuseHouse$Printer" "tooLong" "Z" ∈ zw := zw_in (List.mem_of_getElem? (i := 563) (by decide +kernel)) (by decide +kernel)
theorem wi_561 : Cond.fieldLink RX8 19 "ReuseHouse$Printer" "spare" "[B" ∈ zw := zw_in (List.mem_of_getElem? (i := 561) (by decide +kernel)) (by decide +kernel)
theorem dX8_has_0 : decode cX8_has 0 = .ok (.iload_n 1, 1) := by decide +kernel
theorem dX8_has_1 : decode cX8_has 1 = .ok (.ifCond .lt 15, 3) := by decide +kernel
theorem dX8_has_4 : decode cX8_has 4 = .ok (.iload_n 1, 1) := by decide +kernel
theorem dX8_has_5 : decode cX8_has 5 = .ok (.aload_n 0, 1) := by decide +kernel
theorem dX8_has_6 : decode cX8_has 6 = .ok (.getfield 15, 3) := by decide +kernel
theorem dX8_has_9 : decode cX8_has 9 = .ok (.if_icmp .ge 7, 3) := by decide +kernel
theorem dX8_has_12 : decode cX8_has 12 = .ok (.iconst 1, 1) := by decide +kernel
theorem dX8_has_13 : decode cX8_has 13 = .ok (.goto 4, 3) := by decide +kernel
theorem dX8_has_16 : decode cX8_has 16 = .ok (.iconst 0, 1) := by decide +kernel
theorem dX8_has_17 : decode cX8_has 17 = .ok (.ireturn, 1) := by decide +kernel
theorem dX8_put_0 : decode cX8_put 0 = .ok (.aload_n 0, 1) := by decide +kernel
theorem dX8_put_1 : decode cX8_put 1 = .ok (.getfield 22, 3) := by decide +kernel
theorem dX8_put_4 : decode cX8_put 4 = .ok (.sipush 4000, 3) := by decide +kernel
theorem dX8_put_7 : decode cX8_put 7 = .ok (.if_icmp .ge 27, 3) := by decide +kernel
theorem dX8_put_10 : decode cX8_put 10 = .ok (.aload_n 0, 1) := by decide +kernel
theorem dX8_put_11 : decode cX8_put 11 = .ok (.getfield 19, 3) := by decide +kernel
theorem dX8_put_14 : decode cX8_put 14 = .ok (.aload_n 0, 1) := by decide +kernel
theorem dX8_put_15 : decode cX8_put 15 = .ok (.getfield 22, 3) := by decide +kernel
theorem dX8_put_18 : decode cX8_put 18 = .ok (.iload_n 1, 1) := by decide +kernel
theorem dX8_put_19 : decode cX8_put 19 = .ok (.i2b, 1) := by decide +kernel
theorem dX8_put_20 : decode cX8_put 20 = .ok (.bastore, 1) := by decide +kernel
theorem dX8_put_21 : decode cX8_put 21 = .ok (.aload_n 0, 1) := by decide +kernel
theorem dX8_put_22 : decode cX8_put 22 = .ok (.dup, 1) := by decide +kernel
theorem dX8_put_23 : decode cX8_put 23 = .ok (.getfield 22, 3) := by decide +kernel
theorem dX8_put_26 : decode cX8_put 26 = .ok (.iconst 1, 1) := by decide +kernel
theorem dX8_put_27 : decode cX8_put 27 = .ok (.iadd, 1) := by decide +kernel
theorem dX8_put_28 : decode cX8_put 28 = .ok (.putfield 22, 3) := by decide +kernel
theorem dX8_put_31 : decode cX8_put 31 = .ok (.goto 8, 3) := by decide +kernel
theorem dX8_put_34 : decode cX8_put 34 = .ok (.aload_n 0, 1) := by decide +kernel
theorem dX8_put_35 : decode cX8_put 35 = .ok (.iconst 1, 1) := by decide +kernel
theorem dX8_put_36 : decode cX8_put 36 = .ok (.putfield 25, 3) := by decide +kernel
theorem dX8_put_39 : decode cX8_put 39 = .ok (.return_, 1) := by decide +kernel
set_option maxHeartbeats 4000000 in
set_option maxRecDepth 100000 in
theorem c_X8_has (l : Launch) (dC : Nat → ClassId) (dI : Nat → Nat → Nat) (aK aV : Nat → Nat) (h0 : Nat) (pb : Nat) (psp : Nat) (poc : Nat) (pof : Nat) (pz : Int32) (ps : Int32) (tl : Int32) (po : Int32) (i : Int32) (sz : Nat)  : Met l yX8_has (Cond.code yX8_has cX8_has 2 (some .boolean) :: zw) ({ frames := 8, cells := 0, slots := 0, locals := 200 }) (va_Pc [.ref h0, .int i] (zP dC dI aK aV sz [] [(h0, .inr (8, [.ref pb, .int pz, .ref psp, .int ps, .int tl, .ref poc, .ref pof, .int po]))])) (va_Qi (fun (r : Int32) (u : Unit) => (r.toInt = 0 ∨ r.toInt = 1 ∧ 0 ≤ i.toInt ∧ i.toInt < pz.toInt)) (fun u => zQ dC dI (va_A [(h0, .inr (8, [.ref pb, .int pz, .ref psp, .int ps, .int tl, .ref poc, .ref pof, .int po]))] sz) [] [(h0, .inr (8, [.ref pb, .int pz, .ref psp, .int ps, .int tl, .ref poc, .ref pof, .int po]))]) (va_A [(h0, .inr (8, [.ref pb, .int pz, .ref psp, .int ps, .int tl, .ref poc, .ref pof, .int po]))] sz)) 0 0 (va_A [(h0, .inr (8, [.ref pb, .int pz, .ref psp, .int ps, .int tl, .ref poc, .ref pof, .int po]))] sz) := by
  refine Met.ofW (cc := cX8_has) (maxL := 2) (ret := (some .boolean)) (by decide) rfl ?_
  intro p e s m args below meth c s₁ B hml hv
  obtain ⟨rfl, hsz, hP, hK, hD0, hN, hT⟩ := hv
  have hx := B.exec
  have hb := B.bytes
  have hr := B.returns
  have hts := atoms_spec (ws := Cond.code yX8_has cX8_has 2 (some .boolean) :: zw) B.pre
  have hA : ∀ w ∈ zw, w.before _ s = true := fun w h => hts w (List.mem_cons_of_mem _ h)
  have hown : s.vm.findClass RX8 = some m.cls := findClass_of_methodNamed B.named
  have hlocks := B.notSynchronized
  subst hsz
  have hD := hD0.self (sz := s.heap.size)
  generalize hAe : va_A [(h0, .inr (8, [.ref pb, .int pz, .ref psp, .int ps, .int tl, .ref poc, .ref pof, .int po]))] s.heap.size = A at hD hT ⊢
  have hAA : ∀ q : Nat, s.heap.size ≤ q → A q := fun q h => by rw [← hAe]; exact Or.inr h
  have hS : va_S A s.heap s.heap [] := va_S.rf
  have hl := lv_entry ([.ref h0, .int i]) (n := 2) (Nat.le_of_ble_eq_true rfl)
  rw [lg_entry_eq]
  generalize (lg_sl ([.ref h0, .int i]) ++ List.replicate (2 - (lg_sl ([.ref h0, .int i])).length) Slot.unset).toArray = ls at hl ⊢
  have hl : lv_has ls 2 [(0, .ref h0), (1, .int i)] := hl
  refine lv_iload_n hx hb dX8_has_0 rfl (lv_at hl 1 rfl) ?_
  refine lv_if_lt (tgt := 16) hx hb dX8_has_1 (by decide) (fun c_1 => ?_) (fun c_1 => ?_)
  · have ic_1 : i.toInt < 0 := zi_lt c_1
    refine lv_iconst (v := 0) hx hb dX8_has_16 (by decide) ?_
    have hlit : Int32.toInt 0 = 0 := by decide
    have hP9 := hP.sub (ws' := [(h0, .inr (8, [.ref pb, .int pz, .ref psp, .int ps, .int tl, .ref poc, .ref pof, .int po]))]) [0] rfl
    have hD9 := hD.sub (ws' := [(h0, .inr (8, [.ref pb, .int pz, .ref psp, .int ps, .int tl, .ref poc, .ref pof, .int po]))]) [0] (by decide) rfl
    have hK9 := hK.sub (tys' := []) [] rfl
    exact W.zret (v := 0) hx hb hr rfl (fun t ht hW => ⟨⟨0, (), rfl, by omega, by rw [ht]; exact hP9, va_K.moved hW.alike hK9, hD9⟩, hS.F ht⟩) hS.2.2 dX8_has_17
  · have ic_1 : 0 ≤ i.toInt := zi_nlt c_1
    refine lv_iload_n hx hb dX8_has_4 rfl (lv_at hl 1 rfl) ?_
    refine lv_aload_n hx hb dX8_has_5 rfl (lv_at hl 0 rfl) ?_
    refine va_get (D := (dC, dI)) (ci := 8) (v := .int pz) (C := RX8) (T := TX8) (N := 8) hx hb hA zin_X8 hown hK hP 0 rfl rfl 1 (by decide) (hA _ wi_560) (fun _ h9 => h9) rfl dX8_has_6 ?_
    refine lv_icmp_ge (tgt := 16) hx hb dX8_has_9 (by decide) (fun c_2 => ?_) (fun c_2 => ?_)
    · have ic_2 : pz.toInt ≤ i.toInt := zi_le c_2
      refine lv_iconst (v := 0) hx hb dX8_has_16 (by decide) ?_
      have hlit : Int32.toInt 0 = 0 := by decide
      have hP9 := hP.sub (ws' := [(h0, .inr (8, [.ref pb, .int pz, .ref psp, .int ps, .int tl, .ref poc, .ref pof, .int po]))]) [0] rfl
      have hD9 := hD.sub (ws' := [(h0, .inr (8, [.ref pb, .int pz, .ref psp, .int ps, .int tl, .ref poc, .ref pof, .int po]))]) [0] (by decide) rfl
      have hK9 := hK.sub (tys' := []) [] rfl
      exact W.zret (v := 0) hx hb hr rfl (fun t ht hW => ⟨⟨0, (), rfl, by omega, by rw [ht]; exact hP9, va_K.moved hW.alike hK9, hD9⟩, hS.F ht⟩) hS.2.2 dX8_has_17
    · have ic_2 : i.toInt < pz.toInt := zi_nle c_2
      refine lv_iconst (v := 1) hx hb dX8_has_12 (by decide) ?_
      refine lv_goto (tgt := 17) hx hb dX8_has_13 (by decide) ?_
      have hlit : Int32.toInt 1 = 1 := by decide
      have hP9 := hP.sub (ws' := [(h0, .inr (8, [.ref pb, .int pz, .ref psp, .int ps, .int tl, .ref poc, .ref pof, .int po]))]) [0] rfl
      have hD9 := hD.sub (ws' := [(h0, .inr (8, [.ref pb, .int pz, .ref psp, .int ps, .int tl, .ref poc, .ref pof, .int po]))]) [0] (by decide) rfl
      have hK9 := hK.sub (tys' := []) [] rfl
      exact W.zret (v := 1) hx hb hr rfl (fun t ht hW => ⟨⟨1, (), rfl, by omega, by rw [ht]; exact hP9, va_K.moved hW.alike hK9, hD9⟩, hS.F ht⟩) hS.2.2 dX8_has_17
set_option maxHeartbeats 4000000 in
set_option maxRecDepth 100000 in
theorem c_X8_put (l : Launch) (dC : Nat → ClassId) (dI : Nat → Nat → Nat) (aK aV : Nat → Nat) (h0 : Nat) (pb : Nat) (psp : Nat) (poc : Nat) (pof : Nat) (pz : Int32) (ps : Int32) (tl : Int32) (po : Int32) (p2 : ClassId) (gsp : Nat → Int32) (ch : Int32) (sz : Nat) (hps0 : 0 ≤ ps.toInt) (hps1 : ps.toInt ≤ 4000) (hpo0 : 0 ≤ po.toInt) (hpo1 : po.toInt ≤ 2000) : Met l yX8_put (Cond.code yX8_put cX8_put 2 none :: zw) ({ frames := 8, cells := 0, slots := 0, locals := 200 }) (va_Pc [.ref h0, .int ch] (zP dC dI aK aV sz [(p2, .byte)] [(h0, .inr (8, [.ref pb, .int pz, .ref psp, .int ps, .int tl, .ref poc, .ref pof, .int po])), (psp, .inl (p2, 4000, .inl gsp))])) (va_Qv (fun u : Int32 × Int32 × (Nat → Int32) => match u with | (ps2, tl2, gsp2) => (0 ≤ ps2.toInt) ∧ (ps2.toInt ≤ 4000) ∧ (ps.toInt ≤ ps2.toInt)) (fun u => match u with | (ps2, tl2, gsp2) => zQ dC dI (va_A [(h0, .inr (8, [.ref pb, .int pz, .ref psp, .int ps, .int tl, .ref poc, .ref pof, .int po])), (psp, .inl (p2, 4000, .inl gsp))] sz) [(p2, .byte)] [(h0, .inr (8, [.ref pb, .int pz, .ref psp, .int ps2, .int tl2, .ref poc, .ref pof, .int po])), (psp, .inl (p2, 4000, .inl gsp2))]) (va_A [(h0, .inr (8, [.ref pb, .int pz, .ref psp, .int ps, .int tl, .ref poc, .ref pof, .int po])), (psp, .inl (p2, 4000, .inl gsp))] sz)) 0 0 (va_A [(h0, .inr (8, [.ref pb, .int pz, .ref psp, .int ps, .int tl, .ref poc, .ref pof, .int po])), (psp, .inl (p2, 4000, .inl gsp))] sz) := by
  refine Met.ofW (cc := cX8_put) (maxL := 2) (ret := none) (by decide) rfl ?_
  intro p e s m args below meth c s₁ B hml hv
  obtain ⟨rfl, hsz, hP, hK, hD0, hN, hT⟩ := hv
  have hx := B.exec
  have hb := B.bytes
  have hr := B.returns
  have hts := atoms_spec (ws := Cond.code yX8_put cX8_put 2 none :: zw) B.pre
  have hA : ∀ w ∈ zw, w.before _ s = true := fun w h => hts w (List.mem_cons_of_mem _ h)
  have hown : s.vm.findClass RX8 = some m.cls := findClass_of_methodNamed B.named
  have hlocks := B.notSynchronized
  subst hsz
  have hD := hD0.self (sz := s.heap.size)
  generalize hAe : va_A [(h0, .inr (8, [.ref pb, .int pz, .ref psp, .int ps, .int tl, .ref poc, .ref pof, .int po])), (psp, .inl (p2, 4000, .inl gsp))] s.heap.size = A at hD hT ⊢
  have hAA : ∀ q : Nat, s.heap.size ≤ q → A q := fun q h => by rw [← hAe]; exact Or.inr h
  have hS : va_S A s.heap s.heap [] := va_S.rf
  have hl := lv_entry ([.ref h0, .int ch]) (n := 2) (Nat.le_of_ble_eq_true rfl)
  rw [lg_entry_eq]
  generalize (lg_sl ([.ref h0, .int ch]) ++ List.replicate (2 - (lg_sl ([.ref h0, .int ch])).length) Slot.unset).toArray = ls at hl ⊢
  have hl : lv_has ls 2 [(0, .ref h0), (1, .int ch)] := hl
  refine lv_aload_n hx hb dX8_put_0 rfl (lv_at hl 0 rfl) ?_
  refine va_get (D := (dC, dI)) (ci := 8) (v := .int ps) (C := RX8) (T := TX8) (N := 8) hx hb hA zin_X8 hown hK hP 0 rfl rfl 3 (by decide) (hA _ wi_562) (fun _ h9 => h9) rfl dX8_put_1 ?_
  refine lv_sipush (v := 4000) hx hb dX8_put_4 (by decide) ?_
  refine lv_icmp_ge (tgt := 34) hx hb dX8_put_7 (by decide) (fun c_1 => ?_) (fun c_1 => ?_)
  · have ic_1 : 4000 ≤ ps.toInt := zi_le c_1
    refine lv_aload_n hx hb dX8_put_34 rfl (lv_at hl 0 rfl) ?_
    refine lv_iconst (v := 1) hx hb dX8_put_35 (by decide) ?_
    refine va_put (D := (dC, dI)) (ci := 8) (v := .int 1) (ty := .boolean) (C := RX8) (T := TX8) (N := 8) hx hb hA zin_X8 tyX8 tyX8_ok nmX8 hown hK hP hD hS 0 rfl rfl 4 (by decide) (hA _ wi_563) (fun _ h9 => h9) rfl (by decide +kernel) rfl rfl (Nat.le_of_ble_eq_true rfl) dX8_put_36 (fun H locs hP hD hS => ?_)
    have hP : va_P (dC, dI) vwCl [(h0, .inr (8, [.ref pb, .int pz, .ref psp, .int ps, .int 1, .ref poc, .ref pof, .int po])), (psp, .inl (p2, 4000, .inl gsp))] H := hP
    have hD : va_D A [(h0, .inr (8, [.ref pb, .int pz, .ref psp, .int ps, .int 1, .ref poc, .ref pof, .int po])), (psp, .inl (p2, 4000, .inl gsp))] := hD
    have hP9 := hP.sub (ws' := [(h0, .inr (8, [.ref pb, .int pz, .ref psp, .int ps, .int 1, .ref poc, .ref pof, .int po])), (psp, .inl (p2, 4000, .inl gsp))]) [0, 1] rfl
    have hD9 := hD.sub (ws' := [(h0, .inr (8, [.ref pb, .int pz, .ref psp, .int ps, .int 1, .ref poc, .ref pof, .int po])), (psp, .inl (p2, 4000, .inl gsp))]) [0, 1] (by decide) rfl
    have hK9 := hK.sub (tys' := [(p2, .byte)]) [0] rfl
    exact W.vret hx hb hr (fun t ht hW => ⟨⟨(ps, 1, gsp), rfl, ⟨by omega, by omega, by omega⟩, by rw [ht]; exact hP9, va_K.moved hW.alike hK9, hD9⟩, hS.F ht⟩) hS.2.2 dX8_put_39
  · have ic_1 : ps.toInt < 4000 := zi_nle c_1
    refine lv_aload_n hx hb dX8_put_10 rfl (lv_at hl 0 rfl) ?_
    refine va_get (D := (dC, dI)) (ci := 8) (v := .ref psp) (C := RX8) (T := TX8) (N := 8) hx hb hA zin_X8 hown hK hP 0 rfl rfl 2 (by decide) (hA _ wi_561) (fun _ h9 => h9) rfl dX8_put_11 ?_
    refine lv_aload_n hx hb dX8_put_14 rfl (lv_at hl 0 rfl) ?_
    refine va_get (D := (dC, dI)) (ci := 8) (v := .int ps) (C := RX8) (T := TX8) (N := 8) hx hb hA zin_X8 hown hK hP 0 rfl rfl 3 (by decide) (hA _ wi_562) (fun _ h9 => h9) rfl dX8_put_15 ?_
    refine lv_iload_n hx hb dX8_put_18 rfl (lv_at hl 1 rfl) ?_
    obtain ⟨x_2, ex_2⟩ : ∃ z : Int32, z = (Int32.toInt8 ch).toInt32 := ⟨_, rfl⟩
    refine lv_i2b (v := x_2) hx hb dX8_put_19 ex_2.symm ?_
    refine va_bast hx hb hK hP hD hS 1 0 rfl rfl (vp_in_iff.mpr ⟨by omega, by omega⟩) dX8_put_20 (fun H locs hP hD hS => ?_)
    obtain ⟨f_3, ef_3⟩ : ∃ gz9 : Nat → Int32, gz9 = upd gsp (Int32.toNatClampNeg ps) (vp_nar .byte x_2) := ⟨_, rfl⟩
    rw [← ef_3] at hP hD
    have hP : va_P (dC, dI) vwCl [(h0, .inr (8, [.ref pb, .int pz, .ref psp, .int ps, .int tl, .ref poc, .ref pof, .int po])), (psp, .inl (p2, 4000, .inl f_3))] H := hP
    have hD : va_D A [(h0, .inr (8, [.ref pb, .int pz, .ref psp, .int ps, .int tl, .ref poc, .ref pof, .int po])), (psp, .inl (p2, 4000, .inl f_3))] := hD
    refine lv_aload_n hx hb dX8_put_21 rfl (lv_at hl 0 rfl) ?_
    refine lv_dup hx hb dX8_put_22 rfl ?_
    refine va_get (D := (dC, dI)) (ci := 8) (v := .int ps) (C := RX8) (T := TX8) (N := 8) hx hb hA zin_X8 hown hK hP 0 rfl rfl 3 (by decide) (hA _ wi_562) (fun _ h9 => h9) rfl dX8_put_23 ?_
    refine lv_iconst (v := 1) hx hb dX8_put_26 (by decide) ?_
    refine lv_iadd hx hb dX8_put_27 ?_
    refine lv_topi (fun x_4 ex_4 => ?_)
    have ix_4 : x_4.toInt = ps.toInt + 1 := by rw [ex_4]; exact zi_addc (by decide) (by omega) (by omega)
    refine va_put (D := (dC, dI)) (ci := 8) (v := .int x_4) (ty := .int) (C := RX8) (T := TX8) (N := 8) hx hb hA zin_X8 tyX8 tyX8_ok nmX8 hown hK hP hD hS 0 rfl rfl 3 (by decide) (hA _ wi_562) (fun _ h9 => h9) rfl (by decide +kernel) rfl rfl (Nat.le_of_ble_eq_true rfl) dX8_put_28 (fun H locs hP hD hS => ?_)
    have hP : va_P (dC, dI) vwCl [(h0, .inr (8, [.ref pb, .int pz, .ref psp, .int x_4, .int tl, .ref poc, .ref pof, .int po])), (psp, .inl (p2, 4000, .inl f_3))] H := hP
    have hD : va_D A [(h0, .inr (8, [.ref pb, .int pz, .ref psp, .int x_4, .int tl, .ref poc, .ref pof, .int po])), (psp, .inl (p2, 4000, .inl f_3))] := hD
    refine lv_goto (tgt := 39) hx hb dX8_put_31 (by decide) ?_
    have hP9 := hP.sub (ws' := [(h0, .inr (8, [.ref pb, .int pz, .ref psp, .int x_4, .int tl, .ref poc, .ref pof, .int po])), (psp, .inl (p2, 4000, .inl f_3))]) [0, 1] rfl
    have hD9 := hD.sub (ws' := [(h0, .inr (8, [.ref pb, .int pz, .ref psp, .int x_4, .int tl, .ref poc, .ref pof, .int po])), (psp, .inl (p2, 4000, .inl f_3))]) [0, 1] (by decide) rfl
    have hK9 := hK.sub (tys' := [(p2, .byte)]) [0] rfl
    exact W.vret hx hb hr (fun t ht hW => ⟨⟨(x_4, tl, f_3), rfl, ⟨by omega, by omega, by omega⟩, by rw [ht]; exact hP9, va_K.moved hW.alike hK9, hD9⟩, hS.F ht⟩) hS.2.2 dX8_put_39
