theorem wi_1312 : Cond.constantLong RX8 92 (1000000000) ∈ zw := zw_in (List.mem_of_getElem? (i := 1312) (by decide +kernel)) (by decide +kernel)
theorem wi_1313 : Cond.constantLong RX8 94 (10) ∈ zw := zw_in (List.mem_of_getElem? (i := 1313) (by decide +kernel)) (by decide +kernel)
theorem dX8_putInt_0 : decode cX8_putInt 0 = .ok (.iload_n 1, 1) := by decide +kernel
theorem dX8_putInt_1 : decode cX8_putInt 1 = .ok (.i2l, 1) := by decide +kernel
theorem dX8_putInt_2 : decode cX8_putInt 2 = .ok (.lstore_n 2, 1) := by decide +kernel
theorem dX8_putInt_3 : decode cX8_putInt 3 = .ok (.lload_n 2, 1) := by decide +kernel
theorem dX8_putInt_4 : decode cX8_putInt 4 = .ok (.lconst 0, 1) := by decide +kernel
theorem dX8_putInt_5 : decode cX8_putInt 5 = .ok (.lcmp, 1) := by decide +kernel
theorem dX8_putInt_6 : decode cX8_putInt 6 = .ok (.ifCond .ge 12, 3) := by decide +kernel
theorem dX8_putInt_9 : decode cX8_putInt 9 = .ok (.aload_n 0, 1) := by decide +kernel
theorem dX8_putInt_10 : decode cX8_putInt 10 = .ok (.bipush 45, 2) := by decide +kernel
theorem dX8_putInt_12 : decode cX8_putInt 12 = .ok (.invokevirtual 53, 3) := by decide +kernel
theorem dX8_putInt_15 : decode cX8_putInt 15 = .ok (.lload_n 2, 1) := by decide +kernel
theorem dX8_putInt_16 : decode cX8_putInt 16 = .ok (.lneg, 1) := by decide +kernel
theorem dX8_putInt_17 : decode cX8_putInt 17 = .ok (.lstore_n 2, 1) := by decide +kernel
theorem dX8_putInt_18 : decode cX8_putInt 18 = .ok (.ldc2_w 92, 3) := by decide +kernel
theorem dX8_putInt_21 : decode cX8_putInt 21 = .ok (.lstore 4, 2) := by decide +kernel
theorem dX8_putInt_23 : decode cX8_putInt 23 = .ok (.lload 4, 2) := by decide +kernel
theorem dX8_putInt_25 : decode cX8_putInt 25 = .ok (.lconst 1, 1) := by decide +kernel
theorem dX8_putInt_26 : decode cX8_putInt 26 = .ok (.lcmp, 1) := by decide +kernel
theorem dX8_putInt_27 : decode cX8_putInt 27 = .ok (.ifCond .le 21, 3) := by decide +kernel
theorem dX8_putInt_30 : decode cX8_putInt 30 = .ok (.lload 4, 2) := by decide +kernel
theorem dX8_putInt_32 : decode cX8_putInt 32 = .ok (.lload_n 2, 1) := by decide +kernel
theorem dX8_putInt_33 : decode cX8_putInt 33 = .ok (.lcmp, 1) := by decide +kernel
theorem dX8_putInt_34 : decode cX8_putInt 34 = .ok (.ifCond .le 14, 3) := by decide +kernel
theorem dX8_putInt_37 : decode cX8_putInt 37 = .ok (.lload 4, 2) := by decide +kernel
theorem dX8_putInt_39 : decode cX8_putInt 39 = .ok (.ldc2_w 94, 3) := by decide +kernel
theorem dX8_putInt_42 : decode cX8_putInt 42 = .ok (.ldiv, 1) := by decide +kernel
theorem dX8_putInt_43 : decode cX8_putInt 43 = .ok (.lstore 4, 2) := by decide +kernel
theorem dX8_putInt_45 : decode cX8_putInt 45 = .ok (.goto (-22), 3) := by decide +kernel
theorem dX8_putInt_48 : decode cX8_putInt 48 = .ok (.lload 4, 2) := by decide +kernel
theorem dX8_putInt_50 : decode cX8_putInt 50 = .ok (.lconst 0, 1) := by decide +kernel
theorem dX8_putInt_51 : decode cX8_putInt 51 = .ok (.lcmp, 1) := by decide +kernel
theorem dX8_putInt_52 : decode cX8_putInt 52 = .ok (.ifCond .le 30, 3) := by decide +kernel
theorem dX8_putInt_55 : decode cX8_putInt 55 = .ok (.aload_n 0, 1) := by decide +kernel
theorem dX8_putInt_56 : decode cX8_putInt 56 = .ok (.bipush 48, 2) := by decide +kernel
theorem dX8_putInt_58 : decode cX8_putInt 58 = .ok (.lload_n 2, 1) := by decide +kernel
theorem dX8_putInt_59 : decode cX8_putInt 59 = .ok (.lload 4, 2) := by decide +kernel
theorem dX8_putInt_61 : decode cX8_putInt 61 = .ok (.ldiv, 1) := by decide +kernel
theorem dX8_putInt_62 : decode cX8_putInt 62 = .ok (.ldc2_w 94, 3) := by decide +kernel
theorem dX8_putInt_65 : decode cX8_putInt 65 = .ok (.lrem, 1) := by decide +kernel
theorem dX8_putInt_66 : decode cX8_putInt 66 = .ok (.l2i, 1) := by decide +kernel
theorem dX8_putInt_67 : decode cX8_putInt 67 = .ok (.iadd, 1) := by decide +kernel
theorem dX8_putInt_68 : decode cX8_putInt 68 = .ok (.invokevirtual 53, 3) := by decide +kernel
theorem dX8_putInt_71 : decode cX8_putInt 71 = .ok (.lload 4, 2) := by decide +kernel
theorem dX8_putInt_73 : decode cX8_putInt 73 = .ok (.ldc2_w 94, 3) := by decide +kernel
theorem dX8_putInt_76 : decode cX8_putInt 76 = .ok (.ldiv, 1) := by decide +kernel
theorem dX8_putInt_77 : decode cX8_putInt 77 = .ok (.lstore 4, 2) := by decide +kernel
theorem dX8_putInt_79 : decode cX8_putInt 79 = .ok (.goto (-31), 3) := by decide +kernel
theorem dX8_putInt_82 : decode cX8_putInt 82 = .ok (.return_, 1) := by decide +kernel
set_option maxHeartbeats 4000000 in
set_option maxRecDepth 100000 in
theorem c_X8_put_x (l : Launch) (dC : Nat → ClassId) (dI : Nat → Nat → Nat) (aK aV : Nat → Nat) (h0 : Nat) (pb : Nat) (psp : Nat) (poc : Nat) (pof : Nat) (pz : Int32) (ps : Int32) (tl : Int32) (po : Int32) (p2 : ClassId) (gsp : Nat → Int32) (ch : Int32) (sz : Nat) (hps0 : 0 ≤ ps.toInt) (hps1 : ps.toInt ≤ 4000) (hpo0 : 0 ≤ po.toInt) (hpo1 : po.toInt ≤ 2000) : Met l yX8_put (Cond.code yX8_put cX8_put 2 none :: zw) ({ frames := 8, cells := 0, slots := 0, locals := 200 }) (va_Pc [.ref h0, .int ch] (zP dC dI aK aV sz [(p2, .byte)] [(h0, .inr (8, [.ref pb, .int pz, .ref psp, .int ps, .int tl, .ref poc, .ref pof, .int po])), (psp, .inl (p2, 4000, .inl gsp))])) (va_Qv (fun u : Int32 × Int32 × (Nat → Int32) => match u with | (ps2, tl2, gsp2) => (0 ≤ ps2.toInt) ∧ (ps2.toInt ≤ 4000)) (fun u => match u with | (ps2, tl2, gsp2) => zQ dC dI (va_A [(h0, .inr (8, [.ref pb, .int pz, .ref psp, .int ps, .int tl, .ref poc, .ref pof, .int po])), (psp, .inl (p2, 4000, .inl gsp))] sz) [(p2, .byte)] [(h0, .inr (8, [.ref pb, .int pz, .ref psp, .int ps2, .int tl2, .ref poc, .ref pof, .int po])), (psp, .inl (p2, 4000, .inl gsp2))]) (va_A [(h0, .inr (8, [.ref pb, .int pz, .ref psp, .int ps, .int tl, .ref poc, .ref pof, .int po])), (psp, .inl (p2, 4000, .inl gsp))] sz)) 0 0 (va_A [(h0, .inr (8, [.ref pb, .int pz, .ref psp, .int ps, .int tl, .ref poc, .ref pof, .int po])), (psp, .inl (p2, 4000, .inl gsp))] sz) := by
  refine Met.ofW (cc := cX8_put) (maxL := 2) (ret := none) (by decide) rfl ?_
  intro p e s m args below meth c s₁ B hml hv
  obtain ⟨rfl, hsz, hP, hK, hD0, hN, hT⟩ := hv
  have hx := B.exec
  have hb := B.bytes
  have hr := B.returns
  have hts := atoms_spec (ws := Cond.code yX8_put cX8_put 2 none :: zw) B.pre
  have hA : ∀ w ∈ zw, w.before _ s = true := fun w h => hts w (List.mem_cons_of_mem _ h)
  have hown : s.vm.findClass RX8 = some m.cls := findClass_of_methodNamed B.named
  have hlocks := B.notSynchronized
  subst hsz
  have hD := hD0.self (sz := s.heap.size)
  generalize hAe : va_A [(h0, .inr (8, [.ref pb, .int pz, .ref psp, .int ps, .int tl, .ref poc, .ref pof, .int po])), (psp, .inl (p2, 4000, .inl gsp))] s.heap.size = A at hD hT ⊢
  have hAA : ∀ q : Nat, s.heap.size ≤ q → A q := fun q h => by rw [← hAe]; exact Or.inr h
  have hS : va_S A s.heap s.heap [] := va_S.rf
  have hl := lv_entry ([.ref h0, .int ch]) (n := 2) (Nat.le_of_ble_eq_true rfl)
  rw [lg_entry_eq]
  generalize (lg_sl ([.ref h0, .int ch]) ++ List.replicate (2 - (lg_sl ([.ref h0, .int ch])).length) Slot.unset).toArray = ls at hl ⊢
  have hl : lv_has ls 2 [(0, .ref h0), (1, .int ch)] := hl
  refine lv_aload_n hx hb dX8_put_0 rfl (lv_at hl 0 rfl) ?_
  refine va_get (D := (dC, dI)) (ci := 8) (v := .int ps) (C := RX8) (T := TX8) (N := 8) hx hb hA zin_X8 hown hK hP 0 rfl rfl 3 (by decide) (hA _ wi_562) (fun _ h9 => h9) rfl dX8_put_1 ?_
  refine lv_sipush (v := 4000) hx hb dX8_put_4 (by decide) ?_
  refine lv_icmp_ge (tgt := 34) hx hb dX8_put_7 (by decide) (fun c_1 => ?_) (fun c_1 => ?_)
  · have ic_1 : 4000 ≤ ps.toInt := zi_le c_1
    refine lv_aload_n hx hb dX8_put_34 rfl (lv_at hl 0 rfl) ?_
    refine lv_iconst (v := 1) hx hb dX8_put_35 (by decide) ?_
    refine va_put (D := (dC, dI)) (ci := 8) (v := .int 1) (ty := .boolean) (C := RX8) (T := TX8) (N := 8) hx hb hA zin_X8 tyX8 tyX8_ok nmX8 hown hK hP hD hS 0 rfl rfl 4 (by decide) (hA _ wi_563) (fun _ h9 => h9) rfl (by decide +kernel) rfl rfl (Nat.le_of_ble_eq_true rfl) dX8_put_36 (fun H locs hP hD hS => ?_)
    have hP : va_P (dC, dI) vwCl [(h0, .inr (8, [.ref pb, .int pz, .ref psp, .int ps, .int 1, .ref poc, .ref pof, .int po])), (psp, .inl (p2, 4000, .inl gsp))] H := hP
    have hD : va_D A [(h0, .inr (8, [.ref pb, .int pz, .ref psp, .int ps, .int 1, .ref poc, .ref pof, .int po])), (psp, .inl (p2, 4000, .inl gsp))] := hD
    have hP9 := hP.sub (ws' := [(h0, .inr (8, [.ref pb, .int pz, .ref psp, .int ps, .int 1, .ref poc, .ref pof, .int po])), (psp, .inl (p2, 4000, .inl gsp))]) [0, 1] rfl
    have hD9 := hD.sub (ws' := [(h0, .inr (8, [.ref pb, .int pz, .ref psp, .int ps, .int 1, .ref poc, .ref pof, .int po])), (psp, .inl (p2, 4000, .inl gsp))]) [0, 1] (by decide) rfl
    have hK9 := hK.sub (tys' := [(p2, .byte)]) [0] rfl
    exact W.vret hx hb hr (fun t ht hW => ⟨⟨(ps, 1, gsp), rfl, ⟨by omega, by omega⟩, by rw [ht]; exact hP9, va_K.moved hW.alike hK9, hD9⟩, hS.F ht⟩) hS.2.2 dX8_put_39
  · have ic_1 : ps.toInt < 4000 := zi_nle c_1
    refine lv_aload_n hx hb dX8_put_10 rfl (lv_at hl 0 rfl) ?_
    refine va_get (D := (dC, dI)) (ci := 8) (v := .ref psp) (C := RX8) (T := TX8) (N := 8) hx hb hA zin_X8 hown hK hP 0 rfl rfl 2 (by decide) (hA _ wi_561) (fun _ h9 => h9) rfl dX8_put_11 ?_
    refine lv_aload_n hx hb dX8_put_14 rfl (lv_at hl 0 rfl) ?_
    refine va_get (D := (dC, dI)) (ci := 8) (v := .int ps) (C := RX8) (T := TX8) (N := 8) hx hb hA zin_X8 hown hK hP 0 rfl rfl 3 (by decide) (hA _ wi_562) (fun _ h9 => h9) rfl dX8_put_15 ?_
    refine lv_iload_n hx hb dX8_put_18 rfl (lv_at hl 1 rfl) ?_
    obtain ⟨x_2, ex_2⟩ : ∃ z : Int32, z = (Int32.toInt8 ch).toInt32 := ⟨_, rfl⟩
    refine lv_i2b (v := x_2) hx hb dX8_put_19 ex_2.symm ?_
    refine va_bast hx hb hK hP hD hS 1 0 rfl rfl (vp_in_iff.mpr ⟨by omega, by omega⟩) dX8_put_20 (fun H locs hP hD hS => ?_)
    obtain ⟨f_3, ef_3⟩ : ∃ gz9 : Nat → Int32, gz9 = upd gsp (Int32.toNatClampNeg ps) (vp_nar .byte x_2) := ⟨_, rfl⟩
    rw [← ef_3] at hP hD
    have hP : va_P (dC, dI) vwCl [(h0, .inr (8, [.ref pb, .int pz, .ref psp, .int ps, .int tl, .ref poc, .ref pof, .int po])), (psp, .inl (p2, 4000, .inl f_3))] H := hP
    have hD : va_D A [(h0, .inr (8, [.ref pb, .int pz, .ref psp, .int ps, .int tl, .ref poc, .ref pof, .int po])), (psp, .inl (p2, 4000, .inl f_3))] := hD
    refine lv_aload_n hx hb dX8_put_21 rfl (lv_at hl 0 rfl) ?_
    refine lv_dup hx hb dX8_put_22 rfl ?_
    refine va_get (D := (dC, dI)) (ci := 8) (v := .int ps) (C := RX8) (T := TX8) (N := 8) hx hb hA zin_X8 hown hK hP 0 rfl rfl 3 (by decide) (hA _ wi_562) (fun _ h9 => h9) rfl dX8_put_23 ?_
    refine lv_iconst (v := 1) hx hb dX8_put_26 (by decide) ?_
    refine lv_iadd hx hb dX8_put_27 ?_
    refine lv_topi (fun x_4 ex_4 => ?_)
    have ix_4 : x_4.toInt = ps.toInt + 1 := by rw [ex_4]; exact zi_addc (by decide) (by omega) (by omega)
    refine va_put (D := (dC, dI)) (ci := 8) (v := .int x_4) (ty := .int) (C := RX8) (T := TX8) (N := 8) hx hb hA zin_X8 tyX8 tyX8_ok nmX8 hown hK hP hD hS 0 rfl rfl 3 (by decide) (hA _ wi_562) (fun _ h9 => h9) rfl (by decide +kernel) rfl rfl (Nat.le_of_ble_eq_true rfl) dX8_put_28 (fun H locs hP hD hS => ?_)
    have hP : va_P (dC, dI) vwCl [(h0, .inr (8, [.ref pb, .int pz, .ref psp, .int x_4, .int tl, .ref poc, .ref pof, .int po])), (psp, .inl (p2, 4000, .inl f_3))] H := hP
    have hD : va_D A [(h0, .inr (8, [.ref pb, .int pz, .ref psp, .int x_4, .int tl, .ref poc, .ref pof, .int po])), (psp, .inl (p2, 4000, .inl f_3))] := hD
    refine lv_goto (tgt := 39) hx hb dX8_put_31 (by decide) ?_
    have hP9 := hP.sub (ws' := [(h0, .inr (8, [.ref pb, .int pz, .ref psp, .int x_4, .int tl, .ref poc, .ref pof, .int po])), (psp, .inl (p2, 4000, .inl f_3))]) [0, 1] rfl
    have hD9 := hD.sub (ws' := [(h0, .inr (8, [.ref pb, .int pz, .ref psp, .int x_4, .int tl, .ref poc, .ref pof, .int po])), (psp, .inl (p2, 4000, .inl f_3))]) [0, 1] (by decide) rfl
    have hK9 := hK.sub (tys' := [(p2, .byte)]) [0] rfl
    exact W.vret hx hb hr (fun t ht hW => ⟨⟨(x_4, tl, f_3), rfl, ⟨by omega, by omega⟩, by rw [ht]; exact hP9, va_K.moved hW.alike hK9, hD9⟩, hS.F ht⟩) hS.2.2 dX8_put_39
set_option maxHeartbeats 4000000 in
set_option maxRecDepth 100000 in
theorem c_X8_putInt_x (l : Launch) (dC : Nat → ClassId) (dI : Nat → Nat → Nat) (aK aV : Nat → Nat) (h0 : Nat) (pb : Nat) (psp : Nat) (poc : Nat) (pof : Nat) (pz : Int32) (ps : Int32) (tl : Int32) (po : Int32) (p2 : ClassId) (gsp : Nat → Int32) (nu : Int32) (sz : Nat) (hps0 : 0 ≤ ps.toInt) (hps1 : ps.toInt ≤ 4000) (hpo0 : 0 ≤ po.toInt) (hpo1 : po.toInt ≤ 2000) : Met l yX8_putInt (Cond.code yX8_putInt cX8_putInt 6 none :: zw) ({ frames := 10, cells := 0, slots := 0, locals := 300 }) (va_Pc [.ref h0, .int nu] (zP dC dI aK aV sz [(p2, .byte)] [(h0, .inr (8, [.ref pb, .int pz, .ref psp, .int ps, .int tl, .ref poc, .ref pof, .int po])), (psp, .inl (p2, 4000, .inl gsp))])) (va_Qv (fun u : Int32 × Int32 × (Nat → Int32) => match u with | (ps2, tl2, gsp2) => (0 ≤ ps2.toInt) ∧ (ps2.toInt ≤ 4000)) (fun u => match u with | (ps2, tl2, gsp2) => zQ dC dI (va_A [(h0, .inr (8, [.ref pb, .int pz, .ref psp, .int ps, .int tl, .ref poc, .ref pof, .int po])), (psp, .inl (p2, 4000, .inl gsp))] sz) [(p2, .byte)] [(h0, .inr (8, [.ref pb, .int pz, .ref psp, .int ps2, .int tl2, .ref poc, .ref pof, .int po])), (psp, .inl (p2, 4000, .inl gsp2))]) (va_A [(h0, .inr (8, [.ref pb, .int pz, .ref psp, .int ps, .int tl, .ref poc, .ref pof, .int po])), (psp, .inl (p2, 4000, .inl gsp))] sz)) 0 0 (va_A [(h0, .inr (8, [.ref pb, .int pz, .ref psp, .int ps, .int tl, .ref poc, .ref pof, .int po])), (psp, .inl (p2, 4000, .inl gsp))] sz) := by
  refine Met.ofW (cc := cX8_putInt) (maxL := 6) (ret := none) (by decide) rfl ?_
  intro p e s m args below meth c s₁ B hml hv
  obtain ⟨rfl, hsz, hP, hK, hD0, hN, hT⟩ := hv
  have hx := B.exec
  have hb := B.bytes
  have hr := B.returns
  have hts := atoms_spec (ws := Cond.code yX8_putInt cX8_putInt 6 none :: zw) B.pre
  have hA : ∀ w ∈ zw, w.before _ s = true := fun w h => hts w (List.mem_cons_of_mem _ h)
  have hown : s.vm.findClass RX8 = some m.cls := findClass_of_methodNamed B.named
  have hlocks := B.notSynchronized
  subst hsz
  have hD := hD0.self (sz := s.heap.size)
  generalize hAe : va_A [(h0, .inr (8, [.ref pb, .int pz, .ref psp, .int ps, .int tl, .ref poc, .ref pof, .int po])), (psp, .inl (p2, 4000, .inl gsp))] s.heap.size = A at hD hT ⊢
  have hAA : ∀ q : Nat, s.heap.size ≤ q → A q := fun q h => by rw [← hAe]; exact Or.inr h
  have hS : va_S A s.heap s.heap [] := va_S.rf
  have hl := lv_entry ([.ref h0, .int nu]) (n := 6) (Nat.le_of_ble_eq_true rfl)
  rw [lg_entry_eq]
  generalize (lg_sl ([.ref h0, .int nu]) ++ List.replicate (6 - (lg_sl ([.ref h0, .int nu])).length) Slot.unset).toArray = ls at hl ⊢
  have hl : lv_has ls 6 [(0, .ref h0), (1, .int nu)] := hl
  refine lv_iload_n hx hb dX8_putInt_0 rfl (lv_at hl 1 rfl) ?_
  obtain ⟨x_1, ex_1⟩ : ∃ z : Int64, z = Int32.toInt64 nu := ⟨_, rfl⟩
  refine lv_i2l (v := x_1) hx hb dX8_putInt_1 ex_1.symm ?_
  refine lv_lstore_n (lv' := [(2, .long x_1), (0, .ref h0), (1, .int nu)]) hx hb dX8_putInt_2 rfl hl (by decide) rfl (fun ls hl => ?_)
  refine lv_lload_n hx hb dX8_putInt_3 rfl (lv_at hl 0 rfl) ?_
  refine lv_lconst (v := 0) hx hb dX8_putInt_4 (by decide) ?_
  refine W.lcmp hx hb dX8_putInt_5 ?_
  refine lv_topi (fun x_2 ex_2 => ?_)
  have lx_2 := zl_cmp ex_2
  have hl_3 : Int64.toInt 0 = 0 := by decide
  refine lv_if_ge (tgt := 18) hx hb dX8_putInt_6 (by decide) (fun c_4 => ?_) (fun c_4 => ?_)
  · have ic_4 : 0 ≤ x_2.toInt := zi_le c_4
    refine lv_ldc2 (v := 1000000000) hx hb hown (hA _ wi_1312) dX8_putInt_18 ?_
    refine lv_topl (fun un0 eun0 => ?_)
    have iun0 : un0.toInt = 1000000000 := by rw [eun0]; decide
    refine lv_lstore (lv' := [(4, .long un0), (2, .long x_1), (0, .ref h0), (1, .int nu)]) hx hb dX8_putInt_21 hl (by decide) rfl (fun ls hl => ?_)
    have loop_23 : ∀ (n9 : Nat) (un : Int64) (H : Heap) (locs : List Loc) (ls : Array Slot), (un.toInt + 1).toNat ≤ n9 → 0 ≤ un.toInt → un.toInt ≤ 1000000000 → va_P (dC, dI) vwCl [(h0, .inr (8, [.ref pb, .int pz, .ref psp, .int ps, .int tl, .ref poc, .ref pof, .int po])), (psp, .inl (p2, 4000, .inl gsp))] H → va_D A [(h0, .inr (8, [.ref pb, .int pz, .ref psp, .int ps, .int tl, .ref poc, .ref pof, .int po])), (psp, .inl (p2, 4000, .inl gsp))] → va_S A s.heap H locs → lv_has ls 6 [(4, .long un), (2, .long x_1), (0, .ref h0), (1, .int nu)] → W p l e (headSpec (Cond.code yX8_putInt cX8_putInt 6 none :: zw) ({ frames := 10, cells := 0, slots := 0, locals := 300 })).room s m #[.ref h0, .int nu] below meth c H locs 0 0 (MQ below (va_Qv (fun u : Int32 × Int32 × (Nat → Int32) => match u with | (ps2, tl2, gsp2) => (0 ≤ ps2.toInt) ∧ (ps2.toInt ≤ 4000)) (fun u => match u with | (ps2, tl2, gsp2) => zQ dC dI A [(p2, .byte)] [(h0, .inr (8, [.ref pb, .int pz, .ref psp, .int ps2, .int tl2, .ref poc, .ref pof, .int po])), (psp, .inl (p2, 4000, .inl gsp2))]) A) #[.ref h0, .int nu] s 0 0 A) (F0 m 23 ls []) := by
      intro n9
      induction n9 with
      | zero => intro un H locs ls hm hu0 hu1; exfalso; omega
      | succ n9 ih =>
        intro un H locs ls hm hu0 hu1 hP hD hS hl
        refine lv_lload hx hb dX8_putInt_23 (lv_at hl 0 rfl) ?_
        refine lv_lconst (v := 1) hx hb dX8_putInt_25 (by decide) ?_
        refine W.lcmp hx hb dX8_putInt_26 ?_
        refine lv_topi (fun x_5 ex_5 => ?_)
        have lx_5 := zl_cmp ex_5
        have hl_6 : Int64.toInt 1 = 1 := by decide
        refine lv_if_le (tgt := 48) hx hb dX8_putInt_27 (by decide) (fun c_7 => ?_) (fun c_7 => ?_)
        · have ic_7 : x_5.toInt ≤ 0 := zi_le c_7
          have loop_48 : ∀ (n9 : Nat) (uq : Int64) (lps : Int32) (ltl : Int32) (lgs : Nat → Int32) (H : Heap) (locs : List Loc) (ls : Array Slot), (uq.toInt + 1).toNat ≤ n9 → 0 ≤ uq.toInt → uq.toInt ≤ 1000000000 → 0 ≤ lps.toInt → lps.toInt ≤ 4000 → va_P (dC, dI) vwCl [(h0, .inr (8, [.ref pb, .int pz, .ref psp, .int lps, .int ltl, .ref poc, .ref pof, .int po])), (psp, .inl (p2, 4000, .inl lgs))] H → va_D A [(h0, .inr (8, [.ref pb, .int pz, .ref psp, .int lps, .int ltl, .ref poc, .ref pof, .int po])), (psp, .inl (p2, 4000, .inl lgs))] → va_S A s.heap H locs → lv_has ls 6 [(4, .long uq), (2, .long x_1), (0, .ref h0), (1, .int nu)] → W p l e (headSpec (Cond.code yX8_putInt cX8_putInt 6 none :: zw) ({ frames := 10, cells := 0, slots := 0, locals := 300 })).room s m #[.ref h0, .int nu] below meth c H locs 0 0 (MQ below (va_Qv (fun u : Int32 × Int32 × (Nat → Int32) => match u with | (ps2, tl2, gsp2) => (0 ≤ ps2.toInt) ∧ (ps2.toInt ≤ 4000)) (fun u => match u with | (ps2, tl2, gsp2) => zQ dC dI A [(p2, .byte)] [(h0, .inr (8, [.ref pb, .int pz, .ref psp, .int ps2, .int tl2, .ref poc, .ref pof, .int po])), (psp, .inl (p2, 4000, .inl gsp2))]) A) #[.ref h0, .int nu] s 0 0 A) (F0 m 48 ls []) := by
            intro n9
            induction n9 with
            | zero => intro uq lps ltl lgs H locs ls hm hq0 hq1 hl0 hl1; exfalso; omega
            | succ n9 ih_48 =>
              intro uq lps ltl lgs H locs ls hm hq0 hq1 hl0 hl1 hP hD hS hl
              refine lv_lload hx hb dX8_putInt_48 (lv_at hl 0 rfl) ?_
              refine lv_lconst (v := 0) hx hb dX8_putInt_50 (by decide) ?_
              refine W.lcmp hx hb dX8_putInt_51 ?_
              refine lv_topi (fun x_8 ex_8 => ?_)
              have lx_8 := zl_cmp ex_8
              have hl_9 : Int64.toInt 0 = 0 := by decide
              refine lv_if_le (tgt := 82) hx hb dX8_putInt_52 (by decide) (fun c_10 => ?_) (fun c_10 => ?_)
              · have ic_10 : x_8.toInt ≤ 0 := zi_le c_10
                have hP9 := hP.sub (ws' := [(h0, .inr (8, [.ref pb, .int pz, .ref psp, .int lps, .int ltl, .ref poc, .ref pof, .int po])), (psp, .inl (p2, 4000, .inl lgs))]) [0, 1] rfl
                have hD9 := hD.sub (ws' := [(h0, .inr (8, [.ref pb, .int pz, .ref psp, .int lps, .int ltl, .ref poc, .ref pof, .int po])), (psp, .inl (p2, 4000, .inl lgs))]) [0, 1] (by decide) rfl
                have hK9 := hK.sub (tys' := [(p2, .byte)]) [0] rfl
                exact W.vret hx hb hr (fun t ht hW => ⟨⟨(lps, ltl, lgs), rfl, ⟨by omega, by omega⟩, by rw [ht]; exact hP9, va_K.moved hW.alike hK9, hD9⟩, hS.F ht⟩) hS.2.2 dX8_putInt_82
              · have ic_10 : 0 < x_8.toInt := zi_nle c_10
                refine lv_aload_n hx hb dX8_putInt_55 rfl (lv_at hl 2 rfl) ?_
                refine lv_bipush (v := 48) hx hb dX8_putInt_56 (by decide) ?_
                refine lv_lload_n hx hb dX8_putInt_58 rfl (lv_at hl 1 rfl) ?_
                refine lv_lload hx hb dX8_putInt_59 (lv_at hl 0 rfl) ?_
                refine lv_ldiv hx hb dX8_putInt_61 (fun g => by have h9a : uq.toInt = 0 := (by rw [g]; decide); omega) ?_
                refine lv_topl (fun x_11 ex_11 => ?_)
                refine lv_ldc2 (v := 10) hx hb hown (hA _ wi_1313) dX8_putInt_62 ?_
                refine lv_lrem hx hb dX8_putInt_65 (by decide) ?_
                refine lv_topl (fun x_12 ex_12 => ?_)
                refine lv_l2i hx hb dX8_putInt_66 rfl ?_
                refine lv_topi (fun x_13 ex_13 => ?_)
                refine lv_iadd hx hb dX8_putInt_67 ?_
                refine lv_topi (fun x_14 ex_14 => ?_)
                have hPc := hP.sub (ws' := [(h0, .inr (8, [.ref pb, .int pz, .ref psp, .int lps, .int ltl, .ref poc, .ref pof, .int po])), (psp, .inl (p2, 4000, .inl lgs))]) [0, 1] rfl
                have hDc := hD.sub (ws' := [(h0, .inr (8, [.ref pb, .int pz, .ref psp, .int lps, .int ltl, .ref poc, .ref pof, .int po])), (psp, .inl (p2, 4000, .inl lgs))]) [0, 1] (by decide) rfl
                have hKc := hK.sub (tys' := [(p2, .byte)]) [0] rfl
                have hFc := va_free (wc := [(h0, .inr (8, [.ref pb, .int pz, .ref psp, .int lps, .int ltl, .ref poc, .ref pof, .int po])), (psp, .inl (p2, 4000, .inl lgs))]) hD hS hAA [0, 1] rfl
                refine va_callv (va_runV (As := [.int x_14]) (rest := []) ⟨hx, hb, hml, hown, hA⟩ (c_X8_put_x l dC dI aK aV h0 pb psp poc pof pz lps ltl po p2 lgs x_14 H.size (by omega) (by omega) (by omega) (by omega)) (cwV 1 hA (zw_V wi_1308 wi_1310 wi_69 wi_142 (zw_good wi_1311)) rfl rfl rfl (by decide +kernel) ⟨(Nat.le_of_ble_eq_true rfl), (Nat.le_of_ble_eq_true rfl)⟩) ⟨zP_blind, va_recv hKc hPc (ci := 8) (q0 := 0) rfl rfl, zz_pre hKc hPc hDc hN hT hS hFc⟩ rfl rfl hl.1 rfl (lv_room (Nat.le_of_ble_eq_true rfl)) dX8_putInt_68 ⟨(Nat.le_of_ble_eq_true rfl), (Nat.le_of_ble_eq_true rfl)⟩) hS (fun q _ h => hFc q h) hFc (fun u t H1 locs ht hvm hw hB hz1 hk1 hS => ?_)
                obtain ⟨ps_16, tl_17, gsp_18⟩ := u
                obtain ⟨hP1, hK1, hD1⟩ := hB
                rw [ht] at hP1
                have hK1 := va_K.moved hvm.symm hK1
                obtain ⟨hP, hD⟩ := va_join (wr := []) (w1 := [(h0, .inr (8, [.ref pb, .int pz, .ref psp, .int ps_16, .int tl_17, .ref poc, .ref pof, .int po])), (psp, .inl (p2, 4000, .inl gsp_18))]) hP hD [0, 1] [] rfl rfl (by decide) (by decide) hk1 hFc hP1 hD1
                have hK := (hK.sub (tys' := []) [] rfl).app hK1
                generalize H1 = H at hP hS ⊢
                have hP : va_P (dC, dI) vwCl [(h0, .inr (8, [.ref pb, .int pz, .ref psp, .int ps_16, .int tl_17, .ref poc, .ref pof, .int po])), (psp, .inl (p2, 4000, .inl gsp_18))] H := hP
                have hD : va_D A [(h0, .inr (8, [.ref pb, .int pz, .ref psp, .int ps_16, .int tl_17, .ref poc, .ref pof, .int po])), (psp, .inl (p2, 4000, .inl gsp_18))] := hD
                have hK : va_K (dC, dI) vwCl [(p2, .byte)] s := hK
                obtain ⟨hq_19, hq_20⟩ := hw
                refine lv_lload hx hb dX8_putInt_71 (lv_at hl 0 rfl) ?_
                refine lv_ldc2 (v := 10) hx hb hown (hA _ wi_1313) dX8_putInt_73 ?_
                refine lv_ldiv hx hb dX8_putInt_76 (by decide) ?_
                refine lv_topl (fun x_21 ex_21 => ?_)
                have ix_21 : x_21.toInt = uq.toInt / 10 := by rw [ex_21]; exact (lg_ldiv_nonneg (by omega) (by decide)).trans (by rw [show Int64.toInt 10 = 10 from by decide])
                refine lv_lstore (lv' := [(4, .long x_21), (2, .long x_1), (0, .ref h0), (1, .int nu)]) hx hb dX8_putInt_77 hl (by decide) rfl (fun ls hl => ?_)
                refine lv_goto (tgt := 48) hx hb dX8_putInt_79 (by decide) ?_
                exact ih_48 x_21 ps_16 tl_17 gsp_18 _ _ _ (by omega) (by omega) (by omega) (by omega) (by omega) (hP.sub [0, 1] rfl) (hD.sub [0, 1] (by decide) rfl) hS (lv_sub hl [0, 1, 2, 3] rfl)
          exact loop_48 _ un ps tl gsp _ _ _ (Nat.le_refl _) (by omega) (by omega) (by omega) (by omega) (hP.sub [0, 1] rfl) (hD.sub [0, 1] (by decide) rfl) hS (lv_sub hl [0, 1, 2, 3] rfl)
        · have ic_7 : 0 < x_5.toInt := zi_nle c_7
          refine lv_lload hx hb dX8_putInt_30 (lv_at hl 0 rfl) ?_
          refine lv_lload_n hx hb dX8_putInt_32 rfl (lv_at hl 1 rfl) ?_
          refine W.lcmp hx hb dX8_putInt_33 ?_
          refine lv_topi (fun x_22 ex_22 => ?_)
          have lx_22 := zl_cmp ex_22
          refine lv_if_le (tgt := 48) hx hb dX8_putInt_34 (by decide) (fun c_23 => ?_) (fun c_23 => ?_)
          · have ic_23 : x_22.toInt ≤ 0 := zi_le c_23
            have loop_48 : ∀ (n9 : Nat) (uq : Int64) (lps : Int32) (ltl : Int32) (lgs : Nat → Int32) (H : Heap) (locs : List Loc) (ls : Array Slot), (uq.toInt + 1).toNat ≤ n9 → 0 ≤ uq.toInt → uq.toInt ≤ 1000000000 → 0 ≤ lps.toInt → lps.toInt ≤ 4000 → va_P (dC, dI) vwCl [(h0, .inr (8, [.ref pb, .int pz, .ref psp, .int lps, .int ltl, .ref poc, .ref pof, .int po])), (psp, .inl (p2, 4000, .inl lgs))] H → va_D A [(h0, .inr (8, [.ref pb, .int pz, .ref psp, .int lps, .int ltl, .ref poc, .ref pof, .int po])), (psp, .inl (p2, 4000, .inl lgs))] → va_S A s.heap H locs → lv_has ls 6 [(4, .long uq), (2, .long x_1), (0, .ref h0), (1, .int nu)] → W p l e (headSpec (Cond.code yX8_putInt cX8_putInt 6 none :: zw) ({ frames := 10, cells := 0, slots := 0, locals := 300 })).room s m #[.ref h0, .int nu] below meth c H locs 0 0 (MQ below (va_Qv (fun u : Int32 × Int32 × (Nat → Int32) => match u with | (ps2, tl2, gsp2) => (0 ≤ ps2.toInt) ∧ (ps2.toInt ≤ 4000)) (fun u => match u with | (ps2, tl2, gsp2) => zQ dC dI A [(p2, .byte)] [(h0, .inr (8, [.ref pb, .int pz, .ref psp, .int ps2, .int tl2, .ref poc, .ref pof, .int po])), (psp, .inl (p2, 4000, .inl gsp2))]) A) #[.ref h0, .int nu] s 0 0 A) (F0 m 48 ls []) := by
              intro n9
              induction n9 with
              | zero => intro uq lps ltl lgs H locs ls hm hq0 hq1 hl0 hl1; exfalso; omega
              | succ n9 ih_48 =>
                intro uq lps ltl lgs H locs ls hm hq0 hq1 hl0 hl1 hP hD hS hl
                refine lv_lload hx hb dX8_putInt_48 (lv_at hl 0 rfl) ?_
                refine lv_lconst (v := 0) hx hb dX8_putInt_50 (by decide) ?_
                refine W.lcmp hx hb dX8_putInt_51 ?_
                refine lv_topi (fun x_24 ex_24 => ?_)
                have lx_24 := zl_cmp ex_24
                have hl_25 : Int64.toInt 0 = 0 := by decide
                refine lv_if_le (tgt := 82) hx hb dX8_putInt_52 (by decide) (fun c_26 => ?_) (fun c_26 => ?_)
                · have ic_26 : x_24.toInt ≤ 0 := zi_le c_26
                  have hP9 := hP.sub (ws' := [(h0, .inr (8, [.ref pb, .int pz, .ref psp, .int lps, .int ltl, .ref poc, .ref pof, .int po])), (psp, .inl (p2, 4000, .inl lgs))]) [0, 1] rfl
                  have hD9 := hD.sub (ws' := [(h0, .inr (8, [.ref pb, .int pz, .ref psp, .int lps, .int ltl, .ref poc, .ref pof, .int po])), (psp, .inl (p2, 4000, .inl lgs))]) [0, 1] (by decide) rfl
                  have hK9 := hK.sub (tys' := [(p2, .byte)]) [0] rfl
                  exact W.vret hx hb hr (fun t ht hW => ⟨⟨(lps, ltl, lgs), rfl, ⟨by omega, by omega⟩, by rw [ht]; exact hP9, va_K.moved hW.alike hK9, hD9⟩, hS.F ht⟩) hS.2.2 dX8_putInt_82
                · have ic_26 : 0 < x_24.toInt := zi_nle c_26
                  refine lv_aload_n hx hb dX8_putInt_55 rfl (lv_at hl 2 rfl) ?_
                  refine lv_bipush (v := 48) hx hb dX8_putInt_56 (by decide) ?_
                  refine lv_lload_n hx hb dX8_putInt_58 rfl (lv_at hl 1 rfl) ?_
                  refine lv_lload hx hb dX8_putInt_59 (lv_at hl 0 rfl) ?_
                  refine lv_ldiv hx hb dX8_putInt_61 (fun g => by have h9a : uq.toInt = 0 := (by rw [g]; decide); omega) ?_
                  refine lv_topl (fun x_27 ex_27 => ?_)
                  refine lv_ldc2 (v := 10) hx hb hown (hA _ wi_1313) dX8_putInt_62 ?_
                  refine lv_lrem hx hb dX8_putInt_65 (by decide) ?_
                  refine lv_topl (fun x_28 ex_28 => ?_)
                  refine lv_l2i hx hb dX8_putInt_66 rfl ?_
                  refine lv_topi (fun x_29 ex_29 => ?_)
                  refine lv_iadd hx hb dX8_putInt_67 ?_
                  refine lv_topi (fun x_30 ex_30 => ?_)
                  have hPc := hP.sub (ws' := [(h0, .inr (8, [.ref pb, .int pz, .ref psp, .int lps, .int ltl, .ref poc, .ref pof, .int po])), (psp, .inl (p2, 4000, .inl lgs))]) [0, 1] rfl
                  have hDc := hD.sub (ws' := [(h0, .inr (8, [.ref pb, .int pz, .ref psp, .int lps, .int ltl, .ref poc, .ref pof, .int po])), (psp, .inl (p2, 4000, .inl lgs))]) [0, 1] (by decide) rfl
                  have hKc := hK.sub (tys' := [(p2, .byte)]) [0] rfl
                  have hFc := va_free (wc := [(h0, .inr (8, [.ref pb, .int pz, .ref psp, .int lps, .int ltl, .ref poc, .ref pof, .int po])), (psp, .inl (p2, 4000, .inl lgs))]) hD hS hAA [0, 1] rfl
                  refine va_callv (va_runV (As := [.int x_30]) (rest := []) ⟨hx, hb, hml, hown, hA⟩ (c_X8_put_x l dC dI aK aV h0 pb psp poc pof pz lps ltl po p2 lgs x_30 H.size (by omega) (by omega) (by omega) (by omega)) (cwV 1 hA (zw_V wi_1308 wi_1310 wi_69 wi_142 (zw_good wi_1311)) rfl rfl rfl (by decide +kernel) ⟨(Nat.le_of_ble_eq_true rfl), (Nat.le_of_ble_eq_true rfl)⟩) ⟨zP_blind, va_recv hKc hPc (ci := 8) (q0 := 0) rfl rfl, zz_pre hKc hPc hDc hN hT hS hFc⟩ rfl rfl hl.1 rfl (lv_room (Nat.le_of_ble_eq_true rfl)) dX8_putInt_68 ⟨(Nat.le_of_ble_eq_true rfl), (Nat.le_of_ble_eq_true rfl)⟩) hS (fun q _ h => hFc q h) hFc (fun u t H1 locs ht hvm hw hB hz1 hk1 hS => ?_)
                  obtain ⟨ps_32, tl_33, gsp_34⟩ := u
                  obtain ⟨hP1, hK1, hD1⟩ := hB
                  rw [ht] at hP1
                  have hK1 := va_K.moved hvm.symm hK1
                  obtain ⟨hP, hD⟩ := va_join (wr := []) (w1 := [(h0, .inr (8, [.ref pb, .int pz, .ref psp, .int ps_32, .int tl_33, .ref poc, .ref pof, .int po])), (psp, .inl (p2, 4000, .inl gsp_34))]) hP hD [0, 1] [] rfl rfl (by decide) (by decide) hk1 hFc hP1 hD1
                  have hK := (hK.sub (tys' := []) [] rfl).app hK1
                  generalize H1 = H at hP hS ⊢
                  have hP : va_P (dC, dI) vwCl [(h0, .inr (8, [.ref pb, .int pz, .ref psp, .int ps_32, .int tl_33, .ref poc, .ref pof, .int po])), (psp, .inl (p2, 4000, .inl gsp_34))] H := hP
                  have hD : va_D A [(h0, .inr (8, [.ref pb, .int pz, .ref psp, .int ps_32, .int tl_33, .ref poc, .ref pof, .int po])), (psp, .inl (p2, 4000, .inl gsp_34))] := hD
                  have hK : va_K (dC, dI) vwCl [(p2, .byte)] s := hK
                  obtain ⟨hq_35, hq_36⟩ := hw
                  refine lv_lload hx hb dX8_putInt_71 (lv_at hl 0 rfl) ?_
                  refine lv_ldc2 (v := 10) hx hb hown (hA _ wi_1313) dX8_putInt_73 ?_
                  refine lv_ldiv hx hb dX8_putInt_76 (by decide) ?_
                  refine lv_topl (fun x_37 ex_37 => ?_)
                  have ix_37 : x_37.toInt = uq.toInt / 10 := by rw [ex_37]; exact (lg_ldiv_nonneg (by omega) (by decide)).trans (by rw [show Int64.toInt 10 = 10 from by decide])
                  refine lv_lstore (lv' := [(4, .long x_37), (2, .long x_1), (0, .ref h0), (1, .int nu)]) hx hb dX8_putInt_77 hl (by decide) rfl (fun ls hl => ?_)
                  refine lv_goto (tgt := 48) hx hb dX8_putInt_79 (by decide) ?_
                  exact ih_48 x_37 ps_32 tl_33 gsp_34 _ _ _ (by omega) (by omega) (by omega) (by omega) (by omega) (hP.sub [0, 1] rfl) (hD.sub [0, 1] (by decide) rfl) hS (lv_sub hl [0, 1, 2, 3] rfl)
            exact loop_48 _ un ps tl gsp _ _ _ (Nat.le_refl _) (by omega) (by omega) (by omega) (by omega) (hP.sub [0, 1] rfl) (hD.sub [0, 1] (by decide) rfl) hS (lv_sub hl [0, 1, 2, 3] rfl)
          · have ic_23 : 0 < x_22.toInt := zi_nle c_23
            refine lv_lload hx hb dX8_putInt_37 (lv_at hl 0 rfl) ?_
            refine lv_ldc2 (v := 10) hx hb hown (hA _ wi_1313) dX8_putInt_39 ?_
            refine lv_ldiv hx hb dX8_putInt_42 (by decide) ?_
            refine lv_topl (fun x_38 ex_38 => ?_)
            have ix_38 : x_38.toInt = un.toInt / 10 := by rw [ex_38]; exact (lg_ldiv_nonneg (by omega) (by decide)).trans (by rw [show Int64.toInt 10 = 10 from by decide])
            refine lv_lstore (lv' := [(4, .long x_38), (2, .long x_1), (0, .ref h0), (1, .int nu)]) hx hb dX8_putInt_43 hl (by decide) rfl (fun ls hl => ?_)
            refine lv_goto (tgt := 23) hx hb dX8_putInt_45 (by decide) ?_
            exact ih x_38 _ _ _ (by omega) (by omega) (by omega) (hP.sub [0, 1] rfl) (hD.sub [0, 1] (by decide) rfl) hS (lv_sub hl [0, 1, 2, 3] rfl)
    exact loop_23 _ un0 _ _ _ (Nat.le_refl _) (by omega) (by omega) (hP.sub [0, 1] rfl) (hD.sub [0, 1] (by decide) rfl) hS (lv_sub hl [0, 1, 2, 3] rfl)
  · have ic_4 : x_2.toInt < 0 := zi_nle c_4
    refine lv_aload_n hx hb dX8_putInt_9 rfl (lv_at hl 1 rfl) ?_
    refine lv_bipush (v := 45) hx hb dX8_putInt_10 (by decide) ?_
    have hPc := hP.sub (ws' := [(h0, .inr (8, [.ref pb, .int pz, .ref psp, .int ps, .int tl, .ref poc, .ref pof, .int po])), (psp, .inl (p2, 4000, .inl gsp))]) [0, 1] rfl
    have hDc := hD.sub (ws' := [(h0, .inr (8, [.ref pb, .int pz, .ref psp, .int ps, .int tl, .ref poc, .ref pof, .int po])), (psp, .inl (p2, 4000, .inl gsp))]) [0, 1] (by decide) rfl
    have hKc := hK.sub (tys' := [(p2, .byte)]) [0] rfl
    have hFc := va_free (wc := [(h0, .inr (8, [.ref pb, .int pz, .ref psp, .int ps, .int tl, .ref poc, .ref pof, .int po])), (psp, .inl (p2, 4000, .inl gsp))]) hD hS hAA [0, 1] rfl
    refine va_callv (va_runV (As := [.int 45]) (rest := []) ⟨hx, hb, hml, hown, hA⟩ (c_X8_put_x l dC dI aK aV h0 pb psp poc pof pz ps tl po p2 gsp 45 s.heap.size (by omega) (by omega) (by omega) (by omega)) (cwV 1 hA (zw_V wi_1308 wi_1310 wi_69 wi_142 (zw_good wi_1311)) rfl rfl rfl (by decide +kernel) ⟨(Nat.le_of_ble_eq_true rfl), (Nat.le_of_ble_eq_true rfl)⟩) ⟨zP_blind, va_recv hKc hPc (ci := 8) (q0 := 0) rfl rfl, zz_pre hKc hPc hDc hN hT hS hFc⟩ rfl rfl hl.1 rfl (lv_room (Nat.le_of_ble_eq_true rfl)) dX8_putInt_12 ⟨(Nat.le_of_ble_eq_true rfl), (Nat.le_of_ble_eq_true rfl)⟩) hS (fun q _ h => hFc q h) hFc (fun u t H1 locs ht hvm hw hB hz1 hk1 hS => ?_)
    obtain ⟨ps_40, tl_41, gsp_42⟩ := u
    obtain ⟨hP1, hK1, hD1⟩ := hB
    rw [ht] at hP1
    have hK1 := va_K.moved hvm.symm hK1
    obtain ⟨hP, hD⟩ := va_join (wr := []) (w1 := [(h0, .inr (8, [.ref pb, .int pz, .ref psp, .int ps_40, .int tl_41, .ref poc, .ref pof, .int po])), (psp, .inl (p2, 4000, .inl gsp_42))]) hP hD [0, 1] [] rfl rfl (by decide) (by decide) hk1 hFc hP1 hD1
    have hK := (hK.sub (tys' := []) [] rfl).app hK1
    generalize H1 = H at hP hS ⊢
    have hP : va_P (dC, dI) vwCl [(h0, .inr (8, [.ref pb, .int pz, .ref psp, .int ps_40, .int tl_41, .ref poc, .ref pof, .int po])), (psp, .inl (p2, 4000, .inl gsp_42))] H := hP
    have hD : va_D A [(h0, .inr (8, [.ref pb, .int pz, .ref psp, .int ps_40, .int tl_41, .ref poc, .ref pof, .int po])), (psp, .inl (p2, 4000, .inl gsp_42))] := hD
    have hK : va_K (dC, dI) vwCl [(p2, .byte)] s := hK
    obtain ⟨hq_43, hq_44⟩ := hw
    refine lv_lload_n hx hb dX8_putInt_15 rfl (lv_at hl 0 rfl) ?_
    refine lv_lneg hx hb dX8_putInt_16 ?_
    refine lv_topl (fun x_45 ex_45 => ?_)
    refine lv_lstore_n (lv' := [(2, .long x_45), (0, .ref h0), (1, .int nu)]) hx hb dX8_putInt_17 rfl hl (by decide) rfl (fun ls hl => ?_)
    refine lv_ldc2 (v := 1000000000) hx hb hown (hA _ wi_1312) dX8_putInt_18 ?_
    refine lv_topl (fun un0 eun0 => ?_)
    have iun0 : un0.toInt = 1000000000 := by rw [eun0]; decide
    refine lv_lstore (lv' := [(4, .long un0), (2, .long x_45), (0, .ref h0), (1, .int nu)]) hx hb dX8_putInt_21 hl (by decide) rfl (fun ls hl => ?_)
    have loop_23 : ∀ (n9 : Nat) (un : Int64) (H : Heap) (locs : List Loc) (ls : Array Slot), (un.toInt + 1).toNat ≤ n9 → 0 ≤ un.toInt → un.toInt ≤ 1000000000 → va_P (dC, dI) vwCl [(h0, .inr (8, [.ref pb, .int pz, .ref psp, .int ps_40, .int tl_41, .ref poc, .ref pof, .int po])), (psp, .inl (p2, 4000, .inl gsp_42))] H → va_D A [(h0, .inr (8, [.ref pb, .int pz, .ref psp, .int ps_40, .int tl_41, .ref poc, .ref pof, .int po])), (psp, .inl (p2, 4000, .inl gsp_42))] → va_S A s.heap H locs → lv_has ls 6 [(4, .long un), (2, .long x_45), (0, .ref h0), (1, .int nu)] → W p l e (headSpec (Cond.code yX8_putInt cX8_putInt 6 none :: zw) ({ frames := 10, cells := 0, slots := 0, locals := 300 })).room s m #[.ref h0, .int nu] below meth c H locs 0 0 (MQ below (va_Qv (fun u : Int32 × Int32 × (Nat → Int32) => match u with | (ps2, tl2, gsp2) => (0 ≤ ps2.toInt) ∧ (ps2.toInt ≤ 4000)) (fun u => match u with | (ps2, tl2, gsp2) => zQ dC dI A [(p2, .byte)] [(h0, .inr (8, [.ref pb, .int pz, .ref psp, .int ps2, .int tl2, .ref poc, .ref pof, .int po])), (psp, .inl (p2, 4000, .inl gsp2))]) A) #[.ref h0, .int nu] s 0 0 A) (F0 m 23 ls []) := by
      intro n9
      induction n9 with
      | zero => intro un H locs ls hm hu0 hu1; exfalso; omega
      | succ n9 ih =>
        intro un H locs ls hm hu0 hu1 hP hD hS hl
        refine lv_lload hx hb dX8_putInt_23 (lv_at hl 0 rfl) ?_
        refine lv_lconst (v := 1) hx hb dX8_putInt_25 (by decide) ?_
        refine W.lcmp hx hb dX8_putInt_26 ?_
        refine lv_topi (fun x_46 ex_46 => ?_)
        have lx_46 := zl_cmp ex_46
        have hl_47 : Int64.toInt 1 = 1 := by decide
        refine lv_if_le (tgt := 48) hx hb dX8_putInt_27 (by decide) (fun c_48 => ?_) (fun c_48 => ?_)
        · have ic_48 : x_46.toInt ≤ 0 := zi_le c_48
          have loop_48 : ∀ (n9 : Nat) (uq : Int64) (lps : Int32) (ltl : Int32) (lgs : Nat → Int32) (H : Heap) (locs : List Loc) (ls : Array Slot), (uq.toInt + 1).toNat ≤ n9 → 0 ≤ uq.toInt → uq.toInt ≤ 1000000000 → 0 ≤ lps.toInt → lps.toInt ≤ 4000 → va_P (dC, dI) vwCl [(h0, .inr (8, [.ref pb, .int pz, .ref psp, .int lps, .int ltl, .ref poc, .ref pof, .int po])), (psp, .inl (p2, 4000, .inl lgs))] H → va_D A [(h0, .inr (8, [.ref pb, .int pz, .ref psp, .int lps, .int ltl, .ref poc, .ref pof, .int po])), (psp, .inl (p2, 4000, .inl lgs))] → va_S A s.heap H locs → lv_has ls 6 [(4, .long uq), (2, .long x_45), (0, .ref h0), (1, .int nu)] → W p l e (headSpec (Cond.code yX8_putInt cX8_putInt 6 none :: zw) ({ frames := 10, cells := 0, slots := 0, locals := 300 })).room s m #[.ref h0, .int nu] below meth c H locs 0 0 (MQ below (va_Qv (fun u : Int32 × Int32 × (Nat → Int32) => match u with | (ps2, tl2, gsp2) => (0 ≤ ps2.toInt) ∧ (ps2.toInt ≤ 4000)) (fun u => match u with | (ps2, tl2, gsp2) => zQ dC dI A [(p2, .byte)] [(h0, .inr (8, [.ref pb, .int pz, .ref psp, .int ps2, .int tl2, .ref poc, .ref pof, .int po])), (psp, .inl (p2, 4000, .inl gsp2))]) A) #[.ref h0, .int nu] s 0 0 A) (F0 m 48 ls []) := by
            intro n9
            induction n9 with
            | zero => intro uq lps ltl lgs H locs ls hm hq0 hq1 hl0 hl1; exfalso; omega
            | succ n9 ih_48 =>
              intro uq lps ltl lgs H locs ls hm hq0 hq1 hl0 hl1 hP hD hS hl
              refine lv_lload hx hb dX8_putInt_48 (lv_at hl 0 rfl) ?_
              refine lv_lconst (v := 0) hx hb dX8_putInt_50 (by decide) ?_
              refine W.lcmp hx hb dX8_putInt_51 ?_
              refine lv_topi (fun x_49 ex_49 => ?_)
              have lx_49 := zl_cmp ex_49
              have hl_50 : Int64.toInt 0 = 0 := by decide
              refine lv_if_le (tgt := 82) hx hb dX8_putInt_52 (by decide) (fun c_51 => ?_) (fun c_51 => ?_)
              · have ic_51 : x_49.toInt ≤ 0 := zi_le c_51
                have hP9 := hP.sub (ws' := [(h0, .inr (8, [.ref pb, .int pz, .ref psp, .int lps, .int ltl, .ref poc, .ref pof, .int po])), (psp, .inl (p2, 4000, .inl lgs))]) [0, 1] rfl
                have hD9 := hD.sub (ws' := [(h0, .inr (8, [.ref pb, .int pz, .ref psp, .int lps, .int ltl, .ref poc, .ref pof, .int po])), (psp, .inl (p2, 4000, .inl lgs))]) [0, 1] (by decide) rfl
                have hK9 := hK.sub (tys' := [(p2, .byte)]) [0] rfl
                exact W.vret hx hb hr (fun t ht hW => ⟨⟨(lps, ltl, lgs), rfl, ⟨by omega, by omega⟩, by rw [ht]; exact hP9, va_K.moved hW.alike hK9, hD9⟩, hS.F ht⟩) hS.2.2 dX8_putInt_82
              · have ic_51 : 0 < x_49.toInt := zi_nle c_51
                refine lv_aload_n hx hb dX8_putInt_55 rfl (lv_at hl 2 rfl) ?_
                refine lv_bipush (v := 48) hx hb dX8_putInt_56 (by decide) ?_
                refine lv_lload_n hx hb dX8_putInt_58 rfl (lv_at hl 1 rfl) ?_
                refine lv_lload hx hb dX8_putInt_59 (lv_at hl 0 rfl) ?_
                refine lv_ldiv hx hb dX8_putInt_61 (fun g => by have h9a : uq.toInt = 0 := (by rw [g]; decide); omega) ?_
                refine lv_topl (fun x_52 ex_52 => ?_)
                refine lv_ldc2 (v := 10) hx hb hown (hA _ wi_1313) dX8_putInt_62 ?_
                refine lv_lrem hx hb dX8_putInt_65 (by decide) ?_
                refine lv_topl (fun x_53 ex_53 => ?_)
                refine lv_l2i hx hb dX8_putInt_66 rfl ?_
                refine lv_topi (fun x_54 ex_54 => ?_)
                refine lv_iadd hx hb dX8_putInt_67 ?_
                refine lv_topi (fun x_55 ex_55 => ?_)
                have hPc := hP.sub (ws' := [(h0, .inr (8, [.ref pb, .int pz, .ref psp, .int lps, .int ltl, .ref poc, .ref pof, .int po])), (psp, .inl (p2, 4000, .inl lgs))]) [0, 1] rfl
                have hDc := hD.sub (ws' := [(h0, .inr (8, [.ref pb, .int pz, .ref psp, .int lps, .int ltl, .ref poc, .ref pof, .int po])), (psp, .inl (p2, 4000, .inl lgs))]) [0, 1] (by decide) rfl
                have hKc := hK.sub (tys' := [(p2, .byte)]) [0] rfl
                have hFc := va_free (wc := [(h0, .inr (8, [.ref pb, .int pz, .ref psp, .int lps, .int ltl, .ref poc, .ref pof, .int po])), (psp, .inl (p2, 4000, .inl lgs))]) hD hS hAA [0, 1] rfl
                refine va_callv (va_runV (As := [.int x_55]) (rest := []) ⟨hx, hb, hml, hown, hA⟩ (c_X8_put_x l dC dI aK aV h0 pb psp poc pof pz lps ltl po p2 lgs x_55 H.size (by omega) (by omega) (by omega) (by omega)) (cwV 1 hA (zw_V wi_1308 wi_1310 wi_69 wi_142 (zw_good wi_1311)) rfl rfl rfl (by decide +kernel) ⟨(Nat.le_of_ble_eq_true rfl), (Nat.le_of_ble_eq_true rfl)⟩) ⟨zP_blind, va_recv hKc hPc (ci := 8) (q0 := 0) rfl rfl, zz_pre hKc hPc hDc hN hT hS hFc⟩ rfl rfl hl.1 rfl (lv_room (Nat.le_of_ble_eq_true rfl)) dX8_putInt_68 ⟨(Nat.le_of_ble_eq_true rfl), (Nat.le_of_ble_eq_true rfl)⟩) hS (fun q _ h => hFc q h) hFc (fun u t H1 locs ht hvm hw hB hz1 hk1 hS => ?_)
                obtain ⟨ps_57, tl_58, gsp_59⟩ := u
                obtain ⟨hP1, hK1, hD1⟩ := hB
                rw [ht] at hP1
                have hK1 := va_K.moved hvm.symm hK1
                obtain ⟨hP, hD⟩ := va_join (wr := []) (w1 := [(h0, .inr (8, [.ref pb, .int pz, .ref psp, .int ps_57, .int tl_58, .ref poc, .ref pof, .int po])), (psp, .inl (p2, 4000, .inl gsp_59))]) hP hD [0, 1] [] rfl rfl (by decide) (by decide) hk1 hFc hP1 hD1
                have hK := (hK.sub (tys' := []) [] rfl).app hK1
                generalize H1 = H at hP hS ⊢
                have hP : va_P (dC, dI) vwCl [(h0, .inr (8, [.ref pb, .int pz, .ref psp, .int ps_57, .int tl_58, .ref poc, .ref pof, .int po])), (psp, .inl (p2, 4000, .inl gsp_59))] H := hP
                have hD : va_D A [(h0, .inr (8, [.ref pb, .int pz, .ref psp, .int ps_57, .int tl_58, .ref poc, .ref pof, .int po])), (psp, .inl (p2, 4000, .inl gsp_59))] := hD
                have hK : va_K (dC, dI) vwCl [(p2, .byte)] s := hK
                obtain ⟨hq_60, hq_61⟩ := hw
                refine lv_lload hx hb dX8_putInt_71 (lv_at hl 0 rfl) ?_
                refine lv_ldc2 (v := 10) hx hb hown (hA _ wi_1313) dX8_putInt_73 ?_
                refine lv_ldiv hx hb dX8_putInt_76 (by decide) ?_
                refine lv_topl (fun x_62 ex_62 => ?_)
                have ix_62 : x_62.toInt = uq.toInt / 10 := by rw [ex_62]; exact (lg_ldiv_nonneg (by omega) (by decide)).trans (by rw [show Int64.toInt 10 = 10 from by decide])
                refine lv_lstore (lv' := [(4, .long x_62), (2, .long x_45), (0, .ref h0), (1, .int nu)]) hx hb dX8_putInt_77 hl (by decide) rfl (fun ls hl => ?_)
                refine lv_goto (tgt := 48) hx hb dX8_putInt_79 (by decide) ?_
                exact ih_48 x_62 ps_57 tl_58 gsp_59 _ _ _ (by omega) (by omega) (by omega) (by omega) (by omega) (hP.sub [0, 1] rfl) (hD.sub [0, 1] (by decide) rfl) hS (lv_sub hl [0, 1, 2, 3] rfl)
          exact loop_48 _ un ps_40 tl_41 gsp_42 _ _ _ (Nat.le_refl _) (by omega) (by omega) (by omega) (by omega) (hP.sub [0, 1] rfl) (hD.sub [0, 1] (by decide) rfl) hS (lv_sub hl [0, 1, 2, 3] rfl)
        · have ic_48 : 0 < x_46.toInt := zi_nle c_48
          refine lv_lload hx hb dX8_putInt_30 (lv_at hl 0 rfl) ?_
          refine lv_lload_n hx hb dX8_putInt_32 rfl (lv_at hl 1 rfl) ?_
          refine W.lcmp hx hb dX8_putInt_33 ?_
          refine lv_topi (fun x_63 ex_63 => ?_)
          have lx_63 := zl_cmp ex_63
          refine lv_if_le (tgt := 48) hx hb dX8_putInt_34 (by decide) (fun c_64 => ?_) (fun c_64 => ?_)
          · have ic_64 : x_63.toInt ≤ 0 := zi_le c_64
            have loop_48 : ∀ (n9 : Nat) (uq : Int64) (lps : Int32) (ltl : Int32) (lgs : Nat → Int32) (H : Heap) (locs : List Loc) (ls : Array Slot), (uq.toInt + 1).toNat ≤ n9 → 0 ≤ uq.toInt → uq.toInt ≤ 1000000000 → 0 ≤ lps.toInt → lps.toInt ≤ 4000 → va_P (dC, dI) vwCl [(h0, .inr (8, [.ref pb, .int pz, .ref psp, .int lps, .int ltl, .ref poc, .ref pof, .int po])), (psp, .inl (p2, 4000, .inl lgs))] H → va_D A [(h0, .inr (8, [.ref pb, .int pz, .ref psp, .int lps, .int ltl, .ref poc, .ref pof, .int po])), (psp, .inl (p2, 4000, .inl lgs))] → va_S A s.heap H locs → lv_has ls 6 [(4, .long uq), (2, .long x_45), (0, .ref h0), (1, .int nu)] → W p l e (headSpec (Cond.code yX8_putInt cX8_putInt 6 none :: zw) ({ frames := 10, cells := 0, slots := 0, locals := 300 })).room s m #[.ref h0, .int nu] below meth c H locs 0 0 (MQ below (va_Qv (fun u : Int32 × Int32 × (Nat → Int32) => match u with | (ps2, tl2, gsp2) => (0 ≤ ps2.toInt) ∧ (ps2.toInt ≤ 4000)) (fun u => match u with | (ps2, tl2, gsp2) => zQ dC dI A [(p2, .byte)] [(h0, .inr (8, [.ref pb, .int pz, .ref psp, .int ps2, .int tl2, .ref poc, .ref pof, .int po])), (psp, .inl (p2, 4000, .inl gsp2))]) A) #[.ref h0, .int nu] s 0 0 A) (F0 m 48 ls []) := by
              intro n9
              induction n9 with
              | zero => intro uq lps ltl lgs H locs ls hm hq0 hq1 hl0 hl1; exfalso; omega
              | succ n9 ih_48 =>
                intro uq lps ltl lgs H locs ls hm hq0 hq1 hl0 hl1 hP hD hS hl
                refine lv_lload hx hb dX8_putInt_48 (lv_at hl 0 rfl) ?_
                refine lv_lconst (v := 0) hx hb dX8_putInt_50 (by decide) ?_
                refine W.lcmp hx hb dX8_putInt_51 ?_
                refine lv_topi (fun x_65 ex_65 => ?_)
                have lx_65 := zl_cmp ex_65
                have hl_66 : Int64.toInt 0 = 0 := by decide
                refine lv_if_le (tgt := 82) hx hb dX8_putInt_52 (by decide) (fun c_67 => ?_) (fun c_67 => ?_)
                · have ic_67 : x_65.toInt ≤ 0 := zi_le c_67
                  have hP9 := hP.sub (ws' := [(h0, .inr (8, [.ref pb, .int pz, .ref psp, .int lps, .int ltl, .ref poc, .ref pof, .int po])), (psp, .inl (p2, 4000, .inl lgs))]) [0, 1] rfl
                  have hD9 := hD.sub (ws' := [(h0, .inr (8, [.ref pb, .int pz, .ref psp, .int lps, .int ltl, .ref poc, .ref pof, .int po])), (psp, .inl (p2, 4000, .inl lgs))]) [0, 1] (by decide) rfl
                  have hK9 := hK.sub (tys' := [(p2, .byte)]) [0] rfl
                  exact W.vret hx hb hr (fun t ht hW => ⟨⟨(lps, ltl, lgs), rfl, ⟨by omega, by omega⟩, by rw [ht]; exact hP9, va_K.moved hW.alike hK9, hD9⟩, hS.F ht⟩) hS.2.2 dX8_putInt_82
                · have ic_67 : 0 < x_65.toInt := zi_nle c_67
                  refine lv_aload_n hx hb dX8_putInt_55 rfl (lv_at hl 2 rfl) ?_
                  refine lv_bipush (v := 48) hx hb dX8_putInt_56 (by decide) ?_
                  refine lv_lload_n hx hb dX8_putInt_58 rfl (lv_at hl 1 rfl) ?_
                  refine lv_lload hx hb dX8_putInt_59 (lv_at hl 0 rfl) ?_
                  refine lv_ldiv hx hb dX8_putInt_61 (fun g => by have h9a : uq.toInt = 0 := (by rw [g]; decide); omega) ?_
                  refine lv_topl (fun x_68 ex_68 => ?_)
                  refine lv_ldc2 (v := 10) hx hb hown (hA _ wi_1313) dX8_putInt_62 ?_
                  refine lv_lrem hx hb dX8_putInt_65 (by decide) ?_
                  refine lv_topl (fun x_69 ex_69 => ?_)
                  refine lv_l2i hx hb dX8_putInt_66 rfl ?_
                  refine lv_topi (fun x_70 ex_70 => ?_)
                  refine lv_iadd hx hb dX8_putInt_67 ?_
                  refine lv_topi (fun x_71 ex_71 => ?_)
                  have hPc := hP.sub (ws' := [(h0, .inr (8, [.ref pb, .int pz, .ref psp, .int lps, .int ltl, .ref poc, .ref pof, .int po])), (psp, .inl (p2, 4000, .inl lgs))]) [0, 1] rfl
                  have hDc := hD.sub (ws' := [(h0, .inr (8, [.ref pb, .int pz, .ref psp, .int lps, .int ltl, .ref poc, .ref pof, .int po])), (psp, .inl (p2, 4000, .inl lgs))]) [0, 1] (by decide) rfl
                  have hKc := hK.sub (tys' := [(p2, .byte)]) [0] rfl
                  have hFc := va_free (wc := [(h0, .inr (8, [.ref pb, .int pz, .ref psp, .int lps, .int ltl, .ref poc, .ref pof, .int po])), (psp, .inl (p2, 4000, .inl lgs))]) hD hS hAA [0, 1] rfl
                  refine va_callv (va_runV (As := [.int x_71]) (rest := []) ⟨hx, hb, hml, hown, hA⟩ (c_X8_put_x l dC dI aK aV h0 pb psp poc pof pz lps ltl po p2 lgs x_71 H.size (by omega) (by omega) (by omega) (by omega)) (cwV 1 hA (zw_V wi_1308 wi_1310 wi_69 wi_142 (zw_good wi_1311)) rfl rfl rfl (by decide +kernel) ⟨(Nat.le_of_ble_eq_true rfl), (Nat.le_of_ble_eq_true rfl)⟩) ⟨zP_blind, va_recv hKc hPc (ci := 8) (q0 := 0) rfl rfl, zz_pre hKc hPc hDc hN hT hS hFc⟩ rfl rfl hl.1 rfl (lv_room (Nat.le_of_ble_eq_true rfl)) dX8_putInt_68 ⟨(Nat.le_of_ble_eq_true rfl), (Nat.le_of_ble_eq_true rfl)⟩) hS (fun q _ h => hFc q h) hFc (fun u t H1 locs ht hvm hw hB hz1 hk1 hS => ?_)
                  obtain ⟨ps_73, tl_74, gsp_75⟩ := u
                  obtain ⟨hP1, hK1, hD1⟩ := hB
                  rw [ht] at hP1
                  have hK1 := va_K.moved hvm.symm hK1
                  obtain ⟨hP, hD⟩ := va_join (wr := []) (w1 := [(h0, .inr (8, [.ref pb, .int pz, .ref psp, .int ps_73, .int tl_74, .ref poc, .ref pof, .int po])), (psp, .inl (p2, 4000, .inl gsp_75))]) hP hD [0, 1] [] rfl rfl (by decide) (by decide) hk1 hFc hP1 hD1
                  have hK := (hK.sub (tys' := []) [] rfl).app hK1
                  generalize H1 = H at hP hS ⊢
                  have hP : va_P (dC, dI) vwCl [(h0, .inr (8, [.ref pb, .int pz, .ref psp, .int ps_73, .int tl_74, .ref poc, .ref pof, .int po])), (psp, .inl (p2, 4000, .inl gsp_75))] H := hP
                  have hD : va_D A [(h0, .inr (8, [.ref pb, .int pz, .ref psp, .int ps_73, .int tl_74, .ref poc, .ref pof, .int po])), (psp, .inl (p2, 4000, .inl gsp_75))] := hD
                  have hK : va_K (dC, dI) vwCl [(p2, .byte)] s := hK
                  obtain ⟨hq_76, hq_77⟩ := hw
                  refine lv_lload hx hb dX8_putInt_71 (lv_at hl 0 rfl) ?_
                  refine lv_ldc2 (v := 10) hx hb hown (hA _ wi_1313) dX8_putInt_73 ?_
                  refine lv_ldiv hx hb dX8_putInt_76 (by decide) ?_
                  refine lv_topl (fun x_78 ex_78 => ?_)
                  have ix_78 : x_78.toInt = uq.toInt / 10 := by rw [ex_78]; exact (lg_ldiv_nonneg (by omega) (by decide)).trans (by rw [show Int64.toInt 10 = 10 from by decide])
                  refine lv_lstore (lv' := [(4, .long x_78), (2, .long x_45), (0, .ref h0), (1, .int nu)]) hx hb dX8_putInt_77 hl (by decide) rfl (fun ls hl => ?_)
                  refine lv_goto (tgt := 48) hx hb dX8_putInt_79 (by decide) ?_
                  exact ih_48 x_78 ps_73 tl_74 gsp_75 _ _ _ (by omega) (by omega) (by omega) (by omega) (by omega) (hP.sub [0, 1] rfl) (hD.sub [0, 1] (by decide) rfl) hS (lv_sub hl [0, 1, 2, 3] rfl)
            exact loop_48 _ un ps_40 tl_41 gsp_42 _ _ _ (Nat.le_refl _) (by omega) (by omega) (by omega) (by omega) (hP.sub [0, 1] rfl) (hD.sub [0, 1] (by decide) rfl) hS (lv_sub hl [0, 1, 2, 3] rfl)
          · have ic_64 : 0 < x_63.toInt := zi_nle c_64
            refine lv_lload hx hb dX8_putInt_37 (lv_at hl 0 rfl) ?_
            refine lv_ldc2 (v := 10) hx hb hown (hA _ wi_1313) dX8_putInt_39 ?_
            refine lv_ldiv hx hb dX8_putInt_42 (by decide) ?_
            refine lv_topl (fun x_79 ex_79 => ?_)
            have ix_79 : x_79.toInt = un.toInt / 10 := by rw [ex_79]; exact (lg_ldiv_nonneg (by omega) (by decide)).trans (by rw [show Int64.toInt 10 = 10 from by decide])
            refine lv_lstore (lv' := [(4, .long x_79), (2, .long x_45), (0, .ref h0), (1, .int nu)]) hx hb dX8_putInt_43 hl (by decide) rfl (fun ls hl => ?_)
            refine lv_goto (tgt := 23) hx hb dX8_putInt_45 (by decide) ?_
            exact ih x_79 _ _ _ (by omega) (by omega) (by omega) (hP.sub [0, 1] rfl) (hD.sub [0, 1] (by decide) rfl) hS (lv_sub hl [0, 1, 2, 3] rfl)
    exact loop_23 _ un0 _ _ _ (Nat.le_refl _) (by omega) (by omega) (hP.sub [0, 1] rfl) (hD.sub [0, 1] (by decide) rfl) hS (lv_sub hl [0, 1, 2, 3] rfl)
