section
/-! numbers of the printers -/
theorem l_bmod {a : Int} (h1 : -9223372036854775808 ≤ a) (h2 : a ≤ 9223372036854775807) : a.bmod (2 ^ 64) = a := by
  rw [Int.bmod_def]
  split <;> omega
theorem l_neg {x : Int64} (h1 : -10000000000 ≤ x.toInt) (h2 : x.toInt ≤ 10000000000) : (-x).toInt = -x.toInt := by
  rw [Int64.toInt_neg]
  exact l_bmod (by omega) (by omega)
theorem l_rem {x : Int64} (h0 : 0 ≤ x.toInt) (h1 : x.toInt ≤ 10000000000) : (x - x / 10 * 10).toInt = x.toInt % 10 := by
  have h10 : Int64.toInt 10 = 10 := by decide
  have hd : (x / 10).toInt = x.toInt / 10 := (lg_ldiv_nonneg h0 (by decide)).trans (by rw [h10])
  rw [Int64.toInt_sub, Int64.toInt_mul, hd, h10, l_bmod (a := x.toInt / 10 * 10) (by omega) (by omega), l_bmod (by omega) (by omega)]
  omega
theorem l2i_s {x : Int64} (h0 : 0 ≤ x.toInt) (h1 : x.toInt < 2147483648) : x.toInt32.toInt = x.toInt := by
  rw [Int64.toInt_toInt32]
  exact zi_bmod (by omega) (by omega)
theorem pI_n {X : List Int32} {x : Int} (h : 0 ≤ x) : X ++ pDg (pDk 9 x.natAbs) x.natAbs = X ++ pI x := by
  unfold pI
  rw [if_neg (by omega)]
  rfl
theorem pI_m {X : List Int32} {x : Int} (h : x < 0) : (X ++ [45]) ++ pDg (pDk 9 x.natAbs) x.natAbs = X ++ pI x := by
  unfold pI
  rw [if_pos h, List.append_assoc]

set_option maxHeartbeats 4000000 in
set_option maxRecDepth 100000 in
theorem c_X8_put_z (l : Launch) (dC : Nat → ClassId) (dI : Nat → Nat → Nat) (aK aV : Nat → Nat) (h0 : Nat) (pb : Nat) (psp : Nat) (poc : Nat) (pof : Nat) (pz : Int32) (ps : Int32) (tl : Int32) (po : Int32) (p2 : ClassId) (gsp : Nat → Int32) (ch : Int32) (gX : List Int32) (sz : Nat) (hps0 : 0 ≤ ps.toInt) (hps1 : ps.toInt ≤ 4000) (hpo0 : 0 ≤ po.toInt) (hpo1 : po.toInt ≤ 2000) (hot9 : cOt gsp ps tl gX) : Met l yX8_put (Cond.code yX8_put cX8_put 2 none :: zw) ({ frames := 8, cells := 0, slots := 0, locals := 200 }) (va_Pc [.ref h0, .int ch] (zP dC dI aK aV sz [(p2, .byte)] [(h0, .inr (8, [.ref pb, .int pz, .ref psp, .int ps, .int tl, .ref poc, .ref pof, .int po])), (psp, .inl (p2, 4000, .inl gsp))])) (va_Qv (fun u : Int32 × Int32 × (Nat → Int32) => match u with | (ps2, tl2, gsp2) => (0 ≤ ps2.toInt) ∧ (ps2.toInt ≤ 4000) ∧ (cOt gsp2 ps2 tl2 (gX ++ [ch]))) (fun u => match u with | (ps2, tl2, gsp2) => zQ dC dI (va_A [(h0, .inr (8, [.ref pb, .int pz, .ref psp, .int ps, .int tl, .ref poc, .ref pof, .int po])), (psp, .inl (p2, 4000, .inl gsp))] sz) [(p2, .byte)] [(h0, .inr (8, [.ref pb, .int pz, .ref psp, .int ps2, .int tl2, .ref poc, .ref pof, .int po])), (psp, .inl (p2, 4000, .inl gsp2))]) (va_A [(h0, .inr (8, [.ref pb, .int pz, .ref psp, .int ps, .int tl, .ref poc, .ref pof, .int po])), (psp, .inl (p2, 4000, .inl gsp))] sz)) 0 0 (va_A [(h0, .inr (8, [.ref pb, .int pz, .ref psp, .int ps, .int tl, .ref poc, .ref pof, .int po])), (psp, .inl (p2, 4000, .inl gsp))] sz) := by
  refine Met.ofW (cc := cX8_put) (maxL := 2) (ret := none) (by decide) rfl ?_
  intro p e s m args below meth c s₁ B hml hv
  obtain ⟨rfl, hsz, hP, hK, hD0, hN, hT⟩ := hv
  have hx := B.exec
  have hb := B.bytes
  have hr := B.returns
  have hts := atoms_spec (ws := Cond.code yX8_put cX8_put 2 none :: zw) B.pre
  have hA : ∀ w ∈ zw, w.before _ s = true := fun w h => hts w (List.mem_cons_of_mem _ h)
  have hown : s.vm.findClass RX8 = some m.cls := findClass_of_methodNamed B.named
  have hlocks := B.notSynchronized
  subst hsz
  have hD := hD0.self (sz := s.heap.size)
  generalize hAe : va_A [(h0, .inr (8, [.ref pb, .int pz, .ref psp, .int ps, .int tl, .ref poc, .ref pof, .int po])), (psp, .inl (p2, 4000, .inl gsp))] s.heap.size = A at hD hT ⊢
  have hAA : ∀ q : Nat, s.heap.size ≤ q → A q := fun q h => by rw [← hAe]; exact Or.inr h
  have hS : va_S A s.heap s.heap [] := va_S.rf
  have hl := lv_entry ([.ref h0, .int ch]) (n := 2) (Nat.le_of_ble_eq_true rfl)
  rw [lg_entry_eq]
  generalize (lg_sl ([.ref h0, .int ch]) ++ List.replicate (2 - (lg_sl ([.ref h0, .int ch])).length) Slot.unset).toArray = ls at hl ⊢
  have hl : lv_has ls 2 [(0, .ref h0), (1, .int ch)] := hl
  refine lv_aload_n hx hb dX8_put_0 rfl (lv_at hl 0 rfl) ?_
  refine va_get (D := (dC, dI)) (ci := 8) (v := .int ps) (C := RX8) (T := TX8) (N := 8) hx hb hA zin_X8 hown hK hP 0 rfl rfl 3 (by decide) (hA _ wi_562) (fun _ h9 => h9) rfl dX8_put_1 ?_
  refine lv_sipush (v := 4000) hx hb dX8_put_4 (by decide) ?_
  refine lv_icmp_ge (tgt := 34) hx hb dX8_put_7 (by decide) (fun c_1 => ?_) (fun c_1 => ?_)
  · have ic_1 : 4000 ≤ ps.toInt := zi_le c_1
    refine lv_aload_n hx hb dX8_put_34 rfl (lv_at hl 0 rfl) ?_
    refine lv_iconst (v := 1) hx hb dX8_put_35 (by decide) ?_
    refine va_put (D := (dC, dI)) (ci := 8) (v := .int 1) (ty := .boolean) (C := RX8) (T := TX8) (N := 8) hx hb hA zin_X8 tyX8 tyX8_ok nmX8 hown hK hP hD hS 0 rfl rfl 4 (by decide) (hA _ wi_563) (fun _ h9 => h9) rfl (by decide +kernel) rfl rfl (Nat.le_of_ble_eq_true rfl) dX8_put_36 (fun H locs hP hD hS => ?_)
    have hP : va_P (dC, dI) vwCl [(h0, .inr (8, [.ref pb, .int pz, .ref psp, .int ps, .int 1, .ref poc, .ref pof, .int po])), (psp, .inl (p2, 4000, .inl gsp))] H := hP
    have hD : va_D A [(h0, .inr (8, [.ref pb, .int pz, .ref psp, .int ps, .int 1, .ref poc, .ref pof, .int po])), (psp, .inl (p2, 4000, .inl gsp))] := hD
    have hP9 := hP.sub (ws' := [(h0, .inr (8, [.ref pb, .int pz, .ref psp, .int ps, .int 1, .ref poc, .ref pof, .int po])), (psp, .inl (p2, 4000, .inl gsp))]) [0, 1] rfl
    have hD9 := hD.sub (ws' := [(h0, .inr (8, [.ref pb, .int pz, .ref psp, .int ps, .int 1, .ref poc, .ref pof, .int po])), (psp, .inl (p2, 4000, .inl gsp))]) [0, 1] (by decide) rfl
    have hK9 := hK.sub (tys' := [(p2, .byte)]) [0] rfl
    exact W.vret hx hb hr (fun t ht hW => ⟨⟨(ps, 1, gsp), rfl, ⟨by omega, by omega, (cOt_b hot9 (by omega))⟩, by rw [ht]; exact hP9, va_K.moved hW.alike hK9, hD9⟩, hS.F ht⟩) hS.2.2 dX8_put_39
  · have ic_1 : ps.toInt < 4000 := zi_nle c_1
    refine lv_aload_n hx hb dX8_put_10 rfl (lv_at hl 0 rfl) ?_
    refine va_get (D := (dC, dI)) (ci := 8) (v := .ref psp) (C := RX8) (T := TX8) (N := 8) hx hb hA zin_X8 hown hK hP 0 rfl rfl 2 (by decide) (hA _ wi_561) (fun _ h9 => h9) rfl dX8_put_11 ?_
    refine lv_aload_n hx hb dX8_put_14 rfl (lv_at hl 0 rfl) ?_
    refine va_get (D := (dC, dI)) (ci := 8) (v := .int ps) (C := RX8) (T := TX8) (N := 8) hx hb hA zin_X8 hown hK hP 0 rfl rfl 3 (by decide) (hA _ wi_562) (fun _ h9 => h9) rfl dX8_put_15 ?_
    refine lv_iload_n hx hb dX8_put_18 rfl (lv_at hl 1 rfl) ?_
    obtain ⟨x_2, ex_2⟩ : ∃ z : Int32, z = (Int32.toInt8 ch).toInt32 := ⟨_, rfl⟩
    refine lv_i2b (v := x_2) hx hb dX8_put_19 ex_2.symm ?_
    refine va_bast hx hb hK hP hD hS 1 0 rfl rfl (vp_in_iff.mpr ⟨by omega, by omega⟩) dX8_put_20 (fun H locs hP hD hS => ?_)
    obtain ⟨f_3, ef_3⟩ : ∃ gz9 : Nat → Int32, gz9 = upd gsp (Int32.toNatClampNeg ps) (vp_nar .byte x_2) := ⟨_, rfl⟩
    rw [← ef_3] at hP hD
    have hP : va_P (dC, dI) vwCl [(h0, .inr (8, [.ref pb, .int pz, .ref psp, .int ps, .int tl, .ref poc, .ref pof, .int po])), (psp, .inl (p2, 4000, .inl f_3))] H := hP
    have hD : va_D A [(h0, .inr (8, [.ref pb, .int pz, .ref psp, .int ps, .int tl, .ref poc, .ref pof, .int po])), (psp, .inl (p2, 4000, .inl f_3))] := hD
    refine lv_aload_n hx hb dX8_put_21 rfl (lv_at hl 0 rfl) ?_
    refine lv_dup hx hb dX8_put_22 rfl ?_
    refine va_get (D := (dC, dI)) (ci := 8) (v := .int ps) (C := RX8) (T := TX8) (N := 8) hx hb hA zin_X8 hown hK hP 0 rfl rfl 3 (by decide) (hA _ wi_562) (fun _ h9 => h9) rfl dX8_put_23 ?_
    refine lv_iconst (v := 1) hx hb dX8_put_26 (by decide) ?_
    refine lv_iadd hx hb dX8_put_27 ?_
    refine lv_topi (fun x_4 ex_4 => ?_)
    have ix_4 : x_4.toInt = ps.toInt + 1 := by rw [ex_4]; exact zi_addc (by decide) (by omega) (by omega)
    refine va_put (D := (dC, dI)) (ci := 8) (v := .int x_4) (ty := .int) (C := RX8) (T := TX8) (N := 8) hx hb hA zin_X8 tyX8 tyX8_ok nmX8 hown hK hP hD hS 0 rfl rfl 3 (by decide) (hA _ wi_562) (fun _ h9 => h9) rfl (by decide +kernel) rfl rfl (Nat.le_of_ble_eq_true rfl) dX8_put_28 (fun H locs hP hD hS => ?_)
    have hP : va_P (dC, dI) vwCl [(h0, .inr (8, [.ref pb, .int pz, .ref psp, .int x_4, .int tl, .ref poc, .ref pof, .int po])), (psp, .inl (p2, 4000, .inl f_3))] H := hP
    have hD : va_D A [(h0, .inr (8, [.ref pb, .int pz, .ref psp, .int x_4, .int tl, .ref poc, .ref pof, .int po])), (psp, .inl (p2, 4000, .inl f_3))] := hD
    refine lv_goto (tgt := 39) hx hb dX8_put_31 (by decide) ?_
    have hP9 := hP.sub (ws' := [(h0, .inr (8, [.ref pb, .int pz, .ref psp, .int x_4, .int tl, .ref poc, .ref pof, .int po])), (psp, .inl (p2, 4000, .inl f_3))]) [0, 1] rfl
    have hD9 := hD.sub (ws' := [(h0, .inr (8, [.ref pb, .int pz, .ref psp, .int x_4, .int tl, .ref poc, .ref pof, .int po])), (psp, .inl (p2, 4000, .inl f_3))]) [0, 1] (by decide) rfl
    have hK9 := hK.sub (tys' := [(p2, .byte)]) [0] rfl
    exact W.vret hx hb hr (fun t ht hW => ⟨⟨(x_4, tl, f_3), rfl, ⟨by omega, by omega, (cOt_a hot9 (by omega) ef_3 ex_2 (by omega))⟩, by rw [ht]; exact hP9, va_K.moved hW.alike hK9, hD9⟩, hS.F ht⟩) hS.2.2 dX8_put_39
set_option maxHeartbeats 4000000 in
set_option maxRecDepth 100000 in
theorem c_X8_putInt_z (l : Launch) (dC : Nat → ClassId) (dI : Nat → Nat → Nat) (aK aV : Nat → Nat) (h0 : Nat) (pb : Nat) (psp : Nat) (poc : Nat) (pof : Nat) (pz : Int32) (ps : Int32) (tl : Int32) (po : Int32) (p2 : ClassId) (gsp : Nat → Int32) (nu : Int32) (gX : List Int32) (sz : Nat) (hps0 : 0 ≤ ps.toInt) (hps1 : ps.toInt ≤ 4000) (hpo0 : 0 ≤ po.toInt) (hpo1 : po.toInt ≤ 2000) (hot9 : cOt gsp ps tl gX) : Met l yX8_putInt (Cond.code yX8_putInt cX8_putInt 6 none :: zw) ({ frames := 10, cells := 0, slots := 0, locals := 300 }) (va_Pc [.ref h0, .int nu] (zP dC dI aK aV sz [(p2, .byte)] [(h0, .inr (8, [.ref pb, .int pz, .ref psp, .int ps, .int tl, .ref poc, .ref pof, .int po])), (psp, .inl (p2, 4000, .inl gsp))])) (va_Qv (fun u : Int32 × Int32 × (Nat → Int32) => match u with | (ps2, tl2, gsp2) => (0 ≤ ps2.toInt) ∧ (ps2.toInt ≤ 4000) ∧ (cOt gsp2 ps2 tl2 (gX ++ pI (Int32.toInt nu)))) (fun u => match u with | (ps2, tl2, gsp2) => zQ dC dI (va_A [(h0, .inr (8, [.ref pb, .int pz, .ref psp, .int ps, .int tl, .ref poc, .ref pof, .int po])), (psp, .inl (p2, 4000, .inl gsp))] sz) [(p2, .byte)] [(h0, .inr (8, [.ref pb, .int pz, .ref psp, .int ps2, .int tl2, .ref poc, .ref pof, .int po])), (psp, .inl (p2, 4000, .inl gsp2))]) (va_A [(h0, .inr (8, [.ref pb, .int pz, .ref psp, .int ps, .int tl, .ref poc, .ref pof, .int po])), (psp, .inl (p2, 4000, .inl gsp))] sz)) 0 0 (va_A [(h0, .inr (8, [.ref pb, .int pz, .ref psp, .int ps, .int tl, .ref poc, .ref pof, .int po])), (psp, .inl (p2, 4000, .inl gsp))] sz) := by
  refine Met.ofW (cc := cX8_putInt) (maxL := 6) (ret := none) (by decide) rfl ?_
  intro p e s m args below meth c s₁ B hml hv
  obtain ⟨rfl, hsz, hP, hK, hD0, hN, hT⟩ := hv
  have hx := B.exec
  have hb := B.bytes
  have hr := B.returns
  have hts := atoms_spec (ws := Cond.code yX8_putInt cX8_putInt 6 none :: zw) B.pre
  have hA : ∀ w ∈ zw, w.before _ s = true := fun w h => hts w (List.mem_cons_of_mem _ h)
  have hown : s.vm.findClass RX8 = some m.cls := findClass_of_methodNamed B.named
  have hlocks := B.notSynchronized
  subst hsz
  have hD := hD0.self (sz := s.heap.size)
  generalize hAe : va_A [(h0, .inr (8, [.ref pb, .int pz, .ref psp, .int ps, .int tl, .ref poc, .ref pof, .int po])), (psp, .inl (p2, 4000, .inl gsp))] s.heap.size = A at hD hT ⊢
  have hAA : ∀ q : Nat, s.heap.size ≤ q → A q := fun q h => by rw [← hAe]; exact Or.inr h
  have hS : va_S A s.heap s.heap [] := va_S.rf
  have hl := lv_entry ([.ref h0, .int nu]) (n := 6) (Nat.le_of_ble_eq_true rfl)
  rw [lg_entry_eq]
  generalize (lg_sl ([.ref h0, .int nu]) ++ List.replicate (6 - (lg_sl ([.ref h0, .int nu])).length) Slot.unset).toArray = ls at hl ⊢
  have hl : lv_has ls 6 [(0, .ref h0), (1, .int nu)] := hl
  refine lv_iload_n hx hb dX8_putInt_0 rfl (lv_at hl 1 rfl) ?_
  obtain ⟨x_1, ex_1⟩ : ∃ z : Int64, z = Int32.toInt64 nu := ⟨_, rfl⟩
  refine lv_i2l (v := x_1) hx hb dX8_putInt_1 ex_1.symm ?_
  have hrg9 := zi_rng nu
  have ix_1 : x_1.toInt = nu.toInt := by rw [ex_1]; exact Int32.toInt_toInt64 _
  refine lv_lstore_n (lv' := [(2, .long x_1), (0, .ref h0), (1, .int nu)]) hx hb dX8_putInt_2 rfl hl (by decide) rfl (fun ls hl => ?_)
  refine lv_lload_n hx hb dX8_putInt_3 rfl (lv_at hl 0 rfl) ?_
  refine lv_lconst (v := 0) hx hb dX8_putInt_4 (by decide) ?_
  refine W.lcmp hx hb dX8_putInt_5 ?_
  refine lv_topi (fun x_2 ex_2 => ?_)
  have lx_2 := zl_cmp ex_2
  have hl_3 : Int64.toInt 0 = 0 := by decide
  refine lv_if_ge (tgt := 18) hx hb dX8_putInt_6 (by decide) (fun c_4 => ?_) (fun c_4 => ?_)
  · have ic_4 : 0 ≤ x_2.toInt := zi_le c_4
    refine lv_ldc2 (v := 1000000000) hx hb hown (hA _ wi_1312) dX8_putInt_18 ?_
    refine lv_topl (fun un0 eun0 => ?_)
    have iun0 : un0.toInt = 1000000000 := by rw [eun0]; decide
    have hra9 : (((Int.natAbs (Int32.toInt nu)) : Nat) : Int) = x_1.toInt := by omega
    refine lv_lstore (lv' := [(4, .long un0), (2, .long x_1), (0, .ref h0), (1, .int nu)]) hx hb dX8_putInt_21 hl (by decide) rfl (fun ls hl => ?_)
    have loop_23 : ∀ (n9 : Nat) (un : Int64) (H : Heap) (locs : List Loc) (ls : Array Slot), (un.toInt + 1).toNat ≤ n9 → 0 ≤ un.toInt → un.toInt ≤ 1000000000 → pU (Int64.toInt un) (Int.natAbs (Int32.toInt nu)) → va_P (dC, dI) vwCl [(h0, .inr (8, [.ref pb, .int pz, .ref psp, .int ps, .int tl, .ref poc, .ref pof, .int po])), (psp, .inl (p2, 4000, .inl gsp))] H → va_D A [(h0, .inr (8, [.ref pb, .int pz, .ref psp, .int ps, .int tl, .ref poc, .ref pof, .int po])), (psp, .inl (p2, 4000, .inl gsp))] → va_S A s.heap H locs → lv_has ls 6 [(4, .long un), (2, .long x_1), (0, .ref h0), (1, .int nu)] → W p l e (headSpec (Cond.code yX8_putInt cX8_putInt 6 none :: zw) ({ frames := 10, cells := 0, slots := 0, locals := 300 })).room s m #[.ref h0, .int nu] below meth c H locs 0 0 (MQ below (va_Qv (fun u : Int32 × Int32 × (Nat → Int32) => match u with | (ps2, tl2, gsp2) => (0 ≤ ps2.toInt) ∧ (ps2.toInt ≤ 4000) ∧ (cOt gsp2 ps2 tl2 (gX ++ pI (Int32.toInt nu)))) (fun u => match u with | (ps2, tl2, gsp2) => zQ dC dI A [(p2, .byte)] [(h0, .inr (8, [.ref pb, .int pz, .ref psp, .int ps2, .int tl2, .ref poc, .ref pof, .int po])), (psp, .inl (p2, 4000, .inl gsp2))]) A) #[.ref h0, .int nu] s 0 0 A) (F0 m 23 ls []) := by
      intro n9
      induction n9 with
      | zero => intro un H locs ls hm hu0 hu1 hpu; exfalso; omega
      | succ n9 ih_23 =>
        intro un H locs ls hm hu0 hu1 hpu hP hD hS hl
        refine lv_lload hx hb dX8_putInt_23 (lv_at hl 0 rfl) ?_
        refine lv_lconst (v := 1) hx hb dX8_putInt_25 (by decide) ?_
        refine W.lcmp hx hb dX8_putInt_26 ?_
        refine lv_topi (fun x_5 ex_5 => ?_)
        have lx_5 := zl_cmp ex_5
        have hl_6 : Int64.toInt 1 = 1 := by decide
        refine lv_if_le (tgt := 48) hx hb dX8_putInt_27 (by decide) (fun c_7 => ?_) (fun c_7 => ?_)
        · have ic_7 : x_5.toInt ≤ 0 := zi_le c_7
          have loop_48 : ∀ (n9 : Nat) (uq : Int64) (lps : Int32) (ltl : Int32) (lgs : Nat → Int32) (lX : List Int32) (lL : List Int32) (H : Heap) (locs : List Loc) (ls : Array Slot), (uq.toInt + 1).toNat ≤ n9 → 0 ≤ uq.toInt → uq.toInt ≤ 1000000000 → 0 ≤ lps.toInt → lps.toInt ≤ 4000 → cOt lgs lps ltl lX → pQ (Int64.toInt uq) (Int.natAbs (Int32.toInt nu)) lL → lX ++ lL = gX ++ pI (Int32.toInt nu) → va_P (dC, dI) vwCl [(h0, .inr (8, [.ref pb, .int pz, .ref psp, .int lps, .int ltl, .ref poc, .ref pof, .int po])), (psp, .inl (p2, 4000, .inl lgs))] H → va_D A [(h0, .inr (8, [.ref pb, .int pz, .ref psp, .int lps, .int ltl, .ref poc, .ref pof, .int po])), (psp, .inl (p2, 4000, .inl lgs))] → va_S A s.heap H locs → lv_has ls 6 [(4, .long uq), (2, .long x_1), (0, .ref h0), (1, .int nu)] → W p l e (headSpec (Cond.code yX8_putInt cX8_putInt 6 none :: zw) ({ frames := 10, cells := 0, slots := 0, locals := 300 })).room s m #[.ref h0, .int nu] below meth c H locs 0 0 (MQ below (va_Qv (fun u : Int32 × Int32 × (Nat → Int32) => match u with | (ps2, tl2, gsp2) => (0 ≤ ps2.toInt) ∧ (ps2.toInt ≤ 4000) ∧ (cOt gsp2 ps2 tl2 (gX ++ pI (Int32.toInt nu)))) (fun u => match u with | (ps2, tl2, gsp2) => zQ dC dI A [(p2, .byte)] [(h0, .inr (8, [.ref pb, .int pz, .ref psp, .int ps2, .int tl2, .ref poc, .ref pof, .int po])), (psp, .inl (p2, 4000, .inl gsp2))]) A) #[.ref h0, .int nu] s 0 0 A) (F0 m 48 ls []) := by
            intro n9
            induction n9 with
            | zero => intro uq lps ltl lgs lX lL H locs ls hm hq0 hq1 hl0 hl1 hXl hpq heq; exfalso; omega
            | succ n9 ih_48 =>
              intro uq lps ltl lgs lX lL H locs ls hm hq0 hq1 hl0 hl1 hXl hpq heq hP hD hS hl
              refine lv_lload hx hb dX8_putInt_48 (lv_at hl 0 rfl) ?_
              refine lv_lconst (v := 0) hx hb dX8_putInt_50 (by decide) ?_
              refine W.lcmp hx hb dX8_putInt_51 ?_
              refine lv_topi (fun x_8 ex_8 => ?_)
              have lx_8 := zl_cmp ex_8
              have hl_9 : Int64.toInt 0 = 0 := by decide
              refine lv_if_le (tgt := 82) hx hb dX8_putInt_52 (by decide) (fun c_10 => ?_) (fun c_10 => ?_)
              · have ic_10 : x_8.toInt ≤ 0 := zi_le c_10
                have hP9 := hP.sub (ws' := [(h0, .inr (8, [.ref pb, .int pz, .ref psp, .int lps, .int ltl, .ref poc, .ref pof, .int po])), (psp, .inl (p2, 4000, .inl lgs))]) [0, 1] rfl
                have hD9 := hD.sub (ws' := [(h0, .inr (8, [.ref pb, .int pz, .ref psp, .int lps, .int ltl, .ref poc, .ref pof, .int po])), (psp, .inl (p2, 4000, .inl lgs))]) [0, 1] (by decide) rfl
                have hK9 := hK.sub (tys' := [(p2, .byte)]) [0] rfl
                exact W.vret hx hb hr (fun t ht hW => ⟨⟨(lps, ltl, lgs), rfl, ⟨by omega, by omega, (cOt_e hXl (by rw [← heq, pQ_0 hpq (by omega), List.append_nil]))⟩, by rw [ht]; exact hP9, va_K.moved hW.alike hK9, hD9⟩, hS.F ht⟩) hS.2.2 dX8_putInt_82
              · have ic_10 : 0 < x_8.toInt := zi_nle c_10
                refine lv_aload_n hx hb dX8_putInt_55 rfl (lv_at hl 2 rfl) ?_
                refine lv_bipush (v := 48) hx hb dX8_putInt_56 (by decide) ?_
                refine lv_lload_n hx hb dX8_putInt_58 rfl (lv_at hl 1 rfl) ?_
                refine lv_lload hx hb dX8_putInt_59 (lv_at hl 0 rfl) ?_
                refine lv_ldiv hx hb dX8_putInt_61 (fun g => by have h9a : uq.toInt = 0 := (by rw [g]; decide); omega) ?_
                refine lv_topl (fun x_11 ex_11 => ?_)
                have ix_11 : x_11.toInt = x_1.toInt / uq.toInt := by rw [ex_11]; exact lg_ldiv_nonneg (by omega) (by omega)
                have jx_11 : 0 ≤ x_11.toInt ∧ x_11.toInt ≤ 10000000000 := by rw [ix_11]; exact ⟨Int.ediv_nonneg (by omega) (by omega), Int.le_trans (Int.ediv_le_self _ (by omega)) (by omega)⟩
                refine lv_ldc2 (v := 10) hx hb hown (hA _ wi_1313) dX8_putInt_62 ?_
                refine lv_lrem hx hb dX8_putInt_65 (by decide) ?_
                refine lv_topl (fun x_12 ex_12 => ?_)
                have ix_12 : x_12.toInt = x_11.toInt % 10 := by rw [ex_12]; exact l_rem (by omega) (by omega)
                refine lv_l2i hx hb dX8_putInt_66 rfl ?_
                refine lv_topi (fun x_13 ex_13 => ?_)
                have ix_13 : x_13.toInt = x_12.toInt := by rw [ex_13]; exact l2i_s (by omega) (by omega)
                refine lv_iadd hx hb dX8_putInt_67 ?_
                refine lv_topi (fun x_14 ex_14 => ?_)
                have ix_14 : x_14.toInt = 48 + x_13.toInt := by rw [ex_14]; exact zi_addl (by decide) (by omega) (by omega)
                obtain ⟨L9, hL9, hQ9⟩ := pQ_s (c := x_14) hpq (by omega) rfl (by rw [ix_14, ix_13, ix_12, ix_11, hra9])
                have hPc := hP.sub (ws' := [(h0, .inr (8, [.ref pb, .int pz, .ref psp, .int lps, .int ltl, .ref poc, .ref pof, .int po])), (psp, .inl (p2, 4000, .inl lgs))]) [0, 1] rfl
                have hDc := hD.sub (ws' := [(h0, .inr (8, [.ref pb, .int pz, .ref psp, .int lps, .int ltl, .ref poc, .ref pof, .int po])), (psp, .inl (p2, 4000, .inl lgs))]) [0, 1] (by decide) rfl
                have hKc := hK.sub (tys' := [(p2, .byte)]) [0] rfl
                have hFc := va_free (wc := [(h0, .inr (8, [.ref pb, .int pz, .ref psp, .int lps, .int ltl, .ref poc, .ref pof, .int po])), (psp, .inl (p2, 4000, .inl lgs))]) hD hS hAA [0, 1] rfl
                refine va_callv (va_runV (As := [.int x_14]) (rest := []) ⟨hx, hb, hml, hown, hA⟩ (c_X8_put_z l dC dI aK aV h0 pb psp poc pof pz lps ltl po p2 lgs x_14 lX H.size (by omega) (by omega) (by omega) (by omega) hXl) (cwV 1 hA (zw_V wi_1308 wi_1310 wi_69 wi_142 (zw_good wi_1311)) rfl rfl rfl (by decide +kernel) ⟨(Nat.le_of_ble_eq_true rfl), (Nat.le_of_ble_eq_true rfl)⟩) ⟨zP_blind, va_recv hKc hPc (ci := 8) (q0 := 0) rfl rfl, zz_pre hKc hPc hDc hN hT hS hFc⟩ rfl rfl hl.1 rfl (lv_room (Nat.le_of_ble_eq_true rfl)) dX8_putInt_68 ⟨(Nat.le_of_ble_eq_true rfl), (Nat.le_of_ble_eq_true rfl)⟩) hS (fun q _ h => hFc q h) hFc (fun u t H1 locs ht hvm hw hB hz1 hk1 hS => ?_)
                obtain ⟨ps_16, tl_17, gsp_18⟩ := u
                obtain ⟨hP1, hK1, hD1⟩ := hB
                rw [ht] at hP1
                have hK1 := va_K.moved hvm.symm hK1
                obtain ⟨hP, hD⟩ := va_join (wr := []) (w1 := [(h0, .inr (8, [.ref pb, .int pz, .ref psp, .int ps_16, .int tl_17, .ref poc, .ref pof, .int po])), (psp, .inl (p2, 4000, .inl gsp_18))]) hP hD [0, 1] [] rfl rfl (by decide) (by decide) hk1 hFc hP1 hD1
                have hK := (hK.sub (tys' := []) [] rfl).app hK1
                generalize H1 = H at hP hS ⊢
                have hP : va_P (dC, dI) vwCl [(h0, .inr (8, [.ref pb, .int pz, .ref psp, .int ps_16, .int tl_17, .ref poc, .ref pof, .int po])), (psp, .inl (p2, 4000, .inl gsp_18))] H := hP
                have hD : va_D A [(h0, .inr (8, [.ref pb, .int pz, .ref psp, .int ps_16, .int tl_17, .ref poc, .ref pof, .int po])), (psp, .inl (p2, 4000, .inl gsp_18))] := hD
                have hK : va_K (dC, dI) vwCl [(p2, .byte)] s := hK
                obtain ⟨hq_19, hq_20, hq_21⟩ := hw
                refine lv_lload hx hb dX8_putInt_71 (lv_at hl 0 rfl) ?_
                refine lv_ldc2 (v := 10) hx hb hown (hA _ wi_1313) dX8_putInt_73 ?_
                refine lv_ldiv hx hb dX8_putInt_76 (by decide) ?_
                refine lv_topl (fun x_22 ex_22 => ?_)
                have ix_22 : x_22.toInt = uq.toInt / 10 := by rw [ex_22]; exact (lg_ldiv_nonneg (by omega) (by decide)).trans (by rw [show Int64.toInt 10 = 10 from by decide])
                refine lv_lstore (lv' := [(4, .long x_22), (2, .long x_1), (0, .ref h0), (1, .int nu)]) hx hb dX8_putInt_77 hl (by decide) rfl (fun ls hl => ?_)
                refine lv_goto (tgt := 48) hx hb dX8_putInt_79 (by decide) ?_
                have hz_23 : pQ (Int64.toInt x_22) (Int.natAbs (Int32.toInt nu)) L9 := (by rw [ix_22]; exact hQ9)
                have hz_24 : (lX ++ [x_14]) ++ L9 = gX ++ pI (Int32.toInt nu) := (by rw [← heq, hL9, List.append_assoc] <;> rfl)
                exact ih_48 x_22 ps_16 tl_17 gsp_18 (lX ++ [x_14]) L9 _ _ _ (by omega) (by omega) (by omega) (by omega) (by omega) hq_21 hz_23 hz_24 (hP.sub [0, 1] rfl) (hD.sub [0, 1] (by decide) rfl) hS (lv_sub hl [0, 1, 2, 3] rfl)
          have hz_25 : pQ (Int64.toInt un) (Int.natAbs (Int32.toInt nu)) (pDg (pDk 9 (Int.natAbs (Int32.toInt nu))) (Int.natAbs (Int32.toInt nu))) := (pU_e hpu (by omega))
          have hz_26 : gX ++ (pDg (pDk 9 (Int.natAbs (Int32.toInt nu))) (Int.natAbs (Int32.toInt nu))) = gX ++ pI (Int32.toInt nu) := (pI_n (by omega))
          exact loop_48 _ un ps tl gsp gX (pDg (pDk 9 (Int.natAbs (Int32.toInt nu))) (Int.natAbs (Int32.toInt nu))) _ _ _ (Nat.le_refl _) (by omega) (by omega) (by omega) (by omega) hot9 hz_25 hz_26 (hP.sub [0, 1] rfl) (hD.sub [0, 1] (by decide) rfl) hS (lv_sub hl [0, 1, 2, 3] rfl)
        · have ic_7 : 0 < x_5.toInt := zi_nle c_7
          refine lv_lload hx hb dX8_putInt_30 (lv_at hl 0 rfl) ?_
          refine lv_lload_n hx hb dX8_putInt_32 rfl (lv_at hl 1 rfl) ?_
          refine W.lcmp hx hb dX8_putInt_33 ?_
          refine lv_topi (fun x_27 ex_27 => ?_)
          have lx_27 := zl_cmp ex_27
          refine lv_if_le (tgt := 48) hx hb dX8_putInt_34 (by decide) (fun c_28 => ?_) (fun c_28 => ?_)
          · have ic_28 : x_27.toInt ≤ 0 := zi_le c_28
            have loop_48 : ∀ (n9 : Nat) (uq : Int64) (lps : Int32) (ltl : Int32) (lgs : Nat → Int32) (lX : List Int32) (lL : List Int32) (H : Heap) (locs : List Loc) (ls : Array Slot), (uq.toInt + 1).toNat ≤ n9 → 0 ≤ uq.toInt → uq.toInt ≤ 1000000000 → 0 ≤ lps.toInt → lps.toInt ≤ 4000 → cOt lgs lps ltl lX → pQ (Int64.toInt uq) (Int.natAbs (Int32.toInt nu)) lL → lX ++ lL = gX ++ pI (Int32.toInt nu) → va_P (dC, dI) vwCl [(h0, .inr (8, [.ref pb, .int pz, .ref psp, .int lps, .int ltl, .ref poc, .ref pof, .int po])), (psp, .inl (p2, 4000, .inl lgs))] H → va_D A [(h0, .inr (8, [.ref pb, .int pz, .ref psp, .int lps, .int ltl, .ref poc, .ref pof, .int po])), (psp, .inl (p2, 4000, .inl lgs))] → va_S A s.heap H locs → lv_has ls 6 [(4, .long uq), (2, .long x_1), (0, .ref h0), (1, .int nu)] → W p l e (headSpec (Cond.code yX8_putInt cX8_putInt 6 none :: zw) ({ frames := 10, cells := 0, slots := 0, locals := 300 })).room s m #[.ref h0, .int nu] below meth c H locs 0 0 (MQ below (va_Qv (fun u : Int32 × Int32 × (Nat → Int32) => match u with | (ps2, tl2, gsp2) => (0 ≤ ps2.toInt) ∧ (ps2.toInt ≤ 4000) ∧ (cOt gsp2 ps2 tl2 (gX ++ pI (Int32.toInt nu)))) (fun u => match u with | (ps2, tl2, gsp2) => zQ dC dI A [(p2, .byte)] [(h0, .inr (8, [.ref pb, .int pz, .ref psp, .int ps2, .int tl2, .ref poc, .ref pof, .int po])), (psp, .inl (p2, 4000, .inl gsp2))]) A) #[.ref h0, .int nu] s 0 0 A) (F0 m 48 ls []) := by
              intro n9
              induction n9 with
              | zero => intro uq lps ltl lgs lX lL H locs ls hm hq0 hq1 hl0 hl1 hXl hpq heq; exfalso; omega
              | succ n9 ih_48 =>
                intro uq lps ltl lgs lX lL H locs ls hm hq0 hq1 hl0 hl1 hXl hpq heq hP hD hS hl
                refine lv_lload hx hb dX8_putInt_48 (lv_at hl 0 rfl) ?_
                refine lv_lconst (v := 0) hx hb dX8_putInt_50 (by decide) ?_
                refine W.lcmp hx hb dX8_putInt_51 ?_
                refine lv_topi (fun x_29 ex_29 => ?_)
                have lx_29 := zl_cmp ex_29
                have hl_30 : Int64.toInt 0 = 0 := by decide
                refine lv_if_le (tgt := 82) hx hb dX8_putInt_52 (by decide) (fun c_31 => ?_) (fun c_31 => ?_)
                · have ic_31 : x_29.toInt ≤ 0 := zi_le c_31
                  have hP9 := hP.sub (ws' := [(h0, .inr (8, [.ref pb, .int pz, .ref psp, .int lps, .int ltl, .ref poc, .ref pof, .int po])), (psp, .inl (p2, 4000, .inl lgs))]) [0, 1] rfl
                  have hD9 := hD.sub (ws' := [(h0, .inr (8, [.ref pb, .int pz, .ref psp, .int lps, .int ltl, .ref poc, .ref pof, .int po])), (psp, .inl (p2, 4000, .inl lgs))]) [0, 1] (by decide) rfl
                  have hK9 := hK.sub (tys' := [(p2, .byte)]) [0] rfl
                  exact W.vret hx hb hr (fun t ht hW => ⟨⟨(lps, ltl, lgs), rfl, ⟨by omega, by omega, (cOt_e hXl (by rw [← heq, pQ_0 hpq (by omega), List.append_nil]))⟩, by rw [ht]; exact hP9, va_K.moved hW.alike hK9, hD9⟩, hS.F ht⟩) hS.2.2 dX8_putInt_82
                · have ic_31 : 0 < x_29.toInt := zi_nle c_31
                  refine lv_aload_n hx hb dX8_putInt_55 rfl (lv_at hl 2 rfl) ?_
                  refine lv_bipush (v := 48) hx hb dX8_putInt_56 (by decide) ?_
                  refine lv_lload_n hx hb dX8_putInt_58 rfl (lv_at hl 1 rfl) ?_
                  refine lv_lload hx hb dX8_putInt_59 (lv_at hl 0 rfl) ?_
                  refine lv_ldiv hx hb dX8_putInt_61 (fun g => by have h9a : uq.toInt = 0 := (by rw [g]; decide); omega) ?_
                  refine lv_topl (fun x_32 ex_32 => ?_)
                  have ix_32 : x_32.toInt = x_1.toInt / uq.toInt := by rw [ex_32]; exact lg_ldiv_nonneg (by omega) (by omega)
                  have jx_32 : 0 ≤ x_32.toInt ∧ x_32.toInt ≤ 10000000000 := by rw [ix_32]; exact ⟨Int.ediv_nonneg (by omega) (by omega), Int.le_trans (Int.ediv_le_self _ (by omega)) (by omega)⟩
                  refine lv_ldc2 (v := 10) hx hb hown (hA _ wi_1313) dX8_putInt_62 ?_
                  refine lv_lrem hx hb dX8_putInt_65 (by decide) ?_
                  refine lv_topl (fun x_33 ex_33 => ?_)
                  have ix_33 : x_33.toInt = x_32.toInt % 10 := by rw [ex_33]; exact l_rem (by omega) (by omega)
                  refine lv_l2i hx hb dX8_putInt_66 rfl ?_
                  refine lv_topi (fun x_34 ex_34 => ?_)
                  have ix_34 : x_34.toInt = x_33.toInt := by rw [ex_34]; exact l2i_s (by omega) (by omega)
                  refine lv_iadd hx hb dX8_putInt_67 ?_
                  refine lv_topi (fun x_35 ex_35 => ?_)
                  have ix_35 : x_35.toInt = 48 + x_34.toInt := by rw [ex_35]; exact zi_addl (by decide) (by omega) (by omega)
                  obtain ⟨L9, hL9, hQ9⟩ := pQ_s (c := x_35) hpq (by omega) rfl (by rw [ix_35, ix_34, ix_33, ix_32, hra9])
                  have hPc := hP.sub (ws' := [(h0, .inr (8, [.ref pb, .int pz, .ref psp, .int lps, .int ltl, .ref poc, .ref pof, .int po])), (psp, .inl (p2, 4000, .inl lgs))]) [0, 1] rfl
                  have hDc := hD.sub (ws' := [(h0, .inr (8, [.ref pb, .int pz, .ref psp, .int lps, .int ltl, .ref poc, .ref pof, .int po])), (psp, .inl (p2, 4000, .inl lgs))]) [0, 1] (by decide) rfl
                  have hKc := hK.sub (tys' := [(p2, .byte)]) [0] rfl
                  have hFc := va_free (wc := [(h0, .inr (8, [.ref pb, .int pz, .ref psp, .int lps, .int ltl, .ref poc, .ref pof, .int po])), (psp, .inl (p2, 4000, .inl lgs))]) hD hS hAA [0, 1] rfl
                  refine va_callv (va_runV (As := [.int x_35]) (rest := []) ⟨hx, hb, hml, hown, hA⟩ (c_X8_put_z l dC dI aK aV h0 pb psp poc pof pz lps ltl po p2 lgs x_35 lX H.size (by omega) (by omega) (by omega) (by omega) hXl) (cwV 1 hA (zw_V wi_1308 wi_1310 wi_69 wi_142 (zw_good wi_1311)) rfl rfl rfl (by decide +kernel) ⟨(Nat.le_of_ble_eq_true rfl), (Nat.le_of_ble_eq_true rfl)⟩) ⟨zP_blind, va_recv hKc hPc (ci := 8) (q0 := 0) rfl rfl, zz_pre hKc hPc hDc hN hT hS hFc⟩ rfl rfl hl.1 rfl (lv_room (Nat.le_of_ble_eq_true rfl)) dX8_putInt_68 ⟨(Nat.le_of_ble_eq_true rfl), (Nat.le_of_ble_eq_true rfl)⟩) hS (fun q _ h => hFc q h) hFc (fun u t H1 locs ht hvm hw hB hz1 hk1 hS => ?_)
                  obtain ⟨ps_37, tl_38, gsp_39⟩ := u
                  obtain ⟨hP1, hK1, hD1⟩ := hB
                  rw [ht] at hP1
                  have hK1 := va_K.moved hvm.symm hK1
                  obtain ⟨hP, hD⟩ := va_join (wr := []) (w1 := [(h0, .inr (8, [.ref pb, .int pz, .ref psp, .int ps_37, .int tl_38, .ref poc, .ref pof, .int po])), (psp, .inl (p2, 4000, .inl gsp_39))]) hP hD [0, 1] [] rfl rfl (by decide) (by decide) hk1 hFc hP1 hD1
                  have hK := (hK.sub (tys' := []) [] rfl).app hK1
                  generalize H1 = H at hP hS ⊢
                  have hP : va_P (dC, dI) vwCl [(h0, .inr (8, [.ref pb, .int pz, .ref psp, .int ps_37, .int tl_38, .ref poc, .ref pof, .int po])), (psp, .inl (p2, 4000, .inl gsp_39))] H := hP
                  have hD : va_D A [(h0, .inr (8, [.ref pb, .int pz, .ref psp, .int ps_37, .int tl_38, .ref poc, .ref pof, .int po])), (psp, .inl (p2, 4000, .inl gsp_39))] := hD
                  have hK : va_K (dC, dI) vwCl [(p2, .byte)] s := hK
                  obtain ⟨hq_40, hq_41, hq_42⟩ := hw
                  refine lv_lload hx hb dX8_putInt_71 (lv_at hl 0 rfl) ?_
                  refine lv_ldc2 (v := 10) hx hb hown (hA _ wi_1313) dX8_putInt_73 ?_
                  refine lv_ldiv hx hb dX8_putInt_76 (by decide) ?_
                  refine lv_topl (fun x_43 ex_43 => ?_)
                  have ix_43 : x_43.toInt = uq.toInt / 10 := by rw [ex_43]; exact (lg_ldiv_nonneg (by omega) (by decide)).trans (by rw [show Int64.toInt 10 = 10 from by decide])
                  refine lv_lstore (lv' := [(4, .long x_43), (2, .long x_1), (0, .ref h0), (1, .int nu)]) hx hb dX8_putInt_77 hl (by decide) rfl (fun ls hl => ?_)
                  refine lv_goto (tgt := 48) hx hb dX8_putInt_79 (by decide) ?_
                  have hz_44 : pQ (Int64.toInt x_43) (Int.natAbs (Int32.toInt nu)) L9 := (by rw [ix_43]; exact hQ9)
                  have hz_45 : (lX ++ [x_35]) ++ L9 = gX ++ pI (Int32.toInt nu) := (by rw [← heq, hL9, List.append_assoc] <;> rfl)
                  exact ih_48 x_43 ps_37 tl_38 gsp_39 (lX ++ [x_35]) L9 _ _ _ (by omega) (by omega) (by omega) (by omega) (by omega) hq_42 hz_44 hz_45 (hP.sub [0, 1] rfl) (hD.sub [0, 1] (by decide) rfl) hS (lv_sub hl [0, 1, 2, 3] rfl)
            have hz_46 : pQ (Int64.toInt un) (Int.natAbs (Int32.toInt nu)) (pDg (pDk 9 (Int.natAbs (Int32.toInt nu))) (Int.natAbs (Int32.toInt nu))) := (pU_e hpu (by omega))
            have hz_47 : gX ++ (pDg (pDk 9 (Int.natAbs (Int32.toInt nu))) (Int.natAbs (Int32.toInt nu))) = gX ++ pI (Int32.toInt nu) := (pI_n (by omega))
            exact loop_48 _ un ps tl gsp gX (pDg (pDk 9 (Int.natAbs (Int32.toInt nu))) (Int.natAbs (Int32.toInt nu))) _ _ _ (Nat.le_refl _) (by omega) (by omega) (by omega) (by omega) hot9 hz_46 hz_47 (hP.sub [0, 1] rfl) (hD.sub [0, 1] (by decide) rfl) hS (lv_sub hl [0, 1, 2, 3] rfl)
          · have ic_28 : 0 < x_27.toInt := zi_nle c_28
            refine lv_lload hx hb dX8_putInt_37 (lv_at hl 0 rfl) ?_
            refine lv_ldc2 (v := 10) hx hb hown (hA _ wi_1313) dX8_putInt_39 ?_
            refine lv_ldiv hx hb dX8_putInt_42 (by decide) ?_
            refine lv_topl (fun x_48 ex_48 => ?_)
            have ix_48 : x_48.toInt = un.toInt / 10 := by rw [ex_48]; exact (lg_ldiv_nonneg (by omega) (by decide)).trans (by rw [show Int64.toInt 10 = 10 from by decide])
            refine lv_lstore (lv' := [(4, .long x_48), (2, .long x_1), (0, .ref h0), (1, .int nu)]) hx hb dX8_putInt_43 hl (by decide) rfl (fun ls hl => ?_)
            refine lv_goto (tgt := 23) hx hb dX8_putInt_45 (by decide) ?_
            have hz_49 : pU (Int64.toInt x_48) (Int.natAbs (Int32.toInt nu)) := (pU_s hpu (by omega) (by omega) ix_48)
            exact ih_23 x_48 _ _ _ (by omega) (by omega) (by omega) hz_49 (hP.sub [0, 1] rfl) (hD.sub [0, 1] (by decide) rfl) hS (lv_sub hl [0, 1, 2, 3] rfl)
    have hz_50 : pU (Int64.toInt un0) (Int.natAbs (Int32.toInt nu)) := (by rw [iun0]; exact pU_9)
    exact loop_23 _ un0 _ _ _ (Nat.le_refl _) (by omega) (by omega) hz_50 (hP.sub [0, 1] rfl) (hD.sub [0, 1] (by decide) rfl) hS (lv_sub hl [0, 1, 2, 3] rfl)
  · have ic_4 : x_2.toInt < 0 := zi_nle c_4
    refine lv_aload_n hx hb dX8_putInt_9 rfl (lv_at hl 1 rfl) ?_
    refine lv_bipush (v := 45) hx hb dX8_putInt_10 (by decide) ?_
    have hPc := hP.sub (ws' := [(h0, .inr (8, [.ref pb, .int pz, .ref psp, .int ps, .int tl, .ref poc, .ref pof, .int po])), (psp, .inl (p2, 4000, .inl gsp))]) [0, 1] rfl
    have hDc := hD.sub (ws' := [(h0, .inr (8, [.ref pb, .int pz, .ref psp, .int ps, .int tl, .ref poc, .ref pof, .int po])), (psp, .inl (p2, 4000, .inl gsp))]) [0, 1] (by decide) rfl
    have hKc := hK.sub (tys' := [(p2, .byte)]) [0] rfl
    have hFc := va_free (wc := [(h0, .inr (8, [.ref pb, .int pz, .ref psp, .int ps, .int tl, .ref poc, .ref pof, .int po])), (psp, .inl (p2, 4000, .inl gsp))]) hD hS hAA [0, 1] rfl
    refine va_callv (va_runV (As := [.int 45]) (rest := []) ⟨hx, hb, hml, hown, hA⟩ (c_X8_put_z l dC dI aK aV h0 pb psp poc pof pz ps tl po p2 gsp 45 gX s.heap.size (by omega) (by omega) (by omega) (by omega) hot9) (cwV 1 hA (zw_V wi_1308 wi_1310 wi_69 wi_142 (zw_good wi_1311)) rfl rfl rfl (by decide +kernel) ⟨(Nat.le_of_ble_eq_true rfl), (Nat.le_of_ble_eq_true rfl)⟩) ⟨zP_blind, va_recv hKc hPc (ci := 8) (q0 := 0) rfl rfl, zz_pre hKc hPc hDc hN hT hS hFc⟩ rfl rfl hl.1 rfl (lv_room (Nat.le_of_ble_eq_true rfl)) dX8_putInt_12 ⟨(Nat.le_of_ble_eq_true rfl), (Nat.le_of_ble_eq_true rfl)⟩) hS (fun q _ h => hFc q h) hFc (fun u t H1 locs ht hvm hw hB hz1 hk1 hS => ?_)
    obtain ⟨ps_52, tl_53, gsp_54⟩ := u
    obtain ⟨hP1, hK1, hD1⟩ := hB
    rw [ht] at hP1
    have hK1 := va_K.moved hvm.symm hK1
    obtain ⟨hP, hD⟩ := va_join (wr := []) (w1 := [(h0, .inr (8, [.ref pb, .int pz, .ref psp, .int ps_52, .int tl_53, .ref poc, .ref pof, .int po])), (psp, .inl (p2, 4000, .inl gsp_54))]) hP hD [0, 1] [] rfl rfl (by decide) (by decide) hk1 hFc hP1 hD1
    have hK := (hK.sub (tys' := []) [] rfl).app hK1
    generalize H1 = H at hP hS ⊢
    have hP : va_P (dC, dI) vwCl [(h0, .inr (8, [.ref pb, .int pz, .ref psp, .int ps_52, .int tl_53, .ref poc, .ref pof, .int po])), (psp, .inl (p2, 4000, .inl gsp_54))] H := hP
    have hD : va_D A [(h0, .inr (8, [.ref pb, .int pz, .ref psp, .int ps_52, .int tl_53, .ref poc, .ref pof, .int po])), (psp, .inl (p2, 4000, .inl gsp_54))] := hD
    have hK : va_K (dC, dI) vwCl [(p2, .byte)] s := hK
    obtain ⟨hq_55, hq_56, hq_57⟩ := hw
    refine lv_lload_n hx hb dX8_putInt_15 rfl (lv_at hl 0 rfl) ?_
    refine lv_lneg hx hb dX8_putInt_16 ?_
    refine lv_topl (fun x_58 ex_58 => ?_)
    have ix_58 : x_58.toInt = -x_1.toInt := by rw [ex_58]; exact l_neg (by omega) (by omega)
    refine lv_lstore_n (lv' := [(2, .long x_58), (0, .ref h0), (1, .int nu)]) hx hb dX8_putInt_17 rfl hl (by decide) rfl (fun ls hl => ?_)
    refine lv_ldc2 (v := 1000000000) hx hb hown (hA _ wi_1312) dX8_putInt_18 ?_
    refine lv_topl (fun un0 eun0 => ?_)
    have iun0 : un0.toInt = 1000000000 := by rw [eun0]; decide
    have hra9 : (((Int.natAbs (Int32.toInt nu)) : Nat) : Int) = x_58.toInt := by omega
    refine lv_lstore (lv' := [(4, .long un0), (2, .long x_58), (0, .ref h0), (1, .int nu)]) hx hb dX8_putInt_21 hl (by decide) rfl (fun ls hl => ?_)
    have loop_23 : ∀ (n9 : Nat) (un : Int64) (H : Heap) (locs : List Loc) (ls : Array Slot), (un.toInt + 1).toNat ≤ n9 → 0 ≤ un.toInt → un.toInt ≤ 1000000000 → pU (Int64.toInt un) (Int.natAbs (Int32.toInt nu)) → va_P (dC, dI) vwCl [(h0, .inr (8, [.ref pb, .int pz, .ref psp, .int ps_52, .int tl_53, .ref poc, .ref pof, .int po])), (psp, .inl (p2, 4000, .inl gsp_54))] H → va_D A [(h0, .inr (8, [.ref pb, .int pz, .ref psp, .int ps_52, .int tl_53, .ref poc, .ref pof, .int po])), (psp, .inl (p2, 4000, .inl gsp_54))] → va_S A s.heap H locs → lv_has ls 6 [(4, .long un), (2, .long x_58), (0, .ref h0), (1, .int nu)] → W p l e (headSpec (Cond.code yX8_putInt cX8_putInt 6 none :: zw) ({ frames := 10, cells := 0, slots := 0, locals := 300 })).room s m #[.ref h0, .int nu] below meth c H locs 0 0 (MQ below (va_Qv (fun u : Int32 × Int32 × (Nat → Int32) => match u with | (ps2, tl2, gsp2) => (0 ≤ ps2.toInt) ∧ (ps2.toInt ≤ 4000) ∧ (cOt gsp2 ps2 tl2 (gX ++ pI (Int32.toInt nu)))) (fun u => match u with | (ps2, tl2, gsp2) => zQ dC dI A [(p2, .byte)] [(h0, .inr (8, [.ref pb, .int pz, .ref psp, .int ps2, .int tl2, .ref poc, .ref pof, .int po])), (psp, .inl (p2, 4000, .inl gsp2))]) A) #[.ref h0, .int nu] s 0 0 A) (F0 m 23 ls []) := by
      intro n9
      induction n9 with
      | zero => intro un H locs ls hm hu0 hu1 hpu; exfalso; omega
      | succ n9 ih_23 =>
        intro un H locs ls hm hu0 hu1 hpu hP hD hS hl
        refine lv_lload hx hb dX8_putInt_23 (lv_at hl 0 rfl) ?_
        refine lv_lconst (v := 1) hx hb dX8_putInt_25 (by decide) ?_
        refine W.lcmp hx hb dX8_putInt_26 ?_
        refine lv_topi (fun x_59 ex_59 => ?_)
        have lx_59 := zl_cmp ex_59
        have hl_60 : Int64.toInt 1 = 1 := by decide
        refine lv_if_le (tgt := 48) hx hb dX8_putInt_27 (by decide) (fun c_61 => ?_) (fun c_61 => ?_)
        · have ic_61 : x_59.toInt ≤ 0 := zi_le c_61
          have loop_48 : ∀ (n9 : Nat) (uq : Int64) (lps : Int32) (ltl : Int32) (lgs : Nat → Int32) (lX : List Int32) (lL : List Int32) (H : Heap) (locs : List Loc) (ls : Array Slot), (uq.toInt + 1).toNat ≤ n9 → 0 ≤ uq.toInt → uq.toInt ≤ 1000000000 → 0 ≤ lps.toInt → lps.toInt ≤ 4000 → cOt lgs lps ltl lX → pQ (Int64.toInt uq) (Int.natAbs (Int32.toInt nu)) lL → lX ++ lL = gX ++ pI (Int32.toInt nu) → va_P (dC, dI) vwCl [(h0, .inr (8, [.ref pb, .int pz, .ref psp, .int lps, .int ltl, .ref poc, .ref pof, .int po])), (psp, .inl (p2, 4000, .inl lgs))] H → va_D A [(h0, .inr (8, [.ref pb, .int pz, .ref psp, .int lps, .int ltl, .ref poc, .ref pof, .int po])), (psp, .inl (p2, 4000, .inl lgs))] → va_S A s.heap H locs → lv_has ls 6 [(4, .long uq), (2, .long x_58), (0, .ref h0), (1, .int nu)] → W p l e (headSpec (Cond.code yX8_putInt cX8_putInt 6 none :: zw) ({ frames := 10, cells := 0, slots := 0, locals := 300 })).room s m #[.ref h0, .int nu] below meth c H locs 0 0 (MQ below (va_Qv (fun u : Int32 × Int32 × (Nat → Int32) => match u with | (ps2, tl2, gsp2) => (0 ≤ ps2.toInt) ∧ (ps2.toInt ≤ 4000) ∧ (cOt gsp2 ps2 tl2 (gX ++ pI (Int32.toInt nu)))) (fun u => match u with | (ps2, tl2, gsp2) => zQ dC dI A [(p2, .byte)] [(h0, .inr (8, [.ref pb, .int pz, .ref psp, .int ps2, .int tl2, .ref poc, .ref pof, .int po])), (psp, .inl (p2, 4000, .inl gsp2))]) A) #[.ref h0, .int nu] s 0 0 A) (F0 m 48 ls []) := by
            intro n9
            induction n9 with
            | zero => intro uq lps ltl lgs lX lL H locs ls hm hq0 hq1 hl0 hl1 hXl hpq heq; exfalso; omega
            | succ n9 ih_48 =>
              intro uq lps ltl lgs lX lL H locs ls hm hq0 hq1 hl0 hl1 hXl hpq heq hP hD hS hl
              refine lv_lload hx hb dX8_putInt_48 (lv_at hl 0 rfl) ?_
              refine lv_lconst (v := 0) hx hb dX8_putInt_50 (by decide) ?_
              refine W.lcmp hx hb dX8_putInt_51 ?_
              refine lv_topi (fun x_62 ex_62 => ?_)
              have lx_62 := zl_cmp ex_62
              have hl_63 : Int64.toInt 0 = 0 := by decide
              refine lv_if_le (tgt := 82) hx hb dX8_putInt_52 (by decide) (fun c_64 => ?_) (fun c_64 => ?_)
              · have ic_64 : x_62.toInt ≤ 0 := zi_le c_64
                have hP9 := hP.sub (ws' := [(h0, .inr (8, [.ref pb, .int pz, .ref psp, .int lps, .int ltl, .ref poc, .ref pof, .int po])), (psp, .inl (p2, 4000, .inl lgs))]) [0, 1] rfl
                have hD9 := hD.sub (ws' := [(h0, .inr (8, [.ref pb, .int pz, .ref psp, .int lps, .int ltl, .ref poc, .ref pof, .int po])), (psp, .inl (p2, 4000, .inl lgs))]) [0, 1] (by decide) rfl
                have hK9 := hK.sub (tys' := [(p2, .byte)]) [0] rfl
                exact W.vret hx hb hr (fun t ht hW => ⟨⟨(lps, ltl, lgs), rfl, ⟨by omega, by omega, (cOt_e hXl (by rw [← heq, pQ_0 hpq (by omega), List.append_nil]))⟩, by rw [ht]; exact hP9, va_K.moved hW.alike hK9, hD9⟩, hS.F ht⟩) hS.2.2 dX8_putInt_82
              · have ic_64 : 0 < x_62.toInt := zi_nle c_64
                refine lv_aload_n hx hb dX8_putInt_55 rfl (lv_at hl 2 rfl) ?_
                refine lv_bipush (v := 48) hx hb dX8_putInt_56 (by decide) ?_
                refine lv_lload_n hx hb dX8_putInt_58 rfl (lv_at hl 1 rfl) ?_
                refine lv_lload hx hb dX8_putInt_59 (lv_at hl 0 rfl) ?_
                refine lv_ldiv hx hb dX8_putInt_61 (fun g => by have h9a : uq.toInt = 0 := (by rw [g]; decide); omega) ?_
                refine lv_topl (fun x_65 ex_65 => ?_)
                have ix_65 : x_65.toInt = x_58.toInt / uq.toInt := by rw [ex_65]; exact lg_ldiv_nonneg (by omega) (by omega)
                have jx_65 : 0 ≤ x_65.toInt ∧ x_65.toInt ≤ 10000000000 := by rw [ix_65]; exact ⟨Int.ediv_nonneg (by omega) (by omega), Int.le_trans (Int.ediv_le_self _ (by omega)) (by omega)⟩
                refine lv_ldc2 (v := 10) hx hb hown (hA _ wi_1313) dX8_putInt_62 ?_
                refine lv_lrem hx hb dX8_putInt_65 (by decide) ?_
                refine lv_topl (fun x_66 ex_66 => ?_)
                have ix_66 : x_66.toInt = x_65.toInt % 10 := by rw [ex_66]; exact l_rem (by omega) (by omega)
                refine lv_l2i hx hb dX8_putInt_66 rfl ?_
                refine lv_topi (fun x_67 ex_67 => ?_)
                have ix_67 : x_67.toInt = x_66.toInt := by rw [ex_67]; exact l2i_s (by omega) (by omega)
                refine lv_iadd hx hb dX8_putInt_67 ?_
                refine lv_topi (fun x_68 ex_68 => ?_)
                have ix_68 : x_68.toInt = 48 + x_67.toInt := by rw [ex_68]; exact zi_addl (by decide) (by omega) (by omega)
                obtain ⟨L9, hL9, hQ9⟩ := pQ_s (c := x_68) hpq (by omega) rfl (by rw [ix_68, ix_67, ix_66, ix_65, hra9])
                have hPc := hP.sub (ws' := [(h0, .inr (8, [.ref pb, .int pz, .ref psp, .int lps, .int ltl, .ref poc, .ref pof, .int po])), (psp, .inl (p2, 4000, .inl lgs))]) [0, 1] rfl
                have hDc := hD.sub (ws' := [(h0, .inr (8, [.ref pb, .int pz, .ref psp, .int lps, .int ltl, .ref poc, .ref pof, .int po])), (psp, .inl (p2, 4000, .inl lgs))]) [0, 1] (by decide) rfl
                have hKc := hK.sub (tys' := [(p2, .byte)]) [0] rfl
                have hFc := va_free (wc := [(h0, .inr (8, [.ref pb, .int pz, .ref psp, .int lps, .int ltl, .ref poc, .ref pof, .int po])), (psp, .inl (p2, 4000, .inl lgs))]) hD hS hAA [0, 1] rfl
                refine va_callv (va_runV (As := [.int x_68]) (rest := []) ⟨hx, hb, hml, hown, hA⟩ (c_X8_put_z l dC dI aK aV h0 pb psp poc pof pz lps ltl po p2 lgs x_68 lX H.size (by omega) (by omega) (by omega) (by omega) hXl) (cwV 1 hA (zw_V wi_1308 wi_1310 wi_69 wi_142 (zw_good wi_1311)) rfl rfl rfl (by decide +kernel) ⟨(Nat.le_of_ble_eq_true rfl), (Nat.le_of_ble_eq_true rfl)⟩) ⟨zP_blind, va_recv hKc hPc (ci := 8) (q0 := 0) rfl rfl, zz_pre hKc hPc hDc hN hT hS hFc⟩ rfl rfl hl.1 rfl (lv_room (Nat.le_of_ble_eq_true rfl)) dX8_putInt_68 ⟨(Nat.le_of_ble_eq_true rfl), (Nat.le_of_ble_eq_true rfl)⟩) hS (fun q _ h => hFc q h) hFc (fun u t H1 locs ht hvm hw hB hz1 hk1 hS => ?_)
                obtain ⟨ps_70, tl_71, gsp_72⟩ := u
                obtain ⟨hP1, hK1, hD1⟩ := hB
                rw [ht] at hP1
                have hK1 := va_K.moved hvm.symm hK1
                obtain ⟨hP, hD⟩ := va_join (wr := []) (w1 := [(h0, .inr (8, [.ref pb, .int pz, .ref psp, .int ps_70, .int tl_71, .ref poc, .ref pof, .int po])), (psp, .inl (p2, 4000, .inl gsp_72))]) hP hD [0, 1] [] rfl rfl (by decide) (by decide) hk1 hFc hP1 hD1
                have hK := (hK.sub (tys' := []) [] rfl).app hK1
                generalize H1 = H at hP hS ⊢
                have hP : va_P (dC, dI) vwCl [(h0, .inr (8, [.ref pb, .int pz, .ref psp, .int ps_70, .int tl_71, .ref poc, .ref pof, .int po])), (psp, .inl (p2, 4000, .inl gsp_72))] H := hP
                have hD : va_D A [(h0, .inr (8, [.ref pb, .int pz, .ref psp, .int ps_70, .int tl_71, .ref poc, .ref pof, .int po])), (psp, .inl (p2, 4000, .inl gsp_72))] := hD
                have hK : va_K (dC, dI) vwCl [(p2, .byte)] s := hK
                obtain ⟨hq_73, hq_74, hq_75⟩ := hw
                refine lv_lload hx hb dX8_putInt_71 (lv_at hl 0 rfl) ?_
                refine lv_ldc2 (v := 10) hx hb hown (hA _ wi_1313) dX8_putInt_73 ?_
                refine lv_ldiv hx hb dX8_putInt_76 (by decide) ?_
                refine lv_topl (fun x_76 ex_76 => ?_)
                have ix_76 : x_76.toInt = uq.toInt / 10 := by rw [ex_76]; exact (lg_ldiv_nonneg (by omega) (by decide)).trans (by rw [show Int64.toInt 10 = 10 from by decide])
                refine lv_lstore (lv' := [(4, .long x_76), (2, .long x_58), (0, .ref h0), (1, .int nu)]) hx hb dX8_putInt_77 hl (by decide) rfl (fun ls hl => ?_)
                refine lv_goto (tgt := 48) hx hb dX8_putInt_79 (by decide) ?_
                have hz_77 : pQ (Int64.toInt x_76) (Int.natAbs (Int32.toInt nu)) L9 := (by rw [ix_76]; exact hQ9)
                have hz_78 : (lX ++ [x_68]) ++ L9 = gX ++ pI (Int32.toInt nu) := (by rw [← heq, hL9, List.append_assoc] <;> rfl)
                exact ih_48 x_76 ps_70 tl_71 gsp_72 (lX ++ [x_68]) L9 _ _ _ (by omega) (by omega) (by omega) (by omega) (by omega) hq_75 hz_77 hz_78 (hP.sub [0, 1] rfl) (hD.sub [0, 1] (by decide) rfl) hS (lv_sub hl [0, 1, 2, 3] rfl)
          have hz_79 : pQ (Int64.toInt un) (Int.natAbs (Int32.toInt nu)) (pDg (pDk 9 (Int.natAbs (Int32.toInt nu))) (Int.natAbs (Int32.toInt nu))) := (pU_e hpu (by omega))
          have hz_80 : (gX ++ [45]) ++ (pDg (pDk 9 (Int.natAbs (Int32.toInt nu))) (Int.natAbs (Int32.toInt nu))) = gX ++ pI (Int32.toInt nu) := (pI_m (by omega))
          exact loop_48 _ un ps_52 tl_53 gsp_54 (gX ++ [45]) (pDg (pDk 9 (Int.natAbs (Int32.toInt nu))) (Int.natAbs (Int32.toInt nu))) _ _ _ (Nat.le_refl _) (by omega) (by omega) (by omega) (by omega) hq_57 hz_79 hz_80 (hP.sub [0, 1] rfl) (hD.sub [0, 1] (by decide) rfl) hS (lv_sub hl [0, 1, 2, 3] rfl)
        · have ic_61 : 0 < x_59.toInt := zi_nle c_61
          refine lv_lload hx hb dX8_putInt_30 (lv_at hl 0 rfl) ?_
          refine lv_lload_n hx hb dX8_putInt_32 rfl (lv_at hl 1 rfl) ?_
          refine W.lcmp hx hb dX8_putInt_33 ?_
          refine lv_topi (fun x_81 ex_81 => ?_)
          have lx_81 := zl_cmp ex_81
          refine lv_if_le (tgt := 48) hx hb dX8_putInt_34 (by decide) (fun c_82 => ?_) (fun c_82 => ?_)
          · have ic_82 : x_81.toInt ≤ 0 := zi_le c_82
            have loop_48 : ∀ (n9 : Nat) (uq : Int64) (lps : Int32) (ltl : Int32) (lgs : Nat → Int32) (lX : List Int32) (lL : List Int32) (H : Heap) (locs : List Loc) (ls : Array Slot), (uq.toInt + 1).toNat ≤ n9 → 0 ≤ uq.toInt → uq.toInt ≤ 1000000000 → 0 ≤ lps.toInt → lps.toInt ≤ 4000 → cOt lgs lps ltl lX → pQ (Int64.toInt uq) (Int.natAbs (Int32.toInt nu)) lL → lX ++ lL = gX ++ pI (Int32.toInt nu) → va_P (dC, dI) vwCl [(h0, .inr (8, [.ref pb, .int pz, .ref psp, .int lps, .int ltl, .ref poc, .ref pof, .int po])), (psp, .inl (p2, 4000, .inl lgs))] H → va_D A [(h0, .inr (8, [.ref pb, .int pz, .ref psp, .int lps, .int ltl, .ref poc, .ref pof, .int po])), (psp, .inl (p2, 4000, .inl lgs))] → va_S A s.heap H locs → lv_has ls 6 [(4, .long uq), (2, .long x_58), (0, .ref h0), (1, .int nu)] → W p l e (headSpec (Cond.code yX8_putInt cX8_putInt 6 none :: zw) ({ frames := 10, cells := 0, slots := 0, locals := 300 })).room s m #[.ref h0, .int nu] below meth c H locs 0 0 (MQ below (va_Qv (fun u : Int32 × Int32 × (Nat → Int32) => match u with | (ps2, tl2, gsp2) => (0 ≤ ps2.toInt) ∧ (ps2.toInt ≤ 4000) ∧ (cOt gsp2 ps2 tl2 (gX ++ pI (Int32.toInt nu)))) (fun u => match u with | (ps2, tl2, gsp2) => zQ dC dI A [(p2, .byte)] [(h0, .inr (8, [.ref pb, .int pz, .ref psp, .int ps2, .int tl2, .ref poc, .ref pof, .int po])), (psp, .inl (p2, 4000, .inl gsp2))]) A) #[.ref h0, .int nu] s 0 0 A) (F0 m 48 ls []) := by
              intro n9
              induction n9 with
              | zero => intro uq lps ltl lgs lX lL H locs ls hm hq0 hq1 hl0 hl1 hXl hpq heq; exfalso; omega
              | succ n9 ih_48 =>
                intro uq lps ltl lgs lX lL H locs ls hm hq0 hq1 hl0 hl1 hXl hpq heq hP hD hS hl
                refine lv_lload hx hb dX8_putInt_48 (lv_at hl 0 rfl) ?_
                refine lv_lconst (v := 0) hx hb dX8_putInt_50 (by decide) ?_
                refine W.lcmp hx hb dX8_putInt_51 ?_
                refine lv_topi (fun x_83 ex_83 => ?_)
                have lx_83 := zl_cmp ex_83
                have hl_84 : Int64.toInt 0 = 0 := by decide
                refine lv_if_le (tgt := 82) hx hb dX8_putInt_52 (by decide) (fun c_85 => ?_) (fun c_85 => ?_)
                · have ic_85 : x_83.toInt ≤ 0 := zi_le c_85
                  have hP9 := hP.sub (ws' := [(h0, .inr (8, [.ref pb, .int pz, .ref psp, .int lps, .int ltl, .ref poc, .ref pof, .int po])), (psp, .inl (p2, 4000, .inl lgs))]) [0, 1] rfl
                  have hD9 := hD.sub (ws' := [(h0, .inr (8, [.ref pb, .int pz, .ref psp, .int lps, .int ltl, .ref poc, .ref pof, .int po])), (psp, .inl (p2, 4000, .inl lgs))]) [0, 1] (by decide) rfl
                  have hK9 := hK.sub (tys' := [(p2, .byte)]) [0] rfl
                  exact W.vret hx hb hr (fun t ht hW => ⟨⟨(lps, ltl, lgs), rfl, ⟨by omega, by omega, (cOt_e hXl (by rw [← heq, pQ_0 hpq (by omega), List.append_nil]))⟩, by rw [ht]; exact hP9, va_K.moved hW.alike hK9, hD9⟩, hS.F ht⟩) hS.2.2 dX8_putInt_82
                · have ic_85 : 0 < x_83.toInt := zi_nle c_85
                  refine lv_aload_n hx hb dX8_putInt_55 rfl (lv_at hl 2 rfl) ?_
                  refine lv_bipush (v := 48) hx hb dX8_putInt_56 (by decide) ?_
                  refine lv_lload_n hx hb dX8_putInt_58 rfl (lv_at hl 1 rfl) ?_
                  refine lv_lload hx hb dX8_putInt_59 (lv_at hl 0 rfl) ?_
                  refine lv_ldiv hx hb dX8_putInt_61 (fun g => by have h9a : uq.toInt = 0 := (by rw [g]; decide); omega) ?_
                  refine lv_topl (fun x_86 ex_86 => ?_)
                  have ix_86 : x_86.toInt = x_58.toInt / uq.toInt := by rw [ex_86]; exact lg_ldiv_nonneg (by omega) (by omega)
                  have jx_86 : 0 ≤ x_86.toInt ∧ x_86.toInt ≤ 10000000000 := by rw [ix_86]; exact ⟨Int.ediv_nonneg (by omega) (by omega), Int.le_trans (Int.ediv_le_self _ (by omega)) (by omega)⟩
                  refine lv_ldc2 (v := 10) hx hb hown (hA _ wi_1313) dX8_putInt_62 ?_
                  refine lv_lrem hx hb dX8_putInt_65 (by decide) ?_
                  refine lv_topl (fun x_87 ex_87 => ?_)
                  have ix_87 : x_87.toInt = x_86.toInt % 10 := by rw [ex_87]; exact l_rem (by omega) (by omega)
                  refine lv_l2i hx hb dX8_putInt_66 rfl ?_
                  refine lv_topi (fun x_88 ex_88 => ?_)
                  have ix_88 : x_88.toInt = x_87.toInt := by rw [ex_88]; exact l2i_s (by omega) (by omega)
                  refine lv_iadd hx hb dX8_putInt_67 ?_
                  refine lv_topi (fun x_89 ex_89 => ?_)
                  have ix_89 : x_89.toInt = 48 + x_88.toInt := by rw [ex_89]; exact zi_addl (by decide) (by omega) (by omega)
                  obtain ⟨L9, hL9, hQ9⟩ := pQ_s (c := x_89) hpq (by omega) rfl (by rw [ix_89, ix_88, ix_87, ix_86, hra9])
                  have hPc := hP.sub (ws' := [(h0, .inr (8, [.ref pb, .int pz, .ref psp, .int lps, .int ltl, .ref poc, .ref pof, .int po])), (psp, .inl (p2, 4000, .inl lgs))]) [0, 1] rfl
                  have hDc := hD.sub (ws' := [(h0, .inr (8, [.ref pb, .int pz, .ref psp, .int lps, .int ltl, .ref poc, .ref pof, .int po])), (psp, .inl (p2, 4000, .inl lgs))]) [0, 1] (by decide) rfl
                  have hKc := hK.sub (tys' := [(p2, .byte)]) [0] rfl
                  have hFc := va_free (wc := [(h0, .inr (8, [.ref pb, .int pz, .ref psp, .int lps, .int ltl, .ref poc, .ref pof, .int po])), (psp, .inl (p2, 4000, .inl lgs))]) hD hS hAA [0, 1] rfl
                  refine va_callv (va_runV (As := [.int x_89]) (rest := []) ⟨hx, hb, hml, hown, hA⟩ (c_X8_put_z l dC dI aK aV h0 pb psp poc pof pz lps ltl po p2 lgs x_89 lX H.size (by omega) (by omega) (by omega) (by omega) hXl) (cwV 1 hA (zw_V wi_1308 wi_1310 wi_69 wi_142 (zw_good wi_1311)) rfl rfl rfl (by decide +kernel) ⟨(Nat.le_of_ble_eq_true rfl), (Nat.le_of_ble_eq_true rfl)⟩) ⟨zP_blind, va_recv hKc hPc (ci := 8) (q0 := 0) rfl rfl, zz_pre hKc hPc hDc hN hT hS hFc⟩ rfl rfl hl.1 rfl (lv_room (Nat.le_of_ble_eq_true rfl)) dX8_putInt_68 ⟨(Nat.le_of_ble_eq_true rfl), (Nat.le_of_ble_eq_true rfl)⟩) hS (fun q _ h => hFc q h) hFc (fun u t H1 locs ht hvm hw hB hz1 hk1 hS => ?_)
                  obtain ⟨ps_91, tl_92, gsp_93⟩ := u
                  obtain ⟨hP1, hK1, hD1⟩ := hB
                  rw [ht] at hP1
                  have hK1 := va_K.moved hvm.symm hK1
                  obtain ⟨hP, hD⟩ := va_join (wr := []) (w1 := [(h0, .inr (8, [.ref pb, .int pz, .ref psp, .int ps_91, .int tl_92, .ref poc, .ref pof, .int po])), (psp, .inl (p2, 4000, .inl gsp_93))]) hP hD [0, 1] [] rfl rfl (by decide) (by decide) hk1 hFc hP1 hD1
                  have hK := (hK.sub (tys' := []) [] rfl).app hK1
                  generalize H1 = H at hP hS ⊢
                  have hP : va_P (dC, dI) vwCl [(h0, .inr (8, [.ref pb, .int pz, .ref psp, .int ps_91, .int tl_92, .ref poc, .ref pof, .int po])), (psp, .inl (p2, 4000, .inl gsp_93))] H := hP
                  have hD : va_D A [(h0, .inr (8, [.ref pb, .int pz, .ref psp, .int ps_91, .int tl_92, .ref poc, .ref pof, .int po])), (psp, .inl (p2, 4000, .inl gsp_93))] := hD
                  have hK : va_K (dC, dI) vwCl [(p2, .byte)] s := hK
                  obtain ⟨hq_94, hq_95, hq_96⟩ := hw
                  refine lv_lload hx hb dX8_putInt_71 (lv_at hl 0 rfl) ?_
                  refine lv_ldc2 (v := 10) hx hb hown (hA _ wi_1313) dX8_putInt_73 ?_
                  refine lv_ldiv hx hb dX8_putInt_76 (by decide) ?_
                  refine lv_topl (fun x_97 ex_97 => ?_)
                  have ix_97 : x_97.toInt = uq.toInt / 10 := by rw [ex_97]; exact (lg_ldiv_nonneg (by omega) (by decide)).trans (by rw [show Int64.toInt 10 = 10 from by decide])
                  refine lv_lstore (lv' := [(4, .long x_97), (2, .long x_58), (0, .ref h0), (1, .int nu)]) hx hb dX8_putInt_77 hl (by decide) rfl (fun ls hl => ?_)
                  refine lv_goto (tgt := 48) hx hb dX8_putInt_79 (by decide) ?_
                  have hz_98 : pQ (Int64.toInt x_97) (Int.natAbs (Int32.toInt nu)) L9 := (by rw [ix_97]; exact hQ9)
                  have hz_99 : (lX ++ [x_89]) ++ L9 = gX ++ pI (Int32.toInt nu) := (by rw [← heq, hL9, List.append_assoc] <;> rfl)
                  exact ih_48 x_97 ps_91 tl_92 gsp_93 (lX ++ [x_89]) L9 _ _ _ (by omega) (by omega) (by omega) (by omega) (by omega) hq_96 hz_98 hz_99 (hP.sub [0, 1] rfl) (hD.sub [0, 1] (by decide) rfl) hS (lv_sub hl [0, 1, 2, 3] rfl)
            have hz_100 : pQ (Int64.toInt un) (Int.natAbs (Int32.toInt nu)) (pDg (pDk 9 (Int.natAbs (Int32.toInt nu))) (Int.natAbs (Int32.toInt nu))) := (pU_e hpu (by omega))
            have hz_101 : (gX ++ [45]) ++ (pDg (pDk 9 (Int.natAbs (Int32.toInt nu))) (Int.natAbs (Int32.toInt nu))) = gX ++ pI (Int32.toInt nu) := (pI_m (by omega))
            exact loop_48 _ un ps_52 tl_53 gsp_54 (gX ++ [45]) (pDg (pDk 9 (Int.natAbs (Int32.toInt nu))) (Int.natAbs (Int32.toInt nu))) _ _ _ (Nat.le_refl _) (by omega) (by omega) (by omega) (by omega) hq_57 hz_100 hz_101 (hP.sub [0, 1] rfl) (hD.sub [0, 1] (by decide) rfl) hS (lv_sub hl [0, 1, 2, 3] rfl)
          · have ic_82 : 0 < x_81.toInt := zi_nle c_82
            refine lv_lload hx hb dX8_putInt_37 (lv_at hl 0 rfl) ?_
            refine lv_ldc2 (v := 10) hx hb hown (hA _ wi_1313) dX8_putInt_39 ?_
            refine lv_ldiv hx hb dX8_putInt_42 (by decide) ?_
            refine lv_topl (fun x_102 ex_102 => ?_)
            have ix_102 : x_102.toInt = un.toInt / 10 := by rw [ex_102]; exact (lg_ldiv_nonneg (by omega) (by decide)).trans (by rw [show Int64.toInt 10 = 10 from by decide])
            refine lv_lstore (lv' := [(4, .long x_102), (2, .long x_58), (0, .ref h0), (1, .int nu)]) hx hb dX8_putInt_43 hl (by decide) rfl (fun ls hl => ?_)
            refine lv_goto (tgt := 23) hx hb dX8_putInt_45 (by decide) ?_
            have hz_103 : pU (Int64.toInt x_102) (Int.natAbs (Int32.toInt nu)) := (pU_s hpu (by omega) (by omega) ix_102)
            exact ih_23 x_102 _ _ _ (by omega) (by omega) (by omega) hz_103 (hP.sub [0, 1] rfl) (hD.sub [0, 1] (by decide) rfl) hS (lv_sub hl [0, 1, 2, 3] rfl)
    have hz_104 : pU (Int64.toInt un0) (Int.natAbs (Int32.toInt nu)) := (by rw [iun0]; exact pU_9)
    exact loop_23 _ un0 _ _ _ (Nat.le_refl _) (by omega) (by omega) hz_104 (hP.sub [0, 1] rfl) (hD.sub [0, 1] (by decide) rfl) hS (lv_sub hl [0, 1, 2, 3] rfl)

end
section
set_option maxHeartbeats 4000000 in
set_option maxRecDepth 100000 in
theorem c_X8_putKind_z (l : Launch) (dC : Nat → ClassId) (dI : Nat → Nat → Nat) (aK aV : Nat → Nat) (h0 : Nat) (pb : Nat) (psp : Nat) (poc : Nat) (pof : Nat) (pz : Int32) (ps : Int32) (tl : Int32) (po : Int32) (p2 : ClassId) (gsp : Nat → Int32) (wo : Int64) (gX : List Int32) (sz : Nat) (hps0 : 0 ≤ ps.toInt) (hps1 : ps.toInt ≤ 4000) (hpo0 : 0 ≤ po.toInt) (hpo1 : po.toInt ≤ 2000) (hot9 : cOt gsp ps tl gX) : Met l yX8_putKind (Cond.code yX8_putKind cX8_putKind 5 none :: zw) ({ frames := 10, cells := 0, slots := 0, locals := 300 }) (va_Pc [.ref h0, .long wo] (zP dC dI aK aV sz [(p2, .byte)] [(h0, .inr (8, [.ref pb, .int pz, .ref psp, .int ps, .int tl, .ref poc, .ref pof, .int po])), (psp, .inl (p2, 4000, .inl gsp))])) (va_Qv (fun u : Int32 × Int32 × (Nat → Int32) => match u with | (ps2, tl2, gsp2) => (0 ≤ ps2.toInt) ∧ (ps2.toInt ≤ 4000) ∧ (cOt gsp2 ps2 tl2 (gX ++ pKw wo))) (fun u => match u with | (ps2, tl2, gsp2) => zQ dC dI (va_A [(h0, .inr (8, [.ref pb, .int pz, .ref psp, .int ps, .int tl, .ref poc, .ref pof, .int po])), (psp, .inl (p2, 4000, .inl gsp))] sz) [(p2, .byte)] [(h0, .inr (8, [.ref pb, .int pz, .ref psp, .int ps2, .int tl2, .ref poc, .ref pof, .int po])), (psp, .inl (p2, 4000, .inl gsp2))]) (va_A [(h0, .inr (8, [.ref pb, .int pz, .ref psp, .int ps, .int tl, .ref poc, .ref pof, .int po])), (psp, .inl (p2, 4000, .inl gsp))] sz)) 0 0 (va_A [(h0, .inr (8, [.ref pb, .int pz, .ref psp, .int ps, .int tl, .ref poc, .ref pof, .int po])), (psp, .inl (p2, 4000, .inl gsp))] sz) := by
  refine Met.ofW (cc := cX8_putKind) (maxL := 5) (ret := none) (by decide) rfl ?_
  intro p e s m args below meth c s₁ B hml hv
  obtain ⟨rfl, hsz, hP, hK, hD0, hN, hT⟩ := hv
  have hx := B.exec
  have hb := B.bytes
  have hr := B.returns
  have hts := atoms_spec (ws := Cond.code yX8_putKind cX8_putKind 5 none :: zw) B.pre
  have hA : ∀ w ∈ zw, w.before _ s = true := fun w h => hts w (List.mem_cons_of_mem _ h)
  have hown : s.vm.findClass RX8 = some m.cls := findClass_of_methodNamed B.named
  have hlocks := B.notSynchronized
  subst hsz
  have hD := hD0.self (sz := s.heap.size)
  generalize hAe : va_A [(h0, .inr (8, [.ref pb, .int pz, .ref psp, .int ps, .int tl, .ref poc, .ref pof, .int po])), (psp, .inl (p2, 4000, .inl gsp))] s.heap.size = A at hD hT ⊢
  have hAA : ∀ q : Nat, s.heap.size ≤ q → A q := fun q h => by rw [← hAe]; exact Or.inr h
  have hS : va_S A s.heap s.heap [] := va_S.rf
  have hl := lv_entry ([.ref h0, .long wo]) (n := 5) (Nat.le_of_ble_eq_true rfl)
  rw [lg_entry_eq]
  generalize (lg_sl ([.ref h0, .long wo]) ++ List.replicate (5 - (lg_sl ([.ref h0, .long wo])).length) Slot.unset).toArray = ls at hl ⊢
  have hl : lv_has ls 5 [(0, .ref h0), (1, .long wo)] := hl
  refine lv_bipush (v := 56) hx hb dX8_putKind_0 (by decide) ?_
  refine lv_istore_n (lv' := [(3, .int 56), (0, .ref h0), (1, .long wo)]) hx hb dX8_putKind_2 rfl hl (by decide) rfl (fun ls hl => ?_)
  have loop_3 : ∀ (n9 : Nat) (sh : Int32) (lps : Int32) (ltl : Int32) (lgs : Nat → Int32) (lX : List Int32) (gm : Nat) (H : Heap) (locs : List Loc) (ls : Array Slot), (sh.toInt + 9).toNat ≤ n9 → sh.toInt = 8 * (gm : Int) - 8 → gm ≤ 8 → 0 ≤ lps.toInt → lps.toInt ≤ 4000 → cOt lgs lps ltl lX → lX ++ pKr wo gm = gX ++ pKw wo → va_P (dC, dI) vwCl [(h0, .inr (8, [.ref pb, .int pz, .ref psp, .int lps, .int ltl, .ref poc, .ref pof, .int po])), (psp, .inl (p2, 4000, .inl lgs))] H → va_D A [(h0, .inr (8, [.ref pb, .int pz, .ref psp, .int lps, .int ltl, .ref poc, .ref pof, .int po])), (psp, .inl (p2, 4000, .inl lgs))] → va_S A s.heap H locs → lv_has ls 5 [(3, .int sh), (0, .ref h0), (1, .long wo)] → W p l e (headSpec (Cond.code yX8_putKind cX8_putKind 5 none :: zw) ({ frames := 10, cells := 0, slots := 0, locals := 300 })).room s m #[.ref h0, .long wo] below meth c H locs 0 0 (MQ below (va_Qv (fun u : Int32 × Int32 × (Nat → Int32) => match u with | (ps2, tl2, gsp2) => (0 ≤ ps2.toInt) ∧ (ps2.toInt ≤ 4000) ∧ (cOt gsp2 ps2 tl2 (gX ++ pKw wo))) (fun u => match u with | (ps2, tl2, gsp2) => zQ dC dI A [(p2, .byte)] [(h0, .inr (8, [.ref pb, .int pz, .ref psp, .int ps2, .int tl2, .ref poc, .ref pof, .int po])), (psp, .inl (p2, 4000, .inl gsp2))]) A) #[.ref h0, .long wo] s 0 0 A) (F0 m 3 ls []) := by
    intro n9
    induction n9 with
    | zero => intro sh lps ltl lgs lX gm H locs ls hm hsh hgm hl0 hl1 hXl heq; exfalso; omega
    | succ n9 ih =>
      intro sh lps ltl lgs lX gm H locs ls hm hsh hgm hl0 hl1 hXl heq hP hD hS hl
      refine lv_iload_n hx hb dX8_putKind_3 rfl (lv_at hl 0 rfl) ?_
      refine lv_if_lt (tgt := 34) hx hb dX8_putKind_4 (by decide) (fun c_1 => ?_) (fun c_1 => ?_)
      · have ic_1 : sh.toInt < 0 := zi_lt c_1
        have hP9 := hP.sub (ws' := [(h0, .inr (8, [.ref pb, .int pz, .ref psp, .int lps, .int ltl, .ref poc, .ref pof, .int po])), (psp, .inl (p2, 4000, .inl lgs))]) [0, 1] rfl
        have hD9 := hD.sub (ws' := [(h0, .inr (8, [.ref pb, .int pz, .ref psp, .int lps, .int ltl, .ref poc, .ref pof, .int po])), (psp, .inl (p2, 4000, .inl lgs))]) [0, 1] (by decide) rfl
        have hK9 := hK.sub (tys' := [(p2, .byte)]) [0] rfl
        exact W.vret hx hb hr (fun t ht hW => ⟨⟨(lps, ltl, lgs), rfl, ⟨by omega, by omega, (cOt_e hXl (by have h9g : gm = 0 := (by omega); rw [h9g] at heq; rw [← heq]; exact (List.append_nil _).symm))⟩, by rw [ht]; exact hP9, va_K.moved hW.alike hK9, hD9⟩, hS.F ht⟩) hS.2.2 dX8_putKind_34
      · have ic_1 : 0 ≤ sh.toInt := zi_nlt c_1
        refine lv_lload_n hx hb dX8_putKind_7 rfl (lv_at hl 2 rfl) ?_
        refine lv_iload_n hx hb dX8_putKind_8 rfl (lv_at hl 0 rfl) ?_
        refine lv_lushr hx hb dX8_putKind_9 rfl ?_
        refine lv_topl (fun x_2 ex_2 => ?_)
        refine lv_l2i hx hb dX8_putKind_10 rfl ?_
        refine lv_topi (fun x_3 ex_3 => ?_)
        refine lv_sipush (v := 255) hx hb dX8_putKind_11 (by decide) ?_
        refine lv_iand hx hb dX8_putKind_14 ?_
        refine lv_topi (fun x_4 ex_4 => ?_)
        have hkb9 : x_4 = pKb wo sh := by rw [ex_4, ex_3, ex_2] <;> rfl
        refine lv_istore (lv' := [(4, .int x_4), (3, .int sh), (0, .ref h0), (1, .long wo)]) hx hb dX8_putKind_15 hl (by decide) rfl (fun ls hl => ?_)
        refine lv_iload hx hb dX8_putKind_17 (lv_at hl 0 rfl) ?_
        refine lv_if_eq (tgt := 28) hx hb dX8_putKind_19 (by decide) (fun c_5 => ?_) (fun c_5 => ?_)
        · have ic_5 : x_4.toInt = 0 := zi_eq c_5
          obtain ⟨x_6, ex_6⟩ : ∃ y : Int32, y = sh + Int32.ofInt (-8) := ⟨_, rfl⟩
          refine lv_iinc (v := x_6) (lv' := [(3, .int x_6), (4, .int x_4), (0, .ref h0), (1, .long wo)]) hx hb dX8_putKind_28 hl (k := 1) rfl (by rw [ex_6]) (by decide) rfl (fun ls hl => ?_)
          have ix_6 : x_6.toInt = sh.toInt + (-8) := by rw [ex_6]; exact zi_addc (by decide) (by omega) (by omega)
          refine lv_goto (tgt := 3) hx hb dX8_putKind_31 (by decide) ?_
          have hz_7 : lX ++ pKr wo (gm - 1) = gX ++ pKw wo := (pK_0 heq (by omega) (by omega) hsh (by rw [← hkb9]; exact Int32.toInt_inj.mp (by rw [show Int32.toInt 0 = 0 from by decide]; omega)))
          exact ih x_6 lps ltl lgs lX (gm - 1) _ _ _ (by omega) (by omega) (by omega) (by omega) (by omega) hXl hz_7 (hP.sub [0, 1] rfl) (hD.sub [0, 1] (by decide) rfl) hS (lv_sub hl [0, 2, 3] rfl)
        · have ic_5 : x_4.toInt ≠ 0 := zi_ne c_5
          refine lv_aload_n hx hb dX8_putKind_22 rfl (lv_at hl 2 rfl) ?_
          refine lv_iload hx hb dX8_putKind_23 (lv_at hl 0 rfl) ?_
          have hPc := hP.sub (ws' := [(h0, .inr (8, [.ref pb, .int pz, .ref psp, .int lps, .int ltl, .ref poc, .ref pof, .int po])), (psp, .inl (p2, 4000, .inl lgs))]) [0, 1] rfl
          have hDc := hD.sub (ws' := [(h0, .inr (8, [.ref pb, .int pz, .ref psp, .int lps, .int ltl, .ref poc, .ref pof, .int po])), (psp, .inl (p2, 4000, .inl lgs))]) [0, 1] (by decide) rfl
          have hKc := hK.sub (tys' := [(p2, .byte)]) [0] rfl
          have hFc := va_free (wc := [(h0, .inr (8, [.ref pb, .int pz, .ref psp, .int lps, .int ltl, .ref poc, .ref pof, .int po])), (psp, .inl (p2, 4000, .inl lgs))]) hD hS hAA [0, 1] rfl
          refine va_callv (va_runV (As := [.int x_4]) (rest := []) ⟨hx, hb, hml, hown, hA⟩ (c_X8_put_z l dC dI aK aV h0 pb psp poc pof pz lps ltl po p2 lgs x_4 lX H.size (by omega) (by omega) (by omega) (by omega) hXl) (cwV 1 hA (zw_V wi_1308 wi_1310 wi_69 wi_142 (zw_good wi_1311)) rfl rfl rfl (by decide +kernel) ⟨(Nat.le_of_ble_eq_true rfl), (Nat.le_of_ble_eq_true rfl)⟩) ⟨zP_blind, va_recv hKc hPc (ci := 8) (q0 := 0) rfl rfl, zz_pre hKc hPc hDc hN hT hS hFc⟩ rfl rfl hl.1 rfl (lv_room (Nat.le_of_ble_eq_true rfl)) dX8_putKind_25 ⟨(Nat.le_of_ble_eq_true rfl), (Nat.le_of_ble_eq_true rfl)⟩) hS (fun q _ h => hFc q h) hFc (fun u t H1 locs ht hvm hw hB hz1 hk1 hS => ?_)
          obtain ⟨ps_9, tl_10, gsp_11⟩ := u
          obtain ⟨hP1, hK1, hD1⟩ := hB
          rw [ht] at hP1
          have hK1 := va_K.moved hvm.symm hK1
          obtain ⟨hP, hD⟩ := va_join (wr := []) (w1 := [(h0, .inr (8, [.ref pb, .int pz, .ref psp, .int ps_9, .int tl_10, .ref poc, .ref pof, .int po])), (psp, .inl (p2, 4000, .inl gsp_11))]) hP hD [0, 1] [] rfl rfl (by decide) (by decide) hk1 hFc hP1 hD1
          have hK := (hK.sub (tys' := []) [] rfl).app hK1
          generalize H1 = H at hP hS ⊢
          have hP : va_P (dC, dI) vwCl [(h0, .inr (8, [.ref pb, .int pz, .ref psp, .int ps_9, .int tl_10, .ref poc, .ref pof, .int po])), (psp, .inl (p2, 4000, .inl gsp_11))] H := hP
          have hD : va_D A [(h0, .inr (8, [.ref pb, .int pz, .ref psp, .int ps_9, .int tl_10, .ref poc, .ref pof, .int po])), (psp, .inl (p2, 4000, .inl gsp_11))] := hD
          have hK : va_K (dC, dI) vwCl [(p2, .byte)] s := hK
          obtain ⟨hq_12, hq_13, hq_14⟩ := hw
          obtain ⟨x_15, ex_15⟩ : ∃ y : Int32, y = sh + Int32.ofInt (-8) := ⟨_, rfl⟩
          refine lv_iinc (v := x_15) (lv' := [(3, .int x_15), (4, .int x_4), (0, .ref h0), (1, .long wo)]) hx hb dX8_putKind_28 hl (k := 1) rfl (by rw [ex_15]) (by decide) rfl (fun ls hl => ?_)
          have ix_15 : x_15.toInt = sh.toInt + (-8) := by rw [ex_15]; exact zi_addc (by decide) (by omega) (by omega)
          refine lv_goto (tgt := 3) hx hb dX8_putKind_31 (by decide) ?_
          have hz_16 : (lX ++ [x_4]) ++ pKr wo (gm - 1) = gX ++ pKw wo := (by have h9q := pK_1 (w := wo) heq (by omega) (by omega) hsh (fun g9 => by have h9k : Int32.toInt x_4 = 0 := (by rw [hkb9, g9]; decide); omega); rw [← hkb9] at h9q; exact h9q)
          exact ih x_15 ps_9 tl_10 gsp_11 (lX ++ [x_4]) (gm - 1) _ _ _ (by omega) (by omega) (by omega) (by omega) (by omega) hq_14 hz_16 (hP.sub [0, 1] rfl) (hD.sub [0, 1] (by decide) rfl) hS (lv_sub hl [0, 2, 3] rfl)
  have hz_17 : gX ++ pKr wo 8 = gX ++ pKw wo := rfl
  exact loop_3 _ 56 ps tl gsp gX 8 _ _ _ (Nat.le_refl _) (by have h9_0 : Int32.toInt 56 = 56 := (by decide); have h9_1 : Int32.toInt 8 = 8 := (by decide); omega) (by have h9_0 : Int32.toInt 56 = 56 := (by decide); have h9_1 : Int32.toInt 8 = 8 := (by decide); omega) (by have h9_0 : Int32.toInt 56 = 56 := (by decide); have h9_1 : Int32.toInt 8 = 8 := (by decide); omega) (by have h9_0 : Int32.toInt 56 = 56 := (by decide); have h9_1 : Int32.toInt 8 = 8 := (by decide); omega) hot9 hz_17 (hP.sub [0, 1] rfl) (hD.sub [0, 1] (by decide) rfl) hS (lv_sub hl [0, 1, 2] rfl)
set_option maxHeartbeats 4000000 in
set_option maxRecDepth 100000 in
theorem c_X4_wordOf_z (l : Launch) (dC : Nat → ClassId) (dI : Nat → Nat → Nat) (aK aV : Nat → Nat) (h0 : Nat) (kw : Nat) (kf : Nat) (k1 : ClassId) (k2 : ClassId) (z : Int32) (gw : Nat → Int64) (gf : Nat → Int32) (k : Int32) (sz : Nat) (hz0 : 0 ≤ z.toInt) (hz1 : z.toInt ≤ 20) : Met l yX4_wordOf (Cond.code yX4_wordOf cX4_wordOf 2 (some .long) :: zw) ({ frames := 8, cells := 0, slots := 0, locals := 200 }) (va_Pc [.ref h0, .int k] (zP dC dI aK aV sz [(k1, .long), (k2, .int)] [(h0, .inr (4, [.ref kw, .ref kf, .int z])), (kw, .inl (k1, 20, .inr (.inl gw))), (kf, .inl (k2, 20, .inl gf))])) (va_Ql (fun (r : Int64) (u : Unit) => (r = pWo (Int32.toInt z) gw k)) (fun u => zQ dC dI (va_A [(h0, .inr (4, [.ref kw, .ref kf, .int z])), (kw, .inl (k1, 20, .inr (.inl gw))), (kf, .inl (k2, 20, .inl gf))] sz) [(k1, .long), (k2, .int)] [(h0, .inr (4, [.ref kw, .ref kf, .int z])), (kw, .inl (k1, 20, .inr (.inl gw))), (kf, .inl (k2, 20, .inl gf))]) (va_A [(h0, .inr (4, [.ref kw, .ref kf, .int z])), (kw, .inl (k1, 20, .inr (.inl gw))), (kf, .inl (k2, 20, .inl gf))] sz)) 0 0 (va_A [(h0, .inr (4, [.ref kw, .ref kf, .int z])), (kw, .inl (k1, 20, .inr (.inl gw))), (kf, .inl (k2, 20, .inl gf))] sz) := by
  refine Met.ofW (cc := cX4_wordOf) (maxL := 2) (ret := (some .long)) (by decide) rfl ?_
  intro p e s m args below meth c s₁ B hml hv
  obtain ⟨rfl, hsz, hP, hK, hD0, hN, hT⟩ := hv
  have hx := B.exec
  have hb := B.bytes
  have hr := B.returns
  have hts := atoms_spec (ws := Cond.code yX4_wordOf cX4_wordOf 2 (some .long) :: zw) B.pre
  have hA : ∀ w ∈ zw, w.before _ s = true := fun w h => hts w (List.mem_cons_of_mem _ h)
  have hown : s.vm.findClass RX4 = some m.cls := findClass_of_methodNamed B.named
  have hlocks := B.notSynchronized
  subst hsz
  have hD := hD0.self (sz := s.heap.size)
  generalize hAe : va_A [(h0, .inr (4, [.ref kw, .ref kf, .int z])), (kw, .inl (k1, 20, .inr (.inl gw))), (kf, .inl (k2, 20, .inl gf))] s.heap.size = A at hD hT ⊢
  have hAA : ∀ q : Nat, s.heap.size ≤ q → A q := fun q h => by rw [← hAe]; exact Or.inr h
  have hS : va_S A s.heap s.heap [] := va_S.rf
  have hl := lv_entry ([.ref h0, .int k]) (n := 2) (Nat.le_of_ble_eq_true rfl)
  rw [lg_entry_eq]
  generalize (lg_sl ([.ref h0, .int k]) ++ List.replicate (2 - (lg_sl ([.ref h0, .int k])).length) Slot.unset).toArray = ls at hl ⊢
  have hl : lv_has ls 2 [(0, .ref h0), (1, .int k)] := hl
  refine lv_iload_n hx hb dX4_wordOf_0 rfl (lv_at hl 1 rfl) ?_
  refine lv_if_lt (tgt := 21) hx hb dX4_wordOf_1 (by decide) (fun c_1 => ?_) (fun c_1 => ?_)
  · have ic_1 : k.toInt < 0 := zi_lt c_1
    refine lv_lconst (v := 0) hx hb dX4_wordOf_21 (by decide) ?_
    have hP9 := hP.sub (ws' := [(h0, .inr (4, [.ref kw, .ref kf, .int z])), (kw, .inl (k1, 20, .inr (.inl gw))), (kf, .inl (k2, 20, .inl gf))]) [0, 1, 2] rfl
    have hD9 := hD.sub (ws' := [(h0, .inr (4, [.ref kw, .ref kf, .int z])), (kw, .inl (k1, 20, .inr (.inl gw))), (kf, .inl (k2, 20, .inl gf))]) [0, 1, 2] (by decide) rfl
    have hK9 := hK.sub (tys' := [(k1, .long), (k2, .int)]) [0, 1] rfl
    exact W.lret (v := 0) hx hb hr (fun t ht hW => ⟨⟨0, (), rfl, (show (0 : Int64) = pWo _ _ _ from (if_neg (by omega)).symm), by rw [ht]; exact hP9, va_K.moved hW.alike hK9, hD9⟩, hS.F ht⟩) hS.2.2 dX4_wordOf_22
  · have ic_1 : 0 ≤ k.toInt := zi_nlt c_1
    refine lv_iload_n hx hb dX4_wordOf_4 rfl (lv_at hl 1 rfl) ?_
    refine lv_aload_n hx hb dX4_wordOf_5 rfl (lv_at hl 0 rfl) ?_
    refine va_get (D := (dC, dI)) (ci := 4) (v := .int z) (C := RX4) (T := TX4) (N := 3) hx hb hA zin_X4 hown hK hP 0 rfl rfl 2 (by decide) (hA _ wi_273) (fun _ h9 => h9) rfl dX4_wordOf_6 ?_
    refine lv_icmp_ge (tgt := 21) hx hb dX4_wordOf_9 (by decide) (fun c_2 => ?_) (fun c_2 => ?_)
    · have ic_2 : z.toInt ≤ k.toInt := zi_le c_2
      refine lv_lconst (v := 0) hx hb dX4_wordOf_21 (by decide) ?_
      have hP9 := hP.sub (ws' := [(h0, .inr (4, [.ref kw, .ref kf, .int z])), (kw, .inl (k1, 20, .inr (.inl gw))), (kf, .inl (k2, 20, .inl gf))]) [0, 1, 2] rfl
      have hD9 := hD.sub (ws' := [(h0, .inr (4, [.ref kw, .ref kf, .int z])), (kw, .inl (k1, 20, .inr (.inl gw))), (kf, .inl (k2, 20, .inl gf))]) [0, 1, 2] (by decide) rfl
      have hK9 := hK.sub (tys' := [(k1, .long), (k2, .int)]) [0, 1] rfl
      exact W.lret (v := 0) hx hb hr (fun t ht hW => ⟨⟨0, (), rfl, (show (0 : Int64) = pWo _ _ _ from (if_neg (by omega)).symm), by rw [ht]; exact hP9, va_K.moved hW.alike hK9, hD9⟩, hS.F ht⟩) hS.2.2 dX4_wordOf_22
    · have ic_2 : k.toInt < z.toInt := zi_nle c_2
      refine lv_aload_n hx hb dX4_wordOf_12 rfl (lv_at hl 0 rfl) ?_
      refine va_get (D := (dC, dI)) (ci := 4) (v := .ref kw) (C := RX4) (T := TX4) (N := 3) hx hb hA zin_X4 hown hK hP 0 rfl rfl 0 (by decide) (hA _ wi_270) (fun _ h9 => h9) rfl dX4_wordOf_13 ?_
      refine lv_iload_n hx hb dX4_wordOf_16 rfl (lv_at hl 1 rfl) ?_
      refine va_lald hx hb hK hP 1 0 rfl rfl (vp_in_iff.mpr ⟨by omega, by omega⟩) dX4_wordOf_17 ?_
      refine lv_topl (fun x_3 ex_3 => ?_)
      refine lv_goto (tgt := 22) hx hb dX4_wordOf_18 (by decide) ?_
      have hP9 := hP.sub (ws' := [(h0, .inr (4, [.ref kw, .ref kf, .int z])), (kw, .inl (k1, 20, .inr (.inl gw))), (kf, .inl (k2, 20, .inl gf))]) [0, 1, 2] rfl
      have hD9 := hD.sub (ws' := [(h0, .inr (4, [.ref kw, .ref kf, .int z])), (kw, .inl (k1, 20, .inr (.inl gw))), (kf, .inl (k2, 20, .inl gf))]) [0, 1, 2] (by decide) rfl
      have hK9 := hK.sub (tys' := [(k1, .long), (k2, .int)]) [0, 1] rfl
      exact W.lret (v := x_3) hx hb hr (fun t ht hW => ⟨⟨x_3, (), rfl, (by rw [ex_3]; exact (if_pos ⟨by omega, by omega⟩).symm), by rw [ht]; exact hP9, va_K.moved hW.alike hK9, hD9⟩, hS.F ht⟩) hS.2.2 dX4_wordOf_22
set_option maxHeartbeats 4000000 in
set_option maxRecDepth 100000 in
theorem c_X8_openFields_z (l : Launch) (dC : Nat → ClassId) (dI : Nat → Nat → Nat) (aK aV : Nat → Nat) (h0 : Nat) (pb : Nat) (psp : Nat) (poc : Nat) (pof : Nat) (pz : Int32) (ps : Int32) (tl : Int32) (po : Int32) (p3 : ClassId) (p4 : ClassId) (goc : Nat → Int32) (gof : Nat → Int32) (ce : Int32) (sz : Nat) (hps0 : 0 ≤ ps.toInt) (hps1 : ps.toInt ≤ 4000) (hpo0 : 0 ≤ po.toInt) (hpo1 : po.toInt ≤ 2000) : Met l yX8_openFields (Cond.code yX8_openFields cX8_openFields 2 none :: zw) ({ frames := 8, cells := 0, slots := 0, locals := 200 }) (va_Pc [.ref h0, .int ce] (zP dC dI aK aV sz [(p3, .int), (p4, .int)] [(h0, .inr (8, [.ref pb, .int pz, .ref psp, .int ps, .int tl, .ref poc, .ref pof, .int po])), (poc, .inl (p3, 2000, .inl goc)), (pof, .inl (p4, 2000, .inl gof))])) (va_Qv (fun u : Int32 × Int32 × (Nat → Int32) × (Nat → Int32) => match u with | (tl2, po2, goc2, gof2) => (0 ≤ po2.toInt) ∧ (po2.toInt ≤ 2000) ∧ (po2.toInt = po.toInt + 1 ∧ goc2 = upd goc (Int32.toNatClampNeg po) ce ∧ gof2 = upd gof (Int32.toNatClampNeg po) 0 ∧ tl2 = tl ∨ po2 = po ∧ goc2 = goc ∧ gof2 = gof ∧ tl2 = 1 ∧ 2000 ≤ po.toInt)) (fun u => match u with | (tl2, po2, goc2, gof2) => zQ dC dI (va_A [(h0, .inr (8, [.ref pb, .int pz, .ref psp, .int ps, .int tl, .ref poc, .ref pof, .int po])), (poc, .inl (p3, 2000, .inl goc)), (pof, .inl (p4, 2000, .inl gof))] sz) [(p3, .int), (p4, .int)] [(h0, .inr (8, [.ref pb, .int pz, .ref psp, .int ps, .int tl2, .ref poc, .ref pof, .int po2])), (poc, .inl (p3, 2000, .inl goc2)), (pof, .inl (p4, 2000, .inl gof2))]) (va_A [(h0, .inr (8, [.ref pb, .int pz, .ref psp, .int ps, .int tl, .ref poc, .ref pof, .int po])), (poc, .inl (p3, 2000, .inl goc)), (pof, .inl (p4, 2000, .inl gof))] sz)) 0 0 (va_A [(h0, .inr (8, [.ref pb, .int pz, .ref psp, .int ps, .int tl, .ref poc, .ref pof, .int po])), (poc, .inl (p3, 2000, .inl goc)), (pof, .inl (p4, 2000, .inl gof))] sz) := by
  refine Met.ofW (cc := cX8_openFields) (maxL := 2) (ret := none) (by decide) rfl ?_
  intro p e s m args below meth c s₁ B hml hv
  obtain ⟨rfl, hsz, hP, hK, hD0, hN, hT⟩ := hv
  have hx := B.exec
  have hb := B.bytes
  have hr := B.returns
  have hts := atoms_spec (ws := Cond.code yX8_openFields cX8_openFields 2 none :: zw) B.pre
  have hA : ∀ w ∈ zw, w.before _ s = true := fun w h => hts w (List.mem_cons_of_mem _ h)
  have hown : s.vm.findClass RX8 = some m.cls := findClass_of_methodNamed B.named
  have hlocks := B.notSynchronized
  subst hsz
  have hD := hD0.self (sz := s.heap.size)
  generalize hAe : va_A [(h0, .inr (8, [.ref pb, .int pz, .ref psp, .int ps, .int tl, .ref poc, .ref pof, .int po])), (poc, .inl (p3, 2000, .inl goc)), (pof, .inl (p4, 2000, .inl gof))] s.heap.size = A at hD hT ⊢
  have hAA : ∀ q : Nat, s.heap.size ≤ q → A q := fun q h => by rw [← hAe]; exact Or.inr h
  have hS : va_S A s.heap s.heap [] := va_S.rf
  have hl := lv_entry ([.ref h0, .int ce]) (n := 2) (Nat.le_of_ble_eq_true rfl)
  rw [lg_entry_eq]
  generalize (lg_sl ([.ref h0, .int ce]) ++ List.replicate (2 - (lg_sl ([.ref h0, .int ce])).length) Slot.unset).toArray = ls at hl ⊢
  have hl : lv_has ls 2 [(0, .ref h0), (1, .int ce)] := hl
  refine lv_aload_n hx hb dX8_openFields_0 rfl (lv_at hl 0 rfl) ?_
  refine va_get (D := (dC, dI)) (ci := 8) (v := .int po) (C := RX8) (T := TX8) (N := 8) hx hb hA zin_X8 hown hK hP 0 rfl rfl 7 (by decide) (hA _ wi_566) (fun _ h9 => h9) rfl dX8_openFields_1 ?_
  refine lv_sipush (v := 2000) hx hb dX8_openFields_4 (by decide) ?_
  refine lv_icmp_lt (tgt := 16) hx hb dX8_openFields_7 (by decide) (fun c_1 => ?_) (fun c_1 => ?_)
  · have ic_1 : po.toInt < 2000 := zi_lt c_1
    refine lv_aload_n hx hb dX8_openFields_16 rfl (lv_at hl 0 rfl) ?_
    refine va_get (D := (dC, dI)) (ci := 8) (v := .ref poc) (C := RX8) (T := TX8) (N := 8) hx hb hA zin_X8 hown hK hP 0 rfl rfl 5 (by decide) (hA _ wi_564) (fun _ h9 => h9) rfl dX8_openFields_17 ?_
    refine lv_aload_n hx hb dX8_openFields_20 rfl (lv_at hl 0 rfl) ?_
    refine va_get (D := (dC, dI)) (ci := 8) (v := .int po) (C := RX8) (T := TX8) (N := 8) hx hb hA zin_X8 hown hK hP 0 rfl rfl 7 (by decide) (hA _ wi_566) (fun _ h9 => h9) rfl dX8_openFields_21 ?_
    refine lv_iload_n hx hb dX8_openFields_24 rfl (lv_at hl 1 rfl) ?_
    refine va_iast hx hb hK hP hD hS 1 0 rfl rfl (vp_in_iff.mpr ⟨by omega, by omega⟩) dX8_openFields_25 (fun H locs hP hD hS => ?_)
    obtain ⟨f_2, ef_2⟩ : ∃ gz9 : Nat → Int32, gz9 = upd goc (Int32.toNatClampNeg po) ce := ⟨_, rfl⟩
    rw [← ef_2] at hP hD
    have hP : va_P (dC, dI) vwCl [(h0, .inr (8, [.ref pb, .int pz, .ref psp, .int ps, .int tl, .ref poc, .ref pof, .int po])), (poc, .inl (p3, 2000, .inl f_2)), (pof, .inl (p4, 2000, .inl gof))] H := hP
    have hD : va_D A [(h0, .inr (8, [.ref pb, .int pz, .ref psp, .int ps, .int tl, .ref poc, .ref pof, .int po])), (poc, .inl (p3, 2000, .inl f_2)), (pof, .inl (p4, 2000, .inl gof))] := hD
    refine lv_aload_n hx hb dX8_openFields_26 rfl (lv_at hl 0 rfl) ?_
    refine va_get (D := (dC, dI)) (ci := 8) (v := .ref pof) (C := RX8) (T := TX8) (N := 8) hx hb hA zin_X8 hown hK hP 0 rfl rfl 6 (by decide) (hA _ wi_565) (fun _ h9 => h9) rfl dX8_openFields_27 ?_
    refine lv_aload_n hx hb dX8_openFields_30 rfl (lv_at hl 0 rfl) ?_
    refine va_get (D := (dC, dI)) (ci := 8) (v := .int po) (C := RX8) (T := TX8) (N := 8) hx hb hA zin_X8 hown hK hP 0 rfl rfl 7 (by decide) (hA _ wi_566) (fun _ h9 => h9) rfl dX8_openFields_31 ?_
    refine lv_iconst (v := 0) hx hb dX8_openFields_34 (by decide) ?_
    refine va_iast hx hb hK hP hD hS 2 1 rfl rfl (vp_in_iff.mpr ⟨by omega, by omega⟩) dX8_openFields_35 (fun H locs hP hD hS => ?_)
    obtain ⟨f_3, ef_3⟩ : ∃ gz9 : Nat → Int32, gz9 = upd gof (Int32.toNatClampNeg po) 0 := ⟨_, rfl⟩
    rw [← ef_3] at hP hD
    have hP : va_P (dC, dI) vwCl [(h0, .inr (8, [.ref pb, .int pz, .ref psp, .int ps, .int tl, .ref poc, .ref pof, .int po])), (poc, .inl (p3, 2000, .inl f_2)), (pof, .inl (p4, 2000, .inl f_3))] H := hP
    have hD : va_D A [(h0, .inr (8, [.ref pb, .int pz, .ref psp, .int ps, .int tl, .ref poc, .ref pof, .int po])), (poc, .inl (p3, 2000, .inl f_2)), (pof, .inl (p4, 2000, .inl f_3))] := hD
    refine lv_aload_n hx hb dX8_openFields_36 rfl (lv_at hl 0 rfl) ?_
    refine lv_dup hx hb dX8_openFields_37 rfl ?_
    refine va_get (D := (dC, dI)) (ci := 8) (v := .int po) (C := RX8) (T := TX8) (N := 8) hx hb hA zin_X8 hown hK hP 0 rfl rfl 7 (by decide) (hA _ wi_566) (fun _ h9 => h9) rfl dX8_openFields_38 ?_
    refine lv_iconst (v := 1) hx hb dX8_openFields_41 (by decide) ?_
    refine lv_iadd hx hb dX8_openFields_42 ?_
    refine lv_topi (fun x_4 ex_4 => ?_)
    have ix_4 : x_4.toInt = po.toInt + 1 := by rw [ex_4]; exact zi_addc (by decide) (by omega) (by omega)
    refine va_put (D := (dC, dI)) (ci := 8) (v := .int x_4) (ty := .int) (C := RX8) (T := TX8) (N := 8) hx hb hA zin_X8 tyX8 tyX8_ok nmX8 hown hK hP hD hS 0 rfl rfl 7 (by decide) (hA _ wi_566) (fun _ h9 => h9) rfl (by decide +kernel) rfl rfl (Nat.le_of_ble_eq_true rfl) dX8_openFields_43 (fun H locs hP hD hS => ?_)
    have hP : va_P (dC, dI) vwCl [(h0, .inr (8, [.ref pb, .int pz, .ref psp, .int ps, .int tl, .ref poc, .ref pof, .int x_4])), (poc, .inl (p3, 2000, .inl f_2)), (pof, .inl (p4, 2000, .inl f_3))] H := hP
    have hD : va_D A [(h0, .inr (8, [.ref pb, .int pz, .ref psp, .int ps, .int tl, .ref poc, .ref pof, .int x_4])), (poc, .inl (p3, 2000, .inl f_2)), (pof, .inl (p4, 2000, .inl f_3))] := hD
    have hP9 := hP.sub (ws' := [(h0, .inr (8, [.ref pb, .int pz, .ref psp, .int ps, .int tl, .ref poc, .ref pof, .int x_4])), (poc, .inl (p3, 2000, .inl f_2)), (pof, .inl (p4, 2000, .inl f_3))]) [0, 1, 2] rfl
    have hD9 := hD.sub (ws' := [(h0, .inr (8, [.ref pb, .int pz, .ref psp, .int ps, .int tl, .ref poc, .ref pof, .int x_4])), (poc, .inl (p3, 2000, .inl f_2)), (pof, .inl (p4, 2000, .inl f_3))]) [0, 1, 2] (by decide) rfl
    have hK9 := hK.sub (tys' := [(p3, .int), (p4, .int)]) [0, 1] rfl
    exact W.vret hx hb hr (fun t ht hW => ⟨⟨(tl, x_4, f_2, f_3), rfl, ⟨by omega, by omega, (Or.inl ⟨by omega, ef_2, ef_3, rfl⟩)⟩, by rw [ht]; exact hP9, va_K.moved hW.alike hK9, hD9⟩, hS.F ht⟩) hS.2.2 dX8_openFields_46
  · have ic_1 : 2000 ≤ po.toInt := zi_nlt c_1
    refine lv_aload_n hx hb dX8_openFields_10 rfl (lv_at hl 0 rfl) ?_
    refine lv_iconst (v := 1) hx hb dX8_openFields_11 (by decide) ?_
    refine va_put (D := (dC, dI)) (ci := 8) (v := .int 1) (ty := .boolean) (C := RX8) (T := TX8) (N := 8) hx hb hA zin_X8 tyX8 tyX8_ok nmX8 hown hK hP hD hS 0 rfl rfl 4 (by decide) (hA _ wi_563) (fun _ h9 => h9) rfl (by decide +kernel) rfl rfl (Nat.le_of_ble_eq_true rfl) dX8_openFields_12 (fun H locs hP hD hS => ?_)
    have hP : va_P (dC, dI) vwCl [(h0, .inr (8, [.ref pb, .int pz, .ref psp, .int ps, .int 1, .ref poc, .ref pof, .int po])), (poc, .inl (p3, 2000, .inl goc)), (pof, .inl (p4, 2000, .inl gof))] H := hP
    have hD : va_D A [(h0, .inr (8, [.ref pb, .int pz, .ref psp, .int ps, .int 1, .ref poc, .ref pof, .int po])), (poc, .inl (p3, 2000, .inl goc)), (pof, .inl (p4, 2000, .inl gof))] := hD
    have hP9 := hP.sub (ws' := [(h0, .inr (8, [.ref pb, .int pz, .ref psp, .int ps, .int 1, .ref poc, .ref pof, .int po])), (poc, .inl (p3, 2000, .inl goc)), (pof, .inl (p4, 2000, .inl gof))]) [0, 1, 2] rfl
    have hD9 := hD.sub (ws' := [(h0, .inr (8, [.ref pb, .int pz, .ref psp, .int ps, .int 1, .ref poc, .ref pof, .int po])), (poc, .inl (p3, 2000, .inl goc)), (pof, .inl (p4, 2000, .inl gof))]) [0, 1, 2] (by decide) rfl
    have hK9 := hK.sub (tys' := [(p3, .int), (p4, .int)]) [0, 1] rfl
    exact W.vret hx hb hr (fun t ht hW => ⟨⟨(1, po, goc, gof), rfl, ⟨by omega, by omega, (Or.inr ⟨rfl, rfl, rfl, rfl, by omega⟩)⟩, by rw [ht]; exact hP9, va_K.moved hW.alike hK9, hD9⟩, hS.F ht⟩) hS.2.2 dX8_openFields_15

end
