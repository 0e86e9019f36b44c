section
theorem lx_i2c_all : ∀ k : Fin 256, ((Int32.ofInt (k.val : Int)).toUInt32 % 65536).toInt32 = Int32.ofInt (k.val : Int) := by decide +kernel
theorem lx_i2c {x v : Int32} (e : v = (x.toUInt32 % 65536).toInt32) (h0 : 0 ≤ x.toInt) (h1 : x.toInt < 256) : v = x := by
  have hx : Int32.ofInt ((x.toInt.toNat : Nat) : Int) = x := by rw [Int.toNat_of_nonneg h0]; exact Int32.ofInt_toInt x
  have h := lx_i2c_all ⟨x.toInt.toNat, by omega⟩
  have h : ((Int32.ofInt ((x.toInt.toNat : Nat) : Int)).toUInt32 % 65536).toInt32 = Int32.ofInt ((x.toInt.toNat : Nat) : Int) := h
  rw [hx] at h
  rw [e]; exact h
theorem lx_sg_u {x y : Int32} (h : x.toInt = y.toInt ∧ 0 ≤ y.toInt ∨ x.toInt = y.toInt + 256 ∧ y.toInt < 0) (hy : -128 ≤ y.toInt) : lx_sg x.toInt ↔ lx_sg y.toInt := by unfold lx_sg; omega

set_option maxHeartbeats 4000000 in
set_option maxRecDepth 100000 in
theorem c_X10_readSign_x (l : Launch) (dC : Nat → ClassId) (dI : Nat → Nat → Nat) (aK aV : Nat → Nat) (h0 : Nat) (ts : Nat) (tp : Nat) (tw : Nat) (t1 : ClassId) (t2 : ClassId) (t3 : ClassId) (z : Int32) (pa : Int32) (so : Int32) (pl : Int32) (wd : Int64) (gs : Nat → Int32) (gp : Nat → Int32) (gw : Nat → Int64) (bt : Nat) (bk : ClassId) (gt : Nat → Int32) (fr : Int32) (en : Int32) (sz : Nat) (hz0 : 0 ≤ z.toInt) (hz1 : z.toInt ≤ 2000) (hf0 : 0 ≤ fr.toInt) (hf1 : fr.toInt < en.toInt) (he : en.toInt ≤ 2000) (hzb : zb gt) (hnw : ¬ (97 ≤ (gt (Int32.toNatClampNeg fr)).toInt ∧ (gt (Int32.toNatClampNeg fr)).toInt ≤ 122 ∨ 65 ≤ (gt (Int32.toNatClampNeg fr)).toInt ∧ (gt (Int32.toNatClampNeg fr)).toInt ≤ 90 ∨ 48 ≤ (gt (Int32.toNatClampNeg fr)).toInt ∧ (gt (Int32.toNatClampNeg fr)).toInt ≤ 57)) : Met l yX10_readSign (Cond.code yX10_readSign cX10_readSign 5 (some .int) :: zw) ({ frames := 16, cells := 0, slots := 0, locals := 600 }) (va_Pc [.ref h0, .ref bt, .int fr, .int en] (zP dC dI aK aV sz [(t1, .int), (t2, .int), (t3, .long), (bk, .byte)] [(h0, .inr (10, [.ref ts, .ref tp, .ref tw, .int z, .int pa, .int so, .int pl, .long wd])), (ts, .inl (t1, 2001, .inl gs)), (tp, .inl (t2, 2001, .inl gp)), (tw, .inl (t3, 2001, .inr (.inl gw))), (bt, .inl (bk, 2000, .inl gt))])) (va_Qi (fun (r : Int32) (u : (Nat → Int32) × (Nat → Int64)) => match u with | (gs2, gw2) => (∃ (t : Int32) (v : Int64), gs2 = upd gs (Int32.toNatClampNeg z) t ∧ gw2 = vp_updL gw (Int32.toNatClampNeg z) v ∧ lx_sn gt en.toInt (Int32.toNatClampNeg fr) (Int32.toNatClampNeg r) t) ∧ (fr.toInt < r.toInt) ∧ (r.toInt ≤ en.toInt) ∧ (∃ v : Int32, gs2 = upd gs (Int32.toNatClampNeg z) v ∧ (v.toInt = 261 → fr.toInt + 2 ≤ r.toInt))) (fun u => match u with | (gs2, gw2) => zQ dC dI (va_A [(h0, .inr (10, [.ref ts, .ref tp, .ref tw, .int z, .int pa, .int so, .int pl, .long wd])), (ts, .inl (t1, 2001, .inl gs)), (tp, .inl (t2, 2001, .inl gp)), (tw, .inl (t3, 2001, .inr (.inl gw))), (bt, .inl (bk, 2000, .inl gt))] sz) [(t1, .int), (t2, .int), (t3, .long), (bk, .byte)] [(h0, .inr (10, [.ref ts, .ref tp, .ref tw, .int z, .int pa, .int so, .int pl, .long wd])), (ts, .inl (t1, 2001, .inl gs2)), (tp, .inl (t2, 2001, .inl gp)), (tw, .inl (t3, 2001, .inr (.inl gw2))), (bt, .inl (bk, 2000, .inl gt))]) (va_A [(h0, .inr (10, [.ref ts, .ref tp, .ref tw, .int z, .int pa, .int so, .int pl, .long wd])), (ts, .inl (t1, 2001, .inl gs)), (tp, .inl (t2, 2001, .inl gp)), (tw, .inl (t3, 2001, .inr (.inl gw))), (bt, .inl (bk, 2000, .inl gt))] sz)) 0 0 (va_A [(h0, .inr (10, [.ref ts, .ref tp, .ref tw, .int z, .int pa, .int so, .int pl, .long wd])), (ts, .inl (t1, 2001, .inl gs)), (tp, .inl (t2, 2001, .inl gp)), (tw, .inl (t3, 2001, .inr (.inl gw))), (bt, .inl (bk, 2000, .inl gt))] sz) := by
  refine Met.ofW (cc := cX10_readSign) (maxL := 5) (ret := (some .int)) (by decide) rfl ?_
  intro p e s m args below meth c s₁ B hml hv
  obtain ⟨rfl, hsz, hP, hK, hD0, hN, hT⟩ := hv
  have hx := B.exec
  have hb := B.bytes
  have hr := B.returns
  have hts := atoms_spec (ws := Cond.code yX10_readSign cX10_readSign 5 (some .int) :: zw) B.pre
  have hA : ∀ w ∈ zw, w.before _ s = true := fun w h => hts w (List.mem_cons_of_mem _ h)
  have hown : s.vm.findClass RX10 = some m.cls := findClass_of_methodNamed B.named
  have hlocks := B.notSynchronized
  subst hsz
  have hD := hD0.self (sz := s.heap.size)
  generalize hAe : va_A [(h0, .inr (10, [.ref ts, .ref tp, .ref tw, .int z, .int pa, .int so, .int pl, .long wd])), (ts, .inl (t1, 2001, .inl gs)), (tp, .inl (t2, 2001, .inl gp)), (tw, .inl (t3, 2001, .inr (.inl gw))), (bt, .inl (bk, 2000, .inl gt))] s.heap.size = A at hD hT ⊢
  have hAA : ∀ q : Nat, s.heap.size ≤ q → A q := fun q h => by rw [← hAe]; exact Or.inr h
  have hS : va_S A s.heap s.heap [] := va_S.rf
  have hl := lv_entry ([.ref h0, .ref bt, .int fr, .int en]) (n := 5) (Nat.le_of_ble_eq_true rfl)
  rw [lg_entry_eq]
  generalize (lg_sl ([.ref h0, .ref bt, .int fr, .int en]) ++ List.replicate (5 - (lg_sl ([.ref h0, .ref bt, .int fr, .int en])).length) Slot.unset).toArray = ls at hl ⊢
  have hl : lv_has ls 5 [(0, .ref h0), (1, .ref bt), (2, .int fr), (3, .int en)] := hl
  refine lv_aload_n hx hb dX10_readSign_0 rfl (lv_at hl 1 rfl) ?_
  refine lv_iload_n hx hb dX10_readSign_1 rfl (lv_at hl 2 rfl) ?_
  refine va_bald hx hb hK hP 4 3 rfl rfl (vp_in_iff.mpr ⟨by omega, by omega⟩) dX10_readSign_2 ?_
  refine lv_topi (fun x_1 ex_1 => ?_)
  have hnfr9 := zn_nat (x := fr) (by omega)
  have ix_1 : x_1.toInt = (gt (Int32.toNatClampNeg fr)).toInt := by rw [ex_1]
  have hbx_1 := hzb (Int32.toNatClampNeg fr)
  rw [← ex_1] at hbx_1
  refine lv_sipush (v := 255) hx hb dX10_readSign_3 (by decide) ?_
  refine lv_iand hx hb dX10_readSign_6 ?_
  refine lv_topi (fun x_2 ex_2 => ?_)
  have ix_2 := zand255 ex_2 hbx_1.1 hbx_1.2
  refine lv_istore (lv' := [(4, .int x_2), (0, .ref h0), (1, .ref bt), (2, .int fr), (3, .int en)]) hx hb dX10_readSign_7 hl (by decide) rfl (fun ls hl => ?_)
  refine lv_aload_n hx hb dX10_readSign_9 rfl (lv_at hl 1 rfl) ?_
  refine va_get (D := (dC, dI)) (ci := 10) (v := .ref tw) (C := RX10) (T := TX10) (N := 8) hx hb hA zin_X10 hown hK hP 0 rfl rfl 2 (by decide) (hA _ wi_348) (fun _ h9 => h9) rfl dX10_readSign_10 ?_
  refine lv_aload_n hx hb dX10_readSign_13 rfl (lv_at hl 1 rfl) ?_
  refine va_get (D := (dC, dI)) (ci := 10) (v := .int z) (C := RX10) (T := TX10) (N := 8) hx hb hA zin_X10 hown hK hP 0 rfl rfl 3 (by decide) (hA _ wi_349) (fun _ h9 => h9) rfl dX10_readSign_14 ?_
  refine lv_lconst (v := 0) hx hb dX10_readSign_17 (by decide) ?_
  refine va_last hx hb hK hP hD hS 3 2 rfl rfl (vp_in_iff.mpr ⟨by omega, by omega⟩) dX10_readSign_18 (fun H locs hP hD hS => ?_)
  obtain ⟨f_3, ef_3⟩ : ∃ gz9 : Nat → Int64, gz9 = vp_updL gw (Int32.toNatClampNeg z) 0 := ⟨_, rfl⟩
  rw [← ef_3] at hP hD
  have hP : va_P (dC, dI) vwCl [(h0, .inr (10, [.ref ts, .ref tp, .ref tw, .int z, .int pa, .int so, .int pl, .long wd])), (ts, .inl (t1, 2001, .inl gs)), (tp, .inl (t2, 2001, .inl gp)), (tw, .inl (t3, 2001, .inr (.inl f_3))), (bt, .inl (bk, 2000, .inl gt))] H := hP
  have hD : va_D A [(h0, .inr (10, [.ref ts, .ref tp, .ref tw, .int z, .int pa, .int so, .int pl, .long wd])), (ts, .inl (t1, 2001, .inl gs)), (tp, .inl (t2, 2001, .inl gp)), (tw, .inl (t3, 2001, .inr (.inl f_3))), (bt, .inl (bk, 2000, .inl gt))] := hD
  refine lv_iload hx hb dX10_readSign_19 (lv_at hl 0 rfl) ?_
  refine lv_bipush (v := 45) hx hb dX10_readSign_21 (by decide) ?_
  refine lv_icmp_ne (tgt := 59) hx hb dX10_readSign_23 (by decide) (fun c_4 => ?_) (fun c_4 => ?_)
  · have ic_4 : x_2.toInt ≠ 45 := zi_ne c_4
    refine lv_aload_n hx hb dX10_readSign_59 rfl (lv_at hl 1 rfl) ?_
    refine va_get (D := (dC, dI)) (ci := 10) (v := .ref ts) (C := RX10) (T := TX10) (N := 8) hx hb hA zin_X10 hown hK hP 0 rfl rfl 0 (by decide) (hA _ wi_346) (fun _ h9 => h9) rfl dX10_readSign_60 ?_
    refine lv_aload_n hx hb dX10_readSign_63 rfl (lv_at hl 1 rfl) ?_
    refine va_get (D := (dC, dI)) (ci := 10) (v := .int z) (C := RX10) (T := TX10) (N := 8) hx hb hA zin_X10 hown hK hP 0 rfl rfl 3 (by decide) (hA _ wi_349) (fun _ h9 => h9) rfl dX10_readSign_64 ?_
    refine va_ldcS (tx := "(),=+-*<{}|;_") (q := aK 0) hx hb hown (hT.2.2.2.2.1 0 (by decide)) dX10_readSign_67 ?_
    refine lv_iload hx hb dX10_readSign_69 (lv_at hl 0 rfl) ?_
    refine lv_i2c hx hb dX10_readSign_71 rfl ?_
    refine lv_topi (fun x_5 ex_5 => ?_)
    have qx_5 : x_5 = x_2 := lx_i2c ex_5 (by omega) (by omega)
    have ix_5 : x_5.toInt = x_2.toInt := by rw [qx_5]
    have hPc := hP.sub (ws' := []) [] rfl
    have hDc := hD.sub (ws' := []) [] (by decide) rfl
    have hKc := hK.sub (tys' := []) [] rfl
    have hFc := va_free (wc := []) hD hS hAA [] rfl
    refine va_calli (va_runV (As := [.int x_5]) (rest := [.int z, .ref ts]) ⟨hx, hb, hml, hown, hA⟩ (c_J0_indexOf1_s l dC dI aK aV 0 x_5 H.size (by omega) (by omega) (by omega) (by decide)) (cwV 1 hA (zw_V wi_692 wi_693 wi_694 wi_149 (zw_good wi_695)) rfl rfl rfl (by decide +kernel) ⟨(Nat.le_of_ble_eq_true rfl), (Nat.le_of_ble_eq_true rfl)⟩) ⟨zP_blind, vk_recv hT.2.2.2.1 (by decide) hS, zz_pre hKc hPc hDc hN hT hS hFc⟩ rfl rfl hl.1 rfl (lv_room (Nat.le_of_ble_eq_true rfl)) dX10_readSign_72 ⟨(Nat.le_of_ble_eq_true rfl), (Nat.le_of_ble_eq_true rfl)⟩) hS (fun q _ h => hFc q h) hFc (fun r_6 u t H1 locs ht hvm hw hB hz1 hk1 hS => ?_)
    obtain ⟨hP1, hK1, hD1⟩ := hB
    rw [ht] at hP1
    have hK1 := va_K.moved hvm.symm hK1
    obtain ⟨hP, hD⟩ := va_join (wr := [(h0, .inr (10, [.ref ts, .ref tp, .ref tw, .int z, .int pa, .int so, .int pl, .long wd])), (ts, .inl (t1, 2001, .inl gs)), (tp, .inl (t2, 2001, .inl gp)), (tw, .inl (t3, 2001, .inr (.inl f_3))), (bt, .inl (bk, 2000, .inl gt))]) (w1 := []) hP hD [] [0, 1, 2, 3, 4] rfl rfl (by decide) (by decide) hk1 hFc hP1 hD1
    have hK := (hK.sub (tys' := [(t1, .int), (t2, .int), (t3, .long), (bk, .byte)]) [0, 1, 2, 3] rfl).app hK1
    generalize H1 = H at hP hS ⊢
    have hP : va_P (dC, dI) vwCl [(h0, .inr (10, [.ref ts, .ref tp, .ref tw, .int z, .int pa, .int so, .int pl, .long wd])), (ts, .inl (t1, 2001, .inl gs)), (tp, .inl (t2, 2001, .inl gp)), (tw, .inl (t3, 2001, .inr (.inl f_3))), (bt, .inl (bk, 2000, .inl gt))] H := hP
    have hD : va_D A [(h0, .inr (10, [.ref ts, .ref tp, .ref tw, .int z, .int pa, .int so, .int pl, .long wd])), (ts, .inl (t1, 2001, .inl gs)), (tp, .inl (t2, 2001, .inl gp)), (tw, .inl (t3, 2001, .inr (.inl f_3))), (bt, .inl (bk, 2000, .inl gt))] := hD
    have hK : va_K (dC, dI) vwCl [(t1, .int), (t2, .int), (t3, .long), (bk, .byte)] s := hK
    have hw_r_6 := hw
    try dsimp only at hw_r_6
    obtain ⟨hq_7, hq_8⟩ := hw
    refine lv_if_lt (tgt := 83) hx hb dX10_readSign_75 (by decide) (fun c_9 => ?_) (fun c_9 => ?_)
    · have ic_9 : r_6.toInt < 0 := zi_lt c_9
      refine lv_sipush (v := 257) hx hb dX10_readSign_83 (by decide) ?_
      refine va_iast hx hb hK hP hD hS 1 0 rfl rfl (vp_in_iff.mpr ⟨by omega, by omega⟩) dX10_readSign_86 (fun H locs hP hD hS => ?_)
      obtain ⟨f_10, ef_10⟩ : ∃ gz9 : Nat → Int32, gz9 = upd gs (Int32.toNatClampNeg z) 257 := ⟨_, rfl⟩
      rw [← ef_10] at hP hD
      have hP : va_P (dC, dI) vwCl [(h0, .inr (10, [.ref ts, .ref tp, .ref tw, .int z, .int pa, .int so, .int pl, .long wd])), (ts, .inl (t1, 2001, .inl f_10)), (tp, .inl (t2, 2001, .inl gp)), (tw, .inl (t3, 2001, .inr (.inl f_3))), (bt, .inl (bk, 2000, .inl gt))] H := hP
      have hD : va_D A [(h0, .inr (10, [.ref ts, .ref tp, .ref tw, .int z, .int pa, .int so, .int pl, .long wd])), (ts, .inl (t1, 2001, .inl f_10)), (tp, .inl (t2, 2001, .inl gp)), (tw, .inl (t3, 2001, .inr (.inl f_3))), (bt, .inl (bk, 2000, .inl gt))] := hD
      refine lv_iload_n hx hb dX10_readSign_87 rfl (lv_at hl 3 rfl) ?_
      refine lv_iconst (v := 1) hx hb dX10_readSign_88 (by decide) ?_
      refine lv_iadd hx hb dX10_readSign_89 ?_
      refine lv_topi (fun x_11 ex_11 => ?_)
      have ix_11 : x_11.toInt = fr.toInt + 1 := by rw [ex_11]; exact zi_addc (by decide) (by omega) (by omega)
      have hP9 := hP.sub (ws' := [(h0, .inr (10, [.ref ts, .ref tp, .ref tw, .int z, .int pa, .int so, .int pl, .long wd])), (ts, .inl (t1, 2001, .inl f_10)), (tp, .inl (t2, 2001, .inl gp)), (tw, .inl (t3, 2001, .inr (.inl f_3))), (bt, .inl (bk, 2000, .inl gt))]) [0, 1, 2, 3, 4] rfl
      have hD9 := hD.sub (ws' := [(h0, .inr (10, [.ref ts, .ref tp, .ref tw, .int z, .int pa, .int so, .int pl, .long wd])), (ts, .inl (t1, 2001, .inl f_10)), (tp, .inl (t2, 2001, .inl gp)), (tw, .inl (t3, 2001, .inr (.inl f_3))), (bt, .inl (bk, 2000, .inl gt))]) [0, 1, 2, 3, 4] (by decide) rfl
      have hK9 := hK.sub (tys' := [(t1, .int), (t2, .int), (t3, .long), (bk, .byte)]) [0, 1, 2, 3] rfl
      exact W.iret (v := x_11) hx hb hr (fun t ht hW => ⟨⟨x_11, (f_10, f_3), rfl, ⟨⟨_, _, ef_10, ef_3, ⟨by unfold lx_wb; omega, Or.inr ⟨(fun g => by have := g.1; have := g.2.1; omega), by have := zn_nat (x := x_11) (by omega); omega, Or.inr ⟨fun hs => (((lx_sg_ix (x := x_2) (by rw [← lx_i2c ex_5 (by omega) (by omega)]) (by omega) (by omega) hq_8)).elim (fun u => absurd u.1 (by omega)) (fun u => u.2 ((lx_sg_u (y := gt (Int32.toNatClampNeg fr)) (by omega) (hzb _).1).mpr hs))), by decide⟩⟩⟩⟩, by omega, by omega, ⟨_, ef_10, fun h => by have h9 : Int32.toInt 257 = 257 := (by decide); omega⟩⟩, by rw [ht]; exact hP9, va_K.moved hW.alike hK9, hD9⟩, hS.F ht⟩) hS.2.2 dX10_readSign_90
    · have ic_9 : 0 ≤ r_6.toInt := zi_nlt c_9
      refine lv_iload hx hb dX10_readSign_78 (lv_at hl 0 rfl) ?_
      refine lv_goto (tgt := 86) hx hb dX10_readSign_80 (by decide) ?_
      refine va_iast hx hb hK hP hD hS 1 0 rfl rfl (vp_in_iff.mpr ⟨by omega, by omega⟩) dX10_readSign_86 (fun H locs hP hD hS => ?_)
      obtain ⟨f_12, ef_12⟩ : ∃ gz9 : Nat → Int32, gz9 = upd gs (Int32.toNatClampNeg z) x_2 := ⟨_, rfl⟩
      rw [← ef_12] at hP hD
      have hP : va_P (dC, dI) vwCl [(h0, .inr (10, [.ref ts, .ref tp, .ref tw, .int z, .int pa, .int so, .int pl, .long wd])), (ts, .inl (t1, 2001, .inl f_12)), (tp, .inl (t2, 2001, .inl gp)), (tw, .inl (t3, 2001, .inr (.inl f_3))), (bt, .inl (bk, 2000, .inl gt))] H := hP
      have hD : va_D A [(h0, .inr (10, [.ref ts, .ref tp, .ref tw, .int z, .int pa, .int so, .int pl, .long wd])), (ts, .inl (t1, 2001, .inl f_12)), (tp, .inl (t2, 2001, .inl gp)), (tw, .inl (t3, 2001, .inr (.inl f_3))), (bt, .inl (bk, 2000, .inl gt))] := hD
      refine lv_iload_n hx hb dX10_readSign_87 rfl (lv_at hl 3 rfl) ?_
      refine lv_iconst (v := 1) hx hb dX10_readSign_88 (by decide) ?_
      refine lv_iadd hx hb dX10_readSign_89 ?_
      refine lv_topi (fun x_13 ex_13 => ?_)
      have ix_13 : x_13.toInt = fr.toInt + 1 := by rw [ex_13]; exact zi_addc (by decide) (by omega) (by omega)
      have hP9 := hP.sub (ws' := [(h0, .inr (10, [.ref ts, .ref tp, .ref tw, .int z, .int pa, .int so, .int pl, .long wd])), (ts, .inl (t1, 2001, .inl f_12)), (tp, .inl (t2, 2001, .inl gp)), (tw, .inl (t3, 2001, .inr (.inl f_3))), (bt, .inl (bk, 2000, .inl gt))]) [0, 1, 2, 3, 4] rfl
      have hD9 := hD.sub (ws' := [(h0, .inr (10, [.ref ts, .ref tp, .ref tw, .int z, .int pa, .int so, .int pl, .long wd])), (ts, .inl (t1, 2001, .inl f_12)), (tp, .inl (t2, 2001, .inl gp)), (tw, .inl (t3, 2001, .inr (.inl f_3))), (bt, .inl (bk, 2000, .inl gt))]) [0, 1, 2, 3, 4] (by decide) rfl
      have hK9 := hK.sub (tys' := [(t1, .int), (t2, .int), (t3, .long), (bk, .byte)]) [0, 1, 2, 3] rfl
      exact W.iret (v := x_13) hx hb hr (fun t ht hW => ⟨⟨x_13, (f_12, f_3), rfl, ⟨⟨_, _, ef_12, ef_3, ⟨by unfold lx_wb; omega, Or.inr ⟨(fun g => by have := g.1; have := g.2.1; omega), by have := zn_nat (x := x_13) (by omega); omega, Or.inl ⟨((lx_sg_ix (x := x_2) (by rw [← lx_i2c ex_5 (by omega) (by omega)]) (by omega) (by omega) hq_8)).elim (fun u => (lx_sg_u (y := gt (Int32.toNatClampNeg fr)) (by omega) (hzb _).1).mp u.2) (fun u => absurd u.1 (by omega)), (by have h8 : lx_sg x_2.toInt := ((lx_sg_ix (x := x_2) (by rw [← lx_i2c ex_5 (by omega) (by omega)]) (by omega) (by omega) hq_8)).elim (fun u => u.2) (fun u => absurd u.1 (by omega)); unfold lx_sg at h8; omega)⟩⟩⟩⟩, by omega, by omega, ⟨_, ef_12, fun h => by omega⟩⟩, by rw [ht]; exact hP9, va_K.moved hW.alike hK9, hD9⟩, hS.F ht⟩) hS.2.2 dX10_readSign_90
  · have ic_4 : x_2.toInt = 45 := zi_eq c_4
    refine lv_iload_n hx hb dX10_readSign_26 rfl (lv_at hl 3 rfl) ?_
    refine lv_iconst (v := 1) hx hb dX10_readSign_27 (by decide) ?_
    refine lv_iadd hx hb dX10_readSign_28 ?_
    refine lv_topi (fun x_14 ex_14 => ?_)
    have ix_14 : x_14.toInt = fr.toInt + 1 := by rw [ex_14]; exact zi_addc (by decide) (by omega) (by omega)
    refine lv_iload_n hx hb dX10_readSign_29 rfl (lv_at hl 4 rfl) ?_
    refine lv_icmp_ge (tgt := 59) hx hb dX10_readSign_30 (by decide) (fun c_15 => ?_) (fun c_15 => ?_)
    · have ic_15 : en.toInt ≤ x_14.toInt := zi_le c_15
      refine lv_aload_n hx hb dX10_readSign_59 rfl (lv_at hl 1 rfl) ?_
      refine va_get (D := (dC, dI)) (ci := 10) (v := .ref ts) (C := RX10) (T := TX10) (N := 8) hx hb hA zin_X10 hown hK hP 0 rfl rfl 0 (by decide) (hA _ wi_346) (fun _ h9 => h9) rfl dX10_readSign_60 ?_
      refine lv_aload_n hx hb dX10_readSign_63 rfl (lv_at hl 1 rfl) ?_
      refine va_get (D := (dC, dI)) (ci := 10) (v := .int z) (C := RX10) (T := TX10) (N := 8) hx hb hA zin_X10 hown hK hP 0 rfl rfl 3 (by decide) (hA _ wi_349) (fun _ h9 => h9) rfl dX10_readSign_64 ?_
      refine va_ldcS (tx := "(),=+-*<{}|;_") (q := aK 0) hx hb hown (hT.2.2.2.2.1 0 (by decide)) dX10_readSign_67 ?_
      refine lv_iload hx hb dX10_readSign_69 (lv_at hl 0 rfl) ?_
      refine lv_i2c hx hb dX10_readSign_71 rfl ?_
      refine lv_topi (fun x_16 ex_16 => ?_)
      have qx_16 : x_16 = x_2 := lx_i2c ex_16 (by omega) (by omega)
      have ix_16 : x_16.toInt = x_2.toInt := by rw [qx_16]
      have hPc := hP.sub (ws' := []) [] rfl
      have hDc := hD.sub (ws' := []) [] (by decide) rfl
      have hKc := hK.sub (tys' := []) [] rfl
      have hFc := va_free (wc := []) hD hS hAA [] rfl
      refine va_calli (va_runV (As := [.int x_16]) (rest := [.int z, .ref ts]) ⟨hx, hb, hml, hown, hA⟩ (c_J0_indexOf1_s l dC dI aK aV 0 x_16 H.size (by omega) (by omega) (by omega) (by decide)) (cwV 1 hA (zw_V wi_692 wi_693 wi_694 wi_149 (zw_good wi_695)) rfl rfl rfl (by decide +kernel) ⟨(Nat.le_of_ble_eq_true rfl), (Nat.le_of_ble_eq_true rfl)⟩) ⟨zP_blind, vk_recv hT.2.2.2.1 (by decide) hS, zz_pre hKc hPc hDc hN hT hS hFc⟩ rfl rfl hl.1 rfl (lv_room (Nat.le_of_ble_eq_true rfl)) dX10_readSign_72 ⟨(Nat.le_of_ble_eq_true rfl), (Nat.le_of_ble_eq_true rfl)⟩) hS (fun q _ h => hFc q h) hFc (fun r_17 u t H1 locs ht hvm hw hB hz1 hk1 hS => ?_)
      obtain ⟨hP1, hK1, hD1⟩ := hB
      rw [ht] at hP1
      have hK1 := va_K.moved hvm.symm hK1
      obtain ⟨hP, hD⟩ := va_join (wr := [(h0, .inr (10, [.ref ts, .ref tp, .ref tw, .int z, .int pa, .int so, .int pl, .long wd])), (ts, .inl (t1, 2001, .inl gs)), (tp, .inl (t2, 2001, .inl gp)), (tw, .inl (t3, 2001, .inr (.inl f_3))), (bt, .inl (bk, 2000, .inl gt))]) (w1 := []) hP hD [] [0, 1, 2, 3, 4] rfl rfl (by decide) (by decide) hk1 hFc hP1 hD1
      have hK := (hK.sub (tys' := [(t1, .int), (t2, .int), (t3, .long), (bk, .byte)]) [0, 1, 2, 3] rfl).app hK1
      generalize H1 = H at hP hS ⊢
      have hP : va_P (dC, dI) vwCl [(h0, .inr (10, [.ref ts, .ref tp, .ref tw, .int z, .int pa, .int so, .int pl, .long wd])), (ts, .inl (t1, 2001, .inl gs)), (tp, .inl (t2, 2001, .inl gp)), (tw, .inl (t3, 2001, .inr (.inl f_3))), (bt, .inl (bk, 2000, .inl gt))] H := hP
      have hD : va_D A [(h0, .inr (10, [.ref ts, .ref tp, .ref tw, .int z, .int pa, .int so, .int pl, .long wd])), (ts, .inl (t1, 2001, .inl gs)), (tp, .inl (t2, 2001, .inl gp)), (tw, .inl (t3, 2001, .inr (.inl f_3))), (bt, .inl (bk, 2000, .inl gt))] := hD
      have hK : va_K (dC, dI) vwCl [(t1, .int), (t2, .int), (t3, .long), (bk, .byte)] s := hK
      have hw_r_17 := hw
      try dsimp only at hw_r_17
      obtain ⟨hq_18, hq_19⟩ := hw
      refine lv_if_lt (tgt := 83) hx hb dX10_readSign_75 (by decide) (fun c_20 => ?_) (fun c_20 => ?_)
      · have ic_20 : r_17.toInt < 0 := zi_lt c_20
        refine lv_sipush (v := 257) hx hb dX10_readSign_83 (by decide) ?_
        refine va_iast hx hb hK hP hD hS 1 0 rfl rfl (vp_in_iff.mpr ⟨by omega, by omega⟩) dX10_readSign_86 (fun H locs hP hD hS => ?_)
        obtain ⟨f_21, ef_21⟩ : ∃ gz9 : Nat → Int32, gz9 = upd gs (Int32.toNatClampNeg z) 257 := ⟨_, rfl⟩
        rw [← ef_21] at hP hD
        have hP : va_P (dC, dI) vwCl [(h0, .inr (10, [.ref ts, .ref tp, .ref tw, .int z, .int pa, .int so, .int pl, .long wd])), (ts, .inl (t1, 2001, .inl f_21)), (tp, .inl (t2, 2001, .inl gp)), (tw, .inl (t3, 2001, .inr (.inl f_3))), (bt, .inl (bk, 2000, .inl gt))] H := hP
        have hD : va_D A [(h0, .inr (10, [.ref ts, .ref tp, .ref tw, .int z, .int pa, .int so, .int pl, .long wd])), (ts, .inl (t1, 2001, .inl f_21)), (tp, .inl (t2, 2001, .inl gp)), (tw, .inl (t3, 2001, .inr (.inl f_3))), (bt, .inl (bk, 2000, .inl gt))] := hD
        refine lv_iload_n hx hb dX10_readSign_87 rfl (lv_at hl 3 rfl) ?_
        refine lv_iconst (v := 1) hx hb dX10_readSign_88 (by decide) ?_
        refine lv_iadd hx hb dX10_readSign_89 ?_
        refine lv_topi (fun x_22 ex_22 => ?_)
        have ix_22 : x_22.toInt = fr.toInt + 1 := by rw [ex_22]; exact zi_addc (by decide) (by omega) (by omega)
        have hP9 := hP.sub (ws' := [(h0, .inr (10, [.ref ts, .ref tp, .ref tw, .int z, .int pa, .int so, .int pl, .long wd])), (ts, .inl (t1, 2001, .inl f_21)), (tp, .inl (t2, 2001, .inl gp)), (tw, .inl (t3, 2001, .inr (.inl f_3))), (bt, .inl (bk, 2000, .inl gt))]) [0, 1, 2, 3, 4] rfl
        have hD9 := hD.sub (ws' := [(h0, .inr (10, [.ref ts, .ref tp, .ref tw, .int z, .int pa, .int so, .int pl, .long wd])), (ts, .inl (t1, 2001, .inl f_21)), (tp, .inl (t2, 2001, .inl gp)), (tw, .inl (t3, 2001, .inr (.inl f_3))), (bt, .inl (bk, 2000, .inl gt))]) [0, 1, 2, 3, 4] (by decide) rfl
        have hK9 := hK.sub (tys' := [(t1, .int), (t2, .int), (t3, .long), (bk, .byte)]) [0, 1, 2, 3] rfl
        exact W.iret (v := x_22) hx hb hr (fun t ht hW => ⟨⟨x_22, (f_21, f_3), rfl, ⟨⟨_, _, ef_21, ef_3, ⟨by unfold lx_wb; omega, Or.inr ⟨(fun g => by have := g.1; have := g.2.1; omega), by have := zn_nat (x := x_22) (by omega); omega, Or.inr ⟨fun hs => (((lx_sg_ix (x := x_2) (by rw [← lx_i2c ex_16 (by omega) (by omega)]) (by omega) (by omega) hq_19)).elim (fun u => absurd u.1 (by omega)) (fun u => u.2 ((lx_sg_u (y := gt (Int32.toNatClampNeg fr)) (by omega) (hzb _).1).mpr hs))), by decide⟩⟩⟩⟩, by omega, by omega, ⟨_, ef_21, fun h => by have h9 : Int32.toInt 257 = 257 := (by decide); omega⟩⟩, by rw [ht]; exact hP9, va_K.moved hW.alike hK9, hD9⟩, hS.F ht⟩) hS.2.2 dX10_readSign_90
      · have ic_20 : 0 ≤ r_17.toInt := zi_nlt c_20
        refine lv_iload hx hb dX10_readSign_78 (lv_at hl 0 rfl) ?_
        refine lv_goto (tgt := 86) hx hb dX10_readSign_80 (by decide) ?_
        refine va_iast hx hb hK hP hD hS 1 0 rfl rfl (vp_in_iff.mpr ⟨by omega, by omega⟩) dX10_readSign_86 (fun H locs hP hD hS => ?_)
        obtain ⟨f_23, ef_23⟩ : ∃ gz9 : Nat → Int32, gz9 = upd gs (Int32.toNatClampNeg z) x_2 := ⟨_, rfl⟩
        rw [← ef_23] at hP hD
        have hP : va_P (dC, dI) vwCl [(h0, .inr (10, [.ref ts, .ref tp, .ref tw, .int z, .int pa, .int so, .int pl, .long wd])), (ts, .inl (t1, 2001, .inl f_23)), (tp, .inl (t2, 2001, .inl gp)), (tw, .inl (t3, 2001, .inr (.inl f_3))), (bt, .inl (bk, 2000, .inl gt))] H := hP
        have hD : va_D A [(h0, .inr (10, [.ref ts, .ref tp, .ref tw, .int z, .int pa, .int so, .int pl, .long wd])), (ts, .inl (t1, 2001, .inl f_23)), (tp, .inl (t2, 2001, .inl gp)), (tw, .inl (t3, 2001, .inr (.inl f_3))), (bt, .inl (bk, 2000, .inl gt))] := hD
        refine lv_iload_n hx hb dX10_readSign_87 rfl (lv_at hl 3 rfl) ?_
        refine lv_iconst (v := 1) hx hb dX10_readSign_88 (by decide) ?_
        refine lv_iadd hx hb dX10_readSign_89 ?_
        refine lv_topi (fun x_24 ex_24 => ?_)
        have ix_24 : x_24.toInt = fr.toInt + 1 := by rw [ex_24]; exact zi_addc (by decide) (by omega) (by omega)
        have hP9 := hP.sub (ws' := [(h0, .inr (10, [.ref ts, .ref tp, .ref tw, .int z, .int pa, .int so, .int pl, .long wd])), (ts, .inl (t1, 2001, .inl f_23)), (tp, .inl (t2, 2001, .inl gp)), (tw, .inl (t3, 2001, .inr (.inl f_3))), (bt, .inl (bk, 2000, .inl gt))]) [0, 1, 2, 3, 4] rfl
        have hD9 := hD.sub (ws' := [(h0, .inr (10, [.ref ts, .ref tp, .ref tw, .int z, .int pa, .int so, .int pl, .long wd])), (ts, .inl (t1, 2001, .inl f_23)), (tp, .inl (t2, 2001, .inl gp)), (tw, .inl (t3, 2001, .inr (.inl f_3))), (bt, .inl (bk, 2000, .inl gt))]) [0, 1, 2, 3, 4] (by decide) rfl
        have hK9 := hK.sub (tys' := [(t1, .int), (t2, .int), (t3, .long), (bk, .byte)]) [0, 1, 2, 3] rfl
        exact W.iret (v := x_24) hx hb hr (fun t ht hW => ⟨⟨x_24, (f_23, f_3), rfl, ⟨⟨_, _, ef_23, ef_3, ⟨by unfold lx_wb; omega, Or.inr ⟨(fun g => by have := g.1; have := g.2.1; omega), by have := zn_nat (x := x_24) (by omega); omega, Or.inl ⟨((lx_sg_ix (x := x_2) (by rw [← lx_i2c ex_16 (by omega) (by omega)]) (by omega) (by omega) hq_19)).elim (fun u => (lx_sg_u (y := gt (Int32.toNatClampNeg fr)) (by omega) (hzb _).1).mp u.2) (fun u => absurd u.1 (by omega)), (by have h8 : lx_sg x_2.toInt := ((lx_sg_ix (x := x_2) (by rw [← lx_i2c ex_16 (by omega) (by omega)]) (by omega) (by omega) hq_19)).elim (fun u => u.2) (fun u => absurd u.1 (by omega)); unfold lx_sg at h8; omega)⟩⟩⟩⟩, by omega, by omega, ⟨_, ef_23, fun h => by omega⟩⟩, by rw [ht]; exact hP9, va_K.moved hW.alike hK9, hD9⟩, hS.F ht⟩) hS.2.2 dX10_readSign_90
    · have ic_15 : x_14.toInt < en.toInt := zi_nle c_15
      refine lv_aload_n hx hb dX10_readSign_33 rfl (lv_at hl 2 rfl) ?_
      refine lv_iload_n hx hb dX10_readSign_34 rfl (lv_at hl 3 rfl) ?_
      refine lv_iconst (v := 1) hx hb dX10_readSign_35 (by decide) ?_
      refine lv_iadd hx hb dX10_readSign_36 ?_
      refine lv_topi (fun x_25 ex_25 => ?_)
      have ix_25 : x_25.toInt = fr.toInt + 1 := by rw [ex_25]; exact zi_addc (by decide) (by omega) (by omega)
      refine va_bald hx hb hK hP 4 3 rfl rfl (vp_in_iff.mpr ⟨by omega, by omega⟩) dX10_readSign_37 ?_
      refine lv_topi (fun x_26 ex_26 => ?_)
      have jx_26 : Int32.toNatClampNeg x_25 = Int32.toNatClampNeg fr + 1 := zn_1 (by omega) (by omega)
      have ix_26 : x_26.toInt = (gt (Int32.toNatClampNeg fr + 1)).toInt := by rw [ex_26, jx_26]
      refine lv_bipush (v := 62) hx hb dX10_readSign_38 (by decide) ?_
      refine lv_icmp_ne (tgt := 59) hx hb dX10_readSign_40 (by decide) (fun c_27 => ?_) (fun c_27 => ?_)
      · have ic_27 : x_26.toInt ≠ 62 := zi_ne c_27
        refine lv_aload_n hx hb dX10_readSign_59 rfl (lv_at hl 1 rfl) ?_
        refine va_get (D := (dC, dI)) (ci := 10) (v := .ref ts) (C := RX10) (T := TX10) (N := 8) hx hb hA zin_X10 hown hK hP 0 rfl rfl 0 (by decide) (hA _ wi_346) (fun _ h9 => h9) rfl dX10_readSign_60 ?_
        refine lv_aload_n hx hb dX10_readSign_63 rfl (lv_at hl 1 rfl) ?_
        refine va_get (D := (dC, dI)) (ci := 10) (v := .int z) (C := RX10) (T := TX10) (N := 8) hx hb hA zin_X10 hown hK hP 0 rfl rfl 3 (by decide) (hA _ wi_349) (fun _ h9 => h9) rfl dX10_readSign_64 ?_
        refine va_ldcS (tx := "(),=+-*<{}|;_") (q := aK 0) hx hb hown (hT.2.2.2.2.1 0 (by decide)) dX10_readSign_67 ?_
        refine lv_iload hx hb dX10_readSign_69 (lv_at hl 0 rfl) ?_
        refine lv_i2c hx hb dX10_readSign_71 rfl ?_
        refine lv_topi (fun x_28 ex_28 => ?_)
        have qx_28 : x_28 = x_2 := lx_i2c ex_28 (by omega) (by omega)
        have ix_28 : x_28.toInt = x_2.toInt := by rw [qx_28]
        have hPc := hP.sub (ws' := []) [] rfl
        have hDc := hD.sub (ws' := []) [] (by decide) rfl
        have hKc := hK.sub (tys' := []) [] rfl
        have hFc := va_free (wc := []) hD hS hAA [] rfl
        refine va_calli (va_runV (As := [.int x_28]) (rest := [.int z, .ref ts]) ⟨hx, hb, hml, hown, hA⟩ (c_J0_indexOf1_s l dC dI aK aV 0 x_28 H.size (by omega) (by omega) (by omega) (by decide)) (cwV 1 hA (zw_V wi_692 wi_693 wi_694 wi_149 (zw_good wi_695)) rfl rfl rfl (by decide +kernel) ⟨(Nat.le_of_ble_eq_true rfl), (Nat.le_of_ble_eq_true rfl)⟩) ⟨zP_blind, vk_recv hT.2.2.2.1 (by decide) hS, zz_pre hKc hPc hDc hN hT hS hFc⟩ rfl rfl hl.1 rfl (lv_room (Nat.le_of_ble_eq_true rfl)) dX10_readSign_72 ⟨(Nat.le_of_ble_eq_true rfl), (Nat.le_of_ble_eq_true rfl)⟩) hS (fun q _ h => hFc q h) hFc (fun r_29 u t H1 locs ht hvm hw hB hz1 hk1 hS => ?_)
        obtain ⟨hP1, hK1, hD1⟩ := hB
        rw [ht] at hP1
        have hK1 := va_K.moved hvm.symm hK1
        obtain ⟨hP, hD⟩ := va_join (wr := [(h0, .inr (10, [.ref ts, .ref tp, .ref tw, .int z, .int pa, .int so, .int pl, .long wd])), (ts, .inl (t1, 2001, .inl gs)), (tp, .inl (t2, 2001, .inl gp)), (tw, .inl (t3, 2001, .inr (.inl f_3))), (bt, .inl (bk, 2000, .inl gt))]) (w1 := []) hP hD [] [0, 1, 2, 3, 4] rfl rfl (by decide) (by decide) hk1 hFc hP1 hD1
        have hK := (hK.sub (tys' := [(t1, .int), (t2, .int), (t3, .long), (bk, .byte)]) [0, 1, 2, 3] rfl).app hK1
        generalize H1 = H at hP hS ⊢
        have hP : va_P (dC, dI) vwCl [(h0, .inr (10, [.ref ts, .ref tp, .ref tw, .int z, .int pa, .int so, .int pl, .long wd])), (ts, .inl (t1, 2001, .inl gs)), (tp, .inl (t2, 2001, .inl gp)), (tw, .inl (t3, 2001, .inr (.inl f_3))), (bt, .inl (bk, 2000, .inl gt))] H := hP
        have hD : va_D A [(h0, .inr (10, [.ref ts, .ref tp, .ref tw, .int z, .int pa, .int so, .int pl, .long wd])), (ts, .inl (t1, 2001, .inl gs)), (tp, .inl (t2, 2001, .inl gp)), (tw, .inl (t3, 2001, .inr (.inl f_3))), (bt, .inl (bk, 2000, .inl gt))] := hD
        have hK : va_K (dC, dI) vwCl [(t1, .int), (t2, .int), (t3, .long), (bk, .byte)] s := hK
        have hw_r_29 := hw
        try dsimp only at hw_r_29
        obtain ⟨hq_30, hq_31⟩ := hw
        refine lv_if_lt (tgt := 83) hx hb dX10_readSign_75 (by decide) (fun c_32 => ?_) (fun c_32 => ?_)
        · have ic_32 : r_29.toInt < 0 := zi_lt c_32
          refine lv_sipush (v := 257) hx hb dX10_readSign_83 (by decide) ?_
          refine va_iast hx hb hK hP hD hS 1 0 rfl rfl (vp_in_iff.mpr ⟨by omega, by omega⟩) dX10_readSign_86 (fun H locs hP hD hS => ?_)
          obtain ⟨f_33, ef_33⟩ : ∃ gz9 : Nat → Int32, gz9 = upd gs (Int32.toNatClampNeg z) 257 := ⟨_, rfl⟩
          rw [← ef_33] at hP hD
          have hP : va_P (dC, dI) vwCl [(h0, .inr (10, [.ref ts, .ref tp, .ref tw, .int z, .int pa, .int so, .int pl, .long wd])), (ts, .inl (t1, 2001, .inl f_33)), (tp, .inl (t2, 2001, .inl gp)), (tw, .inl (t3, 2001, .inr (.inl f_3))), (bt, .inl (bk, 2000, .inl gt))] H := hP
          have hD : va_D A [(h0, .inr (10, [.ref ts, .ref tp, .ref tw, .int z, .int pa, .int so, .int pl, .long wd])), (ts, .inl (t1, 2001, .inl f_33)), (tp, .inl (t2, 2001, .inl gp)), (tw, .inl (t3, 2001, .inr (.inl f_3))), (bt, .inl (bk, 2000, .inl gt))] := hD
          refine lv_iload_n hx hb dX10_readSign_87 rfl (lv_at hl 3 rfl) ?_
          refine lv_iconst (v := 1) hx hb dX10_readSign_88 (by decide) ?_
          refine lv_iadd hx hb dX10_readSign_89 ?_
          refine lv_topi (fun x_34 ex_34 => ?_)
          have ix_34 : x_34.toInt = fr.toInt + 1 := by rw [ex_34]; exact zi_addc (by decide) (by omega) (by omega)
          have hP9 := hP.sub (ws' := [(h0, .inr (10, [.ref ts, .ref tp, .ref tw, .int z, .int pa, .int so, .int pl, .long wd])), (ts, .inl (t1, 2001, .inl f_33)), (tp, .inl (t2, 2001, .inl gp)), (tw, .inl (t3, 2001, .inr (.inl f_3))), (bt, .inl (bk, 2000, .inl gt))]) [0, 1, 2, 3, 4] rfl
          have hD9 := hD.sub (ws' := [(h0, .inr (10, [.ref ts, .ref tp, .ref tw, .int z, .int pa, .int so, .int pl, .long wd])), (ts, .inl (t1, 2001, .inl f_33)), (tp, .inl (t2, 2001, .inl gp)), (tw, .inl (t3, 2001, .inr (.inl f_3))), (bt, .inl (bk, 2000, .inl gt))]) [0, 1, 2, 3, 4] (by decide) rfl
          have hK9 := hK.sub (tys' := [(t1, .int), (t2, .int), (t3, .long), (bk, .byte)]) [0, 1, 2, 3] rfl
          exact W.iret (v := x_34) hx hb hr (fun t ht hW => ⟨⟨x_34, (f_33, f_3), rfl, ⟨⟨_, _, ef_33, ef_3, ⟨by unfold lx_wb; omega, Or.inr ⟨(fun g => by have := g.1; have := g.2.1; have := g.2.2; omega), by have := zn_nat (x := x_34) (by omega); omega, Or.inr ⟨fun hs => (((lx_sg_ix (x := x_2) (by rw [← lx_i2c ex_28 (by omega) (by omega)]) (by omega) (by omega) hq_31)).elim (fun u => absurd u.1 (by omega)) (fun u => u.2 ((lx_sg_u (y := gt (Int32.toNatClampNeg fr)) (by omega) (hzb _).1).mpr hs))), by decide⟩⟩⟩⟩, by omega, by omega, ⟨_, ef_33, fun h => by have h9 : Int32.toInt 257 = 257 := (by decide); omega⟩⟩, by rw [ht]; exact hP9, va_K.moved hW.alike hK9, hD9⟩, hS.F ht⟩) hS.2.2 dX10_readSign_90
        · have ic_32 : 0 ≤ r_29.toInt := zi_nlt c_32
          refine lv_iload hx hb dX10_readSign_78 (lv_at hl 0 rfl) ?_
          refine lv_goto (tgt := 86) hx hb dX10_readSign_80 (by decide) ?_
          refine va_iast hx hb hK hP hD hS 1 0 rfl rfl (vp_in_iff.mpr ⟨by omega, by omega⟩) dX10_readSign_86 (fun H locs hP hD hS => ?_)
          obtain ⟨f_35, ef_35⟩ : ∃ gz9 : Nat → Int32, gz9 = upd gs (Int32.toNatClampNeg z) x_2 := ⟨_, rfl⟩
          rw [← ef_35] at hP hD
          have hP : va_P (dC, dI) vwCl [(h0, .inr (10, [.ref ts, .ref tp, .ref tw, .int z, .int pa, .int so, .int pl, .long wd])), (ts, .inl (t1, 2001, .inl f_35)), (tp, .inl (t2, 2001, .inl gp)), (tw, .inl (t3, 2001, .inr (.inl f_3))), (bt, .inl (bk, 2000, .inl gt))] H := hP
          have hD : va_D A [(h0, .inr (10, [.ref ts, .ref tp, .ref tw, .int z, .int pa, .int so, .int pl, .long wd])), (ts, .inl (t1, 2001, .inl f_35)), (tp, .inl (t2, 2001, .inl gp)), (tw, .inl (t3, 2001, .inr (.inl f_3))), (bt, .inl (bk, 2000, .inl gt))] := hD
          refine lv_iload_n hx hb dX10_readSign_87 rfl (lv_at hl 3 rfl) ?_
          refine lv_iconst (v := 1) hx hb dX10_readSign_88 (by decide) ?_
          refine lv_iadd hx hb dX10_readSign_89 ?_
          refine lv_topi (fun x_36 ex_36 => ?_)
          have ix_36 : x_36.toInt = fr.toInt + 1 := by rw [ex_36]; exact zi_addc (by decide) (by omega) (by omega)
          have hP9 := hP.sub (ws' := [(h0, .inr (10, [.ref ts, .ref tp, .ref tw, .int z, .int pa, .int so, .int pl, .long wd])), (ts, .inl (t1, 2001, .inl f_35)), (tp, .inl (t2, 2001, .inl gp)), (tw, .inl (t3, 2001, .inr (.inl f_3))), (bt, .inl (bk, 2000, .inl gt))]) [0, 1, 2, 3, 4] rfl
          have hD9 := hD.sub (ws' := [(h0, .inr (10, [.ref ts, .ref tp, .ref tw, .int z, .int pa, .int so, .int pl, .long wd])), (ts, .inl (t1, 2001, .inl f_35)), (tp, .inl (t2, 2001, .inl gp)), (tw, .inl (t3, 2001, .inr (.inl f_3))), (bt, .inl (bk, 2000, .inl gt))]) [0, 1, 2, 3, 4] (by decide) rfl
          have hK9 := hK.sub (tys' := [(t1, .int), (t2, .int), (t3, .long), (bk, .byte)]) [0, 1, 2, 3] rfl
          exact W.iret (v := x_36) hx hb hr (fun t ht hW => ⟨⟨x_36, (f_35, f_3), rfl, ⟨⟨_, _, ef_35, ef_3, ⟨by unfold lx_wb; omega, Or.inr ⟨(fun g => by have := g.1; have := g.2.1; have := g.2.2; omega), by have := zn_nat (x := x_36) (by omega); omega, Or.inl ⟨((lx_sg_ix (x := x_2) (by rw [← lx_i2c ex_28 (by omega) (by omega)]) (by omega) (by omega) hq_31)).elim (fun u => (lx_sg_u (y := gt (Int32.toNatClampNeg fr)) (by omega) (hzb _).1).mp u.2) (fun u => absurd u.1 (by omega)), (by have h8 : lx_sg x_2.toInt := ((lx_sg_ix (x := x_2) (by rw [← lx_i2c ex_28 (by omega) (by omega)]) (by omega) (by omega) hq_31)).elim (fun u => u.2) (fun u => absurd u.1 (by omega)); unfold lx_sg at h8; omega)⟩⟩⟩⟩, by omega, by omega, ⟨_, ef_35, fun h => by omega⟩⟩, by rw [ht]; exact hP9, va_K.moved hW.alike hK9, hD9⟩, hS.F ht⟩) hS.2.2 dX10_readSign_90
      · have ic_27 : x_26.toInt = 62 := zi_eq c_27
        refine lv_aload_n hx hb dX10_readSign_43 rfl (lv_at hl 1 rfl) ?_
        refine va_get (D := (dC, dI)) (ci := 10) (v := .ref ts) (C := RX10) (T := TX10) (N := 8) hx hb hA zin_X10 hown hK hP 0 rfl rfl 0 (by decide) (hA _ wi_346) (fun _ h9 => h9) rfl dX10_readSign_44 ?_
        refine lv_aload_n hx hb dX10_readSign_47 rfl (lv_at hl 1 rfl) ?_
        refine va_get (D := (dC, dI)) (ci := 10) (v := .int z) (C := RX10) (T := TX10) (N := 8) hx hb hA zin_X10 hown hK hP 0 rfl rfl 3 (by decide) (hA _ wi_349) (fun _ h9 => h9) rfl dX10_readSign_48 ?_
        refine lv_sipush (v := 261) hx hb dX10_readSign_51 (by decide) ?_
        refine va_iast hx hb hK hP hD hS 1 0 rfl rfl (vp_in_iff.mpr ⟨by omega, by omega⟩) dX10_readSign_54 (fun H locs hP hD hS => ?_)
        obtain ⟨f_37, ef_37⟩ : ∃ gz9 : Nat → Int32, gz9 = upd gs (Int32.toNatClampNeg z) 261 := ⟨_, rfl⟩
        rw [← ef_37] at hP hD
        have hP : va_P (dC, dI) vwCl [(h0, .inr (10, [.ref ts, .ref tp, .ref tw, .int z, .int pa, .int so, .int pl, .long wd])), (ts, .inl (t1, 2001, .inl f_37)), (tp, .inl (t2, 2001, .inl gp)), (tw, .inl (t3, 2001, .inr (.inl f_3))), (bt, .inl (bk, 2000, .inl gt))] H := hP
        have hD : va_D A [(h0, .inr (10, [.ref ts, .ref tp, .ref tw, .int z, .int pa, .int so, .int pl, .long wd])), (ts, .inl (t1, 2001, .inl f_37)), (tp, .inl (t2, 2001, .inl gp)), (tw, .inl (t3, 2001, .inr (.inl f_3))), (bt, .inl (bk, 2000, .inl gt))] := hD
        refine lv_iload_n hx hb dX10_readSign_55 rfl (lv_at hl 3 rfl) ?_
        refine lv_iconst (v := 2) hx hb dX10_readSign_56 (by decide) ?_
        refine lv_iadd hx hb dX10_readSign_57 ?_
        refine lv_topi (fun x_38 ex_38 => ?_)
        have ix_38 : x_38.toInt = fr.toInt + 2 := by rw [ex_38]; exact zi_addc (by decide) (by omega) (by omega)
        have hP9 := hP.sub (ws' := [(h0, .inr (10, [.ref ts, .ref tp, .ref tw, .int z, .int pa, .int so, .int pl, .long wd])), (ts, .inl (t1, 2001, .inl f_37)), (tp, .inl (t2, 2001, .inl gp)), (tw, .inl (t3, 2001, .inr (.inl f_3))), (bt, .inl (bk, 2000, .inl gt))]) [0, 1, 2, 3, 4] rfl
        have hD9 := hD.sub (ws' := [(h0, .inr (10, [.ref ts, .ref tp, .ref tw, .int z, .int pa, .int so, .int pl, .long wd])), (ts, .inl (t1, 2001, .inl f_37)), (tp, .inl (t2, 2001, .inl gp)), (tw, .inl (t3, 2001, .inr (.inl f_3))), (bt, .inl (bk, 2000, .inl gt))]) [0, 1, 2, 3, 4] (by decide) rfl
        have hK9 := hK.sub (tys' := [(t1, .int), (t2, .int), (t3, .long), (bk, .byte)]) [0, 1, 2, 3] rfl
        exact W.iret (v := x_38) hx hb hr (fun t ht hW => ⟨⟨x_38, (f_37, f_3), rfl, ⟨⟨_, _, ef_37, ef_3, ⟨by unfold lx_wb; omega, Or.inl ⟨⟨by omega, by omega, by omega⟩, by decide, by have := zn_nat (x := x_38) (by omega); omega⟩⟩⟩, by omega, by omega, ⟨_, ef_37, fun h => by have h9 : Int32.toInt 261 = 261 := (by decide); omega⟩⟩, by rw [ht]; exact hP9, va_K.moved hW.alike hK9, hD9⟩, hS.F ht⟩) hS.2.2 dX10_readSign_58
set_option maxHeartbeats 4000000 in
set_option maxRecDepth 100000 in
theorem c_X10_advance_0 (l : Launch) (dC : Nat → ClassId) (dI : Nat → Nat → Nat) (aK aV : Nat → Nat) (h0 : Nat) (ts : Nat) (tp : Nat) (tw : Nat) (t1 : ClassId) (t2 : ClassId) (t3 : ClassId) (z : Int32) (so : Int32) (pl : Int32) (wd : Int64) (gs : Nat → Int32) (gp : Nat → Int32) (gw : Nat → Int64) (sz : Nat) (hz0 : 0 ≤ z.toInt) (hz1 : z.toInt ≤ 2000) : Met l yX10_advance (Cond.code yX10_advance cX10_advance 1 none :: zw) ({ frames := 8, cells := 0, slots := 0, locals := 200 }) (va_Pc [.ref h0] (zP dC dI aK aV sz [(t1, .int), (t2, .int), (t3, .long)] [(h0, .inr (10, [.ref ts, .ref tp, .ref tw, .int z, .int (-1), .int so, .int pl, .long wd])), (ts, .inl (t1, 2001, .inl gs)), (tp, .inl (t2, 2001, .inl gp)), (tw, .inl (t3, 2001, .inr (.inl gw)))])) (va_Qv (fun u : Int32 × Int32 × Int32 × Int64 => match u with | (pa2, so2, pl2, wd2) => (pa2.toInt = 0) ∧ (so2 = gs (Int32.toNatClampNeg pa2)) ∧ (pl2 = gp (Int32.toNatClampNeg pa2)) ∧ (wd2 = gw (Int32.toNatClampNeg pa2))) (fun u => match u with | (pa2, so2, pl2, wd2) => zQ dC dI (va_A [(h0, .inr (10, [.ref ts, .ref tp, .ref tw, .int z, .int (-1), .int so, .int pl, .long wd])), (ts, .inl (t1, 2001, .inl gs)), (tp, .inl (t2, 2001, .inl gp)), (tw, .inl (t3, 2001, .inr (.inl gw)))] sz) [(t1, .int), (t2, .int), (t3, .long)] [(h0, .inr (10, [.ref ts, .ref tp, .ref tw, .int z, .int pa2, .int so2, .int pl2, .long wd2])), (ts, .inl (t1, 2001, .inl gs)), (tp, .inl (t2, 2001, .inl gp)), (tw, .inl (t3, 2001, .inr (.inl gw)))]) (va_A [(h0, .inr (10, [.ref ts, .ref tp, .ref tw, .int z, .int (-1), .int so, .int pl, .long wd])), (ts, .inl (t1, 2001, .inl gs)), (tp, .inl (t2, 2001, .inl gp)), (tw, .inl (t3, 2001, .inr (.inl gw)))] sz)) 0 0 (va_A [(h0, .inr (10, [.ref ts, .ref tp, .ref tw, .int z, .int (-1), .int so, .int pl, .long wd])), (ts, .inl (t1, 2001, .inl gs)), (tp, .inl (t2, 2001, .inl gp)), (tw, .inl (t3, 2001, .inr (.inl gw)))] sz) := by
  refine Met.ofW (cc := cX10_advance) (maxL := 1) (ret := none) (by decide) rfl ?_
  intro p e s m args below meth c s₁ B hml hv
  obtain ⟨rfl, hsz, hP, hK, hD0, hN, hT⟩ := hv
  have hx := B.exec
  have hb := B.bytes
  have hr := B.returns
  have hts := atoms_spec (ws := Cond.code yX10_advance cX10_advance 1 none :: zw) B.pre
  have hA : ∀ w ∈ zw, w.before _ s = true := fun w h => hts w (List.mem_cons_of_mem _ h)
  have hown : s.vm.findClass RX10 = some m.cls := findClass_of_methodNamed B.named
  have hlocks := B.notSynchronized
  subst hsz
  have hD := hD0.self (sz := s.heap.size)
  generalize hAe : va_A [(h0, .inr (10, [.ref ts, .ref tp, .ref tw, .int z, .int (-1), .int so, .int pl, .long wd])), (ts, .inl (t1, 2001, .inl gs)), (tp, .inl (t2, 2001, .inl gp)), (tw, .inl (t3, 2001, .inr (.inl gw)))] s.heap.size = A at hD hT ⊢
  have hAA : ∀ q : Nat, s.heap.size ≤ q → A q := fun q h => by rw [← hAe]; exact Or.inr h
  have hS : va_S A s.heap s.heap [] := va_S.rf
  have hl := lv_entry ([.ref h0]) (n := 1) (Nat.le_of_ble_eq_true rfl)
  rw [lg_entry_eq]
  generalize (lg_sl ([.ref h0]) ++ List.replicate (1 - (lg_sl ([.ref h0])).length) Slot.unset).toArray = ls at hl ⊢
  have hl : lv_has ls 1 [(0, .ref h0)] := hl
  refine lv_aload_n hx hb dX10_advance_0 rfl (lv_at hl 0 rfl) ?_
  refine lv_aload_n hx hb dX10_advance_1 rfl (lv_at hl 0 rfl) ?_
  refine va_get (D := (dC, dI)) (ci := 10) (v := .int (-1)) (C := RX10) (T := TX10) (N := 8) hx hb hA zin_X10 hown hK hP 0 rfl rfl 4 (by decide) (hA _ wi_350) (fun _ h9 => h9) rfl dX10_advance_2 ?_
  refine lv_iconst (v := 1) hx hb dX10_advance_5 (by decide) ?_
  refine lv_iadd hx hb dX10_advance_6 ?_
  refine lv_topi (fun x_1 ex_1 => ?_)
  obtain rfl : x_1 = 0 := ex_1.trans (by decide)
  refine lv_aload_n hx hb dX10_advance_7 rfl (lv_at hl 0 rfl) ?_
  refine va_get (D := (dC, dI)) (ci := 10) (v := .int z) (C := RX10) (T := TX10) (N := 8) hx hb hA zin_X10 hown hK hP 0 rfl rfl 3 (by decide) (hA _ wi_349) (fun _ h9 => h9) rfl dX10_advance_8 ?_
  refine va_mmin hx hb (by rw [hml]; exact hl.1.symm) hown (hA _ wi_657) (hA _ wi_658) (hA _ wi_141) (hA _ wi_659) (Nat.le_of_ble_eq_true rfl) (Nat.le_of_ble_eq_true rfl) (Nat.le_of_ble_eq_true rfl) (Nat.le_of_ble_eq_true rfl) dX10_advance_11 ?_
  refine lv_topi (fun x_2 ex_2 => ?_)
  have ix_2 : x_2.toInt ≤ 0 ∧ x_2.toInt ≤ z.toInt ∧ (x_2.toInt = 0 ∨ x_2.toInt = z.toInt) := zi_min ex_2 (by decide) rfl
  refine va_put (D := (dC, dI)) (ci := 10) (v := .int x_2) (ty := .int) (C := RX10) (T := TX10) (N := 8) hx hb hA zin_X10 tyX10 tyX10_ok nmX10 hown hK hP hD hS 0 rfl rfl 4 (by decide) (hA _ wi_350) (fun _ h9 => h9) rfl (by decide +kernel) rfl rfl (Nat.le_of_ble_eq_true rfl) dX10_advance_14 (fun H locs hP hD hS => ?_)
  have hP : va_P (dC, dI) vwCl [(h0, .inr (10, [.ref ts, .ref tp, .ref tw, .int z, .int x_2, .int so, .int pl, .long wd])), (ts, .inl (t1, 2001, .inl gs)), (tp, .inl (t2, 2001, .inl gp)), (tw, .inl (t3, 2001, .inr (.inl gw)))] H := hP
  have hD : va_D A [(h0, .inr (10, [.ref ts, .ref tp, .ref tw, .int z, .int x_2, .int so, .int pl, .long wd])), (ts, .inl (t1, 2001, .inl gs)), (tp, .inl (t2, 2001, .inl gp)), (tw, .inl (t3, 2001, .inr (.inl gw)))] := hD
  refine lv_aload_n hx hb dX10_advance_17 rfl (lv_at hl 0 rfl) ?_
  refine lv_aload_n hx hb dX10_advance_18 rfl (lv_at hl 0 rfl) ?_
  refine va_get (D := (dC, dI)) (ci := 10) (v := .ref ts) (C := RX10) (T := TX10) (N := 8) hx hb hA zin_X10 hown hK hP 0 rfl rfl 0 (by decide) (hA _ wi_346) (fun _ h9 => h9) rfl dX10_advance_19 ?_
  refine lv_aload_n hx hb dX10_advance_22 rfl (lv_at hl 0 rfl) ?_
  refine va_get (D := (dC, dI)) (ci := 10) (v := .int x_2) (C := RX10) (T := TX10) (N := 8) hx hb hA zin_X10 hown hK hP 0 rfl rfl 4 (by decide) (hA _ wi_350) (fun _ h9 => h9) rfl dX10_advance_23 ?_
  refine va_iald hx hb hK hP 1 0 rfl rfl (vp_in_iff.mpr ⟨by omega, by omega⟩) dX10_advance_26 ?_
  refine lv_topi (fun x_3 ex_3 => ?_)
  refine va_put (D := (dC, dI)) (ci := 10) (v := .int x_3) (ty := .int) (C := RX10) (T := TX10) (N := 8) hx hb hA zin_X10 tyX10 tyX10_ok nmX10 hown hK hP hD hS 0 rfl rfl 5 (by decide) (hA _ wi_352) (fun _ h9 => h9) rfl (by decide +kernel) rfl rfl (Nat.le_of_ble_eq_true rfl) dX10_advance_27 (fun H locs hP hD hS => ?_)
  have hP : va_P (dC, dI) vwCl [(h0, .inr (10, [.ref ts, .ref tp, .ref tw, .int z, .int x_2, .int x_3, .int pl, .long wd])), (ts, .inl (t1, 2001, .inl gs)), (tp, .inl (t2, 2001, .inl gp)), (tw, .inl (t3, 2001, .inr (.inl gw)))] H := hP
  have hD : va_D A [(h0, .inr (10, [.ref ts, .ref tp, .ref tw, .int z, .int x_2, .int x_3, .int pl, .long wd])), (ts, .inl (t1, 2001, .inl gs)), (tp, .inl (t2, 2001, .inl gp)), (tw, .inl (t3, 2001, .inr (.inl gw)))] := hD
  refine lv_aload_n hx hb dX10_advance_30 rfl (lv_at hl 0 rfl) ?_
  refine lv_aload_n hx hb dX10_advance_31 rfl (lv_at hl 0 rfl) ?_
  refine va_get (D := (dC, dI)) (ci := 10) (v := .ref tp) (C := RX10) (T := TX10) (N := 8) hx hb hA zin_X10 hown hK hP 0 rfl rfl 1 (by decide) (hA _ wi_347) (fun _ h9 => h9) rfl dX10_advance_32 ?_
  refine lv_aload_n hx hb dX10_advance_35 rfl (lv_at hl 0 rfl) ?_
  refine va_get (D := (dC, dI)) (ci := 10) (v := .int x_2) (C := RX10) (T := TX10) (N := 8) hx hb hA zin_X10 hown hK hP 0 rfl rfl 4 (by decide) (hA _ wi_350) (fun _ h9 => h9) rfl dX10_advance_36 ?_
  refine va_iald hx hb hK hP 2 1 rfl rfl (vp_in_iff.mpr ⟨by omega, by omega⟩) dX10_advance_39 ?_
  refine lv_topi (fun x_4 ex_4 => ?_)
  refine va_put (D := (dC, dI)) (ci := 10) (v := .int x_4) (ty := .int) (C := RX10) (T := TX10) (N := 8) hx hb hA zin_X10 tyX10 tyX10_ok nmX10 hown hK hP hD hS 0 rfl rfl 6 (by decide) (hA _ wi_354) (fun _ h9 => h9) rfl (by decide +kernel) rfl rfl (Nat.le_of_ble_eq_true rfl) dX10_advance_40 (fun H locs hP hD hS => ?_)
  have hP : va_P (dC, dI) vwCl [(h0, .inr (10, [.ref ts, .ref tp, .ref tw, .int z, .int x_2, .int x_3, .int x_4, .long wd])), (ts, .inl (t1, 2001, .inl gs)), (tp, .inl (t2, 2001, .inl gp)), (tw, .inl (t3, 2001, .inr (.inl gw)))] H := hP
  have hD : va_D A [(h0, .inr (10, [.ref ts, .ref tp, .ref tw, .int z, .int x_2, .int x_3, .int x_4, .long wd])), (ts, .inl (t1, 2001, .inl gs)), (tp, .inl (t2, 2001, .inl gp)), (tw, .inl (t3, 2001, .inr (.inl gw)))] := hD
  refine lv_aload_n hx hb dX10_advance_43 rfl (lv_at hl 0 rfl) ?_
  refine lv_aload_n hx hb dX10_advance_44 rfl (lv_at hl 0 rfl) ?_
  refine va_get (D := (dC, dI)) (ci := 10) (v := .ref tw) (C := RX10) (T := TX10) (N := 8) hx hb hA zin_X10 hown hK hP 0 rfl rfl 2 (by decide) (hA _ wi_348) (fun _ h9 => h9) rfl dX10_advance_45 ?_
  refine lv_aload_n hx hb dX10_advance_48 rfl (lv_at hl 0 rfl) ?_
  refine va_get (D := (dC, dI)) (ci := 10) (v := .int x_2) (C := RX10) (T := TX10) (N := 8) hx hb hA zin_X10 hown hK hP 0 rfl rfl 4 (by decide) (hA _ wi_350) (fun _ h9 => h9) rfl dX10_advance_49 ?_
  refine va_lald hx hb hK hP 3 2 rfl rfl (vp_in_iff.mpr ⟨by omega, by omega⟩) dX10_advance_52 ?_
  refine lv_topl (fun x_5 ex_5 => ?_)
  refine va_put (D := (dC, dI)) (ci := 10) (v := .long x_5) (ty := .long) (C := RX10) (T := TX10) (N := 8) hx hb hA zin_X10 tyX10 tyX10_ok nmX10 hown hK hP hD hS 0 rfl rfl 7 (by decide) (hA _ wi_356) (fun _ h9 => h9) rfl (by decide +kernel) rfl rfl (Nat.le_of_ble_eq_true rfl) dX10_advance_53 (fun H locs hP hD hS => ?_)
  have hP : va_P (dC, dI) vwCl [(h0, .inr (10, [.ref ts, .ref tp, .ref tw, .int z, .int x_2, .int x_3, .int x_4, .long x_5])), (ts, .inl (t1, 2001, .inl gs)), (tp, .inl (t2, 2001, .inl gp)), (tw, .inl (t3, 2001, .inr (.inl gw)))] H := hP
  have hD : va_D A [(h0, .inr (10, [.ref ts, .ref tp, .ref tw, .int z, .int x_2, .int x_3, .int x_4, .long x_5])), (ts, .inl (t1, 2001, .inl gs)), (tp, .inl (t2, 2001, .inl gp)), (tw, .inl (t3, 2001, .inr (.inl gw)))] := hD
  have hP9 := hP.sub (ws' := [(h0, .inr (10, [.ref ts, .ref tp, .ref tw, .int z, .int x_2, .int x_3, .int x_4, .long x_5])), (ts, .inl (t1, 2001, .inl gs)), (tp, .inl (t2, 2001, .inl gp)), (tw, .inl (t3, 2001, .inr (.inl gw)))]) [0, 1, 2, 3] rfl
  have hD9 := hD.sub (ws' := [(h0, .inr (10, [.ref ts, .ref tp, .ref tw, .int z, .int x_2, .int x_3, .int x_4, .long x_5])), (ts, .inl (t1, 2001, .inl gs)), (tp, .inl (t2, 2001, .inl gp)), (tw, .inl (t3, 2001, .inr (.inl gw)))]) [0, 1, 2, 3] (by decide) rfl
  have hK9 := hK.sub (tys' := [(t1, .int), (t2, .int), (t3, .long)]) [0, 1, 2] rfl
  exact W.vret hx hb hr (fun t ht hW => ⟨⟨(x_2, x_3, x_4, x_5), rfl, ⟨by omega, ex_3, ex_4, ex_5⟩, by rw [ht]; exact hP9, va_K.moved hW.alike hK9, hD9⟩, hS.F ht⟩) hS.2.2 dX10_advance_56
set_option maxHeartbeats 4000000 in
set_option maxRecDepth 100000 in
theorem c_X10_read_x (l : Launch) (dC : Nat → ClassId) (dI : Nat → Nat → Nat) (aK aV : Nat → Nat) (h0 : Nat) (ts : Nat) (tp : Nat) (tw : Nat) (t1 : ClassId) (t2 : ClassId) (t3 : ClassId) (z : Int32) (pa : Int32) (so : Int32) (pl : Int32) (wd : Int64) (gs : Nat → Int32) (gp : Nat → Int32) (gw : Nat → Int64) (bt : Nat) (bk : ClassId) (gt : Nat → Int32) (nn : Int32) (sz : Nat) (hzb : zb gt) (hnn0 : 0 ≤ nn.toInt) (hnn1 : nn.toInt ≤ 2000) : Met l yX10_read (Cond.code yX10_read cX10_read 7 none :: zw) ({ frames := 18, cells := 0, slots := 0, locals := 700 }) (va_Pc [.ref h0, .ref bt, .int nn] (zP dC dI aK aV sz [(t1, .int), (t2, .int), (t3, .long), (bk, .byte)] [(h0, .inr (10, [.ref ts, .ref tp, .ref tw, .int z, .int pa, .int so, .int pl, .long wd])), (ts, .inl (t1, 2001, .inl gs)), (tp, .inl (t2, 2001, .inl gp)), (tw, .inl (t3, 2001, .inr (.inl gw))), (bt, .inl (bk, 2000, .inl gt))])) (va_Qv (fun u : Int32 × Int32 × Int32 × Int32 × Int64 × (Nat → Int32) × (Nat → Int32) × (Nat → Int64) => match u with | (z2, pa2, so2, pl2, wd2, gs2, gp2, gw2) => (lx_al gt (Int32.toInt nn) gs2 gp2 gw2 z2) ∧ (sp_wd gw2 pa2 wd2) ∧ (0 ≤ z2.toInt) ∧ (z2.toInt ≤ 2000) ∧ (pa2.toInt = 0) ∧ (zpt gs2 gp2 z2 pa2 pl2 so2) ∧ (so2.toInt = 256 ∨ pa2.toInt < z2.toInt) ∧ (gs2 (Int32.toNatClampNeg z2) = 256)) (fun u => match u with | (z2, pa2, so2, pl2, wd2, gs2, gp2, gw2) => zQ dC dI (va_A [(h0, .inr (10, [.ref ts, .ref tp, .ref tw, .int z, .int pa, .int so, .int pl, .long wd])), (ts, .inl (t1, 2001, .inl gs)), (tp, .inl (t2, 2001, .inl gp)), (tw, .inl (t3, 2001, .inr (.inl gw))), (bt, .inl (bk, 2000, .inl gt))] sz) [(t1, .int), (t2, .int), (t3, .long), (bk, .byte)] [(h0, .inr (10, [.ref ts, .ref tp, .ref tw, .int z2, .int pa2, .int so2, .int pl2, .long wd2])), (ts, .inl (t1, 2001, .inl gs2)), (tp, .inl (t2, 2001, .inl gp2)), (tw, .inl (t3, 2001, .inr (.inl gw2))), (bt, .inl (bk, 2000, .inl gt))]) (va_A [(h0, .inr (10, [.ref ts, .ref tp, .ref tw, .int z, .int pa, .int so, .int pl, .long wd])), (ts, .inl (t1, 2001, .inl gs)), (tp, .inl (t2, 2001, .inl gp)), (tw, .inl (t3, 2001, .inr (.inl gw))), (bt, .inl (bk, 2000, .inl gt))] sz)) 0 0 (va_A [(h0, .inr (10, [.ref ts, .ref tp, .ref tw, .int z, .int pa, .int so, .int pl, .long wd])), (ts, .inl (t1, 2001, .inl gs)), (tp, .inl (t2, 2001, .inl gp)), (tw, .inl (t3, 2001, .inr (.inl gw))), (bt, .inl (bk, 2000, .inl gt))] sz) := by
  refine Met.ofW (cc := cX10_read) (maxL := 7) (ret := none) (by decide) rfl ?_
  intro p e s m args below meth c s₁ B hml hv
  obtain ⟨rfl, hsz, hP, hK, hD0, hN, hT⟩ := hv
  have hx := B.exec
  have hb := B.bytes
  have hr := B.returns
  have hts := atoms_spec (ws := Cond.code yX10_read cX10_read 7 none :: zw) B.pre
  have hA : ∀ w ∈ zw, w.before _ s = true := fun w h => hts w (List.mem_cons_of_mem _ h)
  have hown : s.vm.findClass RX10 = some m.cls := findClass_of_methodNamed B.named
  have hlocks := B.notSynchronized
  subst hsz
  have hD := hD0.self (sz := s.heap.size)
  generalize hAe : va_A [(h0, .inr (10, [.ref ts, .ref tp, .ref tw, .int z, .int pa, .int so, .int pl, .long wd])), (ts, .inl (t1, 2001, .inl gs)), (tp, .inl (t2, 2001, .inl gp)), (tw, .inl (t3, 2001, .inr (.inl gw))), (bt, .inl (bk, 2000, .inl gt))] s.heap.size = A at hD hT ⊢
  have hAA : ∀ q : Nat, s.heap.size ≤ q → A q := fun q h => by rw [← hAe]; exact Or.inr h
  have hS : va_S A s.heap s.heap [] := va_S.rf
  have hl := lv_entry ([.ref h0, .ref bt, .int nn]) (n := 7) (Nat.le_of_ble_eq_true rfl)
  rw [lg_entry_eq]
  generalize (lg_sl ([.ref h0, .ref bt, .int nn]) ++ List.replicate (7 - (lg_sl ([.ref h0, .ref bt, .int nn])).length) Slot.unset).toArray = ls at hl ⊢
  have hl : lv_has ls 7 [(0, .ref h0), (1, .ref bt), (2, .int nn)] := hl
  refine lv_iconst (v := 0) hx hb dX10_read_0 (by decide) ?_
  refine lv_iload_n hx hb dX10_read_1 rfl (lv_at hl 2 rfl) ?_
  refine lv_sipush (v := 2000) hx hb dX10_read_2 (by decide) ?_
  refine va_mmin hx hb (by rw [hml]; exact hl.1.symm) hown (hA _ wi_657) (hA _ wi_658) (hA _ wi_141) (hA _ wi_659) (Nat.le_of_ble_eq_true rfl) (Nat.le_of_ble_eq_true rfl) (Nat.le_of_ble_eq_true rfl) (Nat.le_of_ble_eq_true rfl) dX10_read_5 ?_
  refine lv_topi (fun x_1 ex_1 => ?_)
  have ix_1 : x_1.toInt ≤ nn.toInt ∧ x_1.toInt ≤ 2000 ∧ (x_1.toInt = nn.toInt ∨ x_1.toInt = 2000) := zi_min ex_1 rfl (by decide)
  refine va_mmax hx hb (by rw [hml]; exact hl.1.symm) hown (hA _ wi_660) (hA _ wi_431) (hA _ wi_141) (hA _ wi_432) (Nat.le_of_ble_eq_true rfl) (Nat.le_of_ble_eq_true rfl) (Nat.le_of_ble_eq_true rfl) (Nat.le_of_ble_eq_true rfl) dX10_read_8 ?_
  refine lv_topi (fun x_2 ex_2 => ?_)
  have ix_2 : x_2.toInt ≥ 0 ∧ x_2.toInt ≥ x_1.toInt ∧ (x_2.toInt = 0 ∨ x_2.toInt = x_1.toInt) := zi_max ex_2 (by decide) rfl
  refine lv_istore_n (lv' := [(3, .int x_2), (0, .ref h0), (1, .ref bt), (2, .int nn)]) hx hb dX10_read_11 rfl hl (by decide) rfl (fun ls hl => ?_)
  have hen9 : Int32.toInt x_2 = Int32.toInt nn := by omega
  refine lv_iconst (v := 0) hx hb dX10_read_12 (by decide) ?_
  refine lv_istore (lv' := [(4, .int 0), (3, .int x_2), (0, .ref h0), (1, .ref bt), (2, .int nn)]) hx hb dX10_read_13 hl (by decide) rfl (fun ls hl => ?_)
  refine lv_aload_n hx hb dX10_read_15 rfl (lv_at hl 2 rfl) ?_
  refine lv_iconst (v := 0) hx hb dX10_read_16 (by decide) ?_
  refine va_put (D := (dC, dI)) (ci := 10) (v := .int 0) (ty := .int) (C := RX10) (T := TX10) (N := 8) hx hb hA zin_X10 tyX10 tyX10_ok nmX10 hown hK hP hD hS 0 rfl rfl 3 (by decide) (hA _ wi_349) (fun _ h9 => h9) rfl (by decide +kernel) rfl rfl (Nat.le_of_ble_eq_true rfl) dX10_read_17 (fun H locs hP hD hS => ?_)
  have hP : va_P (dC, dI) vwCl [(h0, .inr (10, [.ref ts, .ref tp, .ref tw, .int 0, .int pa, .int so, .int pl, .long wd])), (ts, .inl (t1, 2001, .inl gs)), (tp, .inl (t2, 2001, .inl gp)), (tw, .inl (t3, 2001, .inr (.inl gw))), (bt, .inl (bk, 2000, .inl gt))] H := hP
  have hD : va_D A [(h0, .inr (10, [.ref ts, .ref tp, .ref tw, .int 0, .int pa, .int so, .int pl, .long wd])), (ts, .inl (t1, 2001, .inl gs)), (tp, .inl (t2, 2001, .inl gp)), (tw, .inl (t3, 2001, .inr (.inl gw))), (bt, .inl (bk, 2000, .inl gt))] := hD
  refine lv_iconst (v := 0) hx hb dX10_read_20 (by decide) ?_
  refine lv_istore (lv' := [(5, .int 0), (4, .int 0), (3, .int x_2), (0, .ref h0), (1, .ref bt), (2, .int nn)]) hx hb dX10_read_21 hl (by decide) rfl (fun ls hl => ?_)
  have loop_23 : ∀ (n9 : Nat) (fr : Int32) (i : Int32) (lz : Int32) (ls_ : Nat → Int32) (lp : Nat → Int32) (lw : Nat → Int64) (H : Heap) (locs : List Loc) (ls : Array Slot), (2000 - i.toInt + 1).toNat ≤ n9 → 0 ≤ fr.toInt → fr.toInt ≤ 2000 → fr.toInt ≤ x_2.toInt → 0 ≤ i.toInt → i.toInt ≤ 2000 → 0 ≤ lz.toInt → lz.toInt ≤ i.toInt → i.toInt ≤ fr.toInt → zpr ls_ lp (Int32.toInt lz) (Int32.toInt fr) → (∃ e, lx_to gt (Int32.toInt nn) ls_ lp lw (Int32.toNatClampNeg lz) (Int32.toNatClampNeg fr) e) → va_P (dC, dI) vwCl [(h0, .inr (10, [.ref ts, .ref tp, .ref tw, .int lz, .int pa, .int so, .int pl, .long wd])), (ts, .inl (t1, 2001, .inl ls_)), (tp, .inl (t2, 2001, .inl lp)), (tw, .inl (t3, 2001, .inr (.inl lw))), (bt, .inl (bk, 2000, .inl gt))] H → va_D A [(h0, .inr (10, [.ref ts, .ref tp, .ref tw, .int lz, .int pa, .int so, .int pl, .long wd])), (ts, .inl (t1, 2001, .inl ls_)), (tp, .inl (t2, 2001, .inl lp)), (tw, .inl (t3, 2001, .inr (.inl lw))), (bt, .inl (bk, 2000, .inl gt))] → va_S A s.heap H locs → lv_has ls 7 [(5, .int i), (4, .int fr), (3, .int x_2), (0, .ref h0), (1, .ref bt), (2, .int nn)] → W p l e (headSpec (Cond.code yX10_read cX10_read 7 none :: zw) ({ frames := 18, cells := 0, slots := 0, locals := 700 })).room s m #[.ref h0, .ref bt, .int nn] below meth c H locs 0 0 (MQ below (va_Qv (fun u : Int32 × Int32 × Int32 × Int32 × Int64 × (Nat → Int32) × (Nat → Int32) × (Nat → Int64) => match u with | (z2, pa2, so2, pl2, wd2, gs2, gp2, gw2) => (lx_al gt (Int32.toInt nn) gs2 gp2 gw2 z2) ∧ (sp_wd gw2 pa2 wd2) ∧ (0 ≤ z2.toInt) ∧ (z2.toInt ≤ 2000) ∧ (pa2.toInt = 0) ∧ (zpt gs2 gp2 z2 pa2 pl2 so2) ∧ (so2.toInt = 256 ∨ pa2.toInt < z2.toInt) ∧ (gs2 (Int32.toNatClampNeg z2) = 256)) (fun u => match u with | (z2, pa2, so2, pl2, wd2, gs2, gp2, gw2) => zQ dC dI A [(t1, .int), (t2, .int), (t3, .long), (bk, .byte)] [(h0, .inr (10, [.ref ts, .ref tp, .ref tw, .int z2, .int pa2, .int so2, .int pl2, .long wd2])), (ts, .inl (t1, 2001, .inl gs2)), (tp, .inl (t2, 2001, .inl gp2)), (tw, .inl (t3, 2001, .inr (.inl gw2))), (bt, .inl (bk, 2000, .inl gt))]) A) #[.ref h0, .ref bt, .int nn] s 0 0 A) (F0 m 23 ls []) := by
    intro n9
    induction n9 with
    | zero => intro fr i lz ls_ lp lw H locs ls hm hf0 hf1 hfe hi0 hi1 hz0 hz1 hif hzpr hlx; exfalso; omega
    | succ n9 ih =>
      intro fr i lz ls_ lp lw H locs ls hm hf0 hf1 hfe hi0 hi1 hz0 hz1 hif hzpr hlx hP hD hS hl
      refine lv_iload hx hb dX10_read_23 (lv_at hl 0 rfl) ?_
      refine lv_iload_n hx hb dX10_read_25 rfl (lv_at hl 2 rfl) ?_
      refine lv_icmp_ge (tgt := 121) hx hb dX10_read_26 (by decide) (fun c_3 => ?_) (fun c_3 => ?_)
      · have ic_3 : x_2.toInt ≤ i.toInt := zi_le c_3
        refine lv_aload_n hx hb dX10_read_121 rfl (lv_at hl 3 rfl) ?_
        refine va_get (D := (dC, dI)) (ci := 10) (v := .ref ts) (C := RX10) (T := TX10) (N := 8) hx hb hA zin_X10 hown hK hP 0 rfl rfl 0 (by decide) (hA _ wi_346) (fun _ h9 => h9) rfl dX10_read_122 ?_
        refine lv_aload_n hx hb dX10_read_125 rfl (lv_at hl 3 rfl) ?_
        refine va_get (D := (dC, dI)) (ci := 10) (v := .int lz) (C := RX10) (T := TX10) (N := 8) hx hb hA zin_X10 hown hK hP 0 rfl rfl 3 (by decide) (hA _ wi_349) (fun _ h9 => h9) rfl dX10_read_126 ?_
        refine lv_sipush (v := 256) hx hb dX10_read_129 (by decide) ?_
        refine va_iast hx hb hK hP hD hS 1 0 rfl rfl (vp_in_iff.mpr ⟨by omega, by omega⟩) dX10_read_132 (fun H locs hP hD hS => ?_)
        obtain ⟨f_4, ef_4⟩ : ∃ gz9 : Nat → Int32, gz9 = upd ls_ (Int32.toNatClampNeg lz) 256 := ⟨_, rfl⟩
        rw [← ef_4] at hP hD
        have hP : va_P (dC, dI) vwCl [(h0, .inr (10, [.ref ts, .ref tp, .ref tw, .int lz, .int pa, .int so, .int pl, .long wd])), (ts, .inl (t1, 2001, .inl f_4)), (tp, .inl (t2, 2001, .inl lp)), (tw, .inl (t3, 2001, .inr (.inl lw))), (bt, .inl (bk, 2000, .inl gt))] H := hP
        have hD : va_D A [(h0, .inr (10, [.ref ts, .ref tp, .ref tw, .int lz, .int pa, .int so, .int pl, .long wd])), (ts, .inl (t1, 2001, .inl f_4)), (tp, .inl (t2, 2001, .inl lp)), (tw, .inl (t3, 2001, .inr (.inl lw))), (bt, .inl (bk, 2000, .inl gt))] := hD
        refine lv_aload_n hx hb dX10_read_133 rfl (lv_at hl 3 rfl) ?_
        refine va_get (D := (dC, dI)) (ci := 10) (v := .ref tp) (C := RX10) (T := TX10) (N := 8) hx hb hA zin_X10 hown hK hP 0 rfl rfl 1 (by decide) (hA _ wi_347) (fun _ h9 => h9) rfl dX10_read_134 ?_
        refine lv_aload_n hx hb dX10_read_137 rfl (lv_at hl 3 rfl) ?_
        refine va_get (D := (dC, dI)) (ci := 10) (v := .int lz) (C := RX10) (T := TX10) (N := 8) hx hb hA zin_X10 hown hK hP 0 rfl rfl 3 (by decide) (hA _ wi_349) (fun _ h9 => h9) rfl dX10_read_138 ?_
        refine lv_iload_n hx hb dX10_read_141 rfl (lv_at hl 2 rfl) ?_
        refine va_iast hx hb hK hP hD hS 2 1 rfl rfl (vp_in_iff.mpr ⟨by omega, by omega⟩) dX10_read_142 (fun H locs hP hD hS => ?_)
        obtain ⟨f_5, ef_5⟩ : ∃ gz9 : Nat → Int32, gz9 = upd lp (Int32.toNatClampNeg lz) x_2 := ⟨_, rfl⟩
        rw [← ef_5] at hP hD
        have hP : va_P (dC, dI) vwCl [(h0, .inr (10, [.ref ts, .ref tp, .ref tw, .int lz, .int pa, .int so, .int pl, .long wd])), (ts, .inl (t1, 2001, .inl f_4)), (tp, .inl (t2, 2001, .inl f_5)), (tw, .inl (t3, 2001, .inr (.inl lw))), (bt, .inl (bk, 2000, .inl gt))] H := hP
        have hD : va_D A [(h0, .inr (10, [.ref ts, .ref tp, .ref tw, .int lz, .int pa, .int so, .int pl, .long wd])), (ts, .inl (t1, 2001, .inl f_4)), (tp, .inl (t2, 2001, .inl f_5)), (tw, .inl (t3, 2001, .inr (.inl lw))), (bt, .inl (bk, 2000, .inl gt))] := hD
        have hzpl : zpl f_4 f_5 lz := zpl_end hzpr (by omega) (by omega) (by omega) (by omega) ef_4 ef_5
        refine lv_aload_n hx hb dX10_read_143 rfl (lv_at hl 3 rfl) ?_
        refine va_get (D := (dC, dI)) (ci := 10) (v := .ref tw) (C := RX10) (T := TX10) (N := 8) hx hb hA zin_X10 hown hK hP 0 rfl rfl 2 (by decide) (hA _ wi_348) (fun _ h9 => h9) rfl dX10_read_144 ?_
        refine lv_aload_n hx hb dX10_read_147 rfl (lv_at hl 3 rfl) ?_
        refine va_get (D := (dC, dI)) (ci := 10) (v := .int lz) (C := RX10) (T := TX10) (N := 8) hx hb hA zin_X10 hown hK hP 0 rfl rfl 3 (by decide) (hA _ wi_349) (fun _ h9 => h9) rfl dX10_read_148 ?_
        refine lv_lconst (v := 0) hx hb dX10_read_151 (by decide) ?_
        refine va_last hx hb hK hP hD hS 3 2 rfl rfl (vp_in_iff.mpr ⟨by omega, by omega⟩) dX10_read_152 (fun H locs hP hD hS => ?_)
        obtain ⟨f_6, ef_6⟩ : ∃ gz9 : Nat → Int64, gz9 = vp_updL lw (Int32.toNatClampNeg lz) 0 := ⟨_, rfl⟩
        rw [← ef_6] at hP hD
        have hP : va_P (dC, dI) vwCl [(h0, .inr (10, [.ref ts, .ref tp, .ref tw, .int lz, .int pa, .int so, .int pl, .long wd])), (ts, .inl (t1, 2001, .inl f_4)), (tp, .inl (t2, 2001, .inl f_5)), (tw, .inl (t3, 2001, .inr (.inl f_6))), (bt, .inl (bk, 2000, .inl gt))] H := hP
        have hD : va_D A [(h0, .inr (10, [.ref ts, .ref tp, .ref tw, .int lz, .int pa, .int so, .int pl, .long wd])), (ts, .inl (t1, 2001, .inl f_4)), (tp, .inl (t2, 2001, .inl f_5)), (tw, .inl (t3, 2001, .inr (.inl f_6))), (bt, .inl (bk, 2000, .inl gt))] := hD
        have hal9 : lx_al gt (Int32.toInt nn) f_4 f_5 f_6 lz := lx_al_mk hlx (by omega) (by omega) (by omega) (by omega) ef_4 ef_5 (by omega) ef_6
        refine lv_aload_n hx hb dX10_read_153 rfl (lv_at hl 3 rfl) ?_
        refine lv_iconst (v := (-1)) hx hb dX10_read_154 (by decide) ?_
        refine va_put (D := (dC, dI)) (ci := 10) (v := .int (-1)) (ty := .int) (C := RX10) (T := TX10) (N := 8) hx hb hA zin_X10 tyX10 tyX10_ok nmX10 hown hK hP hD hS 0 rfl rfl 4 (by decide) (hA _ wi_350) (fun _ h9 => h9) rfl (by decide +kernel) rfl rfl (Nat.le_of_ble_eq_true rfl) dX10_read_155 (fun H locs hP hD hS => ?_)
        have hP : va_P (dC, dI) vwCl [(h0, .inr (10, [.ref ts, .ref tp, .ref tw, .int lz, .int (-1), .int so, .int pl, .long wd])), (ts, .inl (t1, 2001, .inl f_4)), (tp, .inl (t2, 2001, .inl f_5)), (tw, .inl (t3, 2001, .inr (.inl f_6))), (bt, .inl (bk, 2000, .inl gt))] H := hP
        have hD : va_D A [(h0, .inr (10, [.ref ts, .ref tp, .ref tw, .int lz, .int (-1), .int so, .int pl, .long wd])), (ts, .inl (t1, 2001, .inl f_4)), (tp, .inl (t2, 2001, .inl f_5)), (tw, .inl (t3, 2001, .inr (.inl f_6))), (bt, .inl (bk, 2000, .inl gt))] := hD
        refine lv_aload_n hx hb dX10_read_158 rfl (lv_at hl 3 rfl) ?_
        have hPc := hP.sub (ws' := [(h0, .inr (10, [.ref ts, .ref tp, .ref tw, .int lz, .int (-1), .int so, .int pl, .long wd])), (ts, .inl (t1, 2001, .inl f_4)), (tp, .inl (t2, 2001, .inl f_5)), (tw, .inl (t3, 2001, .inr (.inl f_6)))]) [0, 1, 2, 3] rfl
        have hDc := hD.sub (ws' := [(h0, .inr (10, [.ref ts, .ref tp, .ref tw, .int lz, .int (-1), .int so, .int pl, .long wd])), (ts, .inl (t1, 2001, .inl f_4)), (tp, .inl (t2, 2001, .inl f_5)), (tw, .inl (t3, 2001, .inr (.inl f_6)))]) [0, 1, 2, 3] (by decide) rfl
        have hKc := hK.sub (tys' := [(t1, .int), (t2, .int), (t3, .long)]) [0, 1, 2] rfl
        have hFc := va_free (wc := [(h0, .inr (10, [.ref ts, .ref tp, .ref tw, .int lz, .int (-1), .int so, .int pl, .long wd])), (ts, .inl (t1, 2001, .inl f_4)), (tp, .inl (t2, 2001, .inl f_5)), (tw, .inl (t3, 2001, .inr (.inl f_6)))]) hD hS hAA [0, 1, 2, 3] rfl
        refine va_callv (va_runV (As := []) (rest := []) ⟨hx, hb, hml, hown, hA⟩ (c_X10_advance_0 l dC dI aK aV h0 ts tp tw t1 t2 t3 lz so pl wd f_4 f_5 f_6 H.size (by omega) (by omega)) (cwV 0 hA (zw_V wi_774 wi_775 wi_776 wi_137 (zw_good wi_777)) rfl rfl rfl (by decide +kernel) ⟨(Nat.le_of_ble_eq_true rfl), (Nat.le_of_ble_eq_true rfl)⟩) ⟨zP_blind, va_recv hKc hPc (ci := 10) (q0 := 0) rfl rfl, zz_pre hKc hPc hDc hN hT hS hFc⟩ rfl rfl hl.1 rfl (lv_room (Nat.le_of_ble_eq_true rfl)) dX10_read_159 ⟨(Nat.le_of_ble_eq_true rfl), (Nat.le_of_ble_eq_true rfl)⟩) hS (fun q _ h => hFc q h) hFc (fun u t H1 locs ht hvm hw hB hz1 hk1 hS => ?_)
        obtain ⟨pa_8, so_9, pl_10, wd_11⟩ := u
        obtain ⟨hP1, hK1, hD1⟩ := hB
        rw [ht] at hP1
        have hK1 := va_K.moved hvm.symm hK1
        obtain ⟨hP, hD⟩ := va_join (wr := [(bt, .inl (bk, 2000, .inl gt))]) (w1 := [(h0, .inr (10, [.ref ts, .ref tp, .ref tw, .int lz, .int pa_8, .int so_9, .int pl_10, .long wd_11])), (ts, .inl (t1, 2001, .inl f_4)), (tp, .inl (t2, 2001, .inl f_5)), (tw, .inl (t3, 2001, .inr (.inl f_6)))]) hP hD [0, 1, 2, 3] [4] rfl rfl (by decide) (by decide) hk1 hFc hP1 hD1
        have hK := (hK.sub (tys' := [(bk, .byte)]) [3] rfl).app hK1
        generalize H1 = H at hP hS ⊢
        have hP : va_P (dC, dI) vwCl [(bt, .inl (bk, 2000, .inl gt)), (h0, .inr (10, [.ref ts, .ref tp, .ref tw, .int lz, .int pa_8, .int so_9, .int pl_10, .long wd_11])), (ts, .inl (t1, 2001, .inl f_4)), (tp, .inl (t2, 2001, .inl f_5)), (tw, .inl (t3, 2001, .inr (.inl f_6)))] H := hP
        have hD : va_D A [(bt, .inl (bk, 2000, .inl gt)), (h0, .inr (10, [.ref ts, .ref tp, .ref tw, .int lz, .int pa_8, .int so_9, .int pl_10, .long wd_11])), (ts, .inl (t1, 2001, .inl f_4)), (tp, .inl (t2, 2001, .inl f_5)), (tw, .inl (t3, 2001, .inr (.inl f_6)))] := hD
        have hK : va_K (dC, dI) vwCl [(bk, .byte), (t1, .int), (t2, .int), (t3, .long)] s := hK
        obtain ⟨hq_12, hq_13, hq_14, hq_15⟩ := hw
        have hpt9 : zpt f_4 f_5 lz pa_8 pl_10 so_9 := ⟨hzpl, hq_14, hq_13⟩
        have hgz9 : f_4 (Int32.toNatClampNeg lz) = 256 := hzpl.2.2.2
        have hwd9 : sp_wd f_6 pa_8 wd_11 := hq_15
        have hP9 := hP.sub (ws' := [(h0, .inr (10, [.ref ts, .ref tp, .ref tw, .int lz, .int pa_8, .int so_9, .int pl_10, .long wd_11])), (ts, .inl (t1, 2001, .inl f_4)), (tp, .inl (t2, 2001, .inl f_5)), (tw, .inl (t3, 2001, .inr (.inl f_6))), (bt, .inl (bk, 2000, .inl gt))]) [1, 2, 3, 4, 0] rfl
        have hD9 := hD.sub (ws' := [(h0, .inr (10, [.ref ts, .ref tp, .ref tw, .int lz, .int pa_8, .int so_9, .int pl_10, .long wd_11])), (ts, .inl (t1, 2001, .inl f_4)), (tp, .inl (t2, 2001, .inl f_5)), (tw, .inl (t3, 2001, .inr (.inl f_6))), (bt, .inl (bk, 2000, .inl gt))]) [1, 2, 3, 4, 0] (by decide) rfl
        have hK9 := hK.sub (tys' := [(t1, .int), (t2, .int), (t3, .long), (bk, .byte)]) [1, 2, 3, 0] rfl
        exact W.vret hx hb hr (fun t ht hW => ⟨⟨(lz, pa_8, so_9, pl_10, wd_11, f_4, f_5, f_6), rfl, ⟨hal9, hwd9, by omega, by omega, by omega, hpt9, zt_adv hq_13 hgz9 (by omega), hgz9⟩, by rw [ht]; exact hP9, va_K.moved hW.alike hK9, hD9⟩, hS.F ht⟩) hS.2.2 dX10_read_162
      · have ic_3 : i.toInt < x_2.toInt := zi_nle c_3
        refine lv_iload hx hb dX10_read_29 (lv_at hl 1 rfl) ?_
        refine lv_iload_n hx hb dX10_read_31 rfl (lv_at hl 2 rfl) ?_
        refine lv_icmp_ge (tgt := 121) hx hb dX10_read_32 (by decide) (fun c_16 => ?_) (fun c_16 => ?_)
        · have ic_16 : x_2.toInt ≤ fr.toInt := zi_le c_16
          refine lv_aload_n hx hb dX10_read_121 rfl (lv_at hl 3 rfl) ?_
          refine va_get (D := (dC, dI)) (ci := 10) (v := .ref ts) (C := RX10) (T := TX10) (N := 8) hx hb hA zin_X10 hown hK hP 0 rfl rfl 0 (by decide) (hA _ wi_346) (fun _ h9 => h9) rfl dX10_read_122 ?_
          refine lv_aload_n hx hb dX10_read_125 rfl (lv_at hl 3 rfl) ?_
          refine va_get (D := (dC, dI)) (ci := 10) (v := .int lz) (C := RX10) (T := TX10) (N := 8) hx hb hA zin_X10 hown hK hP 0 rfl rfl 3 (by decide) (hA _ wi_349) (fun _ h9 => h9) rfl dX10_read_126 ?_
          refine lv_sipush (v := 256) hx hb dX10_read_129 (by decide) ?_
          refine va_iast hx hb hK hP hD hS 1 0 rfl rfl (vp_in_iff.mpr ⟨by omega, by omega⟩) dX10_read_132 (fun H locs hP hD hS => ?_)
          obtain ⟨f_17, ef_17⟩ : ∃ gz9 : Nat → Int32, gz9 = upd ls_ (Int32.toNatClampNeg lz) 256 := ⟨_, rfl⟩
          rw [← ef_17] at hP hD
          have hP : va_P (dC, dI) vwCl [(h0, .inr (10, [.ref ts, .ref tp, .ref tw, .int lz, .int pa, .int so, .int pl, .long wd])), (ts, .inl (t1, 2001, .inl f_17)), (tp, .inl (t2, 2001, .inl lp)), (tw, .inl (t3, 2001, .inr (.inl lw))), (bt, .inl (bk, 2000, .inl gt))] H := hP
          have hD : va_D A [(h0, .inr (10, [.ref ts, .ref tp, .ref tw, .int lz, .int pa, .int so, .int pl, .long wd])), (ts, .inl (t1, 2001, .inl f_17)), (tp, .inl (t2, 2001, .inl lp)), (tw, .inl (t3, 2001, .inr (.inl lw))), (bt, .inl (bk, 2000, .inl gt))] := hD
          refine lv_aload_n hx hb dX10_read_133 rfl (lv_at hl 3 rfl) ?_
          refine va_get (D := (dC, dI)) (ci := 10) (v := .ref tp) (C := RX10) (T := TX10) (N := 8) hx hb hA zin_X10 hown hK hP 0 rfl rfl 1 (by decide) (hA _ wi_347) (fun _ h9 => h9) rfl dX10_read_134 ?_
          refine lv_aload_n hx hb dX10_read_137 rfl (lv_at hl 3 rfl) ?_
          refine va_get (D := (dC, dI)) (ci := 10) (v := .int lz) (C := RX10) (T := TX10) (N := 8) hx hb hA zin_X10 hown hK hP 0 rfl rfl 3 (by decide) (hA _ wi_349) (fun _ h9 => h9) rfl dX10_read_138 ?_
          refine lv_iload_n hx hb dX10_read_141 rfl (lv_at hl 2 rfl) ?_
          refine va_iast hx hb hK hP hD hS 2 1 rfl rfl (vp_in_iff.mpr ⟨by omega, by omega⟩) dX10_read_142 (fun H locs hP hD hS => ?_)
          obtain ⟨f_18, ef_18⟩ : ∃ gz9 : Nat → Int32, gz9 = upd lp (Int32.toNatClampNeg lz) x_2 := ⟨_, rfl⟩
          rw [← ef_18] at hP hD
          have hP : va_P (dC, dI) vwCl [(h0, .inr (10, [.ref ts, .ref tp, .ref tw, .int lz, .int pa, .int so, .int pl, .long wd])), (ts, .inl (t1, 2001, .inl f_17)), (tp, .inl (t2, 2001, .inl f_18)), (tw, .inl (t3, 2001, .inr (.inl lw))), (bt, .inl (bk, 2000, .inl gt))] H := hP
          have hD : va_D A [(h0, .inr (10, [.ref ts, .ref tp, .ref tw, .int lz, .int pa, .int so, .int pl, .long wd])), (ts, .inl (t1, 2001, .inl f_17)), (tp, .inl (t2, 2001, .inl f_18)), (tw, .inl (t3, 2001, .inr (.inl lw))), (bt, .inl (bk, 2000, .inl gt))] := hD
          have hzpl : zpl f_17 f_18 lz := zpl_end hzpr (by omega) (by omega) (by omega) (by omega) ef_17 ef_18
          refine lv_aload_n hx hb dX10_read_143 rfl (lv_at hl 3 rfl) ?_
          refine va_get (D := (dC, dI)) (ci := 10) (v := .ref tw) (C := RX10) (T := TX10) (N := 8) hx hb hA zin_X10 hown hK hP 0 rfl rfl 2 (by decide) (hA _ wi_348) (fun _ h9 => h9) rfl dX10_read_144 ?_
          refine lv_aload_n hx hb dX10_read_147 rfl (lv_at hl 3 rfl) ?_
          refine va_get (D := (dC, dI)) (ci := 10) (v := .int lz) (C := RX10) (T := TX10) (N := 8) hx hb hA zin_X10 hown hK hP 0 rfl rfl 3 (by decide) (hA _ wi_349) (fun _ h9 => h9) rfl dX10_read_148 ?_
          refine lv_lconst (v := 0) hx hb dX10_read_151 (by decide) ?_
          refine va_last hx hb hK hP hD hS 3 2 rfl rfl (vp_in_iff.mpr ⟨by omega, by omega⟩) dX10_read_152 (fun H locs hP hD hS => ?_)
          obtain ⟨f_19, ef_19⟩ : ∃ gz9 : Nat → Int64, gz9 = vp_updL lw (Int32.toNatClampNeg lz) 0 := ⟨_, rfl⟩
          rw [← ef_19] at hP hD
          have hP : va_P (dC, dI) vwCl [(h0, .inr (10, [.ref ts, .ref tp, .ref tw, .int lz, .int pa, .int so, .int pl, .long wd])), (ts, .inl (t1, 2001, .inl f_17)), (tp, .inl (t2, 2001, .inl f_18)), (tw, .inl (t3, 2001, .inr (.inl f_19))), (bt, .inl (bk, 2000, .inl gt))] H := hP
          have hD : va_D A [(h0, .inr (10, [.ref ts, .ref tp, .ref tw, .int lz, .int pa, .int so, .int pl, .long wd])), (ts, .inl (t1, 2001, .inl f_17)), (tp, .inl (t2, 2001, .inl f_18)), (tw, .inl (t3, 2001, .inr (.inl f_19))), (bt, .inl (bk, 2000, .inl gt))] := hD
          have hal9 : lx_al gt (Int32.toInt nn) f_17 f_18 f_19 lz := lx_al_mk hlx (by omega) (by omega) (by omega) (by omega) ef_17 ef_18 (by omega) ef_19
          refine lv_aload_n hx hb dX10_read_153 rfl (lv_at hl 3 rfl) ?_
          refine lv_iconst (v := (-1)) hx hb dX10_read_154 (by decide) ?_
          refine va_put (D := (dC, dI)) (ci := 10) (v := .int (-1)) (ty := .int) (C := RX10) (T := TX10) (N := 8) hx hb hA zin_X10 tyX10 tyX10_ok nmX10 hown hK hP hD hS 0 rfl rfl 4 (by decide) (hA _ wi_350) (fun _ h9 => h9) rfl (by decide +kernel) rfl rfl (Nat.le_of_ble_eq_true rfl) dX10_read_155 (fun H locs hP hD hS => ?_)
          have hP : va_P (dC, dI) vwCl [(h0, .inr (10, [.ref ts, .ref tp, .ref tw, .int lz, .int (-1), .int so, .int pl, .long wd])), (ts, .inl (t1, 2001, .inl f_17)), (tp, .inl (t2, 2001, .inl f_18)), (tw, .inl (t3, 2001, .inr (.inl f_19))), (bt, .inl (bk, 2000, .inl gt))] H := hP
          have hD : va_D A [(h0, .inr (10, [.ref ts, .ref tp, .ref tw, .int lz, .int (-1), .int so, .int pl, .long wd])), (ts, .inl (t1, 2001, .inl f_17)), (tp, .inl (t2, 2001, .inl f_18)), (tw, .inl (t3, 2001, .inr (.inl f_19))), (bt, .inl (bk, 2000, .inl gt))] := hD
          refine lv_aload_n hx hb dX10_read_158 rfl (lv_at hl 3 rfl) ?_
          have hPc := hP.sub (ws' := [(h0, .inr (10, [.ref ts, .ref tp, .ref tw, .int lz, .int (-1), .int so, .int pl, .long wd])), (ts, .inl (t1, 2001, .inl f_17)), (tp, .inl (t2, 2001, .inl f_18)), (tw, .inl (t3, 2001, .inr (.inl f_19)))]) [0, 1, 2, 3] rfl
          have hDc := hD.sub (ws' := [(h0, .inr (10, [.ref ts, .ref tp, .ref tw, .int lz, .int (-1), .int so, .int pl, .long wd])), (ts, .inl (t1, 2001, .inl f_17)), (tp, .inl (t2, 2001, .inl f_18)), (tw, .inl (t3, 2001, .inr (.inl f_19)))]) [0, 1, 2, 3] (by decide) rfl
          have hKc := hK.sub (tys' := [(t1, .int), (t2, .int), (t3, .long)]) [0, 1, 2] rfl
          have hFc := va_free (wc := [(h0, .inr (10, [.ref ts, .ref tp, .ref tw, .int lz, .int (-1), .int so, .int pl, .long wd])), (ts, .inl (t1, 2001, .inl f_17)), (tp, .inl (t2, 2001, .inl f_18)), (tw, .inl (t3, 2001, .inr (.inl f_19)))]) hD hS hAA [0, 1, 2, 3] rfl
          refine va_callv (va_runV (As := []) (rest := []) ⟨hx, hb, hml, hown, hA⟩ (c_X10_advance_0 l dC dI aK aV h0 ts tp tw t1 t2 t3 lz so pl wd f_17 f_18 f_19 H.size (by omega) (by omega)) (cwV 0 hA (zw_V wi_774 wi_775 wi_776 wi_137 (zw_good wi_777)) rfl rfl rfl (by decide +kernel) ⟨(Nat.le_of_ble_eq_true rfl), (Nat.le_of_ble_eq_true rfl)⟩) ⟨zP_blind, va_recv hKc hPc (ci := 10) (q0 := 0) rfl rfl, zz_pre hKc hPc hDc hN hT hS hFc⟩ rfl rfl hl.1 rfl (lv_room (Nat.le_of_ble_eq_true rfl)) dX10_read_159 ⟨(Nat.le_of_ble_eq_true rfl), (Nat.le_of_ble_eq_true rfl)⟩) hS (fun q _ h => hFc q h) hFc (fun u t H1 locs ht hvm hw hB hz1 hk1 hS => ?_)
          obtain ⟨pa_21, so_22, pl_23, wd_24⟩ := u
          obtain ⟨hP1, hK1, hD1⟩ := hB
          rw [ht] at hP1
          have hK1 := va_K.moved hvm.symm hK1
          obtain ⟨hP, hD⟩ := va_join (wr := [(bt, .inl (bk, 2000, .inl gt))]) (w1 := [(h0, .inr (10, [.ref ts, .ref tp, .ref tw, .int lz, .int pa_21, .int so_22, .int pl_23, .long wd_24])), (ts, .inl (t1, 2001, .inl f_17)), (tp, .inl (t2, 2001, .inl f_18)), (tw, .inl (t3, 2001, .inr (.inl f_19)))]) hP hD [0, 1, 2, 3] [4] rfl rfl (by decide) (by decide) hk1 hFc hP1 hD1
          have hK := (hK.sub (tys' := [(bk, .byte)]) [3] rfl).app hK1
          generalize H1 = H at hP hS ⊢
          have hP : va_P (dC, dI) vwCl [(bt, .inl (bk, 2000, .inl gt)), (h0, .inr (10, [.ref ts, .ref tp, .ref tw, .int lz, .int pa_21, .int so_22, .int pl_23, .long wd_24])), (ts, .inl (t1, 2001, .inl f_17)), (tp, .inl (t2, 2001, .inl f_18)), (tw, .inl (t3, 2001, .inr (.inl f_19)))] H := hP
          have hD : va_D A [(bt, .inl (bk, 2000, .inl gt)), (h0, .inr (10, [.ref ts, .ref tp, .ref tw, .int lz, .int pa_21, .int so_22, .int pl_23, .long wd_24])), (ts, .inl (t1, 2001, .inl f_17)), (tp, .inl (t2, 2001, .inl f_18)), (tw, .inl (t3, 2001, .inr (.inl f_19)))] := hD
          have hK : va_K (dC, dI) vwCl [(bk, .byte), (t1, .int), (t2, .int), (t3, .long)] s := hK
          obtain ⟨hq_25, hq_26, hq_27, hq_28⟩ := hw
          have hpt9 : zpt f_17 f_18 lz pa_21 pl_23 so_22 := ⟨hzpl, hq_27, hq_26⟩
          have hgz9 : f_17 (Int32.toNatClampNeg lz) = 256 := hzpl.2.2.2
          have hwd9 : sp_wd f_19 pa_21 wd_24 := hq_28
          have hP9 := hP.sub (ws' := [(h0, .inr (10, [.ref ts, .ref tp, .ref tw, .int lz, .int pa_21, .int so_22, .int pl_23, .long wd_24])), (ts, .inl (t1, 2001, .inl f_17)), (tp, .inl (t2, 2001, .inl f_18)), (tw, .inl (t3, 2001, .inr (.inl f_19))), (bt, .inl (bk, 2000, .inl gt))]) [1, 2, 3, 4, 0] rfl
          have hD9 := hD.sub (ws' := [(h0, .inr (10, [.ref ts, .ref tp, .ref tw, .int lz, .int pa_21, .int so_22, .int pl_23, .long wd_24])), (ts, .inl (t1, 2001, .inl f_17)), (tp, .inl (t2, 2001, .inl f_18)), (tw, .inl (t3, 2001, .inr (.inl f_19))), (bt, .inl (bk, 2000, .inl gt))]) [1, 2, 3, 4, 0] (by decide) rfl
          have hK9 := hK.sub (tys' := [(t1, .int), (t2, .int), (t3, .long), (bk, .byte)]) [1, 2, 3, 0] rfl
          exact W.vret hx hb hr (fun t ht hW => ⟨⟨(lz, pa_21, so_22, pl_23, wd_24, f_17, f_18, f_19), rfl, ⟨hal9, hwd9, by omega, by omega, by omega, hpt9, zt_adv hq_26 hgz9 (by omega), hgz9⟩, by rw [ht]; exact hP9, va_K.moved hW.alike hK9, hD9⟩, hS.F ht⟩) hS.2.2 dX10_read_162
        · have ic_16 : fr.toInt < x_2.toInt := zi_nle c_16
          refine lv_aload_n hx hb dX10_read_35 rfl (lv_at hl 4 rfl) ?_
          refine lv_iload hx hb dX10_read_36 (lv_at hl 1 rfl) ?_
          refine va_bald hx hb hK hP 4 3 rfl rfl (vp_in_iff.mpr ⟨by omega, by omega⟩) dX10_read_38 ?_
          refine lv_topi (fun x_29 ex_29 => ?_)
          have ix_29 := hzb (Int32.toNatClampNeg fr)
          rw [← ex_29] at ix_29
          have hfst9 : x_29.toInt = (gt (Int32.toNatClampNeg fr)).toInt := by rw [ex_29]
          refine lv_sipush (v := 255) hx hb dX10_read_39 (by decide) ?_
          refine lv_iand hx hb dX10_read_42 ?_
          refine lv_topi (fun x_30 ex_30 => ?_)
          have ix_30 := zand255 ex_30 ix_29.1 ix_29.2
          refine lv_istore (lv' := [(6, .int x_30), (5, .int i), (4, .int fr), (3, .int x_2), (0, .ref h0), (1, .ref bt), (2, .int nn)]) hx hb dX10_read_43 hl (by decide) rfl (fun ls hl => ?_)
          refine lv_iload hx hb dX10_read_45 (lv_at hl 0 rfl) ?_
          refine lv_bipush (v := 32) hx hb dX10_read_47 (by decide) ?_
          refine lv_icmp_eq (tgt := 59) hx hb dX10_read_49 (by decide) (fun c_31 => ?_) (fun c_31 => ?_)
          · have ic_31 : x_30.toInt = 32 := zi_eq c_31
            obtain ⟨x_32, ex_32⟩ : ∃ y : Int32, y = fr + Int32.ofInt 1 := ⟨_, rfl⟩
            refine lv_iinc (v := x_32) (lv' := [(4, .int x_32), (6, .int x_30), (5, .int i), (3, .int x_2), (0, .ref h0), (1, .ref bt), (2, .int nn)]) hx hb dX10_read_59 hl (k := 2) rfl (by rw [ex_32]) (by decide) rfl (fun ls hl => ?_)
            have ix_32 : x_32.toInt = fr.toInt + 1 := by rw [ex_32]; exact zi_addc (by decide) (by omega) (by omega)
            refine lv_goto (tgt := 115) hx hb dX10_read_62 (by decide) ?_
            obtain ⟨x_33, ex_33⟩ : ∃ y : Int32, y = i + Int32.ofInt 1 := ⟨_, rfl⟩
            refine lv_iinc (v := x_33) (lv' := [(5, .int x_33), (4, .int x_32), (6, .int x_30), (3, .int x_2), (0, .ref h0), (1, .ref bt), (2, .int nn)]) hx hb dX10_read_115 hl (k := 2) rfl (by rw [ex_33]) (by decide) rfl (fun ls hl => ?_)
            have ix_33 : x_33.toInt = i.toInt + 1 := by rw [ex_33]; exact zi_addc (by decide) (by omega) (by omega)
            refine lv_goto (tgt := 23) hx hb dX10_read_118 (by decide) ?_
            have hlx_34 : ∃ e, lx_to gt (Int32.toInt nn) ls_ lp lw (Int32.toNatClampNeg lz) (Int32.toNatClampNeg x_32) e := lx_to_b hlx (by omega) (zn_1 (by omega) (by omega))
            have hzp_35 : zpr ls_ lp lz.toInt x_32.toInt := zpr_up hzpr (by omega)
            exact ih x_32 x_33 lz ls_ lp lw _ _ _ (by omega) (by omega) (by omega) (by omega) (by omega) (by omega) (by omega) (by omega) (by omega) hzp_35 hlx_34 (hP.sub [0, 1, 2, 3, 4] rfl) (hD.sub [0, 1, 2, 3, 4] (by decide) rfl) hS (lv_sub hl [0, 1, 3, 4, 5, 6] rfl)
          · have ic_31 : x_30.toInt ≠ 32 := zi_ne c_31
            refine lv_iload hx hb dX10_read_52 (lv_at hl 0 rfl) ?_
            refine lv_bipush (v := 10) hx hb dX10_read_54 (by decide) ?_
            refine lv_icmp_ne (tgt := 65) hx hb dX10_read_56 (by decide) (fun c_36 => ?_) (fun c_36 => ?_)
            · have ic_36 : x_30.toInt ≠ 10 := zi_ne c_36
              refine lv_aload_n hx hb dX10_read_65 rfl (lv_at hl 4 rfl) ?_
              refine va_get (D := (dC, dI)) (ci := 10) (v := .ref tp) (C := RX10) (T := TX10) (N := 8) hx hb hA zin_X10 hown hK hP 0 rfl rfl 1 (by decide) (hA _ wi_347) (fun _ h9 => h9) rfl dX10_read_66 ?_
              refine lv_aload_n hx hb dX10_read_69 rfl (lv_at hl 4 rfl) ?_
              refine va_get (D := (dC, dI)) (ci := 10) (v := .int lz) (C := RX10) (T := TX10) (N := 8) hx hb hA zin_X10 hown hK hP 0 rfl rfl 3 (by decide) (hA _ wi_349) (fun _ h9 => h9) rfl dX10_read_70 ?_
              refine lv_iload hx hb dX10_read_73 (lv_at hl 2 rfl) ?_
              refine va_iast hx hb hK hP hD hS 2 1 rfl rfl (vp_in_iff.mpr ⟨by omega, by omega⟩) dX10_read_75 (fun H locs hP hD hS => ?_)
              obtain ⟨f_37, ef_37⟩ : ∃ gz9 : Nat → Int32, gz9 = upd lp (Int32.toNatClampNeg lz) fr := ⟨_, rfl⟩
              rw [← ef_37] at hP hD
              have hP : va_P (dC, dI) vwCl [(h0, .inr (10, [.ref ts, .ref tp, .ref tw, .int lz, .int pa, .int so, .int pl, .long wd])), (ts, .inl (t1, 2001, .inl ls_)), (tp, .inl (t2, 2001, .inl f_37)), (tw, .inl (t3, 2001, .inr (.inl lw))), (bt, .inl (bk, 2000, .inl gt))] H := hP
              have hD : va_D A [(h0, .inr (10, [.ref ts, .ref tp, .ref tw, .int lz, .int pa, .int so, .int pl, .long wd])), (ts, .inl (t1, 2001, .inl ls_)), (tp, .inl (t2, 2001, .inl f_37)), (tw, .inl (t3, 2001, .inr (.inl lw))), (bt, .inl (bk, 2000, .inl gt))] := hD
              refine lv_iload hx hb dX10_read_76 (lv_at hl 0 rfl) ?_
              have hPc := hP.sub (ws' := []) [] rfl
              have hDc := hD.sub (ws' := []) [] (by decide) rfl
              have hKc := hK.sub (tys' := []) [] rfl
              have hFc := va_free (wc := []) hD hS hAA [] rfl
              refine va_calli (va_runS (As := [.int x_30]) (rest := []) ⟨hx, hb, hml, hown, hA⟩ (c_X10_isWordByte_x l dC dI aK aV x_30 H.size) (va_cwS 1 hA (zw_S wi_661 wi_662 wi_137 (zw_good wi_663)) rfl rfl rfl (by decide +kernel) ⟨(Nat.le_of_ble_eq_true rfl), (Nat.le_of_ble_eq_true rfl)⟩) ⟨zP_blind, zz_pre hKc hPc hDc hN hT hS hFc⟩ rfl rfl hl.1 rfl (lv_room (Nat.le_of_ble_eq_true rfl)) dX10_read_78 ⟨(Nat.le_of_ble_eq_true rfl), (Nat.le_of_ble_eq_true rfl)⟩) hS (fun q _ h => hFc q h) hFc (fun r_38 u t H1 locs ht hvm hw hB hz1 hk1 hS => ?_)
              obtain ⟨hP1, hK1, hD1⟩ := hB
              rw [ht] at hP1
              have hK1 := va_K.moved hvm.symm hK1
              obtain ⟨hP, hD⟩ := va_join (wr := [(h0, .inr (10, [.ref ts, .ref tp, .ref tw, .int lz, .int pa, .int so, .int pl, .long wd])), (ts, .inl (t1, 2001, .inl ls_)), (tp, .inl (t2, 2001, .inl f_37)), (tw, .inl (t3, 2001, .inr (.inl lw))), (bt, .inl (bk, 2000, .inl gt))]) (w1 := []) hP hD [] [0, 1, 2, 3, 4] rfl rfl (by decide) (by decide) hk1 hFc hP1 hD1
              have hK := (hK.sub (tys' := [(t1, .int), (t2, .int), (t3, .long), (bk, .byte)]) [0, 1, 2, 3] rfl).app hK1
              generalize H1 = H at hP hS ⊢
              have hP : va_P (dC, dI) vwCl [(h0, .inr (10, [.ref ts, .ref tp, .ref tw, .int lz, .int pa, .int so, .int pl, .long wd])), (ts, .inl (t1, 2001, .inl ls_)), (tp, .inl (t2, 2001, .inl f_37)), (tw, .inl (t3, 2001, .inr (.inl lw))), (bt, .inl (bk, 2000, .inl gt))] H := hP
              have hD : va_D A [(h0, .inr (10, [.ref ts, .ref tp, .ref tw, .int lz, .int pa, .int so, .int pl, .long wd])), (ts, .inl (t1, 2001, .inl ls_)), (tp, .inl (t2, 2001, .inl f_37)), (tw, .inl (t3, 2001, .inr (.inl lw))), (bt, .inl (bk, 2000, .inl gt))] := hD
              have hK : va_K (dC, dI) vwCl [(t1, .int), (t2, .int), (t3, .long), (bk, .byte)] s := hK
              have hw_r_38 := hw
              try dsimp only at hw_r_38
              have hq_39 := hw
              refine lv_if_eq (tgt := 95) hx hb dX10_read_81 (by decide) (fun c_40 => ?_) (fun c_40 => ?_)
              · have ic_40 : r_38.toInt = 0 := zi_eq c_40
                refine lv_aload_n hx hb dX10_read_95 rfl (lv_at hl 4 rfl) ?_
                refine lv_aload_n hx hb dX10_read_96 rfl (lv_at hl 5 rfl) ?_
                refine lv_iload hx hb dX10_read_97 (lv_at hl 2 rfl) ?_
                refine lv_iload_n hx hb dX10_read_99 rfl (lv_at hl 3 rfl) ?_
                have hPc := hP.sub (ws' := [(h0, .inr (10, [.ref ts, .ref tp, .ref tw, .int lz, .int pa, .int so, .int pl, .long wd])), (ts, .inl (t1, 2001, .inl ls_)), (tp, .inl (t2, 2001, .inl f_37)), (tw, .inl (t3, 2001, .inr (.inl lw))), (bt, .inl (bk, 2000, .inl gt))]) [0, 1, 2, 3, 4] rfl
                have hDc := hD.sub (ws' := [(h0, .inr (10, [.ref ts, .ref tp, .ref tw, .int lz, .int pa, .int so, .int pl, .long wd])), (ts, .inl (t1, 2001, .inl ls_)), (tp, .inl (t2, 2001, .inl f_37)), (tw, .inl (t3, 2001, .inr (.inl lw))), (bt, .inl (bk, 2000, .inl gt))]) [0, 1, 2, 3, 4] (by decide) rfl
                have hKc := hK.sub (tys' := [(t1, .int), (t2, .int), (t3, .long), (bk, .byte)]) [0, 1, 2, 3] rfl
                have hFc := va_free (wc := [(h0, .inr (10, [.ref ts, .ref tp, .ref tw, .int lz, .int pa, .int so, .int pl, .long wd])), (ts, .inl (t1, 2001, .inl ls_)), (tp, .inl (t2, 2001, .inl f_37)), (tw, .inl (t3, 2001, .inr (.inl lw))), (bt, .inl (bk, 2000, .inl gt))]) hD hS hAA [0, 1, 2, 3, 4] rfl
                refine va_calli (va_runV (As := [.ref bt, .int fr, .int x_2]) (rest := []) ⟨hx, hb, hml, hown, hA⟩ (c_X10_readSign_x l dC dI aK aV h0 ts tp tw t1 t2 t3 lz pa so pl wd ls_ f_37 lw bt bk gt fr x_2 H.size (by omega) (by omega) (by omega) (by omega) (by omega) hzb (by omega)) (cwV 3 hA (zw_V wi_687 wi_689 wi_2 wi_137 (zw_good wi_690)) rfl rfl rfl (by decide +kernel) ⟨(Nat.le_of_ble_eq_true rfl), (Nat.le_of_ble_eq_true rfl)⟩) ⟨zP_blind, va_recv hKc hPc (ci := 10) (q0 := 0) rfl rfl, zz_pre hKc hPc hDc hN hT hS hFc⟩ rfl rfl hl.1 rfl (lv_room (Nat.le_of_ble_eq_true rfl)) dX10_read_100 ⟨(Nat.le_of_ble_eq_true rfl), (Nat.le_of_ble_eq_true rfl)⟩) hS (fun q _ h => hFc q h) hFc (fun r_41 u t H1 locs ht hvm hw hB hz1 hk1 hS => ?_)
                obtain ⟨gs_42, gw_43⟩ := u
                obtain ⟨hP1, hK1, hD1⟩ := hB
                rw [ht] at hP1
                have hK1 := va_K.moved hvm.symm hK1
                obtain ⟨hP, hD⟩ := va_join (wr := []) (w1 := [(h0, .inr (10, [.ref ts, .ref tp, .ref tw, .int lz, .int pa, .int so, .int pl, .long wd])), (ts, .inl (t1, 2001, .inl gs_42)), (tp, .inl (t2, 2001, .inl f_37)), (tw, .inl (t3, 2001, .inr (.inl gw_43))), (bt, .inl (bk, 2000, .inl gt))]) hP hD [0, 1, 2, 3, 4] [] rfl rfl (by decide) (by decide) hk1 hFc hP1 hD1
                have hK := (hK.sub (tys' := []) [] rfl).app hK1
                generalize H1 = H at hP hS ⊢
                have hP : va_P (dC, dI) vwCl [(h0, .inr (10, [.ref ts, .ref tp, .ref tw, .int lz, .int pa, .int so, .int pl, .long wd])), (ts, .inl (t1, 2001, .inl gs_42)), (tp, .inl (t2, 2001, .inl f_37)), (tw, .inl (t3, 2001, .inr (.inl gw_43))), (bt, .inl (bk, 2000, .inl gt))] H := hP
                have hD : va_D A [(h0, .inr (10, [.ref ts, .ref tp, .ref tw, .int lz, .int pa, .int so, .int pl, .long wd])), (ts, .inl (t1, 2001, .inl gs_42)), (tp, .inl (t2, 2001, .inl f_37)), (tw, .inl (t3, 2001, .inr (.inl gw_43))), (bt, .inl (bk, 2000, .inl gt))] := hD
                have hK : va_K (dC, dI) vwCl [(t1, .int), (t2, .int), (t3, .long), (bk, .byte)] s := hK
                have hw_r_41 := hw
                try dsimp only at hw_r_41
                obtain ⟨hq_44, hq_45, hq_46, hq_47⟩ := hw
                obtain ⟨v9, hv9, hv9b⟩ := hq_47
                obtain ⟨t8, v8, hgs8, hgw8, hlx8⟩ := hq_44
                rw [hen9] at hlx8
                refine lv_istore (lv' := [(4, .int r_41), (6, .int x_30), (5, .int i), (3, .int x_2), (0, .ref h0), (1, .ref bt), (2, .int nn)]) hx hb dX10_read_103 hl (by decide) rfl (fun ls hl => ?_)
                refine lv_aload_n hx hb dX10_read_105 rfl (lv_at hl 4 rfl) ?_
                refine lv_dup hx hb dX10_read_106 rfl ?_
                refine va_get (D := (dC, dI)) (ci := 10) (v := .int lz) (C := RX10) (T := TX10) (N := 8) hx hb hA zin_X10 hown hK hP 0 rfl rfl 3 (by decide) (hA _ wi_349) (fun _ h9 => h9) rfl dX10_read_107 ?_
                refine lv_iconst (v := 1) hx hb dX10_read_110 (by decide) ?_
                refine lv_iadd hx hb dX10_read_111 ?_
                refine lv_topi (fun x_48 ex_48 => ?_)
                have ix_48 : x_48.toInt = lz.toInt + 1 := by rw [ex_48]; exact zi_addc (by decide) (by omega) (by omega)
                refine va_put (D := (dC, dI)) (ci := 10) (v := .int x_48) (ty := .int) (C := RX10) (T := TX10) (N := 8) hx hb hA zin_X10 tyX10 tyX10_ok nmX10 hown hK hP hD hS 0 rfl rfl 3 (by decide) (hA _ wi_349) (fun _ h9 => h9) rfl (by decide +kernel) rfl rfl (Nat.le_of_ble_eq_true rfl) dX10_read_112 (fun H locs hP hD hS => ?_)
                have hP : va_P (dC, dI) vwCl [(h0, .inr (10, [.ref ts, .ref tp, .ref tw, .int x_48, .int pa, .int so, .int pl, .long wd])), (ts, .inl (t1, 2001, .inl gs_42)), (tp, .inl (t2, 2001, .inl f_37)), (tw, .inl (t3, 2001, .inr (.inl gw_43))), (bt, .inl (bk, 2000, .inl gt))] H := hP
                have hD : va_D A [(h0, .inr (10, [.ref ts, .ref tp, .ref tw, .int x_48, .int pa, .int so, .int pl, .long wd])), (ts, .inl (t1, 2001, .inl gs_42)), (tp, .inl (t2, 2001, .inl f_37)), (tw, .inl (t3, 2001, .inr (.inl gw_43))), (bt, .inl (bk, 2000, .inl gt))] := hD
                have hzp_49 : zpr gs_42 f_37 x_48.toInt r_41.toInt := zpr_st hzpr (by omega) (by omega) ef_37 hv9 (by omega) hv9b (by omega)
                have hnfr9 := zn_nat (x := fr) (by omega)
                have hlx_50 : ∃ e, lx_to gt (Int32.toInt nn) gs_42 f_37 gw_43 (Int32.toNatClampNeg x_48) (Int32.toNatClampNeg r_41) e := lx_to_s (p32 := fr) hlx (by omega) rfl (by omega) (by omega) (by omega) (Or.inr hlx8) hgs8 ef_37 hgw8 (zn_1 (by omega) (by omega))
                obtain ⟨x_51, ex_51⟩ : ∃ y : Int32, y = i + Int32.ofInt 1 := ⟨_, rfl⟩
                refine lv_iinc (v := x_51) (lv' := [(5, .int x_51), (4, .int r_41), (6, .int x_30), (3, .int x_2), (0, .ref h0), (1, .ref bt), (2, .int nn)]) hx hb dX10_read_115 hl (k := 2) rfl (by rw [ex_51]) (by decide) rfl (fun ls hl => ?_)
                have ix_51 : x_51.toInt = i.toInt + 1 := by rw [ex_51]; exact zi_addc (by decide) (by omega) (by omega)
                refine lv_goto (tgt := 23) hx hb dX10_read_118 (by decide) ?_
                exact ih r_41 x_51 x_48 gs_42 f_37 gw_43 _ _ _ (by omega) (by omega) (by omega) (by omega) (by omega) (by omega) (by omega) (by omega) (by omega) hzp_49 hlx_50 (hP.sub [0, 1, 2, 3, 4] rfl) (hD.sub [0, 1, 2, 3, 4] (by decide) rfl) hS (lv_sub hl [0, 1, 3, 4, 5, 6] rfl)
              · have ic_40 : r_38.toInt ≠ 0 := zi_ne c_40
                have hfirst : x_29.toInt = (gt (Int32.toNatClampNeg fr)).toInt := by rw [ex_29]
                refine lv_aload_n hx hb dX10_read_84 rfl (lv_at hl 4 rfl) ?_
                refine lv_aload_n hx hb dX10_read_85 rfl (lv_at hl 5 rfl) ?_
                refine lv_iload hx hb dX10_read_86 (lv_at hl 2 rfl) ?_
                refine lv_iload_n hx hb dX10_read_88 rfl (lv_at hl 3 rfl) ?_
                have hPc := hP.sub (ws' := [(h0, .inr (10, [.ref ts, .ref tp, .ref tw, .int lz, .int pa, .int so, .int pl, .long wd])), (ts, .inl (t1, 2001, .inl ls_)), (tp, .inl (t2, 2001, .inl f_37)), (tw, .inl (t3, 2001, .inr (.inl lw))), (bt, .inl (bk, 2000, .inl gt))]) [0, 1, 2, 3, 4] rfl
                have hDc := hD.sub (ws' := [(h0, .inr (10, [.ref ts, .ref tp, .ref tw, .int lz, .int pa, .int so, .int pl, .long wd])), (ts, .inl (t1, 2001, .inl ls_)), (tp, .inl (t2, 2001, .inl f_37)), (tw, .inl (t3, 2001, .inr (.inl lw))), (bt, .inl (bk, 2000, .inl gt))]) [0, 1, 2, 3, 4] (by decide) rfl
                have hKc := hK.sub (tys' := [(t1, .int), (t2, .int), (t3, .long), (bk, .byte)]) [0, 1, 2, 3] rfl
                have hFc := va_free (wc := [(h0, .inr (10, [.ref ts, .ref tp, .ref tw, .int lz, .int pa, .int so, .int pl, .long wd])), (ts, .inl (t1, 2001, .inl ls_)), (tp, .inl (t2, 2001, .inl f_37)), (tw, .inl (t3, 2001, .inr (.inl lw))), (bt, .inl (bk, 2000, .inl gt))]) hD hS hAA [0, 1, 2, 3, 4] rfl
                refine va_calli (va_runV (As := [.ref bt, .int fr, .int x_2]) (rest := []) ⟨hx, hb, hml, hown, hA⟩ (c_X10_readWord_x l dC dI aK aV h0 ts tp tw t1 t2 t3 lz pa so pl wd ls_ f_37 lw bt bk gt fr x_2 H.size (by omega) (by omega) (by omega) (by omega) (by omega) (by omega)) (cwV 3 hA (zw_V wi_673 wi_675 wi_1 wi_137 (zw_good wi_676)) rfl rfl rfl (by decide +kernel) ⟨(Nat.le_of_ble_eq_true rfl), (Nat.le_of_ble_eq_true rfl)⟩) ⟨zP_blind, va_recv hKc hPc (ci := 10) (q0 := 0) rfl rfl, zz_pre hKc hPc hDc hN hT hS hFc⟩ rfl rfl hl.1 rfl (lv_room (Nat.le_of_ble_eq_true rfl)) dX10_read_89 ⟨(Nat.le_of_ble_eq_true rfl), (Nat.le_of_ble_eq_true rfl)⟩) hS (fun q _ h => hFc q h) hFc (fun r_52 u t H1 locs ht hvm hw hB hz1 hk1 hS => ?_)
                obtain ⟨gs_53, gw_54⟩ := u
                obtain ⟨hP1, hK1, hD1⟩ := hB
                rw [ht] at hP1
                have hK1 := va_K.moved hvm.symm hK1
                obtain ⟨hP, hD⟩ := va_join (wr := []) (w1 := [(h0, .inr (10, [.ref ts, .ref tp, .ref tw, .int lz, .int pa, .int so, .int pl, .long wd])), (ts, .inl (t1, 2001, .inl gs_53)), (tp, .inl (t2, 2001, .inl f_37)), (tw, .inl (t3, 2001, .inr (.inl gw_54))), (bt, .inl (bk, 2000, .inl gt))]) hP hD [0, 1, 2, 3, 4] [] rfl rfl (by decide) (by decide) hk1 hFc hP1 hD1
                have hK := (hK.sub (tys' := []) [] rfl).app hK1
                generalize H1 = H at hP hS ⊢
                have hP : va_P (dC, dI) vwCl [(h0, .inr (10, [.ref ts, .ref tp, .ref tw, .int lz, .int pa, .int so, .int pl, .long wd])), (ts, .inl (t1, 2001, .inl gs_53)), (tp, .inl (t2, 2001, .inl f_37)), (tw, .inl (t3, 2001, .inr (.inl gw_54))), (bt, .inl (bk, 2000, .inl gt))] H := hP
                have hD : va_D A [(h0, .inr (10, [.ref ts, .ref tp, .ref tw, .int lz, .int pa, .int so, .int pl, .long wd])), (ts, .inl (t1, 2001, .inl gs_53)), (tp, .inl (t2, 2001, .inl f_37)), (tw, .inl (t3, 2001, .inr (.inl gw_54))), (bt, .inl (bk, 2000, .inl gt))] := hD
                have hK : va_K (dC, dI) vwCl [(t1, .int), (t2, .int), (t3, .long), (bk, .byte)] s := hK
                have hw_r_52 := hw
                try dsimp only at hw_r_52
                obtain ⟨hq_55, hq_56, hq_57, hq_58⟩ := hw
                obtain ⟨v9, hv9, hv9b⟩ := hq_58
                obtain ⟨t8, v8, hgs8, hgw8, hlx8⟩ := hq_57
                rw [hen9] at hlx8
                refine lv_goto (tgt := 103) hx hb dX10_read_92 (by decide) ?_
                refine lv_istore (lv' := [(4, .int r_52), (6, .int x_30), (5, .int i), (3, .int x_2), (0, .ref h0), (1, .ref bt), (2, .int nn)]) hx hb dX10_read_103 hl (by decide) rfl (fun ls hl => ?_)
                refine lv_aload_n hx hb dX10_read_105 rfl (lv_at hl 4 rfl) ?_
                refine lv_dup hx hb dX10_read_106 rfl ?_
                refine va_get (D := (dC, dI)) (ci := 10) (v := .int lz) (C := RX10) (T := TX10) (N := 8) hx hb hA zin_X10 hown hK hP 0 rfl rfl 3 (by decide) (hA _ wi_349) (fun _ h9 => h9) rfl dX10_read_107 ?_
                refine lv_iconst (v := 1) hx hb dX10_read_110 (by decide) ?_
                refine lv_iadd hx hb dX10_read_111 ?_
                refine lv_topi (fun x_59 ex_59 => ?_)
                have ix_59 : x_59.toInt = lz.toInt + 1 := by rw [ex_59]; exact zi_addc (by decide) (by omega) (by omega)
                refine va_put (D := (dC, dI)) (ci := 10) (v := .int x_59) (ty := .int) (C := RX10) (T := TX10) (N := 8) hx hb hA zin_X10 tyX10 tyX10_ok nmX10 hown hK hP hD hS 0 rfl rfl 3 (by decide) (hA _ wi_349) (fun _ h9 => h9) rfl (by decide +kernel) rfl rfl (Nat.le_of_ble_eq_true rfl) dX10_read_112 (fun H locs hP hD hS => ?_)
                have hP : va_P (dC, dI) vwCl [(h0, .inr (10, [.ref ts, .ref tp, .ref tw, .int x_59, .int pa, .int so, .int pl, .long wd])), (ts, .inl (t1, 2001, .inl gs_53)), (tp, .inl (t2, 2001, .inl f_37)), (tw, .inl (t3, 2001, .inr (.inl gw_54))), (bt, .inl (bk, 2000, .inl gt))] H := hP
                have hD : va_D A [(h0, .inr (10, [.ref ts, .ref tp, .ref tw, .int x_59, .int pa, .int so, .int pl, .long wd])), (ts, .inl (t1, 2001, .inl gs_53)), (tp, .inl (t2, 2001, .inl f_37)), (tw, .inl (t3, 2001, .inr (.inl gw_54))), (bt, .inl (bk, 2000, .inl gt))] := hD
                have hzp_60 : zpr gs_53 f_37 x_59.toInt r_52.toInt := zpr_st hzpr (by omega) (by omega) ef_37 hv9 (by omega) (fun h => absurd h hv9b) (by omega)
                have hnfr9 := zn_nat (x := fr) (by omega)
                have hlx_61 : ∃ e, lx_to gt (Int32.toInt nn) gs_53 f_37 gw_54 (Int32.toNatClampNeg x_59) (Int32.toNatClampNeg r_52) e := lx_to_s (p32 := fr) hlx (by omega) rfl (by omega) (by omega) (by omega) (Or.inl hlx8) hgs8 ef_37 hgw8 (zn_1 (by omega) (by omega))
                obtain ⟨x_62, ex_62⟩ : ∃ y : Int32, y = i + Int32.ofInt 1 := ⟨_, rfl⟩
                refine lv_iinc (v := x_62) (lv' := [(5, .int x_62), (4, .int r_52), (6, .int x_30), (3, .int x_2), (0, .ref h0), (1, .ref bt), (2, .int nn)]) hx hb dX10_read_115 hl (k := 2) rfl (by rw [ex_62]) (by decide) rfl (fun ls hl => ?_)
                have ix_62 : x_62.toInt = i.toInt + 1 := by rw [ex_62]; exact zi_addc (by decide) (by omega) (by omega)
                refine lv_goto (tgt := 23) hx hb dX10_read_118 (by decide) ?_
                exact ih r_52 x_62 x_59 gs_53 f_37 gw_54 _ _ _ (by omega) (by omega) (by omega) (by omega) (by omega) (by omega) (by omega) (by omega) (by omega) hzp_60 hlx_61 (hP.sub [0, 1, 2, 3, 4] rfl) (hD.sub [0, 1, 2, 3, 4] (by decide) rfl) hS (lv_sub hl [0, 1, 3, 4, 5, 6] rfl)
            · have ic_36 : x_30.toInt = 10 := zi_eq c_36
              obtain ⟨x_63, ex_63⟩ : ∃ y : Int32, y = fr + Int32.ofInt 1 := ⟨_, rfl⟩
              refine lv_iinc (v := x_63) (lv' := [(4, .int x_63), (6, .int x_30), (5, .int i), (3, .int x_2), (0, .ref h0), (1, .ref bt), (2, .int nn)]) hx hb dX10_read_59 hl (k := 2) rfl (by rw [ex_63]) (by decide) rfl (fun ls hl => ?_)
              have ix_63 : x_63.toInt = fr.toInt + 1 := by rw [ex_63]; exact zi_addc (by decide) (by omega) (by omega)
              refine lv_goto (tgt := 115) hx hb dX10_read_62 (by decide) ?_
              obtain ⟨x_64, ex_64⟩ : ∃ y : Int32, y = i + Int32.ofInt 1 := ⟨_, rfl⟩
              refine lv_iinc (v := x_64) (lv' := [(5, .int x_64), (4, .int x_63), (6, .int x_30), (3, .int x_2), (0, .ref h0), (1, .ref bt), (2, .int nn)]) hx hb dX10_read_115 hl (k := 2) rfl (by rw [ex_64]) (by decide) rfl (fun ls hl => ?_)
              have ix_64 : x_64.toInt = i.toInt + 1 := by rw [ex_64]; exact zi_addc (by decide) (by omega) (by omega)
              refine lv_goto (tgt := 23) hx hb dX10_read_118 (by decide) ?_
              have hlx_65 : ∃ e, lx_to gt (Int32.toInt nn) ls_ lp lw (Int32.toNatClampNeg lz) (Int32.toNatClampNeg x_63) e := lx_to_b hlx (by omega) (zn_1 (by omega) (by omega))
              have hzp_66 : zpr ls_ lp lz.toInt x_63.toInt := zpr_up hzpr (by omega)
              exact ih x_63 x_64 lz ls_ lp lw _ _ _ (by omega) (by omega) (by omega) (by omega) (by omega) (by omega) (by omega) (by omega) (by omega) hzp_66 hlx_65 (hP.sub [0, 1, 2, 3, 4] rfl) (hD.sub [0, 1, 2, 3, 4] (by decide) rfl) hS (lv_sub hl [0, 1, 3, 4, 5, 6] rfl)
  have hlx_67 : ∃ e, lx_to gt (Int32.toInt nn) gs gp gw (Int32.toNatClampNeg 0) (Int32.toNatClampNeg 0) e := lx_to_0 (by decide) (by decide)
  have hzp_68 : zpr gs gp (Int32.toInt 0) (Int32.toInt 0) := zpr_0 (by decide)
  exact loop_23 _ 0 0 0 gs gp gw _ _ _ (Nat.le_refl _) (by have h9_0 : Int32.toInt 0 = 0 := (by decide); omega) (by have h9_0 : Int32.toInt 0 = 0 := (by decide); omega) (by have h9_0 : Int32.toInt 0 = 0 := (by decide); omega) (by have h9_0 : Int32.toInt 0 = 0 := (by decide); omega) (by have h9_0 : Int32.toInt 0 = 0 := (by decide); omega) (by have h9_0 : Int32.toInt 0 = 0 := (by decide); omega) (by have h9_0 : Int32.toInt 0 = 0 := (by decide); omega) (by have h9_0 : Int32.toInt 0 = 0 := (by decide); omega) hzp_68 hlx_67 (hP.sub [0, 1, 2, 3, 4] rfl) (hD.sub [0, 1, 2, 3, 4] (by decide) rfl) hS (lv_sub hl [0, 1, 2, 3, 4, 5] rfl)

end
section
/-- a byte of a number -/
def fd_x (a s : Int32) : Int32 := vp_nar .byte ((Int32.toInt8 ((a.toUInt32 >>> (s.toUInt32 &&& Int32.toUInt32 31)).toInt32)).toInt32)
def fd_b (a : Int32) (j : Nat) : Int32 := fd_x a (Int32.ofInt (24 - 8 * (j : Int)))
def fd_4 (g g2 : Nat → Int32) (f n : Nat) (a : Int32) : Prop := ∀ k : Nat, g2 k = if f ≤ k ∧ k < f + n then fd_b a (k - f) else g k
theorem fd_4_0 {g : Nat → Int32} {f n : Nat} {a : Int32} (h : n = 0) : fd_4 g g f n a := fun k => by rw [if_neg (by omega)]
theorem fd_4_s {g lg g2 : Nat → Int32} {f n n2 k : Nat} {a sh x : Int32} (h : fd_4 g lg f n a) (e : g2 = upd lg k (vp_nar .byte x)) (ek : k = f + n) (ex : x = (Int32.toInt8 ((a.toUInt32 >>> (sh.toUInt32 &&& Int32.toUInt32 31)).toInt32)).toInt32) (es : sh.toInt = 24 - 8 * (n : Int)) (en : n2 = n + 1) : fd_4 g g2 f n2 a := fun j => by
  subst en
  have es2 : sh = Int32.ofInt (24 - 8 * (n : Int)) := by rw [← es]; exact (Int32.ofInt_toInt sh).symm
  rw [e]
  by_cases u : j = k
  · rw [u, zu_s, ek, if_pos (by omega), show f + n - f = n by omega, ex, es2]; rfl
  · rw [zu_n u, h j]
    by_cases w : f ≤ j ∧ j < f + n
    · rw [if_pos w, if_pos (by omega)]
    · rw [if_neg w, if_neg (by omega)]
def fd_5 (a b c d e : Int32) (j : Nat) : Int32 := fd_b (if j < 4 then a else if j < 8 then b else if j < 12 then c else if j < 16 then d else e) (j % 4)
def fd_20 (g g2 : Nat → Int32) (f : Nat) (a b c d e : Int32) : Prop := ∀ k : Nat, g2 k = if f ≤ k ∧ k < f + 20 then fd_5 a b c d e (k - f) else g k
def fd_r (r : Int32) (g g2 : Nat → Int32) (f : Nat) (a b c d e : Int32) : Prop := (r.toInt = -1 ∧ g2 = g) ∨ (r.toInt ≠ -1 ∧ fd_20 g g2 f a b c d e)
theorem fd_20_mk {g g1 g2 g3 g4 g5 : Nat → Int32} {f f1 f2 f3 f4 : Nat} {a b c d e : Int32} (h1 : fd_4 g g1 f 4 a) (h2 : fd_4 g1 g2 f1 4 b) (h3 : fd_4 g2 g3 f2 4 c) (h4 : fd_4 g3 g4 f3 4 d) (h5 : fd_4 g4 g5 f4 4 e) (e1 : f1 = f + 4) (e2 : f2 = f + 8) (e3 : f3 = f + 12) (e4 : f4 = f + 16) : fd_20 g g5 f a b c d e := fun k => by
  subst e1; subst e2; subst e3; subst e4
  rw [h5 k, h4 k, h3 k, h2 k, h1 k]
  unfold fd_5
  by_cases u5 : f + 16 ≤ k ∧ k < f + 16 + 4
  · rw [if_pos u5, if_pos (by omega), if_neg (by omega), if_neg (by omega), if_neg (by omega), if_neg (by omega), show (k - f) % 4 = k - (f + 16) by omega]
  · rw [if_neg u5]
    by_cases u4 : f + 12 ≤ k ∧ k < f + 12 + 4
    · rw [if_pos u4, if_pos (by omega), if_neg (by omega), if_neg (by omega), if_neg (by omega), if_pos (by omega), show (k - f) % 4 = k - (f + 12) by omega]
    · rw [if_neg u4]
      by_cases u3 : f + 8 ≤ k ∧ k < f + 8 + 4
      · rw [if_pos u3, if_pos (by omega), if_neg (by omega), if_neg (by omega), if_pos (by omega), show (k - f) % 4 = k - (f + 8) by omega]
      · rw [if_neg u3]
        by_cases u2 : f + 4 ≤ k ∧ k < f + 4 + 4
        · rw [if_pos u2, if_pos (by omega), if_neg (by omega), if_pos (by omega), show (k - f) % 4 = k - (f + 4) by omega]
        · rw [if_neg u2]
          by_cases u1 : f ≤ k ∧ k < f + 4
          · rw [if_pos u1, if_pos (by omega), if_pos (by omega), show (k - f) % 4 = k - f by omega]
          · rw [if_neg u1, if_neg (by omega)]

set_option maxHeartbeats 4000000 in
set_option maxRecDepth 100000 in
theorem c_X11_putFour_x (l : Launch) (dC : Nat → ClassId) (dI : Nat → Nat → Nat) (aK aV : Nat → Nat) (h0 : Nat) (h_tape : Nat) (h_fed : Int32) (h_taken : Nat) (h_parser : Nat) (h_machine : Nat) (h_countedCells : Nat) (h_plainCells : Nat) (h_printer : Nat) (h_faultNumber : Int32) (h_stopPlace : Int32) (h_wasRun : Int32) (h_runSteps : Int32) (h_runCalls : Int32) (h_hasValue : Int32) (h_value : Int64) (h_hasOther : Int32) (h_otherValue : Int64) (hk : ClassId) (gt : Nat → Int32) (by_ : Int32) (sz : Nat) (hfe0 : 0 ≤ h_fed.toInt) (hfe1 : h_fed.toInt ≤ 2000) (hfe2 : h_fed.toInt + 4 ≤ 2000) (hzb : zb gt) : Met l yX11_putFour (Cond.code yX11_putFour cX11_putFour 3 none :: zw) ({ frames := 8, cells := 0, slots := 0, locals := 200 }) (va_Pc [.ref h0, .int by_] (zP dC dI aK aV sz [(hk, .byte)] [(h0, .inr (11, [.ref h_tape, .int h_fed, .ref h_taken, .ref h_parser, .ref h_machine, .ref h_countedCells, .ref h_plainCells, .ref h_printer, .int h_faultNumber, .int h_stopPlace, .int h_wasRun, .int h_runSteps, .int h_runCalls, .int h_hasValue, .long h_value, .int h_hasOther, .long h_otherValue])), (h_tape, .inl (hk, 2000, .inl gt))])) (va_Qv (fun u : Int32 × (Nat → Int32) => match u with | (fe2, gt2) => (fe2.toInt = h_fed.toInt + 4) ∧ (zb gt2) ∧ (fd_4 gt gt2 (Int32.toNatClampNeg h_fed) 4 by_)) (fun u => match u with | (fe2, gt2) => zQ dC dI (va_A [(h0, .inr (11, [.ref h_tape, .int h_fed, .ref h_taken, .ref h_parser, .ref h_machine, .ref h_countedCells, .ref h_plainCells, .ref h_printer, .int h_faultNumber, .int h_stopPlace, .int h_wasRun, .int h_runSteps, .int h_runCalls, .int h_hasValue, .long h_value, .int h_hasOther, .long h_otherValue])), (h_tape, .inl (hk, 2000, .inl gt))] sz) [(hk, .byte)] [(h0, .inr (11, [.ref h_tape, .int fe2, .ref h_taken, .ref h_parser, .ref h_machine, .ref h_countedCells, .ref h_plainCells, .ref h_printer, .int h_faultNumber, .int h_stopPlace, .int h_wasRun, .int h_runSteps, .int h_runCalls, .int h_hasValue, .long h_value, .int h_hasOther, .long h_otherValue])), (h_tape, .inl (hk, 2000, .inl gt2))]) (va_A [(h0, .inr (11, [.ref h_tape, .int h_fed, .ref h_taken, .ref h_parser, .ref h_machine, .ref h_countedCells, .ref h_plainCells, .ref h_printer, .int h_faultNumber, .int h_stopPlace, .int h_wasRun, .int h_runSteps, .int h_runCalls, .int h_hasValue, .long h_value, .int h_hasOther, .long h_otherValue])), (h_tape, .inl (hk, 2000, .inl gt))] sz)) 0 0 (va_A [(h0, .inr (11, [.ref h_tape, .int h_fed, .ref h_taken, .ref h_parser, .ref h_machine, .ref h_countedCells, .ref h_plainCells, .ref h_printer, .int h_faultNumber, .int h_stopPlace, .int h_wasRun, .int h_runSteps, .int h_runCalls, .int h_hasValue, .long h_value, .int h_hasOther, .long h_otherValue])), (h_tape, .inl (hk, 2000, .inl gt))] sz) := by
  refine Met.ofW (cc := cX11_putFour) (maxL := 3) (ret := none) (by decide) rfl ?_
  intro p e s m args below meth c s₁ B hml hv
  obtain ⟨rfl, hsz, hP, hK, hD0, hN, hT⟩ := hv
  have hx := B.exec
  have hb := B.bytes
  have hr := B.returns
  have hts := atoms_spec (ws := Cond.code yX11_putFour cX11_putFour 3 none :: zw) B.pre
  have hA : ∀ w ∈ zw, w.before _ s = true := fun w h => hts w (List.mem_cons_of_mem _ h)
  have hown : s.vm.findClass RX11 = some m.cls := findClass_of_methodNamed B.named
  have hlocks := B.notSynchronized
  subst hsz
  have hD := hD0.self (sz := s.heap.size)
  generalize hAe : va_A [(h0, .inr (11, [.ref h_tape, .int h_fed, .ref h_taken, .ref h_parser, .ref h_machine, .ref h_countedCells, .ref h_plainCells, .ref h_printer, .int h_faultNumber, .int h_stopPlace, .int h_wasRun, .int h_runSteps, .int h_runCalls, .int h_hasValue, .long h_value, .int h_hasOther, .long h_otherValue])), (h_tape, .inl (hk, 2000, .inl gt))] s.heap.size = A at hD hT ⊢
  have hAA : ∀ q : Nat, s.heap.size ≤ q → A q := fun q h => by rw [← hAe]; exact Or.inr h
  have hS : va_S A s.heap s.heap [] := va_S.rf
  have hl := lv_entry ([.ref h0, .int by_]) (n := 3) (Nat.le_of_ble_eq_true rfl)
  rw [lg_entry_eq]
  generalize (lg_sl ([.ref h0, .int by_]) ++ List.replicate (3 - (lg_sl ([.ref h0, .int by_])).length) Slot.unset).toArray = ls at hl ⊢
  have hl : lv_has ls 3 [(0, .ref h0), (1, .int by_)] := hl
  refine lv_bipush (v := 24) hx hb dX11_putFour_0 (by decide) ?_
  refine lv_istore_n (lv' := [(2, .int 24), (0, .ref h0), (1, .int by_)]) hx hb dX11_putFour_2 rfl hl (by decide) rfl (fun ls hl => ?_)
  have loop_3 : ∀ (n9 : Nat) (sh : Int32) (lf : Int32) (lg : Nat → Int32) (H : Heap) (locs : List Loc) (ls : Array Slot), (sh.toInt + 9).toNat ≤ n9 → -8 ≤ sh.toInt → sh.toInt ≤ 24 → 8 * (lf.toInt - h_fed.toInt) = 24 - sh.toInt → zb lg → fd_4 gt lg (Int32.toNatClampNeg h_fed) (Int32.toNatClampNeg lf - Int32.toNatClampNeg h_fed) by_ → va_P (dC, dI) vwCl [(h0, .inr (11, [.ref h_tape, .int lf, .ref h_taken, .ref h_parser, .ref h_machine, .ref h_countedCells, .ref h_plainCells, .ref h_printer, .int h_faultNumber, .int h_stopPlace, .int h_wasRun, .int h_runSteps, .int h_runCalls, .int h_hasValue, .long h_value, .int h_hasOther, .long h_otherValue])), (h_tape, .inl (hk, 2000, .inl lg))] H → va_D A [(h0, .inr (11, [.ref h_tape, .int lf, .ref h_taken, .ref h_parser, .ref h_machine, .ref h_countedCells, .ref h_plainCells, .ref h_printer, .int h_faultNumber, .int h_stopPlace, .int h_wasRun, .int h_runSteps, .int h_runCalls, .int h_hasValue, .long h_value, .int h_hasOther, .long h_otherValue])), (h_tape, .inl (hk, 2000, .inl lg))] → va_S A s.heap H locs → lv_has ls 3 [(2, .int sh), (0, .ref h0), (1, .int by_)] → W p l e (headSpec (Cond.code yX11_putFour cX11_putFour 3 none :: zw) ({ frames := 8, cells := 0, slots := 0, locals := 200 })).room s m #[.ref h0, .int by_] below meth c H locs 0 0 (MQ below (va_Qv (fun u : Int32 × (Nat → Int32) => match u with | (fe2, gt2) => (fe2.toInt = h_fed.toInt + 4) ∧ (zb gt2) ∧ (fd_4 gt gt2 (Int32.toNatClampNeg h_fed) 4 by_)) (fun u => match u with | (fe2, gt2) => zQ dC dI A [(hk, .byte)] [(h0, .inr (11, [.ref h_tape, .int fe2, .ref h_taken, .ref h_parser, .ref h_machine, .ref h_countedCells, .ref h_plainCells, .ref h_printer, .int h_faultNumber, .int h_stopPlace, .int h_wasRun, .int h_runSteps, .int h_runCalls, .int h_hasValue, .long h_value, .int h_hasOther, .long h_otherValue])), (h_tape, .inl (hk, 2000, .inl gt2))]) A) #[.ref h0, .int by_] s 0 0 A) (F0 m 3 ls []) := by
    intro n9
    induction n9 with
    | zero => intro sh lf lg H locs ls hm hsh0 hsh1 hlf hzl hl4; exfalso; omega
    | succ n9 ih =>
      intro sh lf lg H locs ls hm hsh0 hsh1 hlf hzl hl4 hP hD hS hl
      refine lv_iload_n hx hb dX11_putFour_3 rfl (lv_at hl 0 rfl) ?_
      refine lv_if_lt (tgt := 46) hx hb dX11_putFour_4 (by decide) (fun c_1 => ?_) (fun c_1 => ?_)
      · have ic_1 : sh.toInt < 0 := zi_lt c_1
        have hP9 := hP.sub (ws' := [(h0, .inr (11, [.ref h_tape, .int lf, .ref h_taken, .ref h_parser, .ref h_machine, .ref h_countedCells, .ref h_plainCells, .ref h_printer, .int h_faultNumber, .int h_stopPlace, .int h_wasRun, .int h_runSteps, .int h_runCalls, .int h_hasValue, .long h_value, .int h_hasOther, .long h_otherValue])), (h_tape, .inl (hk, 2000, .inl lg))]) [0, 1] rfl
        have hD9 := hD.sub (ws' := [(h0, .inr (11, [.ref h_tape, .int lf, .ref h_taken, .ref h_parser, .ref h_machine, .ref h_countedCells, .ref h_plainCells, .ref h_printer, .int h_faultNumber, .int h_stopPlace, .int h_wasRun, .int h_runSteps, .int h_runCalls, .int h_hasValue, .long h_value, .int h_hasOther, .long h_otherValue])), (h_tape, .inl (hk, 2000, .inl lg))]) [0, 1] (by decide) rfl
        have hK9 := hK.sub (tys' := [(hk, .byte)]) [0] rfl
        exact W.vret hx hb hr (fun t ht hW => ⟨⟨(lf, lg), rfl, ⟨by omega, hzl, (by have h1 := zn_nat (x := h_fed) (by omega); have h2 := zn_nat (x := lf) (by omega); have h3 := hl4; rw [show Int32.toNatClampNeg lf - Int32.toNatClampNeg h_fed = 4 by omega] at h3; exact h3)⟩, by rw [ht]; exact hP9, va_K.moved hW.alike hK9, hD9⟩, hS.F ht⟩) hS.2.2 dX11_putFour_46
      · have ic_1 : 0 ≤ sh.toInt := zi_nlt c_1
        refine lv_aload_n hx hb dX11_putFour_7 rfl (lv_at hl 1 rfl) ?_
        refine va_get (D := (dC, dI)) (ci := 11) (v := .int lf) (C := RX11) (T := TX11) (N := 17) hx hb hA zin_X11 hown hK hP 0 rfl rfl 1 (by decide) (hA _ wi_585) (fun _ h9 => h9) rfl dX11_putFour_8 ?_
        refine lv_sipush (v := 2000) hx hb dX11_putFour_11 (by decide) ?_
        refine lv_icmp_ge (tgt := 46) hx hb dX11_putFour_14 (by decide) (fun c_2 => ?_) (fun c_2 => ?_)
        · have ic_2 : 2000 ≤ lf.toInt := zi_le c_2
          exfalso
          omega
        · have ic_2 : lf.toInt < 2000 := zi_nle c_2
          refine lv_aload_n hx hb dX11_putFour_17 rfl (lv_at hl 1 rfl) ?_
          refine va_get (D := (dC, dI)) (ci := 11) (v := .ref h_tape) (C := RX11) (T := TX11) (N := 17) hx hb hA zin_X11 hown hK hP 0 rfl rfl 0 (by decide) (hA _ wi_584) (fun _ h9 => h9) rfl dX11_putFour_18 ?_
          refine lv_aload_n hx hb dX11_putFour_21 rfl (lv_at hl 1 rfl) ?_
          refine va_get (D := (dC, dI)) (ci := 11) (v := .int lf) (C := RX11) (T := TX11) (N := 17) hx hb hA zin_X11 hown hK hP 0 rfl rfl 1 (by decide) (hA _ wi_585) (fun _ h9 => h9) rfl dX11_putFour_22 ?_
          refine lv_iload_n hx hb dX11_putFour_25 rfl (lv_at hl 2 rfl) ?_
          refine lv_iload_n hx hb dX11_putFour_26 rfl (lv_at hl 0 rfl) ?_
          obtain ⟨x_3, ex_3⟩ : ∃ z : Int32, z = (Int32.toUInt32 by_ >>> (Int32.toUInt32 sh &&& Int32.toUInt32 31)).toInt32 := ⟨_, rfl⟩
          refine lv_iushr (v := x_3) hx hb dX11_putFour_27 ex_3.symm ?_
          obtain ⟨x_4, ex_4⟩ : ∃ z : Int32, z = (Int32.toInt8 x_3).toInt32 := ⟨_, rfl⟩
          refine lv_i2b (v := x_4) hx hb dX11_putFour_28 ex_4.symm ?_
          refine va_bast hx hb hK hP hD hS 1 0 rfl rfl (vp_in_iff.mpr ⟨by omega, by omega⟩) dX11_putFour_29 (fun H locs hP hD hS => ?_)
          obtain ⟨f_5, ef_5⟩ : ∃ gz9 : Nat → Int32, gz9 = upd lg (Int32.toNatClampNeg lf) (vp_nar .byte x_4) := ⟨_, rfl⟩
          rw [← ef_5] at hP hD
          have hP : va_P (dC, dI) vwCl [(h0, .inr (11, [.ref h_tape, .int lf, .ref h_taken, .ref h_parser, .ref h_machine, .ref h_countedCells, .ref h_plainCells, .ref h_printer, .int h_faultNumber, .int h_stopPlace, .int h_wasRun, .int h_runSteps, .int h_runCalls, .int h_hasValue, .long h_value, .int h_hasOther, .long h_otherValue])), (h_tape, .inl (hk, 2000, .inl f_5))] H := hP
          have hD : va_D A [(h0, .inr (11, [.ref h_tape, .int lf, .ref h_taken, .ref h_parser, .ref h_machine, .ref h_countedCells, .ref h_plainCells, .ref h_printer, .int h_faultNumber, .int h_stopPlace, .int h_wasRun, .int h_runSteps, .int h_runCalls, .int h_hasValue, .long h_value, .int h_hasOther, .long h_otherValue])), (h_tape, .inl (hk, 2000, .inl f_5))] := hD
          have hzb_6 : zb f_5 := zb_upd hzl ef_5
          refine lv_aload_n hx hb dX11_putFour_30 rfl (lv_at hl 1 rfl) ?_
          refine lv_dup hx hb dX11_putFour_31 rfl ?_
          refine va_get (D := (dC, dI)) (ci := 11) (v := .int lf) (C := RX11) (T := TX11) (N := 17) hx hb hA zin_X11 hown hK hP 0 rfl rfl 1 (by decide) (hA _ wi_585) (fun _ h9 => h9) rfl dX11_putFour_32 ?_
          refine lv_iconst (v := 1) hx hb dX11_putFour_35 (by decide) ?_
          refine lv_iadd hx hb dX11_putFour_36 ?_
          refine lv_topi (fun x_7 ex_7 => ?_)
          have ix_7 : x_7.toInt = lf.toInt + 1 := by rw [ex_7]; exact zi_addc (by decide) (by omega) (by omega)
          refine va_put (D := (dC, dI)) (ci := 11) (v := .int x_7) (ty := .int) (C := RX11) (T := TX11) (N := 17) hx hb hA zin_X11 tyX11 tyX11_ok nmX11 hown hK hP hD hS 0 rfl rfl 1 (by decide) (hA _ wi_585) (fun _ h9 => h9) rfl (by decide +kernel) rfl rfl (Nat.le_of_ble_eq_true rfl) dX11_putFour_37 (fun H locs hP hD hS => ?_)
          have hP : va_P (dC, dI) vwCl [(h0, .inr (11, [.ref h_tape, .int x_7, .ref h_taken, .ref h_parser, .ref h_machine, .ref h_countedCells, .ref h_plainCells, .ref h_printer, .int h_faultNumber, .int h_stopPlace, .int h_wasRun, .int h_runSteps, .int h_runCalls, .int h_hasValue, .long h_value, .int h_hasOther, .long h_otherValue])), (h_tape, .inl (hk, 2000, .inl f_5))] H := hP
          have hD : va_D A [(h0, .inr (11, [.ref h_tape, .int x_7, .ref h_taken, .ref h_parser, .ref h_machine, .ref h_countedCells, .ref h_plainCells, .ref h_printer, .int h_faultNumber, .int h_stopPlace, .int h_wasRun, .int h_runSteps, .int h_runCalls, .int h_hasValue, .long h_value, .int h_hasOther, .long h_otherValue])), (h_tape, .inl (hk, 2000, .inl f_5))] := hD
          obtain ⟨x_8, ex_8⟩ : ∃ y : Int32, y = sh + Int32.ofInt (-8) := ⟨_, rfl⟩
          refine lv_iinc (v := x_8) (lv' := [(2, .int x_8), (0, .ref h0), (1, .int by_)]) hx hb dX11_putFour_40 hl (k := 0) rfl (by rw [ex_8]) (by decide) rfl (fun ls hl => ?_)
          have ix_8 : x_8.toInt = sh.toInt + (-8) := by rw [ex_8]; exact zi_addc (by decide) (by omega) (by omega)
          refine lv_goto (tgt := 3) hx hb dX11_putFour_43 (by decide) ?_
          have hl4_9 : fd_4 gt f_5 (Int32.toNatClampNeg h_fed) (Int32.toNatClampNeg x_7 - Int32.toNatClampNeg h_fed) by_ := (by have h1 := zn_nat (x := h_fed) (by omega); have h2 := zn_nat (x := lf) (by omega); have h3 := zn_nat (x := x_7) (by omega); exact fd_4_s (sh := sh) hl4 ef_5 (by omega) (by rw [ex_4, ex_3]) (by omega) (by omega))
          exact ih x_8 x_7 f_5 _ _ _ (by omega) (by omega) (by omega) (by omega) hzb_6 hl4_9 (hP.sub [0, 1] rfl) (hD.sub [0, 1] (by decide) rfl) hS (lv_sub hl [0, 1, 2] rfl)
  have hl4_10 : fd_4 gt gt (Int32.toNatClampNeg h_fed) (Int32.toNatClampNeg h_fed - Int32.toNatClampNeg h_fed) by_ := fd_4_0 (by omega)
  exact loop_3 _ 24 h_fed gt _ _ _ (Nat.le_refl _) (by have h9_0 : Int32.toInt 24 = 24 := (by decide); omega) (by have h9_0 : Int32.toInt 24 = 24 := (by decide); omega) (by have h9_0 : Int32.toInt 24 = 24 := (by decide); omega) hzb hl4_10 (hP.sub [0, 1] rfl) (hD.sub [0, 1] (by decide) rfl) hS (lv_sub hl [0, 1, 2] rfl)
set_option maxHeartbeats 4000000 in
set_option maxRecDepth 100000 in
theorem c_X11_feed_x (l : Launch) (dC : Nat → ClassId) (dI : Nat → Nat → Nat) (aK aV : Nat → Nat) (h0 : Nat) (h_tape : Nat) (h_fed : Int32) (h_taken : Nat) (h_parser : Nat) (h_machine : Nat) (h_countedCells : Nat) (h_plainCells : Nat) (h_printer : Nat) (h_faultNumber : Int32) (h_stopPlace : Int32) (h_wasRun : Int32) (h_runSteps : Int32) (h_runCalls : Int32) (h_hasValue : Int32) (h_value : Int64) (h_hasOther : Int32) (h_otherValue : Int64) (hk : ClassId) (gt : Nat → Int32) (a1 : Int32) (a2 : Int32) (a3 : Int32) (a4 : Int32) (a5 : Int32) (sz : Nat) (hfe0 : 0 ≤ h_fed.toInt) (hfe1 : h_fed.toInt ≤ 2000) (hzb : zb gt) : Met l yX11_feed (Cond.code yX11_feed cX11_feed 6 (some .int) :: zw) ({ frames := 10, cells := 0, slots := 0, locals := 300 }) (va_Pc [.ref h0, .int a1, .int a2, .int a3, .int a4, .int a5] (zP dC dI aK aV sz [(hk, .byte)] [(h0, .inr (11, [.ref h_tape, .int h_fed, .ref h_taken, .ref h_parser, .ref h_machine, .ref h_countedCells, .ref h_plainCells, .ref h_printer, .int h_faultNumber, .int h_stopPlace, .int h_wasRun, .int h_runSteps, .int h_runCalls, .int h_hasValue, .long h_value, .int h_hasOther, .long h_otherValue])), (h_tape, .inl (hk, 2000, .inl gt))])) (va_Qi (fun (r : Int32) (u : Int32 × (Nat → Int32)) => match u with | (fe2, gt2) => (h_fed.toInt + 20 ≤ 2000 ∧ fe2.toInt = h_fed.toInt + 20 ∧ r.toInt = fe2.toInt ∨ 2000 < h_fed.toInt + 20 ∧ fe2.toInt = h_fed.toInt ∧ r.toInt = -1) ∧ (zb gt2) ∧ (fd_r r gt gt2 (Int32.toNatClampNeg h_fed) a1 a2 a3 a4 a5)) (fun u => match u with | (fe2, gt2) => zQ dC dI (va_A [(h0, .inr (11, [.ref h_tape, .int h_fed, .ref h_taken, .ref h_parser, .ref h_machine, .ref h_countedCells, .ref h_plainCells, .ref h_printer, .int h_faultNumber, .int h_stopPlace, .int h_wasRun, .int h_runSteps, .int h_runCalls, .int h_hasValue, .long h_value, .int h_hasOther, .long h_otherValue])), (h_tape, .inl (hk, 2000, .inl gt))] sz) [(hk, .byte)] [(h0, .inr (11, [.ref h_tape, .int fe2, .ref h_taken, .ref h_parser, .ref h_machine, .ref h_countedCells, .ref h_plainCells, .ref h_printer, .int h_faultNumber, .int h_stopPlace, .int h_wasRun, .int h_runSteps, .int h_runCalls, .int h_hasValue, .long h_value, .int h_hasOther, .long h_otherValue])), (h_tape, .inl (hk, 2000, .inl gt2))]) (va_A [(h0, .inr (11, [.ref h_tape, .int h_fed, .ref h_taken, .ref h_parser, .ref h_machine, .ref h_countedCells, .ref h_plainCells, .ref h_printer, .int h_faultNumber, .int h_stopPlace, .int h_wasRun, .int h_runSteps, .int h_runCalls, .int h_hasValue, .long h_value, .int h_hasOther, .long h_otherValue])), (h_tape, .inl (hk, 2000, .inl gt))] sz)) 0 0 (va_A [(h0, .inr (11, [.ref h_tape, .int h_fed, .ref h_taken, .ref h_parser, .ref h_machine, .ref h_countedCells, .ref h_plainCells, .ref h_printer, .int h_faultNumber, .int h_stopPlace, .int h_wasRun, .int h_runSteps, .int h_runCalls, .int h_hasValue, .long h_value, .int h_hasOther, .long h_otherValue])), (h_tape, .inl (hk, 2000, .inl gt))] sz) := by
  refine Met.ofW (cc := cX11_feed) (maxL := 6) (ret := (some .int)) (by decide) rfl ?_
  intro p e s m args below meth c s₁ B hml hv
  obtain ⟨rfl, hsz, hP, hK, hD0, hN, hT⟩ := hv
  have hx := B.exec
  have hb := B.bytes
  have hr := B.returns
  have hts := atoms_spec (ws := Cond.code yX11_feed cX11_feed 6 (some .int) :: zw) B.pre
  have hA : ∀ w ∈ zw, w.before _ s = true := fun w h => hts w (List.mem_cons_of_mem _ h)
  have hown : s.vm.findClass RX11 = some m.cls := findClass_of_methodNamed B.named
  have hlocks := B.notSynchronized
  subst hsz
  have hD := hD0.self (sz := s.heap.size)
  generalize hAe : va_A [(h0, .inr (11, [.ref h_tape, .int h_fed, .ref h_taken, .ref h_parser, .ref h_machine, .ref h_countedCells, .ref h_plainCells, .ref h_printer, .int h_faultNumber, .int h_stopPlace, .int h_wasRun, .int h_runSteps, .int h_runCalls, .int h_hasValue, .long h_value, .int h_hasOther, .long h_otherValue])), (h_tape, .inl (hk, 2000, .inl gt))] s.heap.size = A at hD hT ⊢
  have hAA : ∀ q : Nat, s.heap.size ≤ q → A q := fun q h => by rw [← hAe]; exact Or.inr h
  have hS : va_S A s.heap s.heap [] := va_S.rf
  have hl := lv_entry ([.ref h0, .int a1, .int a2, .int a3, .int a4, .int a5]) (n := 6) (Nat.le_of_ble_eq_true rfl)
  rw [lg_entry_eq]
  generalize (lg_sl ([.ref h0, .int a1, .int a2, .int a3, .int a4, .int a5]) ++ List.replicate (6 - (lg_sl ([.ref h0, .int a1, .int a2, .int a3, .int a4, .int a5])).length) Slot.unset).toArray = ls at hl ⊢
  have hl : lv_has ls 6 [(0, .ref h0), (1, .int a1), (2, .int a2), (3, .int a3), (4, .int a4), (5, .int a5)] := hl
  refine lv_aload_n hx hb dX11_feed_0 rfl (lv_at hl 0 rfl) ?_
  refine va_get (D := (dC, dI)) (ci := 11) (v := .int h_fed) (C := RX11) (T := TX11) (N := 17) hx hb hA zin_X11 hown hK hP 0 rfl rfl 1 (by decide) (hA _ wi_585) (fun _ h9 => h9) rfl dX11_feed_1 ?_
  refine lv_bipush (v := 20) hx hb dX11_feed_4 (by decide) ?_
  refine lv_iadd hx hb dX11_feed_6 ?_
  refine lv_topi (fun x_1 ex_1 => ?_)
  have ix_1 : x_1.toInt = h_fed.toInt + 20 := by rw [ex_1]; exact zi_addc (by decide) (by omega) (by omega)
  refine lv_sipush (v := 2000) hx hb dX11_feed_7 (by decide) ?_
  refine lv_icmp_le (tgt := 15) hx hb dX11_feed_10 (by decide) (fun c_2 => ?_) (fun c_2 => ?_)
  · have ic_2 : x_1.toInt ≤ 2000 := zi_le c_2
    refine lv_aload_n hx hb dX11_feed_15 rfl (lv_at hl 0 rfl) ?_
    refine lv_iload_n hx hb dX11_feed_16 rfl (lv_at hl 1 rfl) ?_
    have hPc := hP.sub (ws' := [(h0, .inr (11, [.ref h_tape, .int h_fed, .ref h_taken, .ref h_parser, .ref h_machine, .ref h_countedCells, .ref h_plainCells, .ref h_printer, .int h_faultNumber, .int h_stopPlace, .int h_wasRun, .int h_runSteps, .int h_runCalls, .int h_hasValue, .long h_value, .int h_hasOther, .long h_otherValue])), (h_tape, .inl (hk, 2000, .inl gt))]) [0, 1] rfl
    have hDc := hD.sub (ws' := [(h0, .inr (11, [.ref h_tape, .int h_fed, .ref h_taken, .ref h_parser, .ref h_machine, .ref h_countedCells, .ref h_plainCells, .ref h_printer, .int h_faultNumber, .int h_stopPlace, .int h_wasRun, .int h_runSteps, .int h_runCalls, .int h_hasValue, .long h_value, .int h_hasOther, .long h_otherValue])), (h_tape, .inl (hk, 2000, .inl gt))]) [0, 1] (by decide) rfl
    have hKc := hK.sub (tys' := [(hk, .byte)]) [0] rfl
    have hFc := va_free (wc := [(h0, .inr (11, [.ref h_tape, .int h_fed, .ref h_taken, .ref h_parser, .ref h_machine, .ref h_countedCells, .ref h_plainCells, .ref h_printer, .int h_faultNumber, .int h_stopPlace, .int h_wasRun, .int h_runSteps, .int h_runCalls, .int h_hasValue, .long h_value, .int h_hasOther, .long h_otherValue])), (h_tape, .inl (hk, 2000, .inl gt))]) hD hS hAA [0, 1] rfl
    refine va_callv (va_runV (As := [.int a1]) (rest := []) ⟨hx, hb, hml, hown, hA⟩ (c_X11_putFour_x l dC dI aK aV h0 h_tape h_fed h_taken h_parser h_machine h_countedCells h_plainCells h_printer h_faultNumber h_stopPlace h_wasRun h_runSteps h_runCalls h_hasValue h_value h_hasOther h_otherValue hk gt a1 s.heap.size (by omega) (by omega) (by omega) hzb) (cwV 1 hA (zw_V wi_640 wi_642 wi_0 wi_130 (zw_good wi_643)) rfl rfl rfl (by decide +kernel) ⟨(Nat.le_of_ble_eq_true rfl), (Nat.le_of_ble_eq_true rfl)⟩) ⟨zP_blind, va_recv hKc hPc (ci := 11) (q0 := 0) rfl rfl, zz_pre hKc hPc hDc hN hT hS hFc⟩ rfl rfl hl.1 rfl (lv_room (Nat.le_of_ble_eq_true rfl)) dX11_feed_17 ⟨(Nat.le_of_ble_eq_true rfl), (Nat.le_of_ble_eq_true rfl)⟩) hS (fun q _ h => hFc q h) hFc (fun u t H1 locs ht hvm hw hB hz1 hk1 hS => ?_)
    obtain ⟨fe_4, gt_5⟩ := u
    obtain ⟨hP1, hK1, hD1⟩ := hB
    rw [ht] at hP1
    have hK1 := va_K.moved hvm.symm hK1
    obtain ⟨hP, hD⟩ := va_join (wr := []) (w1 := [(h0, .inr (11, [.ref h_tape, .int fe_4, .ref h_taken, .ref h_parser, .ref h_machine, .ref h_countedCells, .ref h_plainCells, .ref h_printer, .int h_faultNumber, .int h_stopPlace, .int h_wasRun, .int h_runSteps, .int h_runCalls, .int h_hasValue, .long h_value, .int h_hasOther, .long h_otherValue])), (h_tape, .inl (hk, 2000, .inl gt_5))]) hP hD [0, 1] [] rfl rfl (by decide) (by decide) hk1 hFc hP1 hD1
    have hK := (hK.sub (tys' := []) [] rfl).app hK1
    generalize H1 = H at hP hS ⊢
    have hP : va_P (dC, dI) vwCl [(h0, .inr (11, [.ref h_tape, .int fe_4, .ref h_taken, .ref h_parser, .ref h_machine, .ref h_countedCells, .ref h_plainCells, .ref h_printer, .int h_faultNumber, .int h_stopPlace, .int h_wasRun, .int h_runSteps, .int h_runCalls, .int h_hasValue, .long h_value, .int h_hasOther, .long h_otherValue])), (h_tape, .inl (hk, 2000, .inl gt_5))] H := hP
    have hD : va_D A [(h0, .inr (11, [.ref h_tape, .int fe_4, .ref h_taken, .ref h_parser, .ref h_machine, .ref h_countedCells, .ref h_plainCells, .ref h_printer, .int h_faultNumber, .int h_stopPlace, .int h_wasRun, .int h_runSteps, .int h_runCalls, .int h_hasValue, .long h_value, .int h_hasOther, .long h_otherValue])), (h_tape, .inl (hk, 2000, .inl gt_5))] := hD
    have hK : va_K (dC, dI) vwCl [(hk, .byte)] s := hK
    obtain ⟨hq_6, hq_7, hq_8⟩ := hw
    refine lv_aload_n hx hb dX11_feed_20 rfl (lv_at hl 0 rfl) ?_
    refine lv_iload_n hx hb dX11_feed_21 rfl (lv_at hl 2 rfl) ?_
    have hPc := hP.sub (ws' := [(h0, .inr (11, [.ref h_tape, .int fe_4, .ref h_taken, .ref h_parser, .ref h_machine, .ref h_countedCells, .ref h_plainCells, .ref h_printer, .int h_faultNumber, .int h_stopPlace, .int h_wasRun, .int h_runSteps, .int h_runCalls, .int h_hasValue, .long h_value, .int h_hasOther, .long h_otherValue])), (h_tape, .inl (hk, 2000, .inl gt_5))]) [0, 1] rfl
    have hDc := hD.sub (ws' := [(h0, .inr (11, [.ref h_tape, .int fe_4, .ref h_taken, .ref h_parser, .ref h_machine, .ref h_countedCells, .ref h_plainCells, .ref h_printer, .int h_faultNumber, .int h_stopPlace, .int h_wasRun, .int h_runSteps, .int h_runCalls, .int h_hasValue, .long h_value, .int h_hasOther, .long h_otherValue])), (h_tape, .inl (hk, 2000, .inl gt_5))]) [0, 1] (by decide) rfl
    have hKc := hK.sub (tys' := [(hk, .byte)]) [0] rfl
    have hFc := va_free (wc := [(h0, .inr (11, [.ref h_tape, .int fe_4, .ref h_taken, .ref h_parser, .ref h_machine, .ref h_countedCells, .ref h_plainCells, .ref h_printer, .int h_faultNumber, .int h_stopPlace, .int h_wasRun, .int h_runSteps, .int h_runCalls, .int h_hasValue, .long h_value, .int h_hasOther, .long h_otherValue])), (h_tape, .inl (hk, 2000, .inl gt_5))]) hD hS hAA [0, 1] rfl
    refine va_callv (va_runV (As := [.int a2]) (rest := []) ⟨hx, hb, hml, hown, hA⟩ (c_X11_putFour_x l dC dI aK aV h0 h_tape fe_4 h_taken h_parser h_machine h_countedCells h_plainCells h_printer h_faultNumber h_stopPlace h_wasRun h_runSteps h_runCalls h_hasValue h_value h_hasOther h_otherValue hk gt_5 a2 H.size (by omega) (by omega) (by omega) hq_7) (cwV 1 hA (zw_V wi_640 wi_642 wi_0 wi_130 (zw_good wi_643)) rfl rfl rfl (by decide +kernel) ⟨(Nat.le_of_ble_eq_true rfl), (Nat.le_of_ble_eq_true rfl)⟩) ⟨zP_blind, va_recv hKc hPc (ci := 11) (q0 := 0) rfl rfl, zz_pre hKc hPc hDc hN hT hS hFc⟩ rfl rfl hl.1 rfl (lv_room (Nat.le_of_ble_eq_true rfl)) dX11_feed_22 ⟨(Nat.le_of_ble_eq_true rfl), (Nat.le_of_ble_eq_true rfl)⟩) hS (fun q _ h => hFc q h) hFc (fun u t H1 locs ht hvm hw hB hz1 hk1 hS => ?_)
    obtain ⟨fe_10, gt_11⟩ := u
    obtain ⟨hP1, hK1, hD1⟩ := hB
    rw [ht] at hP1
    have hK1 := va_K.moved hvm.symm hK1
    obtain ⟨hP, hD⟩ := va_join (wr := []) (w1 := [(h0, .inr (11, [.ref h_tape, .int fe_10, .ref h_taken, .ref h_parser, .ref h_machine, .ref h_countedCells, .ref h_plainCells, .ref h_printer, .int h_faultNumber, .int h_stopPlace, .int h_wasRun, .int h_runSteps, .int h_runCalls, .int h_hasValue, .long h_value, .int h_hasOther, .long h_otherValue])), (h_tape, .inl (hk, 2000, .inl gt_11))]) hP hD [0, 1] [] rfl rfl (by decide) (by decide) hk1 hFc hP1 hD1
    have hK := (hK.sub (tys' := []) [] rfl).app hK1
    generalize H1 = H at hP hS ⊢
    have hP : va_P (dC, dI) vwCl [(h0, .inr (11, [.ref h_tape, .int fe_10, .ref h_taken, .ref h_parser, .ref h_machine, .ref h_countedCells, .ref h_plainCells, .ref h_printer, .int h_faultNumber, .int h_stopPlace, .int h_wasRun, .int h_runSteps, .int h_runCalls, .int h_hasValue, .long h_value, .int h_hasOther, .long h_otherValue])), (h_tape, .inl (hk, 2000, .inl gt_11))] H := hP
    have hD : va_D A [(h0, .inr (11, [.ref h_tape, .int fe_10, .ref h_taken, .ref h_parser, .ref h_machine, .ref h_countedCells, .ref h_plainCells, .ref h_printer, .int h_faultNumber, .int h_stopPlace, .int h_wasRun, .int h_runSteps, .int h_runCalls, .int h_hasValue, .long h_value, .int h_hasOther, .long h_otherValue])), (h_tape, .inl (hk, 2000, .inl gt_11))] := hD
    have hK : va_K (dC, dI) vwCl [(hk, .byte)] s := hK
    obtain ⟨hq_12, hq_13, hq_14⟩ := hw
    refine lv_aload_n hx hb dX11_feed_25 rfl (lv_at hl 0 rfl) ?_
    refine lv_iload_n hx hb dX11_feed_26 rfl (lv_at hl 3 rfl) ?_
    have hPc := hP.sub (ws' := [(h0, .inr (11, [.ref h_tape, .int fe_10, .ref h_taken, .ref h_parser, .ref h_machine, .ref h_countedCells, .ref h_plainCells, .ref h_printer, .int h_faultNumber, .int h_stopPlace, .int h_wasRun, .int h_runSteps, .int h_runCalls, .int h_hasValue, .long h_value, .int h_hasOther, .long h_otherValue])), (h_tape, .inl (hk, 2000, .inl gt_11))]) [0, 1] rfl
    have hDc := hD.sub (ws' := [(h0, .inr (11, [.ref h_tape, .int fe_10, .ref h_taken, .ref h_parser, .ref h_machine, .ref h_countedCells, .ref h_plainCells, .ref h_printer, .int h_faultNumber, .int h_stopPlace, .int h_wasRun, .int h_runSteps, .int h_runCalls, .int h_hasValue, .long h_value, .int h_hasOther, .long h_otherValue])), (h_tape, .inl (hk, 2000, .inl gt_11))]) [0, 1] (by decide) rfl
    have hKc := hK.sub (tys' := [(hk, .byte)]) [0] rfl
    have hFc := va_free (wc := [(h0, .inr (11, [.ref h_tape, .int fe_10, .ref h_taken, .ref h_parser, .ref h_machine, .ref h_countedCells, .ref h_plainCells, .ref h_printer, .int h_faultNumber, .int h_stopPlace, .int h_wasRun, .int h_runSteps, .int h_runCalls, .int h_hasValue, .long h_value, .int h_hasOther, .long h_otherValue])), (h_tape, .inl (hk, 2000, .inl gt_11))]) hD hS hAA [0, 1] rfl
    refine va_callv (va_runV (As := [.int a3]) (rest := []) ⟨hx, hb, hml, hown, hA⟩ (c_X11_putFour_x l dC dI aK aV h0 h_tape fe_10 h_taken h_parser h_machine h_countedCells h_plainCells h_printer h_faultNumber h_stopPlace h_wasRun h_runSteps h_runCalls h_hasValue h_value h_hasOther h_otherValue hk gt_11 a3 H.size (by omega) (by omega) (by omega) hq_13) (cwV 1 hA (zw_V wi_640 wi_642 wi_0 wi_130 (zw_good wi_643)) rfl rfl rfl (by decide +kernel) ⟨(Nat.le_of_ble_eq_true rfl), (Nat.le_of_ble_eq_true rfl)⟩) ⟨zP_blind, va_recv hKc hPc (ci := 11) (q0 := 0) rfl rfl, zz_pre hKc hPc hDc hN hT hS hFc⟩ rfl rfl hl.1 rfl (lv_room (Nat.le_of_ble_eq_true rfl)) dX11_feed_27 ⟨(Nat.le_of_ble_eq_true rfl), (Nat.le_of_ble_eq_true rfl)⟩) hS (fun q _ h => hFc q h) hFc (fun u t H1 locs ht hvm hw hB hz1 hk1 hS => ?_)
    obtain ⟨fe_16, gt_17⟩ := u
    obtain ⟨hP1, hK1, hD1⟩ := hB
    rw [ht] at hP1
    have hK1 := va_K.moved hvm.symm hK1
    obtain ⟨hP, hD⟩ := va_join (wr := []) (w1 := [(h0, .inr (11, [.ref h_tape, .int fe_16, .ref h_taken, .ref h_parser, .ref h_machine, .ref h_countedCells, .ref h_plainCells, .ref h_printer, .int h_faultNumber, .int h_stopPlace, .int h_wasRun, .int h_runSteps, .int h_runCalls, .int h_hasValue, .long h_value, .int h_hasOther, .long h_otherValue])), (h_tape, .inl (hk, 2000, .inl gt_17))]) hP hD [0, 1] [] rfl rfl (by decide) (by decide) hk1 hFc hP1 hD1
    have hK := (hK.sub (tys' := []) [] rfl).app hK1
    generalize H1 = H at hP hS ⊢
    have hP : va_P (dC, dI) vwCl [(h0, .inr (11, [.ref h_tape, .int fe_16, .ref h_taken, .ref h_parser, .ref h_machine, .ref h_countedCells, .ref h_plainCells, .ref h_printer, .int h_faultNumber, .int h_stopPlace, .int h_wasRun, .int h_runSteps, .int h_runCalls, .int h_hasValue, .long h_value, .int h_hasOther, .long h_otherValue])), (h_tape, .inl (hk, 2000, .inl gt_17))] H := hP
    have hD : va_D A [(h0, .inr (11, [.ref h_tape, .int fe_16, .ref h_taken, .ref h_parser, .ref h_machine, .ref h_countedCells, .ref h_plainCells, .ref h_printer, .int h_faultNumber, .int h_stopPlace, .int h_wasRun, .int h_runSteps, .int h_runCalls, .int h_hasValue, .long h_value, .int h_hasOther, .long h_otherValue])), (h_tape, .inl (hk, 2000, .inl gt_17))] := hD
    have hK : va_K (dC, dI) vwCl [(hk, .byte)] s := hK
    obtain ⟨hq_18, hq_19, hq_20⟩ := hw
    refine lv_aload_n hx hb dX11_feed_30 rfl (lv_at hl 0 rfl) ?_
    refine lv_iload hx hb dX11_feed_31 (lv_at hl 4 rfl) ?_
    have hPc := hP.sub (ws' := [(h0, .inr (11, [.ref h_tape, .int fe_16, .ref h_taken, .ref h_parser, .ref h_machine, .ref h_countedCells, .ref h_plainCells, .ref h_printer, .int h_faultNumber, .int h_stopPlace, .int h_wasRun, .int h_runSteps, .int h_runCalls, .int h_hasValue, .long h_value, .int h_hasOther, .long h_otherValue])), (h_tape, .inl (hk, 2000, .inl gt_17))]) [0, 1] rfl
    have hDc := hD.sub (ws' := [(h0, .inr (11, [.ref h_tape, .int fe_16, .ref h_taken, .ref h_parser, .ref h_machine, .ref h_countedCells, .ref h_plainCells, .ref h_printer, .int h_faultNumber, .int h_stopPlace, .int h_wasRun, .int h_runSteps, .int h_runCalls, .int h_hasValue, .long h_value, .int h_hasOther, .long h_otherValue])), (h_tape, .inl (hk, 2000, .inl gt_17))]) [0, 1] (by decide) rfl
    have hKc := hK.sub (tys' := [(hk, .byte)]) [0] rfl
    have hFc := va_free (wc := [(h0, .inr (11, [.ref h_tape, .int fe_16, .ref h_taken, .ref h_parser, .ref h_machine, .ref h_countedCells, .ref h_plainCells, .ref h_printer, .int h_faultNumber, .int h_stopPlace, .int h_wasRun, .int h_runSteps, .int h_runCalls, .int h_hasValue, .long h_value, .int h_hasOther, .long h_otherValue])), (h_tape, .inl (hk, 2000, .inl gt_17))]) hD hS hAA [0, 1] rfl
    refine va_callv (va_runV (As := [.int a4]) (rest := []) ⟨hx, hb, hml, hown, hA⟩ (c_X11_putFour_x l dC dI aK aV h0 h_tape fe_16 h_taken h_parser h_machine h_countedCells h_plainCells h_printer h_faultNumber h_stopPlace h_wasRun h_runSteps h_runCalls h_hasValue h_value h_hasOther h_otherValue hk gt_17 a4 H.size (by omega) (by omega) (by omega) hq_19) (cwV 1 hA (zw_V wi_640 wi_642 wi_0 wi_130 (zw_good wi_643)) rfl rfl rfl (by decide +kernel) ⟨(Nat.le_of_ble_eq_true rfl), (Nat.le_of_ble_eq_true rfl)⟩) ⟨zP_blind, va_recv hKc hPc (ci := 11) (q0 := 0) rfl rfl, zz_pre hKc hPc hDc hN hT hS hFc⟩ rfl rfl hl.1 rfl (lv_room (Nat.le_of_ble_eq_true rfl)) dX11_feed_33 ⟨(Nat.le_of_ble_eq_true rfl), (Nat.le_of_ble_eq_true rfl)⟩) hS (fun q _ h => hFc q h) hFc (fun u t H1 locs ht hvm hw hB hz1 hk1 hS => ?_)
    obtain ⟨fe_22, gt_23⟩ := u
    obtain ⟨hP1, hK1, hD1⟩ := hB
    rw [ht] at hP1
    have hK1 := va_K.moved hvm.symm hK1
    obtain ⟨hP, hD⟩ := va_join (wr := []) (w1 := [(h0, .inr (11, [.ref h_tape, .int fe_22, .ref h_taken, .ref h_parser, .ref h_machine, .ref h_countedCells, .ref h_plainCells, .ref h_printer, .int h_faultNumber, .int h_stopPlace, .int h_wasRun, .int h_runSteps, .int h_runCalls, .int h_hasValue, .long h_value, .int h_hasOther, .long h_otherValue])), (h_tape, .inl (hk, 2000, .inl gt_23))]) hP hD [0, 1] [] rfl rfl (by decide) (by decide) hk1 hFc hP1 hD1
    have hK := (hK.sub (tys' := []) [] rfl).app hK1
    generalize H1 = H at hP hS ⊢
    have hP : va_P (dC, dI) vwCl [(h0, .inr (11, [.ref h_tape, .int fe_22, .ref h_taken, .ref h_parser, .ref h_machine, .ref h_countedCells, .ref h_plainCells, .ref h_printer, .int h_faultNumber, .int h_stopPlace, .int h_wasRun, .int h_runSteps, .int h_runCalls, .int h_hasValue, .long h_value, .int h_hasOther, .long h_otherValue])), (h_tape, .inl (hk, 2000, .inl gt_23))] H := hP
    have hD : va_D A [(h0, .inr (11, [.ref h_tape, .int fe_22, .ref h_taken, .ref h_parser, .ref h_machine, .ref h_countedCells, .ref h_plainCells, .ref h_printer, .int h_faultNumber, .int h_stopPlace, .int h_wasRun, .int h_runSteps, .int h_runCalls, .int h_hasValue, .long h_value, .int h_hasOther, .long h_otherValue])), (h_tape, .inl (hk, 2000, .inl gt_23))] := hD
    have hK : va_K (dC, dI) vwCl [(hk, .byte)] s := hK
    obtain ⟨hq_24, hq_25, hq_26⟩ := hw
    refine lv_aload_n hx hb dX11_feed_36 rfl (lv_at hl 0 rfl) ?_
    refine lv_iload hx hb dX11_feed_37 (lv_at hl 5 rfl) ?_
    have hPc := hP.sub (ws' := [(h0, .inr (11, [.ref h_tape, .int fe_22, .ref h_taken, .ref h_parser, .ref h_machine, .ref h_countedCells, .ref h_plainCells, .ref h_printer, .int h_faultNumber, .int h_stopPlace, .int h_wasRun, .int h_runSteps, .int h_runCalls, .int h_hasValue, .long h_value, .int h_hasOther, .long h_otherValue])), (h_tape, .inl (hk, 2000, .inl gt_23))]) [0, 1] rfl
    have hDc := hD.sub (ws' := [(h0, .inr (11, [.ref h_tape, .int fe_22, .ref h_taken, .ref h_parser, .ref h_machine, .ref h_countedCells, .ref h_plainCells, .ref h_printer, .int h_faultNumber, .int h_stopPlace, .int h_wasRun, .int h_runSteps, .int h_runCalls, .int h_hasValue, .long h_value, .int h_hasOther, .long h_otherValue])), (h_tape, .inl (hk, 2000, .inl gt_23))]) [0, 1] (by decide) rfl
    have hKc := hK.sub (tys' := [(hk, .byte)]) [0] rfl
    have hFc := va_free (wc := [(h0, .inr (11, [.ref h_tape, .int fe_22, .ref h_taken, .ref h_parser, .ref h_machine, .ref h_countedCells, .ref h_plainCells, .ref h_printer, .int h_faultNumber, .int h_stopPlace, .int h_wasRun, .int h_runSteps, .int h_runCalls, .int h_hasValue, .long h_value, .int h_hasOther, .long h_otherValue])), (h_tape, .inl (hk, 2000, .inl gt_23))]) hD hS hAA [0, 1] rfl
    refine va_callv (va_runV (As := [.int a5]) (rest := []) ⟨hx, hb, hml, hown, hA⟩ (c_X11_putFour_x l dC dI aK aV h0 h_tape fe_22 h_taken h_parser h_machine h_countedCells h_plainCells h_printer h_faultNumber h_stopPlace h_wasRun h_runSteps h_runCalls h_hasValue h_value h_hasOther h_otherValue hk gt_23 a5 H.size (by omega) (by omega) (by omega) hq_25) (cwV 1 hA (zw_V wi_640 wi_642 wi_0 wi_130 (zw_good wi_643)) rfl rfl rfl (by decide +kernel) ⟨(Nat.le_of_ble_eq_true rfl), (Nat.le_of_ble_eq_true rfl)⟩) ⟨zP_blind, va_recv hKc hPc (ci := 11) (q0 := 0) rfl rfl, zz_pre hKc hPc hDc hN hT hS hFc⟩ rfl rfl hl.1 rfl (lv_room (Nat.le_of_ble_eq_true rfl)) dX11_feed_39 ⟨(Nat.le_of_ble_eq_true rfl), (Nat.le_of_ble_eq_true rfl)⟩) hS (fun q _ h => hFc q h) hFc (fun u t H1 locs ht hvm hw hB hz1 hk1 hS => ?_)
    obtain ⟨fe_28, gt_29⟩ := u
    obtain ⟨hP1, hK1, hD1⟩ := hB
    rw [ht] at hP1
    have hK1 := va_K.moved hvm.symm hK1
    obtain ⟨hP, hD⟩ := va_join (wr := []) (w1 := [(h0, .inr (11, [.ref h_tape, .int fe_28, .ref h_taken, .ref h_parser, .ref h_machine, .ref h_countedCells, .ref h_plainCells, .ref h_printer, .int h_faultNumber, .int h_stopPlace, .int h_wasRun, .int h_runSteps, .int h_runCalls, .int h_hasValue, .long h_value, .int h_hasOther, .long h_otherValue])), (h_tape, .inl (hk, 2000, .inl gt_29))]) hP hD [0, 1] [] rfl rfl (by decide) (by decide) hk1 hFc hP1 hD1
    have hK := (hK.sub (tys' := []) [] rfl).app hK1
    generalize H1 = H at hP hS ⊢
    have hP : va_P (dC, dI) vwCl [(h0, .inr (11, [.ref h_tape, .int fe_28, .ref h_taken, .ref h_parser, .ref h_machine, .ref h_countedCells, .ref h_plainCells, .ref h_printer, .int h_faultNumber, .int h_stopPlace, .int h_wasRun, .int h_runSteps, .int h_runCalls, .int h_hasValue, .long h_value, .int h_hasOther, .long h_otherValue])), (h_tape, .inl (hk, 2000, .inl gt_29))] H := hP
    have hD : va_D A [(h0, .inr (11, [.ref h_tape, .int fe_28, .ref h_taken, .ref h_parser, .ref h_machine, .ref h_countedCells, .ref h_plainCells, .ref h_printer, .int h_faultNumber, .int h_stopPlace, .int h_wasRun, .int h_runSteps, .int h_runCalls, .int h_hasValue, .long h_value, .int h_hasOther, .long h_otherValue])), (h_tape, .inl (hk, 2000, .inl gt_29))] := hD
    have hK : va_K (dC, dI) vwCl [(hk, .byte)] s := hK
    obtain ⟨hq_30, hq_31, hq_32⟩ := hw
    refine lv_aload_n hx hb dX11_feed_42 rfl (lv_at hl 0 rfl) ?_
    refine va_get (D := (dC, dI)) (ci := 11) (v := .int fe_28) (C := RX11) (T := TX11) (N := 17) hx hb hA zin_X11 hown hK hP 0 rfl rfl 1 (by decide) (hA _ wi_585) (fun _ h9 => h9) rfl dX11_feed_43 ?_
    have hP9 := hP.sub (ws' := [(h0, .inr (11, [.ref h_tape, .int fe_28, .ref h_taken, .ref h_parser, .ref h_machine, .ref h_countedCells, .ref h_plainCells, .ref h_printer, .int h_faultNumber, .int h_stopPlace, .int h_wasRun, .int h_runSteps, .int h_runCalls, .int h_hasValue, .long h_value, .int h_hasOther, .long h_otherValue])), (h_tape, .inl (hk, 2000, .inl gt_29))]) [0, 1] rfl
    have hD9 := hD.sub (ws' := [(h0, .inr (11, [.ref h_tape, .int fe_28, .ref h_taken, .ref h_parser, .ref h_machine, .ref h_countedCells, .ref h_plainCells, .ref h_printer, .int h_faultNumber, .int h_stopPlace, .int h_wasRun, .int h_runSteps, .int h_runCalls, .int h_hasValue, .long h_value, .int h_hasOther, .long h_otherValue])), (h_tape, .inl (hk, 2000, .inl gt_29))]) [0, 1] (by decide) rfl
    have hK9 := hK.sub (tys' := [(hk, .byte)]) [0] rfl
    exact W.iret (v := fe_28) hx hb hr (fun t ht hW => ⟨⟨fe_28, (fe_28, gt_29), rfl, ⟨by omega, hq_31, (by have h0 := zn_nat (x := h_fed) (by omega); have h1 := zn_nat (x := fe_4) (by omega); have h2 := zn_nat (x := fe_10) (by omega); have h3 := zn_nat (x := fe_16) (by omega); have h4 := zn_nat (x := fe_22) (by omega); exact Or.inr ⟨by omega, fd_20_mk hq_8 hq_14 hq_20 hq_26 hq_32 (by omega) (by omega) (by omega) (by omega)⟩)⟩, by rw [ht]; exact hP9, va_K.moved hW.alike hK9, hD9⟩, hS.F ht⟩) hS.2.2 dX11_feed_46
  · have ic_2 : 2000 < x_1.toInt := zi_nle c_2
    refine lv_iconst (v := (-1)) hx hb dX11_feed_13 (by decide) ?_
    have hlit : Int32.toInt (-1) = (-1) := by decide
    have hP9 := hP.sub (ws' := [(h0, .inr (11, [.ref h_tape, .int h_fed, .ref h_taken, .ref h_parser, .ref h_machine, .ref h_countedCells, .ref h_plainCells, .ref h_printer, .int h_faultNumber, .int h_stopPlace, .int h_wasRun, .int h_runSteps, .int h_runCalls, .int h_hasValue, .long h_value, .int h_hasOther, .long h_otherValue])), (h_tape, .inl (hk, 2000, .inl gt))]) [0, 1] rfl
    have hD9 := hD.sub (ws' := [(h0, .inr (11, [.ref h_tape, .int h_fed, .ref h_taken, .ref h_parser, .ref h_machine, .ref h_countedCells, .ref h_plainCells, .ref h_printer, .int h_faultNumber, .int h_stopPlace, .int h_wasRun, .int h_runSteps, .int h_runCalls, .int h_hasValue, .long h_value, .int h_hasOther, .long h_otherValue])), (h_tape, .inl (hk, 2000, .inl gt))]) [0, 1] (by decide) rfl
    have hK9 := hK.sub (tys' := [(hk, .byte)]) [0] rfl
    exact W.iret (v := (-1)) hx hb hr (fun t ht hW => ⟨⟨(-1), (h_fed, gt), rfl, ⟨by omega, hzb, Or.inl ⟨by decide, rfl⟩⟩, by rw [ht]; exact hP9, va_K.moved hW.alike hK9, hD9⟩, hS.F ht⟩) hS.2.2 dX11_feed_14

end
section
/-! the whole program's code: rows of all functions -/
/-- what stays of rows, arms and kinds -/
def zfq (S S2 : Nat → Nat → Int32) (G G2 : Nat → Nat → Int) : Prop :=
  (S 11 0).toInt ≤ (S2 11 0).toInt ∧ (S 13 0).toInt ≤ (S2 13 0).toInt ∧ (S 14 0).toInt ≤ (S2 14 0).toInt ∧
  (∀ r : Nat, (r : Int) < (S 11 0).toInt → S2 0 r = S 0 r ∧ S2 1 r = S 1 r ∧ S2 2 r = S 2 r ∧ ∀ k, k < 5 → G2 r k = G r k) ∧
  (∀ m : Nat, (m : Int) < (S 13 0).toInt → S2 4 m = S 4 m ∧ S2 5 m = S 5 m ∧ S2 6 m = S 6 m ∧ S2 7 m = S 7 m ∧ S2 8 m = S 8 m ∧ G2 m 5 = G m 5) ∧
  (∀ k : Nat, (k : Int) < (S 14 0).toInt → (S 9 k).toInt ≠ -1 → S2 9 k = S 9 k)
/-- names told of function f -/
def zfn (S S2 : Nat → Nat → Int32) (f : Nat) : Prop := (S 10 (5 * f + 1)).toInt ≤ (S2 10 (5 * f + 1)).toInt ∧ S2 10 (5 * f) = S 10 (5 * f) ∧ (S2 10 (5 * f + 1) = S 10 (5 * f + 1) ∨ (S2 10 (5 * f + 1)).toInt ≤ 24)
theorem zfr_q {S S2 : Nat → Nat → Int32} {G G2 : Nat → Nat → Int} (h : zfr S S2 G G2) : zfq S S2 G G2 := ⟨h.1, h.2.1, h.2.2.1, h.2.2.2.1, h.2.2.2.2.1, h.2.2.2.2.2.1⟩
theorem zfq_tr {S S1 S2 : Nat → Nat → Int32} {G G1 G2 : Nat → Nat → Int} (a : zfq S S1 G G1) (b : zfq S1 S2 G1 G2) : zfq S S2 G G2 := by
  obtain ⟨a1, a2, a3, a4, a5, a6⟩ := a
  obtain ⟨b1, b2, b3, b4, b5, b6⟩ := b
  refine ⟨by omega, by omega, by omega, fun r hr => ?_, fun m hm => ?_, fun k hk hn => ?_⟩
  · obtain ⟨p0, p1, p2, p3⟩ := a4 r hr
    obtain ⟨q0, q1, q2, q3⟩ := b4 r (by omega)
    exact ⟨q0.trans p0, q1.trans p1, q2.trans p2, fun k hk => (q3 k hk).trans (p3 k hk)⟩
  · obtain ⟨p0, p1, p2, p3, p4, p5⟩ := a5 m hm
    obtain ⟨q0, q1, q2, q3, q4, q5⟩ := b5 m (by omega)
    exact ⟨q0.trans p0, q1.trans p1, q2.trans p2, q3.trans p3, q4.trans p4, q5.trans p5⟩
  · have e := a6 k hk hn
    exact (b6 k (by omega) (by rw [e]; exact hn)).trans e
/-- S, but with function f's names told as S2 has them -/
theorem zrow_frq {S S2 : Nat → Nat → Int32} {G G2 : Nat → Nat → Int} {f r : Nat} {po po2 : List Nat} (hQ : zfq S S2 G G2) (hn9 : zfn S S2 f) (hr : ∀ q ∈ r :: po, (q : Int) < (S 11 0).toInt) (hs : ∀ q ∈ po, q ∈ po2) (hn : r ∉ po2) (h : zrow S G f r po) : zrow S2 G2 f r po2 := by
  -- a table between: S2 with S's other names told
  have hF : zfr S (fun k => if k = 10 then (fun j => if j = 5 * f + 1 then S2 10 j else S 10 j) else S2 k) G G2 := by
    obtain ⟨a1, a2, a3, a4, a5, a6⟩ := hQ
    refine ⟨a1, a2, a3, a4, a5, a6, fun g => ?_⟩
    show (S 10 (5 * g + 1)).toInt ≤ (if 5 * g + 1 = 5 * f + 1 then S2 10 (5 * g + 1) else S 10 (5 * g + 1)).toInt ∧ (if 5 * g = 5 * f + 1 then S2 10 (5 * g) else S 10 (5 * g)) = S 10 (5 * g) ∧ ((if 5 * g + 1 = 5 * f + 1 then S2 10 (5 * g + 1) else S 10 (5 * g + 1)) = S 10 (5 * g + 1) ∨ (if 5 * g + 1 = 5 * f + 1 then S2 10 (5 * g + 1) else S 10 (5 * g + 1)).toInt ≤ 24)
    rw [if_neg (show ¬ 5 * g = 5 * f + 1 by omega)]
    by_cases e : 5 * g + 1 = 5 * f + 1
    · rw [if_pos e]
      have : g = f := by omega
      rw [this]; exact ⟨hn9.1, rfl, hn9.2.2⟩
    · rw [if_neg e]; exact ⟨Int.le_refl _, rfl, Or.inl rfl⟩
  have z := zrow_fr hF hr hs hn h
  have e0 : ∀ j, j = 5 * f ∨ j = 5 * f + 1 → (fun k => if k = 10 then (fun j => if j = 5 * f + 1 then S2 10 j else S 10 j) else S2 k : Nat → Nat → Int32) 10 j = S2 10 j := fun j hj => by
    show (if j = 5 * f + 1 then S2 10 j else S 10 j) = S2 10 j
    rcases hj with e | e
    · rw [if_neg (by omega), e]; exact hn9.2.1.symm
    · rw [if_pos e]
  have ek : ∀ k, k ≠ 10 → (fun k => if k = 10 then (fun j => if j = 5 * f + 1 then S2 10 j else S 10 j) else S2 k : Nat → Nat → Int32) k = S2 k := fun k hk => if_neg hk
  generalize (fun k => if k = 10 then (fun j => if j = 5 * f + 1 then S2 10 j else S 10 j) else S2 k : Nat → Nat → Int32) = S3 at z e0 ek
  obtain ⟨h1, h2, h3, h4, h5, h6, h7, h8⟩ := z
  have t0 := e0 (5 * f) (Or.inl rfl)
  have t1 := e0 (5 * f + 1) (Or.inr rfl)
  have k0 := ek 0 (by decide)
  have k1 := ek 1 (by decide)
  have k2 := ek 2 (by decide)
  have k4 := ek 4 (by decide)
  have k5 := ek 5 (by decide)
  have k6 := ek 6 (by decide)
  have k8 := ek 8 (by decide)
  have k9 := ek 9 (by decide)
  have k13 := ek 13 (by decide)
  have k14 := ek 14 (by decide)
  refine ⟨h1, h2, h3, h4, h5, by rw [← t1]; exact h6, h7, ?_⟩
  rw [k0] at h8
  generalize Int32.toNatClampNeg (S2 0 r) = n at h8 ⊢
  have tg : ∀ h, ztg S3 G2 r po2 h → ztg S2 G2 r po2 h := fun h t => by unfold ztg at t ⊢; rw [k1] at t; exact t
  match n, h8 with
  | 0, h => simp only [zop] at h ⊢; rw [k0, k1, t0] at h; exact h
  | 1, h => simp only [zop] at h ⊢; exact h
  | 2, h => simp only [zop] at h ⊢; exact h
  | 3, h => simp only [zop] at h ⊢; rw [k1] at h; exact h
  | 4, h => simp only [zop] at h ⊢; rw [k1, k9, k14] at h; exact h
  | 5, h => simp only [zop] at h ⊢; rw [k1, k9, k14] at h; exact h
  | 6, h => simp only [zop] at h ⊢; rw [k2] at h; exact h
  | 7, h => simp only [zop] at h ⊢; rw [k2] at h; exact h
  | 8, h => simp only [zop] at h ⊢; exact h
  | 9, h => simp only [zop] at h ⊢; exact h
  | 10, h => simp only [zop] at h ⊢; exact h
  | 11, h => simp only [zop] at h ⊢; exact h
  | 12, h => simp only [zop] at h ⊢; rw [k1, t1] at h; exact h
  | 13, h => simp only [zop] at h ⊢; exact ⟨h.1, h.2.1, h.2.2.1, tg _ h.2.2.2⟩
  | 14, h => simp only [zop] at h ⊢; exact tg _ h
  | 15, h =>
    simp only [zop] at h ⊢
    rw [k1, k2, k5] at h
    obtain ⟨u1, u2, AL, u3, u4, u5⟩ := h
    refine ⟨u1, u2, AL, u3, u4, fun m hm => ?_⟩
    have u := u5 m hm
    unfold zarm zkd zfl at u ⊢
    rw [k13, k4, k14, k9, k8, t1, k6] at u
    exact u
  | 16, h => simp only [zop] at h ⊢; exact tg _ h
  | 17, h => simp only [zop] at h ⊢; exact h
  | n + 18, h => exact h.elim
/-- rows of any functions -/
def zall (S : Nat → Nat → Int32) (G : Nat → Nat → Int) : List Nat → Prop
  | [] => True
  | r :: po => (∃ f : Nat, zrow S G f r po) ∧ zall S G po
theorem zall_seg {S : Nat → Nat → Int32} {G : Nat → Nat → Int} {f : Nat} : ∀ {X : List Nat}, zseg S G f X → zall S G X
  | [], _ => trivial
  | _ :: _, h => ⟨⟨f, h.1⟩, zall_seg h.2⟩
theorem zall_fr {S S2 : Nat → Nat → Int32} {G G2 : Nat → Nat → Int} {Y : List Nat} (hQ : zfq S S2 G G2) : ∀ {X : List Nat}, (∀ q ∈ X, (q : Int) < (S 11 0).toInt) → (∀ q ∈ X, ∀ f : Nat, G q 4 = (f : Int) → zfn S S2 f) → (∀ q ∈ X, q ∉ Y) → zall S G X → zall S2 G2 Y → zall S2 G2 (X ++ Y)
  | [], _, _, _, _, h => h
  | r :: po, hr, hf, hd, ⟨⟨f, hz⟩, h⟩, hy => ⟨⟨f, zrow_frq hQ (hf r List.mem_cons_self f hz.2.2.2.2.2.2.1) hr (fun q hq => List.mem_append.mpr (Or.inl hq)) (fun g => (List.mem_append.mp g).elim hz.1 (hd r List.mem_cons_self)) hz⟩, zall_fr hQ (fun q hq => hr q (List.mem_cons_of_mem _ hq)) (fun q hq => hf q (List.mem_cons_of_mem _ hq)) (fun q hq => hd q (List.mem_cons_of_mem _ hq)) h hy⟩
/-- heights and scopes go on from row to row, but behind a RETURN -/
def zcc (S : Nat → Nat → Int32) (G : Nat → Nat → Int) : List Nat → Prop
  | r :: s :: l => (Int32.toNatClampNeg (S 0 r) = 17 ∧ 1000 ≤ G r 3 ∨ G s 0 = G r 1 ∧ G s 2 ≤ G r 3 ∧ G s 4 = G r 4) ∧ zcc S G (s :: l)
  | _ => True
theorem zcc_seg {S : Nat → Nat → Int32} {G : Nat → Nat → Int} {f : Nat} : ∀ {X : List Nat} {h c h2 c2 : Int}, zseg S G f X → zco G h c X h2 c2 → zcc S G X
  | [], _, _, _, _, _, _ => trivial
  | [_], _, _, _, _, _, _ => trivial
  | r :: s :: l, _, _, _, _, z, k => ⟨Or.inr ⟨k.2.2.1, k.2.2.2.1, by rw [z.2.1.2.2.2.2.2.2.1, z.1.2.2.2.2.2.2.1]⟩, zcc_seg z.2 k.2.2⟩
theorem zcc_ext {S S2 : Nat → Nat → Int32} {G G2 : Nat → Nat → Int} : ∀ {X : List Nat}, (∀ q ∈ X, S2 0 q = S 0 q ∧ ∀ k, k < 5 → G2 q k = G q k) → zcc S G X → zcc S2 G2 X
  | [], _, _ => trivial
  | [_], _, _ => trivial
  | r :: s :: l, he, z => by
    have hr := he r List.mem_cons_self
    have hs := he s (List.mem_cons_of_mem _ List.mem_cons_self)
    refine ⟨?_, zcc_ext (fun q hq => he q (List.mem_cons_of_mem _ hq)) z.2⟩
    rw [hr.1, hr.2 1 (by decide), hr.2 3 (by decide), hr.2 4 (by decide), hs.2 0 (by decide), hs.2 2 (by decide), hs.2 4 (by decide)]
    exact z.1
theorem zcc_app {S : Nat → Nat → Int32} {G : Nat → Nat → Int} {s : Nat} {l : List Nat} (hy : zcc S G (s :: l)) : ∀ {X : List Nat} (d : Nat), zcc S G X → (X = [] ∨ Int32.toNatClampNeg (S 0 (zla d X)) = 17 ∧ 1000 ≤ G (zla d X) 3 ∨ G s 0 = G (zla d X) 1 ∧ G s 2 ≤ G (zla d X) 3 ∧ G s 4 = G (zla d X) 4) → zcc S G (X ++ s :: l)
  | [], _, _, _ => hy
  | [r], d, _, h => ⟨h.resolve_left (List.cons_ne_nil _ _), hy⟩
  | r :: t :: k, d, z, h => ⟨z.1, zcc_app hy r z.2 (Or.inr (h.resolve_left (List.cons_ne_nil _ _)))⟩
/-- the program between two definitions: fz functions so far, en their entries -/
def zPr (S : Nat → Nat → Int32) (G : Nat → Nat → Int) (en : Nat → Int32) (fz : Nat) (L : List Nat) : Prop :=
  ((L = [] ∧ (S 11 0).toInt = 0 ∧ (S 12 0).toInt = -1) ∨ (L ≠ [] ∧ zS0 S ∧ zli (S 3) 0 L ∧ zla 0 L = Int32.toNatClampNeg (S 12 0) ∧ Int32.toNatClampNeg (S 0 (zla 0 L)) = 17 ∧ 1000 ≤ G (zla 0 L) 3)) ∧
  ((L.length : Nat) : Int) = (S 11 0).toInt ∧ L.Nodup ∧ (∀ r ∈ L, (r : Int) < (S 11 0).toInt ∧ ∃ f : Nat, f < fz ∧ G r 4 = (f : Int)) ∧ zall S G L ∧ zcc S G L ∧
  (∀ f : Nat, f < fz → 0 ≤ (en f).toInt ∧ Int32.toNatClampNeg (en f) ∈ L ∧ Int32.toNatClampNeg (S 0 (Int32.toNatClampNeg (en f))) = 0 ∧ G (Int32.toNatClampNeg (en f)) 4 = (f : Int)) ∧
  (∀ f : Nat, f < fz → 0 ≤ (S 10 (5 * f)).toInt ∧ (S 10 (5 * f)).toInt ≤ 6 ∧ (S 10 (5 * f)).toInt ≤ (S 10 (5 * f + 1)).toInt ∧ (S 10 (5 * f + 1)).toInt ≤ 24)

end
section
theorem zfn_tr {S S1 S2 : Nat → Nat → Int32} {f : Nat} (a : zfn S S1 f) (b : zfn S1 S2 f) : zfn S S2 f := ⟨Int.le_trans a.1 b.1, b.2.1.trans a.2.1, by
  rcases b.2.2 with q | q
  · rw [q]; exact a.2.2
  · exact Or.inr q⟩
/-- a definition more -/
theorem zPr_def {S S2 S3 S4 : Nat → Nat → Int32} {G G3 : Nat → Nat → Int} {en en2 : Nat → Int32} {F e : Nat} {L X : List Nat} {n : Int} {v f32 : Int32}
    (hP : zPr S G en F L) (he : Int32.toNatClampNeg (S 11 0) = e) (h0 : 0 ≤ n) (h6 : n ≤ 6) (hf32 : f32.toInt = (F : Int))
    (e0 : S2 0 = upd (S 0) e 0) (e1 : S2 1 = upd (S 1) e f32) (e2 : S2 2 = upd (S 2) e (-1))
    (e3a : (S 12 0).toInt = -1 → S2 3 = upd (S 3) e (-1)) (e3b : 0 ≤ (S 12 0).toInt → S2 3 = upd (upd (S 3) e (S 3 (Int32.toNatClampNeg (S 12 0)))) (Int32.toNatClampNeg (S 12 0)) (S 11 0))
    (e11 : (S2 11 0).toInt = (S 11 0).toInt + 1) (e12 : S2 12 0 = S 11 0) (er : ∀ k, 4 ≤ k → k ≠ 10 → k ≠ 11 → k ≠ 12 → S2 k = S k)
    (ef : ∀ g, g < F → zfn S S2 g) (et : (S2 10 (5 * F)).toInt = n) (enm : n ≤ (S2 10 (5 * F + 1)).toInt)
    (q : zE S2 S3 (zgu G e 100000 0 n n (F : Int)) G3 F 0 n X [] (0 + 1) n) (hX : X ≠ []) (a4 : zap S3 S4 17 (-1)) (m4 : n ≤ (S4 10 (5 * F + 1)).toInt) (m5 : (S4 10 (5 * F + 1)).toInt ≤ 24)
    (een : en2 = upd en F v) (ev : v = S 11 0) : ∃ G4 L', zPr S4 G4 en2 (F + 1) L' := by
  obtain ⟨pc, pl, pn, pr, pa, pcc, pe, pf⟩ := hP
  have c0 : 0 ≤ (S 11 0).toInt := by omega
  have hn := zn_nat c0
  rw [he] at hn
  obtain ⟨s0, s1, s2, s3, s4⟩ := zgu_s (G := G) (t := e) (a := 100000) (b := 0) (c := n) (d := n) (e := (F : Int))
  have hq2 : zfq S S2 G (zgu G e 100000 0 n n (F : Int)) := by
    refine ⟨by omega, by rw [er 13 (by decide) (by decide) (by decide) (by decide)]; exact Int.le_refl _, by rw [er 14 (by decide) (by decide) (by decide) (by decide)]; exact Int.le_refl _, fun r hr => ?_, fun m _ => ?_, fun k _ _ => ?_⟩
    · have hne : r ≠ e := by omega
      rw [e0, e1, e2, zu_n hne, zu_n hne, zu_n hne]
      exact ⟨rfl, rfl, rfl, fun k _ => zgu_n hne⟩
    · rw [er 4 (by decide) (by decide) (by decide) (by decide), er 5 (by decide) (by decide) (by decide) (by decide), er 6 (by decide) (by decide) (by decide) (by decide), er 7 (by decide) (by decide) (by decide) (by decide), er 8 (by decide) (by decide) (by decide) (by decide), zgu_5]
      exact ⟨rfl, rfl, rfl, rfl, rfl, rfl⟩
    · rw [er 9 (by decide) (by decide) (by decide) (by decide)]
  have hz2 : zS0 S2 := by
    refine ⟨by rw [e12]; exact c0, by rw [e12]; omega, ?_⟩
    rw [e12, he]
    rcases pc with ⟨-, -, u⟩ | ⟨-, u, -⟩
    · rw [e3a u, zu_s]; decide
    · have hc := zn_nat u.1
      have := u.2.1
      rw [e3b u.1, zu_n (by omega), zu_s]; exact u.2.2
  have k4 := zx_op (b := 0) (c3 := n) (d := 1000) 17 hz2 q a4 rfl (Int.le_refl _) (by omega) (Int.le_refl _) h0 (by decide) m4 (fun G' t g0 _ _ _ _ _ => by simp only [zop]; rw [g0]; decide)
  have ht4 : Int32.toNatClampNeg (S4 0 (Int32.toNatClampNeg (S4 12 0))) = 17 := by rw [a4.2.1, a4.2.2.1, zu_s]; rfl
  have ht5 : zgu G3 (Int32.toNatClampNeg (S3 11 0)) (0 + 1) 0 n 1000 (F : Int) (Int32.toNatClampNeg (S4 12 0)) 3 = 1000 := by rw [a4.2.1]; exact zgu_s.2.2.2.1
  generalize zgu G3 (Int32.toNatClampNeg (S3 11 0)) (0 + 1) 0 n 1000 (F : Int) = G4 at k4 ht5
  generalize hY : X ++ [Int32.toNatClampNeg (S3 11 0)] = Y at k4
  have hYne : Y ≠ [] := by rw [← hY]; simp
  have hz4 := zE_end hz2 k4
  obtain ⟨b1, b2, b3, b4, b5, b6, b7, b8, b9, ba⟩ := k4
  rw [List.append_nil] at b3 b5 b6 b7 b8
  rw [e12, he] at b3 b5
  have l2 := b1.1
  have hQ : zfq S S4 G G4 := zfq_tr hq2 (zfr_q b1)
  have hfn : ∀ g, g < F → zfn S S4 g := fun g hg => zfn_tr (ef g hg) (b1.2.2.2.2.2.2 g)
  have heY : e ∉ Y := fun g => by have := b6 e g; omega
  have hLr : ∀ r ∈ L, (r : Int) < (S 11 0).toInt := fun r hr => (pr r hr).1
  have hrow2 : zrow S2 (zgu G e 100000 0 n n (F : Int)) F e [] := by
    refine ⟨fun g => (nomatch g), by rw [s0]; decide, by rw [s1]; exact Int.le_refl _, by rw [s2]; exact h0, by rw [s3]; exact h0, by rw [s2]; exact enm, s4, ?_⟩
    rw [e0, zu_s]
    show zop S2 _ F e [] 0
    simp only [zop]
    rw [s0, s1, s2, s3, e1, zu_s]
    exact ⟨rfl, rfl, hf32, Int.le_refl _, by omega, by rw [e0, zu_s]; decide⟩
  have hrow4 : zrow S4 G4 F e Y := zrow_fr (po := []) b1 (fun q hq => by
    rcases List.mem_cons.mp hq with g | g
    · rw [g]; omega
    · exact nomatch g) (fun _ g => (nomatch g)) heY hrow2
  have he4 := b1.2.2.2.1 e (by omega)
  have hG4 : G4 e 0 = 100000 ∧ G4 e 1 = 0 ∧ G4 e 3 = n ∧ G4 e 4 = (F : Int) := ⟨by rw [he4.2.2.2 0 (by decide)]; exact s0, by rw [he4.2.2.2 1 (by decide)]; exact s1, by rw [he4.2.2.2 3 (by decide)]; exact s3, by rw [he4.2.2.2 4 (by decide)]; exact s4⟩
  have hLd : ∀ r ∈ L, r ∉ e :: Y := fun r hr g => by
    have := hLr r hr
    rcases List.mem_cons.mp g with g | g
    · omega
    · have := b6 r g; omega
  have hYf : ∀ r ∈ Y, G4 r 4 = (F : Int) := by
    clear b2 b3 b5 b6 b7 b8 ba heY hLd hrow4 hYne hY
    induction Y with
    | nil => intro r hr; exact nomatch hr
    | cons y Y ih =>
      intro r hr
      rcases List.mem_cons.mp hr with g | g
      · rw [g]; exact b9.1.2.2.2.2.2.2.1
      · exact ih b9.2 r g
  have hccY : zcc S4 G4 (e :: Y) := by
    have hcY := zcc_seg b9 ba
    have hh := ba
    cases Y with
    | nil => trivial
    | cons y Y => exact ⟨Or.inr ⟨by rw [hG4.2.1]; exact hh.1, by rw [hG4.2.2.1]; exact hh.2.1, by rw [hG4.2.2.2]; exact hYf y List.mem_cons_self⟩, hcY⟩
  refine ⟨G4, L ++ e :: Y, Or.inr ⟨by simp, hz4, ?_, ?_, ?_, ?_⟩, ?_, ?_, fun r hr => ?_, ?_, ?_, fun g hg => ?_, fun g hg => ?_⟩
  · rcases pc with ⟨u1, u2, u3⟩ | ⟨u1, u2, u3, u4, u5⟩
    · rw [u1]
      refine ⟨?_, b3⟩
      show (0 : Int32).toInt = (e : Int)
      have : (0 : Int32).toInt = 0 := by decide
      omega
    · have hc := zn_nat u2.1
      have hc2 := u2.2.1
      refine zli_app (d := 0) u1 pn u3 (fun r hr hne => ?_) ?_
      · have := hLr r hr
        rw [u4] at hne
        rw [b2 r (by omega) (by rw [e12]; omega), e3b u2.1, zu_n hne, zu_n (by omega)]
      · rw [u4, b2 _ (by omega) (by rw [e12]; omega), e3b u2.1, zu_s]
        exact ⟨by omega, b3⟩
  · rw [zla_app]; exact b5
  · rw [zla_app]
    show Int32.toNatClampNeg (S4 0 (zla e Y)) = 17
    rw [b5]; exact ht4
  · rw [zla_app]
    show 1000 ≤ G4 (zla e Y) 3
    rw [b5, ht5]; exact Int.le_refl _
  · rw [List.length_append, List.length_cons]
    omega
  · refine List.nodup_append.mpr ⟨pn, List.nodup_cons.mpr ⟨heY, b8⟩, fun r hr q hq g => hLd r hr (g ▸ hq)⟩
  · rcases List.mem_append.mp hr with g | g
    · obtain ⟨p1, f, p2, p3⟩ := pr r g
      have := hQ.2.2.2.1 r p1
      exact ⟨by omega, f, by omega, by rw [this.2.2.2 4 (by decide)]; exact p3⟩
    · rcases List.mem_cons.mp g with g | g
      · rw [g]; exact ⟨by omega, F, by omega, hG4.2.2.2⟩
      · have := b6 r g
        exact ⟨by omega, F, by omega, hYf r g⟩
  · refine zall_fr hQ hLr (fun r hr f hf => ?_) hLd pa ⟨⟨F, hrow4⟩, zall_seg b9⟩
    obtain ⟨-, f', p2, p3⟩ := pr r hr
    have : f = f' := by omega
    rw [this]; exact hfn f' p2
  · refine zcc_app hccY 0 (zcc_ext (fun r hr => ⟨(hQ.2.2.2.1 r (hLr r hr)).1, (hQ.2.2.2.1 r (hLr r hr)).2.2.2⟩) pcc) ?_
    rcases pc with ⟨u1, -, -⟩ | ⟨u1, -, -, -, u5⟩
    · exact Or.inl u1
    · refine Or.inr (Or.inl ?_)
      have hq9 := hQ.2.2.2.1 _ (hLr _ (zla_mem u1 0))
      rw [hq9.1, hq9.2.2.2 3 (by decide)]; exact u5
  · by_cases g1 : g = F
    · rw [g1, een, zu_s, ev, he]
      exact ⟨c0, List.mem_append.mpr (Or.inr List.mem_cons_self), by rw [he4.1, e0, zu_s]; rfl, hG4.2.2.2⟩
    · obtain ⟨p1, p2, p3, p4⟩ := pe g (by omega)
      have := hQ.2.2.2.1 _ (hLr _ p2)
      rw [een, zu_n g1]
      exact ⟨p1, List.mem_append.mpr (Or.inl p2), by rw [this.1]; exact p3, by rw [this.2.2.2 4 (by decide)]; exact p4⟩
  · by_cases g1 : g = F
    · have t4 := (b1.2.2.2.2.2.2 F).2.1
      rw [g1, t4]
      exact ⟨by omega, by omega, by omega, m5⟩
    · obtain ⟨p1, p2, p3, p4⟩ := pf g (by omega)
      obtain ⟨t1, t2, t3⟩ := hfn g (by omega)
      rw [t2]
      refine ⟨p1, p2, by omega, ?_⟩
      rcases t3 with t3 | t3
      · rw [t3]; exact p4
      · exact t3
/-- a function's facts are cleared -/
def zfz (gf g2 : Nat → Int32) (Z i : Nat) : Prop := ∀ j, g2 j = if 5 * Z ≤ j ∧ j < 5 * Z + i then 0 else gf j
theorem zfz_0 {gf : Nat → Int32} {Z i : Nat} (h : i = 0) : zfz gf gf Z i := fun j => by rw [if_neg (by omega)]
theorem zfz_st {gf gl g2 : Nat → Int32} {Z i i2 k : Nat} (h : zfz gf gl Z i) (e : g2 = upd gl k 0) (ek : k = 5 * Z + i) (ei : i2 = i + 1) : zfz gf g2 Z i2 := fun j => by
  rw [e]
  by_cases u : j = k
  · rw [u, zu_s, if_pos (by omega)]
  · rw [zu_n u, h j]
    by_cases v : 5 * Z ≤ j ∧ j < 5 * Z + i
    · rw [if_pos v, if_pos (by omega)]
    · rw [if_neg v, if_neg (by omega)]
/-- other functions' facts -/
def zfo (F : Nat) (ff ff2 : Nat → Int32) : Prop := ∀ g : Nat, g ≠ F → (ff (5 * g + 1)).toInt ≤ (ff2 (5 * g + 1)).toInt ∧ ff2 (5 * g) = ff (5 * g) ∧ (ff2 (5 * g + 1) = ff (5 * g + 1) ∨ (ff2 (5 * g + 1)).toInt ≤ 24)
theorem zfo_rf {F : Nat} {ff : Nat → Int32} : zfo F ff ff := fun _ _ => ⟨Int.le_refl _, rfl, Or.inl rfl⟩
theorem zfo_tr {F : Nat} {ff f1 f2 : Nat → Int32} (a : zfo F ff f1) (b : zfo F f1 f2) : zfo F ff f2 := fun g hg => ⟨Int.le_trans (a g hg).1 (b g hg).1, (b g hg).2.1.trans (a g hg).2.1, by
  rcases (b g hg).2.2 with q | q
  · rw [q]; exact (a g hg).2.2
  · exact Or.inr q⟩
theorem zfo_ff {F : Nat} {ff f1 : Nat → Int32} (a : zff ff f1) : zfo F ff f1 := fun g _ => a g
theorem zfo_0 {F : Nat} {ff f1 : Nat → Int32} {x : Int32} (e : f1 = upd ff (5 * F + 0) x) : zfo F ff f1 := fun g hg => by
  rw [e, zu_n (by omega), zu_n (by omega)]; exact ⟨Int.le_refl _, rfl, Or.inl rfl⟩
theorem zfo_z {F : Nat} {ff f1 : Nat → Int32} (e : zfz ff f1 F 5) : zfo F ff f1 := fun g hg => by
  rw [e (5 * g), e (5 * g + 1), if_neg (by omega), if_neg (by omega)]; exact ⟨Int.le_refl _, rfl, Or.inl rfl⟩

end
