theorem dX1_lower_0 : decode cX1_lower 0 = .ok (.lload_n 1, 1) := by decide +kernel
theorem dX1_lower_1 : decode cX1_lower 1 = .ok (.invokestatic 78, 3) := by decide +kernel
theorem dX1_lower_4 : decode cX1_lower 4 = .ok (.ifCond .ne 5, 3) := by decide +kernel
theorem dX1_lower_7 : decode cX1_lower 7 = .ok (.iload_n 3, 1) := by decide +kernel
theorem dX1_lower_8 : decode cX1_lower 8 = .ok (.ireturn, 1) := by decide +kernel
theorem dX1_lower_9 : decode cX1_lower 9 = .ok (.lload_n 1, 1) := by decide +kernel
theorem dX1_lower_10 : decode cX1_lower 10 = .ok (.l2i, 1) := by decide +kernel
theorem dX1_lower_11 : decode cX1_lower 11 = .ok (.istore 4, 2) := by decide +kernel
theorem dX1_lower_13 : decode cX1_lower 13 = .ok (.aload_n 0, 1) := by decide +kernel
theorem dX1_lower_14 : decode cX1_lower 14 = .ok (.getfield 49, 3) := by decide +kernel
theorem dX1_lower_17 : decode cX1_lower 17 = .ok (.iload 4, 2) := by decide +kernel
theorem dX1_lower_19 : decode cX1_lower 19 = .ok (.dup2, 1) := by decide +kernel
theorem dX1_lower_20 : decode cX1_lower 20 = .ok (.iaload, 1) := by decide +kernel
theorem dX1_lower_21 : decode cX1_lower 21 = .ok (.iconst 1, 1) := by decide +kernel
theorem dX1_lower_22 : decode cX1_lower 22 = .ok (.isub, 1) := by decide +kernel
theorem dX1_lower_23 : decode cX1_lower 23 = .ok (.iastore, 1) := by decide +kernel
theorem dX1_lower_24 : decode cX1_lower 24 = .ok (.aload_n 0, 1) := by decide +kernel
theorem dX1_lower_25 : decode cX1_lower 25 = .ok (.getfield 49, 3) := by decide +kernel
theorem dX1_lower_28 : decode cX1_lower 28 = .ok (.iload 4, 2) := by decide +kernel
theorem dX1_lower_30 : decode cX1_lower 30 = .ok (.iaload, 1) := by decide +kernel
theorem dX1_lower_31 : decode cX1_lower 31 = .ok (.ifCond .le 5, 3) := by decide +kernel
theorem dX1_lower_34 : decode cX1_lower 34 = .ok (.iload_n 3, 1) := by decide +kernel
theorem dX1_lower_35 : decode cX1_lower 35 = .ok (.ireturn, 1) := by decide +kernel
theorem dX1_lower_36 : decode cX1_lower 36 = .ok (.aload_n 0, 1) := by decide +kernel
theorem dX1_lower_37 : decode cX1_lower 37 = .ok (.getfield 49, 3) := by decide +kernel
theorem dX1_lower_40 : decode cX1_lower 40 = .ok (.iload 4, 2) := by decide +kernel
theorem dX1_lower_42 : decode cX1_lower 42 = .ok (.iload_n 3, 1) := by decide +kernel
theorem dX1_lower_43 : decode cX1_lower 43 = .ok (.iastore, 1) := by decide +kernel
theorem dX1_lower_44 : decode cX1_lower 44 = .ok (.iload 4, 2) := by decide +kernel
theorem dX1_lower_46 : decode cX1_lower 46 = .ok (.ireturn, 1) := by decide +kernel
theorem zlv_if {lv : Nat → Bool} {x c : Nat} (h : (if c = x then false else lv c) = true) : lv c = true := by
  by_cases g : c = x
  · rw [if_pos g] at h; exact Bool.noConfusion h
  · rw [if_neg g] at h; exact h
set_option maxHeartbeats 4000000 in
set_option maxRecDepth 100000 in
theorem c_X1_lower_x (l : Launch) (dC : Nat → ClassId) (dI : Nat → Nat → Nat) (aK aV : Nat → Nat) (h0 : Nat) (ek : Nat) (ec : Nat) (ef : Nat) (cki : Nat) (e1 : ClassId) (e2 : ClassId) (e3 : ClassId) (e_limit : Int32) (e_fresh : Int32) (e_firstFree : Int32) (e_held : Int32) (e_mostHeld : Int32) (e_made : Int32) (e_reused : Int32) (e_freed : Int32) (e_doubled : Int32) (gk : Nat → Int32) (gc : Nat → Int32) (gv : Nat → Int64) (va : Int64) (dm : Int32) (wd : Nat → Nat) (lv : Nat → Bool) (R : Nat → Int) (FL : List Nat) (DL : List Nat) (R2 : Nat → Int) (sz : Nat) (hcs : zCS wd gc gv e_fresh e_firstFree e_held e_doubled lv R FL DL dm) (hgd : zhs va = 2 → 0 ≤ (va.toInt32).toInt) (hR : ∀ c, R c = R2 c + zr va c) (h2 : ∀ c, 0 ≤ R2 c) (hdb : e_doubled.toInt < 1000000) : Met l yX1_lower (Cond.code yX1_lower cX1_lower 5 (some .int) :: zw) ({ frames := 10, cells := 0, slots := 0, locals := 300 }) (va_Pc [.ref h0, .long va, .int dm] (zP dC dI aK aV sz [(e1, .int), (e2, .int), (e3, .long)] [(h0, .inr (1, [.ref ek, .ref ec, .ref ef, .ref cki, .int e_limit, .int e_fresh, .int e_firstFree, .int e_held, .int e_mostHeld, .int e_made, .int e_reused, .int e_freed, .int e_doubled])), (ek, .inl (e1, 400, .inl gk)), (ec, .inl (e2, 400, .inl gc)), (ef, .inl (e3, 1200, .inr (.inl gv)))])) (va_Qi (fun (r : Int32) (u : (Nat → Int32)) => match u with | gc2 => (∃ lv2 DL2, zCS wd gc2 gv e_fresh e_firstFree e_held e_doubled lv2 R2 FL DL2 r ∧ (∀ c, lv2 c = true → lv c = true) ∧ ∀ c, c ∈ DL2 → c ∈ DL ∨ lv c = true)) (fun u => match u with | gc2 => zQ dC dI (va_A [(h0, .inr (1, [.ref ek, .ref ec, .ref ef, .ref cki, .int e_limit, .int e_fresh, .int e_firstFree, .int e_held, .int e_mostHeld, .int e_made, .int e_reused, .int e_freed, .int e_doubled])), (ek, .inl (e1, 400, .inl gk)), (ec, .inl (e2, 400, .inl gc)), (ef, .inl (e3, 1200, .inr (.inl gv)))] sz) [(e1, .int), (e2, .int), (e3, .long)] [(h0, .inr (1, [.ref ek, .ref ec, .ref ef, .ref cki, .int e_limit, .int e_fresh, .int e_firstFree, .int e_held, .int e_mostHeld, .int e_made, .int e_reused, .int e_freed, .int e_doubled])), (ek, .inl (e1, 400, .inl gk)), (ec, .inl (e2, 400, .inl gc2)), (ef, .inl (e3, 1200, .inr (.inl gv)))]) (va_A [(h0, .inr (1, [.ref ek, .ref ec, .ref ef, .ref cki, .int e_limit, .int e_fresh, .int e_firstFree, .int e_held, .int e_mostHeld, .int e_made, .int e_reused, .int e_freed, .int e_doubled])), (ek, .inl (e1, 400, .inl gk)), (ec, .inl (e2, 400, .inl gc)), (ef, .inl (e3, 1200, .inr (.inl gv)))] sz)) 0 0 (va_A [(h0, .inr (1, [.ref ek, .ref ec, .ref ef, .ref cki, .int e_limit, .int e_fresh, .int e_firstFree, .int e_held, .int e_mostHeld, .int e_made, .int e_reused, .int e_freed, .int e_doubled])), (ek, .inl (e1, 400, .inl gk)), (ec, .inl (e2, 400, .inl gc)), (ef, .inl (e3, 1200, .inr (.inl gv)))] sz) := by
  refine Met.ofW (cc := cX1_lower) (maxL := 5) (ret := (some .int)) (by decide) rfl ?_
  intro p e s m args below meth c s₁ B hml hv
  obtain ⟨rfl, hsz, hP, hK, hD0, hN, hT⟩ := hv
  have hx := B.exec
  have hb := B.bytes
  have hr := B.returns
  have hts := atoms_spec (ws := Cond.code yX1_lower cX1_lower 5 (some .int) :: zw) B.pre
  have hA : ∀ w ∈ zw, w.before _ s = true := fun w h => hts w (List.mem_cons_of_mem _ h)
  have hown : s.vm.findClass RX1 = some m.cls := findClass_of_methodNamed B.named
  have hlocks := B.notSynchronized
  subst hsz
  have hD := hD0.self (sz := s.heap.size)
  generalize hAe : va_A [(h0, .inr (1, [.ref ek, .ref ec, .ref ef, .ref cki, .int e_limit, .int e_fresh, .int e_firstFree, .int e_held, .int e_mostHeld, .int e_made, .int e_reused, .int e_freed, .int e_doubled])), (ek, .inl (e1, 400, .inl gk)), (ec, .inl (e2, 400, .inl gc)), (ef, .inl (e3, 1200, .inr (.inl gv)))] s.heap.size = A at hD hT ⊢
  have hAA : ∀ q : Nat, s.heap.size ≤ q → A q := fun q h => by rw [← hAe]; exact Or.inr h
  have hS : va_S A s.heap s.heap [] := va_S.rf
  have hl := lv_entry ([.ref h0, .long va, .int dm]) (n := 5) (Nat.le_of_ble_eq_true rfl)
  rw [lg_entry_eq]
  generalize (lg_sl ([.ref h0, .long va, .int dm]) ++ List.replicate (5 - (lg_sl ([.ref h0, .long va, .int dm])).length) Slot.unset).toArray = ls at hl ⊢
  have hl : lv_has ls 5 [(0, .ref h0), (1, .long va), (3, .int dm)] := hl
  refine lv_lload_n hx hb dX1_lower_0 rfl (lv_at hl 1 rfl) ?_
  have hPc := hP.sub (ws' := []) [] rfl
  have hDc := hD.sub (ws' := []) [] (by decide) rfl
  have hKc := hK.sub (tys' := []) [] rfl
  have hFc := va_free (wc := []) hD hS hAA [] rfl
  refine va_calli (va_runS (As := [.long va]) (rest := []) ⟨hx, hb, hml, hown, hA⟩ (c_X1_isCell_x l dC dI aK aV va s.heap.size) (va_cwS 1 hA (zw_S wi_1146 wi_1147 wi_140 (zw_good wi_1148)) rfl rfl rfl (by decide +kernel) ⟨(Nat.le_of_ble_eq_true rfl), (Nat.le_of_ble_eq_true rfl)⟩) ⟨zP_blind, zz_pre hKc hPc hDc hN hT hS hFc⟩ rfl rfl hl.1 rfl (lv_room (Nat.le_of_ble_eq_true rfl)) dX1_lower_1 ⟨(Nat.le_of_ble_eq_true rfl), (Nat.le_of_ble_eq_true rfl)⟩) hS (fun q _ h => hFc q h) hFc (fun r_1 u t H1 locs ht hvm hw hB hz1 hk1 hS => ?_)
  obtain ⟨hP1, hK1, hD1⟩ := hB
  rw [ht] at hP1
  have hK1 := va_K.moved hvm.symm hK1
  obtain ⟨hP, hD⟩ := va_join (wr := [(h0, .inr (1, [.ref ek, .ref ec, .ref ef, .ref cki, .int e_limit, .int e_fresh, .int e_firstFree, .int e_held, .int e_mostHeld, .int e_made, .int e_reused, .int e_freed, .int e_doubled])), (ek, .inl (e1, 400, .inl gk)), (ec, .inl (e2, 400, .inl gc)), (ef, .inl (e3, 1200, .inr (.inl gv)))]) (w1 := []) hP hD [] [0, 1, 2, 3] rfl rfl (by decide) (by decide) hk1 hFc hP1 hD1
  have hK := (hK.sub (tys' := [(e1, .int), (e2, .int), (e3, .long)]) [0, 1, 2] rfl).app hK1
  generalize H1 = H at hP hS ⊢
  have hP : va_P (dC, dI) vwCl [(h0, .inr (1, [.ref ek, .ref ec, .ref ef, .ref cki, .int e_limit, .int e_fresh, .int e_firstFree, .int e_held, .int e_mostHeld, .int e_made, .int e_reused, .int e_freed, .int e_doubled])), (ek, .inl (e1, 400, .inl gk)), (ec, .inl (e2, 400, .inl gc)), (ef, .inl (e3, 1200, .inr (.inl gv)))] H := hP
  have hD : va_D A [(h0, .inr (1, [.ref ek, .ref ec, .ref ef, .ref cki, .int e_limit, .int e_fresh, .int e_firstFree, .int e_held, .int e_mostHeld, .int e_made, .int e_reused, .int e_freed, .int e_doubled])), (ek, .inl (e1, 400, .inl gk)), (ec, .inl (e2, 400, .inl gc)), (ef, .inl (e3, 1200, .inr (.inl gv)))] := hD
  have hK : va_K (dC, dI) vwCl [(e1, .int), (e2, .int), (e3, .long)] s := hK
  have hw_r_1 := hw
  try dsimp only at hw_r_1
  have hq_2 := hw
  refine lv_if_ne (tgt := 9) hx hb dX1_lower_4 (by decide) (fun c_3 => ?_) (fun c_3 => ?_)
  · have ic_3 : r_1.toInt ≠ 0 := zi_ne c_3
    have hyes9 : zhs va = 2 := hq_2.elim (fun g => g.2) (fun g => absurd g.1 (by omega))
    have hge9 := hgd hyes9
    have hn9 := zn_nat hge9
    have hlv9 := zCS_lv (x := (Int32.toNatClampNeg va.toInt32)) hcs (by rw [hR (Int32.toNatClampNeg va.toInt32), zr_c hyes9 hge9, if_pos rfl]; have := h2 (Int32.toNatClampNeg va.toInt32); omega)
    have hf4 := hcs.2.2.1
    refine lv_lload_n hx hb dX1_lower_9 rfl (lv_at hl 1 rfl) ?_
    refine lv_l2i hx hb dX1_lower_10 rfl ?_
    refine lv_topi (fun x_4 ex_4 => ?_)
    have iv9 : x_4.toInt = (va.toInt32).toInt := by rw [ex_4]
    refine lv_istore (lv' := [(4, .int x_4), (0, .ref h0), (1, .long va), (3, .int dm)]) hx hb dX1_lower_11 hl (by decide) rfl (fun ls hl => ?_)
    refine lv_aload_n hx hb dX1_lower_13 rfl (lv_at hl 1 rfl) ?_
    refine va_get (D := (dC, dI)) (ci := 1) (v := .ref ec) (C := RX1) (T := TX1) (N := 13) hx hb hA zin_X1 hown hK hP 0 rfl rfl 1 (by decide) (hA _ wi_436) (fun _ h9 => h9) rfl dX1_lower_14 ?_
    refine lv_iload hx hb dX1_lower_17 (lv_at hl 0 rfl) ?_
    refine lv_dup2_11 hx hb dX1_lower_19 rfl rfl ?_
    refine va_iald hx hb hK hP 2 1 rfl rfl (vp_in_iff.mpr ⟨by omega, by omega⟩) dX1_lower_20 ?_
    refine lv_topi (fun x_5 ex_5 => ?_)
    have ix_5 : x_5.toInt = (gc (Int32.toNatClampNeg va.toInt32)).toInt := by rw [ex_5, ex_4]
    refine lv_iconst (v := 1) hx hb dX1_lower_21 (by decide) ?_
    refine lv_isub hx hb dX1_lower_22 ?_
    refine lv_topi (fun x_6 ex_6 => ?_)
    have ix_6 : x_6.toInt = x_5.toInt - 1 := by rw [ex_6]; exact zi_subc (by decide) (by omega) (by omega)
    refine va_iast hx hb hK hP hD hS 2 1 rfl rfl (vp_in_iff.mpr ⟨by omega, by omega⟩) dX1_lower_23 (fun H locs hP hD hS => ?_)
    obtain ⟨f_7, ef_7⟩ : ∃ gz9 : Nat → Int32, gz9 = upd gc (Int32.toNatClampNeg x_4) x_6 := ⟨_, rfl⟩
    rw [← ef_7] at hP hD
    have hP : va_P (dC, dI) vwCl [(h0, .inr (1, [.ref ek, .ref ec, .ref ef, .ref cki, .int e_limit, .int e_fresh, .int e_firstFree, .int e_held, .int e_mostHeld, .int e_made, .int e_reused, .int e_freed, .int e_doubled])), (ek, .inl (e1, 400, .inl gk)), (ec, .inl (e2, 400, .inl f_7)), (ef, .inl (e3, 1200, .inr (.inl gv)))] H := hP
    have hD : va_D A [(h0, .inr (1, [.ref ek, .ref ec, .ref ef, .ref cki, .int e_limit, .int e_fresh, .int e_firstFree, .int e_held, .int e_mostHeld, .int e_made, .int e_reused, .int e_freed, .int e_doubled])), (ek, .inl (e1, 400, .inl gk)), (ec, .inl (e2, 400, .inl f_7)), (ef, .inl (e3, 1200, .inr (.inl gv)))] := hD
    refine lv_aload_n hx hb dX1_lower_24 rfl (lv_at hl 1 rfl) ?_
    refine va_get (D := (dC, dI)) (ci := 1) (v := .ref ec) (C := RX1) (T := TX1) (N := 13) hx hb hA zin_X1 hown hK hP 0 rfl rfl 1 (by decide) (hA _ wi_436) (fun _ h9 => h9) rfl dX1_lower_25 ?_
    refine lv_iload hx hb dX1_lower_28 (lv_at hl 0 rfl) ?_
    refine va_iald hx hb hK hP 2 1 rfl rfl (vp_in_iff.mpr ⟨by omega, by omega⟩) dX1_lower_30 ?_
    refine lv_topi (fun x_8 ex_8 => ?_)
    have ix_8 : x_8.toInt = x_6.toInt := by rw [ex_8, ef_7]; exact congrArg Int32.toInt pk_us
    refine lv_if_le (tgt := 36) hx hb dX1_lower_31 (by decide) (fun c_9 => ?_) (fun c_9 => ?_)
    · have ic_9 : x_8.toInt ≤ 0 := zi_le c_9
      refine lv_aload_n hx hb dX1_lower_36 rfl (lv_at hl 1 rfl) ?_
      refine va_get (D := (dC, dI)) (ci := 1) (v := .ref ec) (C := RX1) (T := TX1) (N := 13) hx hb hA zin_X1 hown hK hP 0 rfl rfl 1 (by decide) (hA _ wi_436) (fun _ h9 => h9) rfl dX1_lower_37 ?_
      refine lv_iload hx hb dX1_lower_40 (lv_at hl 0 rfl) ?_
      refine lv_iload_n hx hb dX1_lower_42 rfl (lv_at hl 3 rfl) ?_
      refine va_iast hx hb hK hP hD hS 2 1 rfl rfl (vp_in_iff.mpr ⟨by omega, by omega⟩) dX1_lower_43 (fun H locs hP hD hS => ?_)
      obtain ⟨f_10, ef_10⟩ : ∃ gz9 : Nat → Int32, gz9 = upd f_7 (Int32.toNatClampNeg x_4) dm := ⟨_, rfl⟩
      rw [← ef_10] at hP hD
      have hP : va_P (dC, dI) vwCl [(h0, .inr (1, [.ref ek, .ref ec, .ref ef, .ref cki, .int e_limit, .int e_fresh, .int e_firstFree, .int e_held, .int e_mostHeld, .int e_made, .int e_reused, .int e_freed, .int e_doubled])), (ek, .inl (e1, 400, .inl gk)), (ec, .inl (e2, 400, .inl f_10)), (ef, .inl (e3, 1200, .inr (.inl gv)))] H := hP
      have hD : va_D A [(h0, .inr (1, [.ref ek, .ref ec, .ref ef, .ref cki, .int e_limit, .int e_fresh, .int e_firstFree, .int e_held, .int e_mostHeld, .int e_made, .int e_reused, .int e_freed, .int e_doubled])), (ek, .inl (e1, 400, .inl gk)), (ec, .inl (e2, 400, .inl f_10)), (ef, .inl (e3, 1200, .inr (.inl gv)))] := hD
      refine lv_iload hx hb dX1_lower_44 (lv_at hl 0 rfl) ?_
      have hP9 := hP.sub (ws' := [(h0, .inr (1, [.ref ek, .ref ec, .ref ef, .ref cki, .int e_limit, .int e_fresh, .int e_firstFree, .int e_held, .int e_mostHeld, .int e_made, .int e_reused, .int e_freed, .int e_doubled])), (ek, .inl (e1, 400, .inl gk)), (ec, .inl (e2, 400, .inl f_10)), (ef, .inl (e3, 1200, .inr (.inl gv)))]) [0, 1, 2, 3] rfl
      have hD9 := hD.sub (ws' := [(h0, .inr (1, [.ref ek, .ref ec, .ref ef, .ref cki, .int e_limit, .int e_fresh, .int e_firstFree, .int e_held, .int e_mostHeld, .int e_made, .int e_reused, .int e_freed, .int e_doubled])), (ek, .inl (e1, 400, .inl gk)), (ec, .inl (e2, 400, .inl f_10)), (ef, .inl (e3, 1200, .inr (.inl gv)))]) [0, 1, 2, 3] (by decide) rfl
      have hK9 := hK.sub (tys' := [(e1, .int), (e2, .int), (e3, .long)]) [0, 1, 2] rfl
      exact W.iret (v := x_4) hx hb hr (fun t ht hW => ⟨⟨x_4, (f_10), rfl, ⟨_, _, zCS_die hcs (fun c => by rw [hR c, zr_c hyes9 hge9]) h2 (by omega) (by rw [ef_10, ef_7, zu_uu, ex_4]) (by omega), fun c h => zlv_if h, fun c h => (List.mem_cons.mp h).elim (fun g => Or.inr (by rw [g]; exact hlv9.1)) Or.inl⟩, by rw [ht]; exact hP9, va_K.moved hW.alike hK9, hD9⟩, hS.F ht⟩) hS.2.2 dX1_lower_46
    · have ic_9 : 0 < x_8.toInt := zi_nle c_9
      refine lv_iload_n hx hb dX1_lower_34 rfl (lv_at hl 3 rfl) ?_
      have hP9 := hP.sub (ws' := [(h0, .inr (1, [.ref ek, .ref ec, .ref ef, .ref cki, .int e_limit, .int e_fresh, .int e_firstFree, .int e_held, .int e_mostHeld, .int e_made, .int e_reused, .int e_freed, .int e_doubled])), (ek, .inl (e1, 400, .inl gk)), (ec, .inl (e2, 400, .inl f_7)), (ef, .inl (e3, 1200, .inr (.inl gv)))]) [0, 1, 2, 3] rfl
      have hD9 := hD.sub (ws' := [(h0, .inr (1, [.ref ek, .ref ec, .ref ef, .ref cki, .int e_limit, .int e_fresh, .int e_firstFree, .int e_held, .int e_mostHeld, .int e_made, .int e_reused, .int e_freed, .int e_doubled])), (ek, .inl (e1, 400, .inl gk)), (ec, .inl (e2, 400, .inl f_7)), (ef, .inl (e3, 1200, .inr (.inl gv)))]) [0, 1, 2, 3] (by decide) rfl
      have hK9 := hK.sub (tys' := [(e1, .int), (e2, .int), (e3, .long)]) [0, 1, 2] rfl
      exact W.iret (v := dm) hx hb hr (fun t ht hW => ⟨⟨dm, (f_7), rfl, ⟨lv, DL, zCS_dec hcs (fun c => by rw [hR c, zr_c hyes9 hge9]) h2 (by rw [ef_7, ex_4]) (by omega) (by omega), fun _ h => h, fun _ h => Or.inl h⟩, by rw [ht]; exact hP9, va_K.moved hW.alike hK9, hD9⟩, hS.F ht⟩) hS.2.2 dX1_lower_35
  · have ic_3 : r_1.toInt = 0 := zi_eq c_3
    have hno9 : zhs va ≠ 2 := hq_2.elim (fun g => absurd g.1 (by omega)) (fun g => g.2)
    refine lv_iload_n hx hb dX1_lower_7 rfl (lv_at hl 2 rfl) ?_
    have hP9 := hP.sub (ws' := [(h0, .inr (1, [.ref ek, .ref ec, .ref ef, .ref cki, .int e_limit, .int e_fresh, .int e_firstFree, .int e_held, .int e_mostHeld, .int e_made, .int e_reused, .int e_freed, .int e_doubled])), (ek, .inl (e1, 400, .inl gk)), (ec, .inl (e2, 400, .inl gc)), (ef, .inl (e3, 1200, .inr (.inl gv)))]) [0, 1, 2, 3] rfl
    have hD9 := hD.sub (ws' := [(h0, .inr (1, [.ref ek, .ref ec, .ref ef, .ref cki, .int e_limit, .int e_fresh, .int e_firstFree, .int e_held, .int e_mostHeld, .int e_made, .int e_reused, .int e_freed, .int e_doubled])), (ek, .inl (e1, 400, .inl gk)), (ec, .inl (e2, 400, .inl gc)), (ef, .inl (e3, 1200, .inr (.inl gv)))]) [0, 1, 2, 3] (by decide) rfl
    have hK9 := hK.sub (tys' := [(e1, .int), (e2, .int), (e3, .long)]) [0, 1, 2] rfl
    exact W.iret (v := dm) hx hb hr (fun t ht hW => ⟨⟨dm, (gc), rfl, ⟨lv, DL, zCS_R (fun c => by rw [hR c, zr_n hno9]; omega) hcs, fun _ h => h, fun _ h => Or.inl h⟩, by rw [ht]; exact hP9, va_K.moved hW.alike hK9, hD9⟩, hS.F ht⟩) hS.2.2 dX1_lower_8
