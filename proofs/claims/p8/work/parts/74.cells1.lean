theorem wi_1148 : Cond.code yX1_isCell cX1_isCell 2 (some .boolean) ∈ zw := zw_in (List.mem_of_getElem? (i := 1148) (by decide +kernel)) (by decide +kernel)
theorem wi_1146 : Cond.methodLink RX1 78 yX1_isCell ∈ zw := zw_in (List.mem_of_getElem? (i := 1146) (by decide +kernel)) (by decide +kernel)
theorem wi_1147 : Cond.static yX1_isCell ∈ zw := zw_in (List.mem_of_getElem? (i := 1147) (by decide +kernel)) (by decide +kernel)
theorem wi_140 : Cond.initialized RX1 ∈ zw := zw_in (List.mem_of_getElem? (i := 140) (by decide +kernel)) (by decide +kernel)
theorem wi_436 : Cond.fieldLink RX1 49 "ReuseHouse$Cells" "count" "[I" ∈ zw := zw_in (List.mem_of_getElem? (i := 436) (by decide +kernel)) (by decide +kernel)
theorem dX1_copy_0 : decode cX1_copy 0 = .ok (.lload_n 1, 1) := by decide +kernel
theorem dX1_copy_1 : decode cX1_copy 1 = .ok (.invokestatic 78, 3) := by decide +kernel
theorem dX1_copy_4 : decode cX1_copy 4 = .ok (.ifCond .eq 24, 3) := by decide +kernel
theorem dX1_copy_7 : decode cX1_copy 7 = .ok (.aload_n 0, 1) := by decide +kernel
theorem dX1_copy_8 : decode cX1_copy 8 = .ok (.getfield 49, 3) := by decide +kernel
theorem dX1_copy_11 : decode cX1_copy 11 = .ok (.lload_n 1, 1) := by decide +kernel
theorem dX1_copy_12 : decode cX1_copy 12 = .ok (.l2i, 1) := by decide +kernel
theorem dX1_copy_13 : decode cX1_copy 13 = .ok (.dup2, 1) := by decide +kernel
theorem dX1_copy_14 : decode cX1_copy 14 = .ok (.iaload, 1) := by decide +kernel
theorem dX1_copy_15 : decode cX1_copy 15 = .ok (.iconst 1, 1) := by decide +kernel
theorem dX1_copy_16 : decode cX1_copy 16 = .ok (.iadd, 1) := by decide +kernel
theorem dX1_copy_17 : decode cX1_copy 17 = .ok (.iastore, 1) := by decide +kernel
theorem dX1_copy_18 : decode cX1_copy 18 = .ok (.aload_n 0, 1) := by decide +kernel
theorem dX1_copy_19 : decode cX1_copy 19 = .ok (.dup, 1) := by decide +kernel
theorem dX1_copy_20 : decode cX1_copy 20 = .ok (.getfield 36, 3) := by decide +kernel
theorem dX1_copy_23 : decode cX1_copy 23 = .ok (.iconst 1, 1) := by decide +kernel
theorem dX1_copy_24 : decode cX1_copy 24 = .ok (.iadd, 1) := by decide +kernel
theorem dX1_copy_25 : decode cX1_copy 25 = .ok (.putfield 36, 3) := by decide +kernel
theorem dX1_copy_28 : decode cX1_copy 28 = .ok (.return_, 1) := by decide +kernel
theorem zup_le {gc gc2 : Nat → Int32} {x : Nat} {v : Int32} (e : gc2 = upd gc x v) (h : (gc x).toInt ≤ v.toInt) (c : Nat) : (gc c).toInt ≤ (gc2 c).toInt := by
  rw [e]
  by_cases g : c = x
  · rw [g, zu_s]; exact h
  · rw [zu_n g]; exact Int.le_refl _
theorem zCS_R {wd : Nat → Nat} {gc : Nat → Int32} {gv : Nat → Int64} {fresh ff held dbl dm : Int32} {lv : Nat → Bool} {R R2 : Nat → Int} {FL DL : List Nat} (e : ∀ c, R2 c = R c) (h : zCS wd gc gv fresh ff held dbl lv R FL DL dm) : zCS wd gc gv fresh ff held dbl lv R2 FL DL dm := by
  have : R2 = R := funext e
  rw [this]; exact h

set_option maxHeartbeats 4000000 in
set_option maxRecDepth 100000 in
theorem c_X1_copy_x (l : Launch) (dC : Nat → ClassId) (dI : Nat → Nat → Nat) (aK aV : Nat → Nat) (h0 : Nat) (ek : Nat) (ec : Nat) (ef : Nat) (cki : Nat) (e1 : ClassId) (e2 : ClassId) (e3 : ClassId) (e_limit : Int32) (e_fresh : Int32) (e_firstFree : Int32) (e_held : Int32) (e_mostHeld : Int32) (e_made : Int32) (e_reused : Int32) (e_freed : Int32) (e_doubled : Int32) (gk : Nat → Int32) (gc : Nat → Int32) (gv : Nat → Int64) (va : Int64) (wd : Nat → Nat) (lv : Nat → Bool) (R : Nat → Int) (FL : List Nat) (DL : List Nat) (dm : Int32) (sz : Nat) (hcs : zCS wd gc gv e_fresh e_firstFree e_held e_doubled lv R FL DL dm) (hgd : zhs va = 2 → 0 ≤ (va.toInt32).toInt) (hrv : zhs va = 2 → lv (Int32.toNatClampNeg va.toInt32) = true) (hdb : e_doubled.toInt < 1000000) : Met l yX1_copy (Cond.code yX1_copy cX1_copy 3 none :: zw) ({ frames := 10, cells := 0, slots := 0, locals := 300 }) (va_Pc [.ref h0, .long va] (zP dC dI aK aV sz [(e1, .int), (e2, .int), (e3, .long)] [(h0, .inr (1, [.ref ek, .ref ec, .ref ef, .ref cki, .int e_limit, .int e_fresh, .int e_firstFree, .int e_held, .int e_mostHeld, .int e_made, .int e_reused, .int e_freed, .int e_doubled])), (ek, .inl (e1, 400, .inl gk)), (ec, .inl (e2, 400, .inl gc)), (ef, .inl (e3, 1200, .inr (.inl gv)))])) (va_Qv (fun u : (Nat → Int32) × Int32 => match u with | (gc2, dbl2) => (zCS wd gc2 gv e_fresh e_firstFree e_held dbl2 lv (fun c => R c + zr va c) FL DL dm) ∧ (e_doubled.toInt ≤ dbl2.toInt) ∧ (dbl2.toInt ≤ e_doubled.toInt + 1) ∧ (∀ c, (gc c).toInt ≤ (gc2 c).toInt)) (fun u => match u with | (gc2, dbl2) => zQ dC dI (va_A [(h0, .inr (1, [.ref ek, .ref ec, .ref ef, .ref cki, .int e_limit, .int e_fresh, .int e_firstFree, .int e_held, .int e_mostHeld, .int e_made, .int e_reused, .int e_freed, .int e_doubled])), (ek, .inl (e1, 400, .inl gk)), (ec, .inl (e2, 400, .inl gc)), (ef, .inl (e3, 1200, .inr (.inl gv)))] sz) [(e1, .int), (e2, .int), (e3, .long)] [(h0, .inr (1, [.ref ek, .ref ec, .ref ef, .ref cki, .int e_limit, .int e_fresh, .int e_firstFree, .int e_held, .int e_mostHeld, .int e_made, .int e_reused, .int e_freed, .int dbl2])), (ek, .inl (e1, 400, .inl gk)), (ec, .inl (e2, 400, .inl gc2)), (ef, .inl (e3, 1200, .inr (.inl gv)))]) (va_A [(h0, .inr (1, [.ref ek, .ref ec, .ref ef, .ref cki, .int e_limit, .int e_fresh, .int e_firstFree, .int e_held, .int e_mostHeld, .int e_made, .int e_reused, .int e_freed, .int e_doubled])), (ek, .inl (e1, 400, .inl gk)), (ec, .inl (e2, 400, .inl gc)), (ef, .inl (e3, 1200, .inr (.inl gv)))] sz)) 0 0 (va_A [(h0, .inr (1, [.ref ek, .ref ec, .ref ef, .ref cki, .int e_limit, .int e_fresh, .int e_firstFree, .int e_held, .int e_mostHeld, .int e_made, .int e_reused, .int e_freed, .int e_doubled])), (ek, .inl (e1, 400, .inl gk)), (ec, .inl (e2, 400, .inl gc)), (ef, .inl (e3, 1200, .inr (.inl gv)))] sz) := by
  refine Met.ofW (cc := cX1_copy) (maxL := 3) (ret := none) (by decide) rfl ?_
  intro p e s m args below meth c s₁ B hml hv
  obtain ⟨rfl, hsz, hP, hK, hD0, hN, hT⟩ := hv
  have hx := B.exec
  have hb := B.bytes
  have hr := B.returns
  have hts := atoms_spec (ws := Cond.code yX1_copy cX1_copy 3 none :: zw) B.pre
  have hA : ∀ w ∈ zw, w.before _ s = true := fun w h => hts w (List.mem_cons_of_mem _ h)
  have hown : s.vm.findClass RX1 = some m.cls := findClass_of_methodNamed B.named
  have hlocks := B.notSynchronized
  subst hsz
  have hD := hD0.self (sz := s.heap.size)
  generalize hAe : va_A [(h0, .inr (1, [.ref ek, .ref ec, .ref ef, .ref cki, .int e_limit, .int e_fresh, .int e_firstFree, .int e_held, .int e_mostHeld, .int e_made, .int e_reused, .int e_freed, .int e_doubled])), (ek, .inl (e1, 400, .inl gk)), (ec, .inl (e2, 400, .inl gc)), (ef, .inl (e3, 1200, .inr (.inl gv)))] s.heap.size = A at hD hT ⊢
  have hAA : ∀ q : Nat, s.heap.size ≤ q → A q := fun q h => by rw [← hAe]; exact Or.inr h
  have hS : va_S A s.heap s.heap [] := va_S.rf
  have hl := lv_entry ([.ref h0, .long va]) (n := 3) (Nat.le_of_ble_eq_true rfl)
  rw [lg_entry_eq]
  generalize (lg_sl ([.ref h0, .long va]) ++ List.replicate (3 - (lg_sl ([.ref h0, .long va])).length) Slot.unset).toArray = ls at hl ⊢
  have hl : lv_has ls 3 [(0, .ref h0), (1, .long va)] := hl
  refine lv_lload_n hx hb dX1_copy_0 rfl (lv_at hl 1 rfl) ?_
  have hPc := hP.sub (ws' := []) [] rfl
  have hDc := hD.sub (ws' := []) [] (by decide) rfl
  have hKc := hK.sub (tys' := []) [] rfl
  have hFc := va_free (wc := []) hD hS hAA [] rfl
  refine va_calli (va_runS (As := [.long va]) (rest := []) ⟨hx, hb, hml, hown, hA⟩ (c_X1_isCell_x l dC dI aK aV va s.heap.size) (va_cwS 1 hA (zw_S wi_1146 wi_1147 wi_140 (zw_good wi_1148)) rfl rfl rfl (by decide +kernel) ⟨(Nat.le_of_ble_eq_true rfl), (Nat.le_of_ble_eq_true rfl)⟩) ⟨zP_blind, zz_pre hKc hPc hDc hN hT hS hFc⟩ rfl rfl hl.1 rfl (lv_room (Nat.le_of_ble_eq_true rfl)) dX1_copy_1 ⟨(Nat.le_of_ble_eq_true rfl), (Nat.le_of_ble_eq_true rfl)⟩) hS (fun q _ h => hFc q h) hFc (fun r_1 u t H1 locs ht hvm hw hB hz1 hk1 hS => ?_)
  obtain ⟨hP1, hK1, hD1⟩ := hB
  rw [ht] at hP1
  have hK1 := va_K.moved hvm.symm hK1
  obtain ⟨hP, hD⟩ := va_join (wr := [(h0, .inr (1, [.ref ek, .ref ec, .ref ef, .ref cki, .int e_limit, .int e_fresh, .int e_firstFree, .int e_held, .int e_mostHeld, .int e_made, .int e_reused, .int e_freed, .int e_doubled])), (ek, .inl (e1, 400, .inl gk)), (ec, .inl (e2, 400, .inl gc)), (ef, .inl (e3, 1200, .inr (.inl gv)))]) (w1 := []) hP hD [] [0, 1, 2, 3] rfl rfl (by decide) (by decide) hk1 hFc hP1 hD1
  have hK := (hK.sub (tys' := [(e1, .int), (e2, .int), (e3, .long)]) [0, 1, 2] rfl).app hK1
  generalize H1 = H at hP hS ⊢
  have hP : va_P (dC, dI) vwCl [(h0, .inr (1, [.ref ek, .ref ec, .ref ef, .ref cki, .int e_limit, .int e_fresh, .int e_firstFree, .int e_held, .int e_mostHeld, .int e_made, .int e_reused, .int e_freed, .int e_doubled])), (ek, .inl (e1, 400, .inl gk)), (ec, .inl (e2, 400, .inl gc)), (ef, .inl (e3, 1200, .inr (.inl gv)))] H := hP
  have hD : va_D A [(h0, .inr (1, [.ref ek, .ref ec, .ref ef, .ref cki, .int e_limit, .int e_fresh, .int e_firstFree, .int e_held, .int e_mostHeld, .int e_made, .int e_reused, .int e_freed, .int e_doubled])), (ek, .inl (e1, 400, .inl gk)), (ec, .inl (e2, 400, .inl gc)), (ef, .inl (e3, 1200, .inr (.inl gv)))] := hD
  have hK : va_K (dC, dI) vwCl [(e1, .int), (e2, .int), (e3, .long)] s := hK
  have hw_r_1 := hw
  try dsimp only at hw_r_1
  have hq_2 := hw
  refine lv_if_eq (tgt := 28) hx hb dX1_copy_4 (by decide) (fun c_3 => ?_) (fun c_3 => ?_)
  · have ic_3 : r_1.toInt = 0 := zi_eq c_3
    have hno9 : zhs va ≠ 2 := hq_2.elim (fun g => absurd g.1 (by omega)) (fun g => g.2)
    have hP9 := hP.sub (ws' := [(h0, .inr (1, [.ref ek, .ref ec, .ref ef, .ref cki, .int e_limit, .int e_fresh, .int e_firstFree, .int e_held, .int e_mostHeld, .int e_made, .int e_reused, .int e_freed, .int e_doubled])), (ek, .inl (e1, 400, .inl gk)), (ec, .inl (e2, 400, .inl gc)), (ef, .inl (e3, 1200, .inr (.inl gv)))]) [0, 1, 2, 3] rfl
    have hD9 := hD.sub (ws' := [(h0, .inr (1, [.ref ek, .ref ec, .ref ef, .ref cki, .int e_limit, .int e_fresh, .int e_firstFree, .int e_held, .int e_mostHeld, .int e_made, .int e_reused, .int e_freed, .int e_doubled])), (ek, .inl (e1, 400, .inl gk)), (ec, .inl (e2, 400, .inl gc)), (ef, .inl (e3, 1200, .inr (.inl gv)))]) [0, 1, 2, 3] (by decide) rfl
    have hK9 := hK.sub (tys' := [(e1, .int), (e2, .int), (e3, .long)]) [0, 1, 2] rfl
    exact W.vret hx hb hr (fun t ht hW => ⟨⟨(gc, e_doubled), rfl, ⟨(zCS_R (fun c => by show R c + zr va c = R c; rw [zr_n hno9]; omega) hcs), by omega, by omega, (fun c => Int.le_refl _)⟩, by rw [ht]; exact hP9, va_K.moved hW.alike hK9, hD9⟩, hS.F ht⟩) hS.2.2 dX1_copy_28
  · have ic_3 : r_1.toInt ≠ 0 := zi_ne c_3
    have hyes9 : zhs va = 2 := hq_2.elim (fun g => g.2) (fun g => absurd g.1 (by omega))
    have hge9 := hgd hyes9
    have hlv9 := zCS_li hcs (hrv hyes9)
    have hn9 := zn_nat hge9
    have hf4 := hcs.2.2.1
    refine lv_aload_n hx hb dX1_copy_7 rfl (lv_at hl 0 rfl) ?_
    refine va_get (D := (dC, dI)) (ci := 1) (v := .ref ec) (C := RX1) (T := TX1) (N := 13) hx hb hA zin_X1 hown hK hP 0 rfl rfl 1 (by decide) (hA _ wi_436) (fun _ h9 => h9) rfl dX1_copy_8 ?_
    refine lv_lload_n hx hb dX1_copy_11 rfl (lv_at hl 1 rfl) ?_
    refine lv_l2i hx hb dX1_copy_12 rfl ?_
    refine lv_topi (fun x_4 ex_4 => ?_)
    have iv9 : x_4.toInt = (va.toInt32).toInt := by rw [ex_4]
    refine lv_dup2_11 hx hb dX1_copy_13 rfl rfl ?_
    refine va_iald hx hb hK hP 2 1 rfl rfl (vp_in_iff.mpr ⟨by omega, by omega⟩) dX1_copy_14 ?_
    refine lv_topi (fun x_5 ex_5 => ?_)
    have ix_5 : x_5.toInt = (gc (Int32.toNatClampNeg va.toInt32)).toInt := by rw [ex_5, ex_4]
    refine lv_iconst (v := 1) hx hb dX1_copy_15 (by decide) ?_
    refine lv_iadd hx hb dX1_copy_16 ?_
    refine lv_topi (fun x_6 ex_6 => ?_)
    have ix_6 : x_6.toInt = x_5.toInt + 1 := by rw [ex_6]; exact zi_addc (by decide) (by omega) (by omega)
    have icp9 : x_6.toInt = (gc (Int32.toNatClampNeg va.toInt32)).toInt + 1 := by omega
    refine va_iast hx hb hK hP hD hS 2 1 rfl rfl (vp_in_iff.mpr ⟨by omega, by omega⟩) dX1_copy_17 (fun H locs hP hD hS => ?_)
    obtain ⟨f_7, ef_7⟩ : ∃ gz9 : Nat → Int32, gz9 = upd gc (Int32.toNatClampNeg x_4) x_6 := ⟨_, rfl⟩
    rw [← ef_7] at hP hD
    have hP : va_P (dC, dI) vwCl [(h0, .inr (1, [.ref ek, .ref ec, .ref ef, .ref cki, .int e_limit, .int e_fresh, .int e_firstFree, .int e_held, .int e_mostHeld, .int e_made, .int e_reused, .int e_freed, .int e_doubled])), (ek, .inl (e1, 400, .inl gk)), (ec, .inl (e2, 400, .inl f_7)), (ef, .inl (e3, 1200, .inr (.inl gv)))] H := hP
    have hD : va_D A [(h0, .inr (1, [.ref ek, .ref ec, .ref ef, .ref cki, .int e_limit, .int e_fresh, .int e_firstFree, .int e_held, .int e_mostHeld, .int e_made, .int e_reused, .int e_freed, .int e_doubled])), (ek, .inl (e1, 400, .inl gk)), (ec, .inl (e2, 400, .inl f_7)), (ef, .inl (e3, 1200, .inr (.inl gv)))] := hD
    refine lv_aload_n hx hb dX1_copy_18 rfl (lv_at hl 0 rfl) ?_
    refine lv_dup hx hb dX1_copy_19 rfl ?_
    refine va_get (D := (dC, dI)) (ci := 1) (v := .int e_doubled) (C := RX1) (T := TX1) (N := 13) hx hb hA zin_X1 hown hK hP 0 rfl rfl 12 (by decide) (hA _ wi_455) (fun _ h9 => h9) rfl dX1_copy_20 ?_
    refine lv_iconst (v := 1) hx hb dX1_copy_23 (by decide) ?_
    refine lv_iadd hx hb dX1_copy_24 ?_
    refine lv_topi (fun x_8 ex_8 => ?_)
    have ix_8 : x_8.toInt = e_doubled.toInt + 1 := by rw [ex_8]; exact zi_addc (by decide) (by omega) (by omega)
    refine va_put (D := (dC, dI)) (ci := 1) (v := .int x_8) (ty := .int) (C := RX1) (T := TX1) (N := 13) hx hb hA zin_X1 tyX1 tyX1_ok nmX1 hown hK hP hD hS 0 rfl rfl 12 (by decide) (hA _ wi_455) (fun _ h9 => h9) rfl (by decide +kernel) rfl rfl (Nat.le_of_ble_eq_true rfl) dX1_copy_25 (fun H locs hP hD hS => ?_)
    have hP : va_P (dC, dI) vwCl [(h0, .inr (1, [.ref ek, .ref ec, .ref ef, .ref cki, .int e_limit, .int e_fresh, .int e_firstFree, .int e_held, .int e_mostHeld, .int e_made, .int e_reused, .int e_freed, .int x_8])), (ek, .inl (e1, 400, .inl gk)), (ec, .inl (e2, 400, .inl f_7)), (ef, .inl (e3, 1200, .inr (.inl gv)))] H := hP
    have hD : va_D A [(h0, .inr (1, [.ref ek, .ref ec, .ref ef, .ref cki, .int e_limit, .int e_fresh, .int e_firstFree, .int e_held, .int e_mostHeld, .int e_made, .int e_reused, .int e_freed, .int x_8])), (ek, .inl (e1, 400, .inl gk)), (ec, .inl (e2, 400, .inl f_7)), (ef, .inl (e3, 1200, .inr (.inl gv)))] := hD
    have hP9 := hP.sub (ws' := [(h0, .inr (1, [.ref ek, .ref ec, .ref ef, .ref cki, .int e_limit, .int e_fresh, .int e_firstFree, .int e_held, .int e_mostHeld, .int e_made, .int e_reused, .int e_freed, .int x_8])), (ek, .inl (e1, 400, .inl gk)), (ec, .inl (e2, 400, .inl f_7)), (ef, .inl (e3, 1200, .inr (.inl gv)))]) [0, 1, 2, 3] rfl
    have hD9 := hD.sub (ws' := [(h0, .inr (1, [.ref ek, .ref ec, .ref ef, .ref cki, .int e_limit, .int e_fresh, .int e_firstFree, .int e_held, .int e_mostHeld, .int e_made, .int e_reused, .int e_freed, .int x_8])), (ek, .inl (e1, 400, .inl gk)), (ec, .inl (e2, 400, .inl f_7)), (ef, .inl (e3, 1200, .inr (.inl gv)))]) [0, 1, 2, 3] (by decide) rfl
    have hK9 := hK.sub (tys' := [(e1, .int), (e2, .int), (e3, .long)]) [0, 1, 2] rfl
    exact W.vret hx hb hr (fun t ht hW => ⟨⟨(f_7, x_8), rfl, ⟨(zCS_R (fun c => by show R c + zr va c = _; rw [zr_c hyes9 hge9]) (zCS_copy hcs hlv9.1 (by rw [ef_7, ex_4]) icp9 (by omega))), by omega, by omega, (zup_le ef_7 (by rw [ex_4]; omega))⟩, by rw [ht]; exact hP9, va_K.moved hW.alike hK9, hD9⟩, hS.F ht⟩) hS.2.2 dX1_copy_28
