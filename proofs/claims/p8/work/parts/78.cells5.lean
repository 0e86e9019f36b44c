theorem wi_1237 : Cond.code yX1_isInt cX1_isInt 2 (some .boolean) ∈ zw := zw_in (List.mem_of_getElem? (i := 1237) (by decide +kernel)) (by decide +kernel)
theorem wi_1250 : Cond.methodLink RX1 74 yX1_isInt ∈ zw := zw_in (List.mem_of_getElem? (i := 1250) (by decide +kernel)) (by decide +kernel)
theorem wi_1236 : Cond.static yX1_isInt ∈ zw := zw_in (List.mem_of_getElem? (i := 1236) (by decide +kernel)) (by decide +kernel)
theorem dX1_kindOf_0 : decode cX1_kindOf 0 = .ok (.lload_n 1, 1) := by decide +kernel
theorem dX1_kindOf_1 : decode cX1_kindOf 1 = .ok (.invokestatic 74, 3) := by decide +kernel
theorem dX1_kindOf_4 : decode cX1_kindOf 4 = .ok (.ifCond .eq 5, 3) := by decide +kernel
theorem dX1_kindOf_7 : decode cX1_kindOf 7 = .ok (.iconst (-1), 1) := by decide +kernel
theorem dX1_kindOf_8 : decode cX1_kindOf 8 = .ok (.ireturn, 1) := by decide +kernel
theorem dX1_kindOf_9 : decode cX1_kindOf 9 = .ok (.lload_n 1, 1) := by decide +kernel
theorem dX1_kindOf_10 : decode cX1_kindOf 10 = .ok (.invokestatic 78, 3) := by decide +kernel
theorem dX1_kindOf_13 : decode cX1_kindOf 13 = .ok (.ifCond .eq 13, 3) := by decide +kernel
theorem dX1_kindOf_16 : decode cX1_kindOf 16 = .ok (.aload_n 0, 1) := by decide +kernel
theorem dX1_kindOf_17 : decode cX1_kindOf 17 = .ok (.getfield 45, 3) := by decide +kernel
theorem dX1_kindOf_20 : decode cX1_kindOf 20 = .ok (.lload_n 1, 1) := by decide +kernel
theorem dX1_kindOf_21 : decode cX1_kindOf 21 = .ok (.l2i, 1) := by decide +kernel
theorem dX1_kindOf_22 : decode cX1_kindOf 22 = .ok (.iaload, 1) := by decide +kernel
theorem dX1_kindOf_23 : decode cX1_kindOf 23 = .ok (.goto 5, 3) := by decide +kernel
theorem dX1_kindOf_26 : decode cX1_kindOf 26 = .ok (.lload_n 1, 1) := by decide +kernel
theorem dX1_kindOf_27 : decode cX1_kindOf 27 = .ok (.l2i, 1) := by decide +kernel
theorem dX1_kindOf_28 : decode cX1_kindOf 28 = .ok (.ireturn, 1) := by decide +kernel
theorem zn_3 {i w y : Int32} (h : y.toInt = i.toInt * 3 + w.toInt) (hi : 0 ≤ i.toInt) (hw : 0 ≤ w.toInt) : Int32.toNatClampNeg y = 3 * Int32.toNatClampNeg i + Int32.toNatClampNeg w := by
  have := zn_nat hi
  have := zn_nat hw
  have := zn_nat (x := y) (by omega)
  omega
set_option maxHeartbeats 4000000 in
set_option maxRecDepth 100000 in
theorem c_X1_width_x400 (l : Launch) (dC : Nat → ClassId) (dI : Nat → Nat → Nat) (aK aV : Nat → Nat) (h0 : Nat) (ek : Nat) (ec : Nat) (ef : Nat) (cki : Nat) (e1 : ClassId) (e2 : ClassId) (e3 : ClassId) (e_limit : Int32) (e_fresh : Int32) (e_firstFree : Int32) (e_held : Int32) (e_mostHeld : Int32) (e_made : Int32) (e_reused : Int32) (e_freed : Int32) (e_doubled : Int32) (gk : Nat → Int32) (gc : Nat → Int32) (gv : Nat → Int64) (kw : Nat) (kf : Nat) (k1 : ClassId) (k2 : ClassId) (z : Int32) (gw : Nat → Int64) (gf : Nat → Int32) (ce : Int32) (sz : Nat) (hz0 : 0 ≤ z.toInt) (hz1 : z.toInt ≤ 20) (hgf : zx 4 gf) (hc0 : 0 ≤ ce.toInt) (hc1 : ce.toInt < 400) : Met l yX1_width (Cond.code yX1_width cX1_width 2 (some .int) :: zw) ({ frames := 10, cells := 0, slots := 0, locals := 300 }) (va_Pc [.ref h0, .int ce] (zP dC dI aK aV sz [(e1, .int), (e2, .int), (e3, .long), (k1, .long), (k2, .int)] [(h0, .inr (1, [.ref ek, .ref ec, .ref ef, .ref cki, .int e_limit, .int e_fresh, .int e_firstFree, .int e_held, .int e_mostHeld, .int e_made, .int e_reused, .int e_freed, .int e_doubled])), (ek, .inl (e1, 400, .inl gk)), (ec, .inl (e2, 400, .inl gc)), (ef, .inl (e3, 1200, .inr (.inl gv))), (cki, .inr (4, [.ref kw, .ref kf, .int z])), (kw, .inl (k1, 20, .inr (.inl gw))), (kf, .inl (k2, 20, .inl gf))])) (va_Qi (fun (r : Int32) (u : Unit) => (0 ≤ r.toInt) ∧ (r.toInt ≤ 3) ∧ (r.toInt = zfk z gf (gk (Int32.toNatClampNeg ce)))) (fun u => zQ dC dI (va_A [(h0, .inr (1, [.ref ek, .ref ec, .ref ef, .ref cki, .int e_limit, .int e_fresh, .int e_firstFree, .int e_held, .int e_mostHeld, .int e_made, .int e_reused, .int e_freed, .int e_doubled])), (ek, .inl (e1, 400, .inl gk)), (ec, .inl (e2, 400, .inl gc)), (ef, .inl (e3, 1200, .inr (.inl gv))), (cki, .inr (4, [.ref kw, .ref kf, .int z])), (kw, .inl (k1, 20, .inr (.inl gw))), (kf, .inl (k2, 20, .inl gf))] sz) [(e1, .int), (e2, .int), (e3, .long), (k1, .long), (k2, .int)] [(h0, .inr (1, [.ref ek, .ref ec, .ref ef, .ref cki, .int e_limit, .int e_fresh, .int e_firstFree, .int e_held, .int e_mostHeld, .int e_made, .int e_reused, .int e_freed, .int e_doubled])), (ek, .inl (e1, 400, .inl gk)), (ec, .inl (e2, 400, .inl gc)), (ef, .inl (e3, 1200, .inr (.inl gv))), (cki, .inr (4, [.ref kw, .ref kf, .int z])), (kw, .inl (k1, 20, .inr (.inl gw))), (kf, .inl (k2, 20, .inl gf))]) (va_A [(h0, .inr (1, [.ref ek, .ref ec, .ref ef, .ref cki, .int e_limit, .int e_fresh, .int e_firstFree, .int e_held, .int e_mostHeld, .int e_made, .int e_reused, .int e_freed, .int e_doubled])), (ek, .inl (e1, 400, .inl gk)), (ec, .inl (e2, 400, .inl gc)), (ef, .inl (e3, 1200, .inr (.inl gv))), (cki, .inr (4, [.ref kw, .ref kf, .int z])), (kw, .inl (k1, 20, .inr (.inl gw))), (kf, .inl (k2, 20, .inl gf))] sz)) 0 0 (va_A [(h0, .inr (1, [.ref ek, .ref ec, .ref ef, .ref cki, .int e_limit, .int e_fresh, .int e_firstFree, .int e_held, .int e_mostHeld, .int e_made, .int e_reused, .int e_freed, .int e_doubled])), (ek, .inl (e1, 400, .inl gk)), (ec, .inl (e2, 400, .inl gc)), (ef, .inl (e3, 1200, .inr (.inl gv))), (cki, .inr (4, [.ref kw, .ref kf, .int z])), (kw, .inl (k1, 20, .inr (.inl gw))), (kf, .inl (k2, 20, .inl gf))] sz) := by
  refine Met.ofW (cc := cX1_width) (maxL := 2) (ret := (some .int)) (by decide) rfl ?_
  intro p e s m args below meth c s₁ B hml hv
  obtain ⟨rfl, hsz, hP, hK, hD0, hN, hT⟩ := hv
  have hx := B.exec
  have hb := B.bytes
  have hr := B.returns
  have hts := atoms_spec (ws := Cond.code yX1_width cX1_width 2 (some .int) :: zw) B.pre
  have hA : ∀ w ∈ zw, w.before _ s = true := fun w h => hts w (List.mem_cons_of_mem _ h)
  have hown : s.vm.findClass RX1 = some m.cls := findClass_of_methodNamed B.named
  have hlocks := B.notSynchronized
  subst hsz
  have hD := hD0.self (sz := s.heap.size)
  generalize hAe : va_A [(h0, .inr (1, [.ref ek, .ref ec, .ref ef, .ref cki, .int e_limit, .int e_fresh, .int e_firstFree, .int e_held, .int e_mostHeld, .int e_made, .int e_reused, .int e_freed, .int e_doubled])), (ek, .inl (e1, 400, .inl gk)), (ec, .inl (e2, 400, .inl gc)), (ef, .inl (e3, 1200, .inr (.inl gv))), (cki, .inr (4, [.ref kw, .ref kf, .int z])), (kw, .inl (k1, 20, .inr (.inl gw))), (kf, .inl (k2, 20, .inl gf))] s.heap.size = A at hD hT ⊢
  have hAA : ∀ q : Nat, s.heap.size ≤ q → A q := fun q h => by rw [← hAe]; exact Or.inr h
  have hS : va_S A s.heap s.heap [] := va_S.rf
  have hl := lv_entry ([.ref h0, .int ce]) (n := 2) (Nat.le_of_ble_eq_true rfl)
  rw [lg_entry_eq]
  generalize (lg_sl ([.ref h0, .int ce]) ++ List.replicate (2 - (lg_sl ([.ref h0, .int ce])).length) Slot.unset).toArray = ls at hl ⊢
  have hl : lv_has ls 2 [(0, .ref h0), (1, .int ce)] := hl
  refine lv_aload_n hx hb dX1_width_0 rfl (lv_at hl 0 rfl) ?_
  refine va_get (D := (dC, dI)) (ci := 1) (v := .ref cki) (C := RX1) (T := TX1) (N := 13) hx hb hA zin_X1 hown hK hP 0 rfl rfl 3 (by decide) (hA _ wi_439) (fun _ h9 => h9) rfl dX1_width_1 ?_
  refine lv_aload_n hx hb dX1_width_4 rfl (lv_at hl 0 rfl) ?_
  refine va_get (D := (dC, dI)) (ci := 1) (v := .ref ek) (C := RX1) (T := TX1) (N := 13) hx hb hA zin_X1 hown hK hP 0 rfl rfl 0 (by decide) (hA _ wi_435) (fun _ h9 => h9) rfl dX1_width_5 ?_
  refine lv_iload_n hx hb dX1_width_8 rfl (lv_at hl 1 rfl) ?_
  refine va_iald hx hb hK hP 1 0 rfl rfl (vp_in_iff.mpr ⟨by omega, by omega⟩) dX1_width_9 ?_
  refine lv_topi (fun x_1 ex_1 => ?_)
  have hPc := hP.sub (ws' := [(cki, .inr (4, [.ref kw, .ref kf, .int z])), (kw, .inl (k1, 20, .inr (.inl gw))), (kf, .inl (k2, 20, .inl gf))]) [4, 5, 6] rfl
  have hDc := hD.sub (ws' := [(cki, .inr (4, [.ref kw, .ref kf, .int z])), (kw, .inl (k1, 20, .inr (.inl gw))), (kf, .inl (k2, 20, .inl gf))]) [4, 5, 6] (by decide) rfl
  have hKc := hK.sub (tys' := [(k1, .long), (k2, .int)]) [3, 4] rfl
  have hFc := va_free (wc := [(cki, .inr (4, [.ref kw, .ref kf, .int z])), (kw, .inl (k1, 20, .inr (.inl gw))), (kf, .inl (k2, 20, .inl gf))]) hD hS hAA [4, 5, 6] rfl
  refine va_calli (va_runV (As := [.int x_1]) (rest := []) ⟨hx, hb, hml, hown, hA⟩ (c_X4_fieldsOf_x l dC dI aK aV cki kw kf k1 k2 z gw gf x_1 s.heap.size (by omega) (by omega) hgf) (cwV 1 hA (zw_V wi_1154 wi_803 wi_804 wi_134 (zw_good wi_805)) rfl rfl rfl (by decide +kernel) ⟨(Nat.le_of_ble_eq_true rfl), (Nat.le_of_ble_eq_true rfl)⟩) ⟨zP_blind, va_recv hKc hPc (ci := 4) (q0 := 0) rfl rfl, zz_pre hKc hPc hDc hN hT hS hFc⟩ rfl rfl hl.1 rfl (lv_room (Nat.le_of_ble_eq_true rfl)) dX1_width_10 ⟨(Nat.le_of_ble_eq_true rfl), (Nat.le_of_ble_eq_true rfl)⟩) hS (fun q _ h => hFc q h) hFc (fun r_2 u t H1 locs ht hvm hw hB hz1 hk1 hS => ?_)
  obtain ⟨hP1, hK1, hD1⟩ := hB
  rw [ht] at hP1
  have hK1 := va_K.moved hvm.symm hK1
  obtain ⟨hP, hD⟩ := va_join (wr := [(h0, .inr (1, [.ref ek, .ref ec, .ref ef, .ref cki, .int e_limit, .int e_fresh, .int e_firstFree, .int e_held, .int e_mostHeld, .int e_made, .int e_reused, .int e_freed, .int e_doubled])), (ek, .inl (e1, 400, .inl gk)), (ec, .inl (e2, 400, .inl gc)), (ef, .inl (e3, 1200, .inr (.inl gv)))]) (w1 := [(cki, .inr (4, [.ref kw, .ref kf, .int z])), (kw, .inl (k1, 20, .inr (.inl gw))), (kf, .inl (k2, 20, .inl gf))]) hP hD [4, 5, 6] [0, 1, 2, 3] rfl rfl (by decide) (by decide) hk1 hFc hP1 hD1
  have hK := (hK.sub (tys' := [(e1, .int), (e2, .int), (e3, .long)]) [0, 1, 2] rfl).app hK1
  generalize H1 = H at hP hS ⊢
  have hP : va_P (dC, dI) vwCl [(h0, .inr (1, [.ref ek, .ref ec, .ref ef, .ref cki, .int e_limit, .int e_fresh, .int e_firstFree, .int e_held, .int e_mostHeld, .int e_made, .int e_reused, .int e_freed, .int e_doubled])), (ek, .inl (e1, 400, .inl gk)), (ec, .inl (e2, 400, .inl gc)), (ef, .inl (e3, 1200, .inr (.inl gv))), (cki, .inr (4, [.ref kw, .ref kf, .int z])), (kw, .inl (k1, 20, .inr (.inl gw))), (kf, .inl (k2, 20, .inl gf))] H := hP
  have hD : va_D A [(h0, .inr (1, [.ref ek, .ref ec, .ref ef, .ref cki, .int e_limit, .int e_fresh, .int e_firstFree, .int e_held, .int e_mostHeld, .int e_made, .int e_reused, .int e_freed, .int e_doubled])), (ek, .inl (e1, 400, .inl gk)), (ec, .inl (e2, 400, .inl gc)), (ef, .inl (e3, 1200, .inr (.inl gv))), (cki, .inr (4, [.ref kw, .ref kf, .int z])), (kw, .inl (k1, 20, .inr (.inl gw))), (kf, .inl (k2, 20, .inl gf))] := hD
  have hK : va_K (dC, dI) vwCl [(e1, .int), (e2, .int), (e3, .long), (k1, .long), (k2, .int)] s := hK
  have hw_r_2 := hw
  try dsimp only at hw_r_2
  obtain ⟨hq_3, hq_4, hq_5⟩ := hw
  have hP9 := hP.sub (ws' := [(h0, .inr (1, [.ref ek, .ref ec, .ref ef, .ref cki, .int e_limit, .int e_fresh, .int e_firstFree, .int e_held, .int e_mostHeld, .int e_made, .int e_reused, .int e_freed, .int e_doubled])), (ek, .inl (e1, 400, .inl gk)), (ec, .inl (e2, 400, .inl gc)), (ef, .inl (e3, 1200, .inr (.inl gv))), (cki, .inr (4, [.ref kw, .ref kf, .int z])), (kw, .inl (k1, 20, .inr (.inl gw))), (kf, .inl (k2, 20, .inl gf))]) [0, 1, 2, 3, 4, 5, 6] rfl
  have hD9 := hD.sub (ws' := [(h0, .inr (1, [.ref ek, .ref ec, .ref ef, .ref cki, .int e_limit, .int e_fresh, .int e_firstFree, .int e_held, .int e_mostHeld, .int e_made, .int e_reused, .int e_freed, .int e_doubled])), (ek, .inl (e1, 400, .inl gk)), (ec, .inl (e2, 400, .inl gc)), (ef, .inl (e3, 1200, .inr (.inl gv))), (cki, .inr (4, [.ref kw, .ref kf, .int z])), (kw, .inl (k1, 20, .inr (.inl gw))), (kf, .inl (k2, 20, .inl gf))]) [0, 1, 2, 3, 4, 5, 6] (by decide) rfl
  have hK9 := hK.sub (tys' := [(e1, .int), (e2, .int), (e3, .long), (k1, .long), (k2, .int)]) [0, 1, 2, 3, 4] rfl
  exact W.iret (v := r_2) hx hb hr (fun t ht hW => ⟨⟨r_2, (), rfl, ⟨by omega, by omega, (by rw [hq_5, ex_1])⟩, by rw [ht]; exact hP9, va_K.moved hW.alike hK9, hD9⟩, hS.F ht⟩) hS.2.2 dX1_width_13
set_option maxHeartbeats 4000000 in
set_option maxRecDepth 100000 in
theorem c_X1_field_x400 (l : Launch) (dC : Nat → ClassId) (dI : Nat → Nat → Nat) (aK aV : Nat → Nat) (h0 : Nat) (ek : Nat) (ec : Nat) (ef : Nat) (cki : Nat) (e1 : ClassId) (e2 : ClassId) (e3 : ClassId) (e_limit : Int32) (e_fresh : Int32) (e_firstFree : Int32) (e_held : Int32) (e_mostHeld : Int32) (e_made : Int32) (e_reused : Int32) (e_freed : Int32) (e_doubled : Int32) (gk : Nat → Int32) (gc : Nat → Int32) (gv : Nat → Int64) (ce : Int32) (k : Int32) (sz : Nat) (hc0 : 0 ≤ ce.toInt) (hc1 : ce.toInt < 400) (hk0 : 0 ≤ k.toInt) (hk1 : k.toInt < 3) : Met l yX1_field (Cond.code yX1_field cX1_field 3 (some .long) :: zw) ({ frames := 8, cells := 0, slots := 0, locals := 200 }) (va_Pc [.ref h0, .int ce, .int k] (zP dC dI aK aV sz [(e1, .int), (e2, .int), (e3, .long)] [(h0, .inr (1, [.ref ek, .ref ec, .ref ef, .ref cki, .int e_limit, .int e_fresh, .int e_firstFree, .int e_held, .int e_mostHeld, .int e_made, .int e_reused, .int e_freed, .int e_doubled])), (ek, .inl (e1, 400, .inl gk)), (ec, .inl (e2, 400, .inl gc)), (ef, .inl (e3, 1200, .inr (.inl gv)))])) (va_Ql (fun (r : Int64) (u : Unit) => (r = gv (3 * Int32.toNatClampNeg ce + Int32.toNatClampNeg k))) (fun u => zQ dC dI (va_A [(h0, .inr (1, [.ref ek, .ref ec, .ref ef, .ref cki, .int e_limit, .int e_fresh, .int e_firstFree, .int e_held, .int e_mostHeld, .int e_made, .int e_reused, .int e_freed, .int e_doubled])), (ek, .inl (e1, 400, .inl gk)), (ec, .inl (e2, 400, .inl gc)), (ef, .inl (e3, 1200, .inr (.inl gv)))] sz) [(e1, .int), (e2, .int), (e3, .long)] [(h0, .inr (1, [.ref ek, .ref ec, .ref ef, .ref cki, .int e_limit, .int e_fresh, .int e_firstFree, .int e_held, .int e_mostHeld, .int e_made, .int e_reused, .int e_freed, .int e_doubled])), (ek, .inl (e1, 400, .inl gk)), (ec, .inl (e2, 400, .inl gc)), (ef, .inl (e3, 1200, .inr (.inl gv)))]) (va_A [(h0, .inr (1, [.ref ek, .ref ec, .ref ef, .ref cki, .int e_limit, .int e_fresh, .int e_firstFree, .int e_held, .int e_mostHeld, .int e_made, .int e_reused, .int e_freed, .int e_doubled])), (ek, .inl (e1, 400, .inl gk)), (ec, .inl (e2, 400, .inl gc)), (ef, .inl (e3, 1200, .inr (.inl gv)))] sz)) 0 0 (va_A [(h0, .inr (1, [.ref ek, .ref ec, .ref ef, .ref cki, .int e_limit, .int e_fresh, .int e_firstFree, .int e_held, .int e_mostHeld, .int e_made, .int e_reused, .int e_freed, .int e_doubled])), (ek, .inl (e1, 400, .inl gk)), (ec, .inl (e2, 400, .inl gc)), (ef, .inl (e3, 1200, .inr (.inl gv)))] sz) := by
  refine Met.ofW (cc := cX1_field) (maxL := 3) (ret := (some .long)) (by decide) rfl ?_
  intro p e s m args below meth c s₁ B hml hv
  obtain ⟨rfl, hsz, hP, hK, hD0, hN, hT⟩ := hv
  have hx := B.exec
  have hb := B.bytes
  have hr := B.returns
  have hts := atoms_spec (ws := Cond.code yX1_field cX1_field 3 (some .long) :: zw) B.pre
  have hA : ∀ w ∈ zw, w.before _ s = true := fun w h => hts w (List.mem_cons_of_mem _ h)
  have hown : s.vm.findClass RX1 = some m.cls := findClass_of_methodNamed B.named
  have hlocks := B.notSynchronized
  subst hsz
  have hD := hD0.self (sz := s.heap.size)
  generalize hAe : va_A [(h0, .inr (1, [.ref ek, .ref ec, .ref ef, .ref cki, .int e_limit, .int e_fresh, .int e_firstFree, .int e_held, .int e_mostHeld, .int e_made, .int e_reused, .int e_freed, .int e_doubled])), (ek, .inl (e1, 400, .inl gk)), (ec, .inl (e2, 400, .inl gc)), (ef, .inl (e3, 1200, .inr (.inl gv)))] s.heap.size = A at hD hT ⊢
  have hAA : ∀ q : Nat, s.heap.size ≤ q → A q := fun q h => by rw [← hAe]; exact Or.inr h
  have hS : va_S A s.heap s.heap [] := va_S.rf
  have hl := lv_entry ([.ref h0, .int ce, .int k]) (n := 3) (Nat.le_of_ble_eq_true rfl)
  rw [lg_entry_eq]
  generalize (lg_sl ([.ref h0, .int ce, .int k]) ++ List.replicate (3 - (lg_sl ([.ref h0, .int ce, .int k])).length) Slot.unset).toArray = ls at hl ⊢
  have hl : lv_has ls 3 [(0, .ref h0), (1, .int ce), (2, .int k)] := hl
  refine lv_aload_n hx hb dX1_field_0 rfl (lv_at hl 0 rfl) ?_
  refine va_get (D := (dC, dI)) (ci := 1) (v := .ref ef) (C := RX1) (T := TX1) (N := 13) hx hb hA zin_X1 hown hK hP 0 rfl rfl 2 (by decide) (hA _ wi_438) (fun _ h9 => h9) rfl dX1_field_1 ?_
  refine lv_iload_n hx hb dX1_field_4 rfl (lv_at hl 1 rfl) ?_
  refine lv_iconst (v := 3) hx hb dX1_field_5 (by decide) ?_
  refine lv_imul hx hb dX1_field_6 ?_
  refine lv_topi (fun x_1 ex_1 => ?_)
  have ix_1 : x_1.toInt = ce.toInt * 3 := by rw [ex_1]; exact zi_mulc (by decide) (by omega) (by omega)
  refine lv_iload_n hx hb dX1_field_7 rfl (lv_at hl 2 rfl) ?_
  refine lv_iadd hx hb dX1_field_8 ?_
  refine lv_topi (fun x_2 ex_2 => ?_)
  have ix_2 : x_2.toInt = x_1.toInt + k.toInt := by rw [ex_2]; exact zi_addc rfl (by omega) (by omega)
  refine va_lald hx hb hK hP 3 2 rfl rfl (vp_in_iff.mpr ⟨by omega, by omega⟩) dX1_field_9 ?_
  refine lv_topl (fun x_3 ex_3 => ?_)
  have hP9 := hP.sub (ws' := [(h0, .inr (1, [.ref ek, .ref ec, .ref ef, .ref cki, .int e_limit, .int e_fresh, .int e_firstFree, .int e_held, .int e_mostHeld, .int e_made, .int e_reused, .int e_freed, .int e_doubled])), (ek, .inl (e1, 400, .inl gk)), (ec, .inl (e2, 400, .inl gc)), (ef, .inl (e3, 1200, .inr (.inl gv)))]) [0, 1, 2, 3] rfl
  have hD9 := hD.sub (ws' := [(h0, .inr (1, [.ref ek, .ref ec, .ref ef, .ref cki, .int e_limit, .int e_fresh, .int e_firstFree, .int e_held, .int e_mostHeld, .int e_made, .int e_reused, .int e_freed, .int e_doubled])), (ek, .inl (e1, 400, .inl gk)), (ec, .inl (e2, 400, .inl gc)), (ef, .inl (e3, 1200, .inr (.inl gv)))]) [0, 1, 2, 3] (by decide) rfl
  have hK9 := hK.sub (tys' := [(e1, .int), (e2, .int), (e3, .long)]) [0, 1, 2] rfl
  exact W.lret (v := x_3) hx hb hr (fun t ht hW => ⟨⟨x_3, (), rfl, (by rw [ex_3]; exact congrArg gv (zn_3 (by omega) (by omega) (by omega))), by rw [ht]; exact hP9, va_K.moved hW.alike hK9, hD9⟩, hS.F ht⟩) hS.2.2 dX1_field_10
set_option maxHeartbeats 4000000 in
set_option maxRecDepth 100000 in
theorem c_X1_kindOf_x400 (l : Launch) (dC : Nat → ClassId) (dI : Nat → Nat → Nat) (aK aV : Nat → Nat) (h0 : Nat) (ek : Nat) (ec : Nat) (ef : Nat) (cki : Nat) (e1 : ClassId) (e2 : ClassId) (e3 : ClassId) (e_limit : Int32) (e_fresh : Int32) (e_firstFree : Int32) (e_held : Int32) (e_mostHeld : Int32) (e_made : Int32) (e_reused : Int32) (e_freed : Int32) (e_doubled : Int32) (gk : Nat → Int32) (gc : Nat → Int32) (gv : Nat → Int64) (va : Int64) (sz : Nat) (hgd : zhs va = 2 → 0 ≤ (va.toInt32).toInt ∧ (va.toInt32).toInt < 400) : Met l yX1_kindOf (Cond.code yX1_kindOf cX1_kindOf 3 (some .int) :: zw) ({ frames := 10, cells := 0, slots := 0, locals := 300 }) (va_Pc [.ref h0, .long va] (zP dC dI aK aV sz [(e1, .int), (e2, .int), (e3, .long)] [(h0, .inr (1, [.ref ek, .ref ec, .ref ef, .ref cki, .int e_limit, .int e_fresh, .int e_firstFree, .int e_held, .int e_mostHeld, .int e_made, .int e_reused, .int e_freed, .int e_doubled])), (ek, .inl (e1, 400, .inl gk)), (ec, .inl (e2, 400, .inl gc)), (ef, .inl (e3, 1200, .inr (.inl gv)))])) (va_Qi (fun (r : Int32) (u : Unit) => (zhs va = 0 ∧ r = -1 ∨ zhs va = 2 ∧ r = gk (Int32.toNatClampNeg va.toInt32) ∨ zhs va ≠ 0 ∧ zhs va ≠ 2 ∧ r = va.toInt32)) (fun u => zQ dC dI (va_A [(h0, .inr (1, [.ref ek, .ref ec, .ref ef, .ref cki, .int e_limit, .int e_fresh, .int e_firstFree, .int e_held, .int e_mostHeld, .int e_made, .int e_reused, .int e_freed, .int e_doubled])), (ek, .inl (e1, 400, .inl gk)), (ec, .inl (e2, 400, .inl gc)), (ef, .inl (e3, 1200, .inr (.inl gv)))] sz) [(e1, .int), (e2, .int), (e3, .long)] [(h0, .inr (1, [.ref ek, .ref ec, .ref ef, .ref cki, .int e_limit, .int e_fresh, .int e_firstFree, .int e_held, .int e_mostHeld, .int e_made, .int e_reused, .int e_freed, .int e_doubled])), (ek, .inl (e1, 400, .inl gk)), (ec, .inl (e2, 400, .inl gc)), (ef, .inl (e3, 1200, .inr (.inl gv)))]) (va_A [(h0, .inr (1, [.ref ek, .ref ec, .ref ef, .ref cki, .int e_limit, .int e_fresh, .int e_firstFree, .int e_held, .int e_mostHeld, .int e_made, .int e_reused, .int e_freed, .int e_doubled])), (ek, .inl (e1, 400, .inl gk)), (ec, .inl (e2, 400, .inl gc)), (ef, .inl (e3, 1200, .inr (.inl gv)))] sz)) 0 0 (va_A [(h0, .inr (1, [.ref ek, .ref ec, .ref ef, .ref cki, .int e_limit, .int e_fresh, .int e_firstFree, .int e_held, .int e_mostHeld, .int e_made, .int e_reused, .int e_freed, .int e_doubled])), (ek, .inl (e1, 400, .inl gk)), (ec, .inl (e2, 400, .inl gc)), (ef, .inl (e3, 1200, .inr (.inl gv)))] sz) := by
  refine Met.ofW (cc := cX1_kindOf) (maxL := 3) (ret := (some .int)) (by decide) rfl ?_
  intro p e s m args below meth c s₁ B hml hv
  obtain ⟨rfl, hsz, hP, hK, hD0, hN, hT⟩ := hv
  have hx := B.exec
  have hb := B.bytes
  have hr := B.returns
  have hts := atoms_spec (ws := Cond.code yX1_kindOf cX1_kindOf 3 (some .int) :: zw) B.pre
  have hA : ∀ w ∈ zw, w.before _ s = true := fun w h => hts w (List.mem_cons_of_mem _ h)
  have hown : s.vm.findClass RX1 = some m.cls := findClass_of_methodNamed B.named
  have hlocks := B.notSynchronized
  subst hsz
  have hD := hD0.self (sz := s.heap.size)
  generalize hAe : va_A [(h0, .inr (1, [.ref ek, .ref ec, .ref ef, .ref cki, .int e_limit, .int e_fresh, .int e_firstFree, .int e_held, .int e_mostHeld, .int e_made, .int e_reused, .int e_freed, .int e_doubled])), (ek, .inl (e1, 400, .inl gk)), (ec, .inl (e2, 400, .inl gc)), (ef, .inl (e3, 1200, .inr (.inl gv)))] s.heap.size = A at hD hT ⊢
  have hAA : ∀ q : Nat, s.heap.size ≤ q → A q := fun q h => by rw [← hAe]; exact Or.inr h
  have hS : va_S A s.heap s.heap [] := va_S.rf
  have hl := lv_entry ([.ref h0, .long va]) (n := 3) (Nat.le_of_ble_eq_true rfl)
  rw [lg_entry_eq]
  generalize (lg_sl ([.ref h0, .long va]) ++ List.replicate (3 - (lg_sl ([.ref h0, .long va])).length) Slot.unset).toArray = ls at hl ⊢
  have hl : lv_has ls 3 [(0, .ref h0), (1, .long va)] := hl
  refine lv_lload_n hx hb dX1_kindOf_0 rfl (lv_at hl 1 rfl) ?_
  have hPc := hP.sub (ws' := []) [] rfl
  have hDc := hD.sub (ws' := []) [] (by decide) rfl
  have hKc := hK.sub (tys' := []) [] rfl
  have hFc := va_free (wc := []) hD hS hAA [] rfl
  refine va_calli (va_runS (As := [.long va]) (rest := []) ⟨hx, hb, hml, hown, hA⟩ (c_X1_isInt_x l dC dI aK aV va s.heap.size) (va_cwS 1 hA (zw_S wi_1250 wi_1236 wi_140 (zw_good wi_1237)) rfl rfl rfl (by decide +kernel) ⟨(Nat.le_of_ble_eq_true rfl), (Nat.le_of_ble_eq_true rfl)⟩) ⟨zP_blind, zz_pre hKc hPc hDc hN hT hS hFc⟩ rfl rfl hl.1 rfl (lv_room (Nat.le_of_ble_eq_true rfl)) dX1_kindOf_1 ⟨(Nat.le_of_ble_eq_true rfl), (Nat.le_of_ble_eq_true rfl)⟩) hS (fun q _ h => hFc q h) hFc (fun r_1 u t H1 locs ht hvm hw hB hz1 hk1 hS => ?_)
  obtain ⟨hP1, hK1, hD1⟩ := hB
  rw [ht] at hP1
  have hK1 := va_K.moved hvm.symm hK1
  obtain ⟨hP, hD⟩ := va_join (wr := [(h0, .inr (1, [.ref ek, .ref ec, .ref ef, .ref cki, .int e_limit, .int e_fresh, .int e_firstFree, .int e_held, .int e_mostHeld, .int e_made, .int e_reused, .int e_freed, .int e_doubled])), (ek, .inl (e1, 400, .inl gk)), (ec, .inl (e2, 400, .inl gc)), (ef, .inl (e3, 1200, .inr (.inl gv)))]) (w1 := []) hP hD [] [0, 1, 2, 3] rfl rfl (by decide) (by decide) hk1 hFc hP1 hD1
  have hK := (hK.sub (tys' := [(e1, .int), (e2, .int), (e3, .long)]) [0, 1, 2] rfl).app hK1
  generalize H1 = H at hP hS ⊢
  have hP : va_P (dC, dI) vwCl [(h0, .inr (1, [.ref ek, .ref ec, .ref ef, .ref cki, .int e_limit, .int e_fresh, .int e_firstFree, .int e_held, .int e_mostHeld, .int e_made, .int e_reused, .int e_freed, .int e_doubled])), (ek, .inl (e1, 400, .inl gk)), (ec, .inl (e2, 400, .inl gc)), (ef, .inl (e3, 1200, .inr (.inl gv)))] H := hP
  have hD : va_D A [(h0, .inr (1, [.ref ek, .ref ec, .ref ef, .ref cki, .int e_limit, .int e_fresh, .int e_firstFree, .int e_held, .int e_mostHeld, .int e_made, .int e_reused, .int e_freed, .int e_doubled])), (ek, .inl (e1, 400, .inl gk)), (ec, .inl (e2, 400, .inl gc)), (ef, .inl (e3, 1200, .inr (.inl gv)))] := hD
  have hK : va_K (dC, dI) vwCl [(e1, .int), (e2, .int), (e3, .long)] s := hK
  have hw_r_1 := hw
  try dsimp only at hw_r_1
  have hq_2 := hw
  refine lv_if_eq (tgt := 9) hx hb dX1_kindOf_4 (by decide) (fun c_3 => ?_) (fun c_3 => ?_)
  · have ic_3 : r_1.toInt = 0 := zi_eq c_3
    have hnint9 : zhs va ≠ 0 := hq_2.elim (fun g => absurd g.1 (by omega)) (fun g => g.2)
    refine lv_lload_n hx hb dX1_kindOf_9 rfl (lv_at hl 1 rfl) ?_
    have hPc := hP.sub (ws' := []) [] rfl
    have hDc := hD.sub (ws' := []) [] (by decide) rfl
    have hKc := hK.sub (tys' := []) [] rfl
    have hFc := va_free (wc := []) hD hS hAA [] rfl
    refine va_calli (va_runS (As := [.long va]) (rest := []) ⟨hx, hb, hml, hown, hA⟩ (c_X1_isCell_x l dC dI aK aV va H.size) (va_cwS 1 hA (zw_S wi_1146 wi_1147 wi_140 (zw_good wi_1148)) rfl rfl rfl (by decide +kernel) ⟨(Nat.le_of_ble_eq_true rfl), (Nat.le_of_ble_eq_true rfl)⟩) ⟨zP_blind, zz_pre hKc hPc hDc hN hT hS hFc⟩ rfl rfl hl.1 rfl (lv_room (Nat.le_of_ble_eq_true rfl)) dX1_kindOf_10 ⟨(Nat.le_of_ble_eq_true rfl), (Nat.le_of_ble_eq_true rfl)⟩) hS (fun q _ h => hFc q h) hFc (fun r_4 u t H1 locs ht hvm hw hB hz1 hk1 hS => ?_)
    obtain ⟨hP1, hK1, hD1⟩ := hB
    rw [ht] at hP1
    have hK1 := va_K.moved hvm.symm hK1
    obtain ⟨hP, hD⟩ := va_join (wr := [(h0, .inr (1, [.ref ek, .ref ec, .ref ef, .ref cki, .int e_limit, .int e_fresh, .int e_firstFree, .int e_held, .int e_mostHeld, .int e_made, .int e_reused, .int e_freed, .int e_doubled])), (ek, .inl (e1, 400, .inl gk)), (ec, .inl (e2, 400, .inl gc)), (ef, .inl (e3, 1200, .inr (.inl gv)))]) (w1 := []) hP hD [] [0, 1, 2, 3] rfl rfl (by decide) (by decide) hk1 hFc hP1 hD1
    have hK := (hK.sub (tys' := [(e1, .int), (e2, .int), (e3, .long)]) [0, 1, 2] rfl).app hK1
    generalize H1 = H at hP hS ⊢
    have hP : va_P (dC, dI) vwCl [(h0, .inr (1, [.ref ek, .ref ec, .ref ef, .ref cki, .int e_limit, .int e_fresh, .int e_firstFree, .int e_held, .int e_mostHeld, .int e_made, .int e_reused, .int e_freed, .int e_doubled])), (ek, .inl (e1, 400, .inl gk)), (ec, .inl (e2, 400, .inl gc)), (ef, .inl (e3, 1200, .inr (.inl gv)))] H := hP
    have hD : va_D A [(h0, .inr (1, [.ref ek, .ref ec, .ref ef, .ref cki, .int e_limit, .int e_fresh, .int e_firstFree, .int e_held, .int e_mostHeld, .int e_made, .int e_reused, .int e_freed, .int e_doubled])), (ek, .inl (e1, 400, .inl gk)), (ec, .inl (e2, 400, .inl gc)), (ef, .inl (e3, 1200, .inr (.inl gv)))] := hD
    have hK : va_K (dC, dI) vwCl [(e1, .int), (e2, .int), (e3, .long)] s := hK
    have hw_r_4 := hw
    try dsimp only at hw_r_4
    have hq_5 := hw
    refine lv_if_eq (tgt := 26) hx hb dX1_kindOf_13 (by decide) (fun c_6 => ?_) (fun c_6 => ?_)
    · have ic_6 : r_4.toInt = 0 := zi_eq c_6
      have hncell9 : zhs va ≠ 2 := hq_5.elim (fun g => absurd g.1 (by omega)) (fun g => g.2)
      refine lv_lload_n hx hb dX1_kindOf_26 rfl (lv_at hl 1 rfl) ?_
      refine lv_l2i hx hb dX1_kindOf_27 rfl ?_
      refine lv_topi (fun x_7 ex_7 => ?_)
      have hP9 := hP.sub (ws' := [(h0, .inr (1, [.ref ek, .ref ec, .ref ef, .ref cki, .int e_limit, .int e_fresh, .int e_firstFree, .int e_held, .int e_mostHeld, .int e_made, .int e_reused, .int e_freed, .int e_doubled])), (ek, .inl (e1, 400, .inl gk)), (ec, .inl (e2, 400, .inl gc)), (ef, .inl (e3, 1200, .inr (.inl gv)))]) [0, 1, 2, 3] rfl
      have hD9 := hD.sub (ws' := [(h0, .inr (1, [.ref ek, .ref ec, .ref ef, .ref cki, .int e_limit, .int e_fresh, .int e_firstFree, .int e_held, .int e_mostHeld, .int e_made, .int e_reused, .int e_freed, .int e_doubled])), (ek, .inl (e1, 400, .inl gk)), (ec, .inl (e2, 400, .inl gc)), (ef, .inl (e3, 1200, .inr (.inl gv)))]) [0, 1, 2, 3] (by decide) rfl
      have hK9 := hK.sub (tys' := [(e1, .int), (e2, .int), (e3, .long)]) [0, 1, 2] rfl
      exact W.iret (v := x_7) hx hb hr (fun t ht hW => ⟨⟨x_7, (), rfl, (Or.inr (Or.inr ⟨hnint9, hncell9, ex_7⟩)), by rw [ht]; exact hP9, va_K.moved hW.alike hK9, hD9⟩, hS.F ht⟩) hS.2.2 dX1_kindOf_28
    · have ic_6 : r_4.toInt ≠ 0 := zi_ne c_6
      have hcell9 : zhs va = 2 := hq_5.elim (fun g => g.2) (fun g => absurd g.1 (by omega))
      have hg9 := hgd hcell9
      refine lv_aload_n hx hb dX1_kindOf_16 rfl (lv_at hl 0 rfl) ?_
      refine va_get (D := (dC, dI)) (ci := 1) (v := .ref ek) (C := RX1) (T := TX1) (N := 13) hx hb hA zin_X1 hown hK hP 0 rfl rfl 0 (by decide) (hA _ wi_435) (fun _ h9 => h9) rfl dX1_kindOf_17 ?_
      refine lv_lload_n hx hb dX1_kindOf_20 rfl (lv_at hl 1 rfl) ?_
      refine lv_l2i hx hb dX1_kindOf_21 rfl ?_
      refine lv_topi (fun x_8 ex_8 => ?_)
      have ix_8 : x_8.toInt = (va.toInt32).toInt := by rw [ex_8]
      refine va_iald hx hb hK hP 1 0 rfl rfl (vp_in_iff.mpr ⟨by omega, by omega⟩) dX1_kindOf_22 ?_
      refine lv_topi (fun x_9 ex_9 => ?_)
      refine lv_goto (tgt := 28) hx hb dX1_kindOf_23 (by decide) ?_
      have hP9 := hP.sub (ws' := [(h0, .inr (1, [.ref ek, .ref ec, .ref ef, .ref cki, .int e_limit, .int e_fresh, .int e_firstFree, .int e_held, .int e_mostHeld, .int e_made, .int e_reused, .int e_freed, .int e_doubled])), (ek, .inl (e1, 400, .inl gk)), (ec, .inl (e2, 400, .inl gc)), (ef, .inl (e3, 1200, .inr (.inl gv)))]) [0, 1, 2, 3] rfl
      have hD9 := hD.sub (ws' := [(h0, .inr (1, [.ref ek, .ref ec, .ref ef, .ref cki, .int e_limit, .int e_fresh, .int e_firstFree, .int e_held, .int e_mostHeld, .int e_made, .int e_reused, .int e_freed, .int e_doubled])), (ek, .inl (e1, 400, .inl gk)), (ec, .inl (e2, 400, .inl gc)), (ef, .inl (e3, 1200, .inr (.inl gv)))]) [0, 1, 2, 3] (by decide) rfl
      have hK9 := hK.sub (tys' := [(e1, .int), (e2, .int), (e3, .long)]) [0, 1, 2] rfl
      exact W.iret (v := x_9) hx hb hr (fun t ht hW => ⟨⟨x_9, (), rfl, (Or.inr (Or.inl ⟨hcell9, by rw [ex_9, ex_8]⟩)), by rw [ht]; exact hP9, va_K.moved hW.alike hK9, hD9⟩, hS.F ht⟩) hS.2.2 dX1_kindOf_28
  · have ic_3 : r_1.toInt ≠ 0 := zi_ne c_3
    have hint9 : zhs va = 0 := hq_2.elim (fun g => g.2) (fun g => absurd g.1 (by omega))
    refine lv_iconst (v := (-1)) hx hb dX1_kindOf_7 (by decide) ?_
    have hlit : Int32.toInt (-1) = (-1) := by decide
    have hP9 := hP.sub (ws' := [(h0, .inr (1, [.ref ek, .ref ec, .ref ef, .ref cki, .int e_limit, .int e_fresh, .int e_firstFree, .int e_held, .int e_mostHeld, .int e_made, .int e_reused, .int e_freed, .int e_doubled])), (ek, .inl (e1, 400, .inl gk)), (ec, .inl (e2, 400, .inl gc)), (ef, .inl (e3, 1200, .inr (.inl gv)))]) [0, 1, 2, 3] rfl
    have hD9 := hD.sub (ws' := [(h0, .inr (1, [.ref ek, .ref ec, .ref ef, .ref cki, .int e_limit, .int e_fresh, .int e_firstFree, .int e_held, .int e_mostHeld, .int e_made, .int e_reused, .int e_freed, .int e_doubled])), (ek, .inl (e1, 400, .inl gk)), (ec, .inl (e2, 400, .inl gc)), (ef, .inl (e3, 1200, .inr (.inl gv)))]) [0, 1, 2, 3] (by decide) rfl
    have hK9 := hK.sub (tys' := [(e1, .int), (e2, .int), (e3, .long)]) [0, 1, 2] rfl
    exact W.iret (v := (-1)) hx hb hr (fun t ht hW => ⟨⟨(-1), (), rfl, (Or.inl ⟨hint9, rfl⟩), by rw [ht]; exact hP9, va_K.moved hW.alike hK9, hD9⟩, hS.F ht⟩) hS.2.2 dX1_kindOf_8
set_option maxHeartbeats 4000000 in
set_option maxRecDepth 100000 in
theorem c_X1_width_x4000 (l : Launch) (dC : Nat → ClassId) (dI : Nat → Nat → Nat) (aK aV : Nat → Nat) (h0 : Nat) (ek : Nat) (ec : Nat) (ef : Nat) (cki : Nat) (e1 : ClassId) (e2 : ClassId) (e3 : ClassId) (e_limit : Int32) (e_fresh : Int32) (e_firstFree : Int32) (e_held : Int32) (e_mostHeld : Int32) (e_made : Int32) (e_reused : Int32) (e_freed : Int32) (e_doubled : Int32) (gk : Nat → Int32) (gc : Nat → Int32) (gv : Nat → Int64) (kw : Nat) (kf : Nat) (k1 : ClassId) (k2 : ClassId) (z : Int32) (gw : Nat → Int64) (gf : Nat → Int32) (ce : Int32) (sz : Nat) (hz0 : 0 ≤ z.toInt) (hz1 : z.toInt ≤ 20) (hgf : zx 4 gf) (hc0 : 0 ≤ ce.toInt) (hc1 : ce.toInt < 4000) : Met l yX1_width (Cond.code yX1_width cX1_width 2 (some .int) :: zw) ({ frames := 10, cells := 0, slots := 0, locals := 300 }) (va_Pc [.ref h0, .int ce] (zP dC dI aK aV sz [(e1, .int), (e2, .int), (e3, .long), (k1, .long), (k2, .int)] [(h0, .inr (1, [.ref ek, .ref ec, .ref ef, .ref cki, .int e_limit, .int e_fresh, .int e_firstFree, .int e_held, .int e_mostHeld, .int e_made, .int e_reused, .int e_freed, .int e_doubled])), (ek, .inl (e1, 4000, .inl gk)), (ec, .inl (e2, 4000, .inl gc)), (ef, .inl (e3, 12000, .inr (.inl gv))), (cki, .inr (4, [.ref kw, .ref kf, .int z])), (kw, .inl (k1, 20, .inr (.inl gw))), (kf, .inl (k2, 20, .inl gf))])) (va_Qi (fun (r : Int32) (u : Unit) => (0 ≤ r.toInt) ∧ (r.toInt ≤ 3) ∧ (r.toInt = zfk z gf (gk (Int32.toNatClampNeg ce)))) (fun u => zQ dC dI (va_A [(h0, .inr (1, [.ref ek, .ref ec, .ref ef, .ref cki, .int e_limit, .int e_fresh, .int e_firstFree, .int e_held, .int e_mostHeld, .int e_made, .int e_reused, .int e_freed, .int e_doubled])), (ek, .inl (e1, 4000, .inl gk)), (ec, .inl (e2, 4000, .inl gc)), (ef, .inl (e3, 12000, .inr (.inl gv))), (cki, .inr (4, [.ref kw, .ref kf, .int z])), (kw, .inl (k1, 20, .inr (.inl gw))), (kf, .inl (k2, 20, .inl gf))] sz) [(e1, .int), (e2, .int), (e3, .long), (k1, .long), (k2, .int)] [(h0, .inr (1, [.ref ek, .ref ec, .ref ef, .ref cki, .int e_limit, .int e_fresh, .int e_firstFree, .int e_held, .int e_mostHeld, .int e_made, .int e_reused, .int e_freed, .int e_doubled])), (ek, .inl (e1, 4000, .inl gk)), (ec, .inl (e2, 4000, .inl gc)), (ef, .inl (e3, 12000, .inr (.inl gv))), (cki, .inr (4, [.ref kw, .ref kf, .int z])), (kw, .inl (k1, 20, .inr (.inl gw))), (kf, .inl (k2, 20, .inl gf))]) (va_A [(h0, .inr (1, [.ref ek, .ref ec, .ref ef, .ref cki, .int e_limit, .int e_fresh, .int e_firstFree, .int e_held, .int e_mostHeld, .int e_made, .int e_reused, .int e_freed, .int e_doubled])), (ek, .inl (e1, 4000, .inl gk)), (ec, .inl (e2, 4000, .inl gc)), (ef, .inl (e3, 12000, .inr (.inl gv))), (cki, .inr (4, [.ref kw, .ref kf, .int z])), (kw, .inl (k1, 20, .inr (.inl gw))), (kf, .inl (k2, 20, .inl gf))] sz)) 0 0 (va_A [(h0, .inr (1, [.ref ek, .ref ec, .ref ef, .ref cki, .int e_limit, .int e_fresh, .int e_firstFree, .int e_held, .int e_mostHeld, .int e_made, .int e_reused, .int e_freed, .int e_doubled])), (ek, .inl (e1, 4000, .inl gk)), (ec, .inl (e2, 4000, .inl gc)), (ef, .inl (e3, 12000, .inr (.inl gv))), (cki, .inr (4, [.ref kw, .ref kf, .int z])), (kw, .inl (k1, 20, .inr (.inl gw))), (kf, .inl (k2, 20, .inl gf))] sz) := by
  refine Met.ofW (cc := cX1_width) (maxL := 2) (ret := (some .int)) (by decide) rfl ?_
  intro p e s m args below meth c s₁ B hml hv
  obtain ⟨rfl, hsz, hP, hK, hD0, hN, hT⟩ := hv
  have hx := B.exec
  have hb := B.bytes
  have hr := B.returns
  have hts := atoms_spec (ws := Cond.code yX1_width cX1_width 2 (some .int) :: zw) B.pre
  have hA : ∀ w ∈ zw, w.before _ s = true := fun w h => hts w (List.mem_cons_of_mem _ h)
  have hown : s.vm.findClass RX1 = some m.cls := findClass_of_methodNamed B.named
  have hlocks := B.notSynchronized
  subst hsz
  have hD := hD0.self (sz := s.heap.size)
  generalize hAe : va_A [(h0, .inr (1, [.ref ek, .ref ec, .ref ef, .ref cki, .int e_limit, .int e_fresh, .int e_firstFree, .int e_held, .int e_mostHeld, .int e_made, .int e_reused, .int e_freed, .int e_doubled])), (ek, .inl (e1, 4000, .inl gk)), (ec, .inl (e2, 4000, .inl gc)), (ef, .inl (e3, 12000, .inr (.inl gv))), (cki, .inr (4, [.ref kw, .ref kf, .int z])), (kw, .inl (k1, 20, .inr (.inl gw))), (kf, .inl (k2, 20, .inl gf))] s.heap.size = A at hD hT ⊢
  have hAA : ∀ q : Nat, s.heap.size ≤ q → A q := fun q h => by rw [← hAe]; exact Or.inr h
  have hS : va_S A s.heap s.heap [] := va_S.rf
  have hl := lv_entry ([.ref h0, .int ce]) (n := 2) (Nat.le_of_ble_eq_true rfl)
  rw [lg_entry_eq]
  generalize (lg_sl ([.ref h0, .int ce]) ++ List.replicate (2 - (lg_sl ([.ref h0, .int ce])).length) Slot.unset).toArray = ls at hl ⊢
  have hl : lv_has ls 2 [(0, .ref h0), (1, .int ce)] := hl
  refine lv_aload_n hx hb dX1_width_0 rfl (lv_at hl 0 rfl) ?_
  refine va_get (D := (dC, dI)) (ci := 1) (v := .ref cki) (C := RX1) (T := TX1) (N := 13) hx hb hA zin_X1 hown hK hP 0 rfl rfl 3 (by decide) (hA _ wi_439) (fun _ h9 => h9) rfl dX1_width_1 ?_
  refine lv_aload_n hx hb dX1_width_4 rfl (lv_at hl 0 rfl) ?_
  refine va_get (D := (dC, dI)) (ci := 1) (v := .ref ek) (C := RX1) (T := TX1) (N := 13) hx hb hA zin_X1 hown hK hP 0 rfl rfl 0 (by decide) (hA _ wi_435) (fun _ h9 => h9) rfl dX1_width_5 ?_
  refine lv_iload_n hx hb dX1_width_8 rfl (lv_at hl 1 rfl) ?_
  refine va_iald hx hb hK hP 1 0 rfl rfl (vp_in_iff.mpr ⟨by omega, by omega⟩) dX1_width_9 ?_
  refine lv_topi (fun x_1 ex_1 => ?_)
  have hPc := hP.sub (ws' := [(cki, .inr (4, [.ref kw, .ref kf, .int z])), (kw, .inl (k1, 20, .inr (.inl gw))), (kf, .inl (k2, 20, .inl gf))]) [4, 5, 6] rfl
  have hDc := hD.sub (ws' := [(cki, .inr (4, [.ref kw, .ref kf, .int z])), (kw, .inl (k1, 20, .inr (.inl gw))), (kf, .inl (k2, 20, .inl gf))]) [4, 5, 6] (by decide) rfl
  have hKc := hK.sub (tys' := [(k1, .long), (k2, .int)]) [3, 4] rfl
  have hFc := va_free (wc := [(cki, .inr (4, [.ref kw, .ref kf, .int z])), (kw, .inl (k1, 20, .inr (.inl gw))), (kf, .inl (k2, 20, .inl gf))]) hD hS hAA [4, 5, 6] rfl
  refine va_calli (va_runV (As := [.int x_1]) (rest := []) ⟨hx, hb, hml, hown, hA⟩ (c_X4_fieldsOf_x l dC dI aK aV cki kw kf k1 k2 z gw gf x_1 s.heap.size (by omega) (by omega) hgf) (cwV 1 hA (zw_V wi_1154 wi_803 wi_804 wi_134 (zw_good wi_805)) rfl rfl rfl (by decide +kernel) ⟨(Nat.le_of_ble_eq_true rfl), (Nat.le_of_ble_eq_true rfl)⟩) ⟨zP_blind, va_recv hKc hPc (ci := 4) (q0 := 0) rfl rfl, zz_pre hKc hPc hDc hN hT hS hFc⟩ rfl rfl hl.1 rfl (lv_room (Nat.le_of_ble_eq_true rfl)) dX1_width_10 ⟨(Nat.le_of_ble_eq_true rfl), (Nat.le_of_ble_eq_true rfl)⟩) hS (fun q _ h => hFc q h) hFc (fun r_2 u t H1 locs ht hvm hw hB hz1 hk1 hS => ?_)
  obtain ⟨hP1, hK1, hD1⟩ := hB
  rw [ht] at hP1
  have hK1 := va_K.moved hvm.symm hK1
  obtain ⟨hP, hD⟩ := va_join (wr := [(h0, .inr (1, [.ref ek, .ref ec, .ref ef, .ref cki, .int e_limit, .int e_fresh, .int e_firstFree, .int e_held, .int e_mostHeld, .int e_made, .int e_reused, .int e_freed, .int e_doubled])), (ek, .inl (e1, 4000, .inl gk)), (ec, .inl (e2, 4000, .inl gc)), (ef, .inl (e3, 12000, .inr (.inl gv)))]) (w1 := [(cki, .inr (4, [.ref kw, .ref kf, .int z])), (kw, .inl (k1, 20, .inr (.inl gw))), (kf, .inl (k2, 20, .inl gf))]) hP hD [4, 5, 6] [0, 1, 2, 3] rfl rfl (by decide) (by decide) hk1 hFc hP1 hD1
  have hK := (hK.sub (tys' := [(e1, .int), (e2, .int), (e3, .long)]) [0, 1, 2] rfl).app hK1
  generalize H1 = H at hP hS ⊢
  have hP : va_P (dC, dI) vwCl [(h0, .inr (1, [.ref ek, .ref ec, .ref ef, .ref cki, .int e_limit, .int e_fresh, .int e_firstFree, .int e_held, .int e_mostHeld, .int e_made, .int e_reused, .int e_freed, .int e_doubled])), (ek, .inl (e1, 4000, .inl gk)), (ec, .inl (e2, 4000, .inl gc)), (ef, .inl (e3, 12000, .inr (.inl gv))), (cki, .inr (4, [.ref kw, .ref kf, .int z])), (kw, .inl (k1, 20, .inr (.inl gw))), (kf, .inl (k2, 20, .inl gf))] H := hP
  have hD : va_D A [(h0, .inr (1, [.ref ek, .ref ec, .ref ef, .ref cki, .int e_limit, .int e_fresh, .int e_firstFree, .int e_held, .int e_mostHeld, .int e_made, .int e_reused, .int e_freed, .int e_doubled])), (ek, .inl (e1, 4000, .inl gk)), (ec, .inl (e2, 4000, .inl gc)), (ef, .inl (e3, 12000, .inr (.inl gv))), (cki, .inr (4, [.ref kw, .ref kf, .int z])), (kw, .inl (k1, 20, .inr (.inl gw))), (kf, .inl (k2, 20, .inl gf))] := hD
  have hK : va_K (dC, dI) vwCl [(e1, .int), (e2, .int), (e3, .long), (k1, .long), (k2, .int)] s := hK
  have hw_r_2 := hw
  try dsimp only at hw_r_2
  obtain ⟨hq_3, hq_4, hq_5⟩ := hw
  have hP9 := hP.sub (ws' := [(h0, .inr (1, [.ref ek, .ref ec, .ref ef, .ref cki, .int e_limit, .int e_fresh, .int e_firstFree, .int e_held, .int e_mostHeld, .int e_made, .int e_reused, .int e_freed, .int e_doubled])), (ek, .inl (e1, 4000, .inl gk)), (ec, .inl (e2, 4000, .inl gc)), (ef, .inl (e3, 12000, .inr (.inl gv))), (cki, .inr (4, [.ref kw, .ref kf, .int z])), (kw, .inl (k1, 20, .inr (.inl gw))), (kf, .inl (k2, 20, .inl gf))]) [0, 1, 2, 3, 4, 5, 6] rfl
  have hD9 := hD.sub (ws' := [(h0, .inr (1, [.ref ek, .ref ec, .ref ef, .ref cki, .int e_limit, .int e_fresh, .int e_firstFree, .int e_held, .int e_mostHeld, .int e_made, .int e_reused, .int e_freed, .int e_doubled])), (ek, .inl (e1, 4000, .inl gk)), (ec, .inl (e2, 4000, .inl gc)), (ef, .inl (e3, 12000, .inr (.inl gv))), (cki, .inr (4, [.ref kw, .ref kf, .int z])), (kw, .inl (k1, 20, .inr (.inl gw))), (kf, .inl (k2, 20, .inl gf))]) [0, 1, 2, 3, 4, 5, 6] (by decide) rfl
  have hK9 := hK.sub (tys' := [(e1, .int), (e2, .int), (e3, .long), (k1, .long), (k2, .int)]) [0, 1, 2, 3, 4] rfl
  exact W.iret (v := r_2) hx hb hr (fun t ht hW => ⟨⟨r_2, (), rfl, ⟨by omega, by omega, (by rw [hq_5, ex_1])⟩, by rw [ht]; exact hP9, va_K.moved hW.alike hK9, hD9⟩, hS.F ht⟩) hS.2.2 dX1_width_13
set_option maxHeartbeats 4000000 in
set_option maxRecDepth 100000 in
theorem c_X1_field_x4000 (l : Launch) (dC : Nat → ClassId) (dI : Nat → Nat → Nat) (aK aV : Nat → Nat) (h0 : Nat) (ek : Nat) (ec : Nat) (ef : Nat) (cki : Nat) (e1 : ClassId) (e2 : ClassId) (e3 : ClassId) (e_limit : Int32) (e_fresh : Int32) (e_firstFree : Int32) (e_held : Int32) (e_mostHeld : Int32) (e_made : Int32) (e_reused : Int32) (e_freed : Int32) (e_doubled : Int32) (gk : Nat → Int32) (gc : Nat → Int32) (gv : Nat → Int64) (ce : Int32) (k : Int32) (sz : Nat) (hc0 : 0 ≤ ce.toInt) (hc1 : ce.toInt < 4000) (hk0 : 0 ≤ k.toInt) (hk1 : k.toInt < 3) : Met l yX1_field (Cond.code yX1_field cX1_field 3 (some .long) :: zw) ({ frames := 8, cells := 0, slots := 0, locals := 200 }) (va_Pc [.ref h0, .int ce, .int k] (zP dC dI aK aV sz [(e1, .int), (e2, .int), (e3, .long)] [(h0, .inr (1, [.ref ek, .ref ec, .ref ef, .ref cki, .int e_limit, .int e_fresh, .int e_firstFree, .int e_held, .int e_mostHeld, .int e_made, .int e_reused, .int e_freed, .int e_doubled])), (ek, .inl (e1, 4000, .inl gk)), (ec, .inl (e2, 4000, .inl gc)), (ef, .inl (e3, 12000, .inr (.inl gv)))])) (va_Ql (fun (r : Int64) (u : Unit) => (r = gv (3 * Int32.toNatClampNeg ce + Int32.toNatClampNeg k))) (fun u => zQ dC dI (va_A [(h0, .inr (1, [.ref ek, .ref ec, .ref ef, .ref cki, .int e_limit, .int e_fresh, .int e_firstFree, .int e_held, .int e_mostHeld, .int e_made, .int e_reused, .int e_freed, .int e_doubled])), (ek, .inl (e1, 4000, .inl gk)), (ec, .inl (e2, 4000, .inl gc)), (ef, .inl (e3, 12000, .inr (.inl gv)))] sz) [(e1, .int), (e2, .int), (e3, .long)] [(h0, .inr (1, [.ref ek, .ref ec, .ref ef, .ref cki, .int e_limit, .int e_fresh, .int e_firstFree, .int e_held, .int e_mostHeld, .int e_made, .int e_reused, .int e_freed, .int e_doubled])), (ek, .inl (e1, 4000, .inl gk)), (ec, .inl (e2, 4000, .inl gc)), (ef, .inl (e3, 12000, .inr (.inl gv)))]) (va_A [(h0, .inr (1, [.ref ek, .ref ec, .ref ef, .ref cki, .int e_limit, .int e_fresh, .int e_firstFree, .int e_held, .int e_mostHeld, .int e_made, .int e_reused, .int e_freed, .int e_doubled])), (ek, .inl (e1, 4000, .inl gk)), (ec, .inl (e2, 4000, .inl gc)), (ef, .inl (e3, 12000, .inr (.inl gv)))] sz)) 0 0 (va_A [(h0, .inr (1, [.ref ek, .ref ec, .ref ef, .ref cki, .int e_limit, .int e_fresh, .int e_firstFree, .int e_held, .int e_mostHeld, .int e_made, .int e_reused, .int e_freed, .int e_doubled])), (ek, .inl (e1, 4000, .inl gk)), (ec, .inl (e2, 4000, .inl gc)), (ef, .inl (e3, 12000, .inr (.inl gv)))] sz) := by
  refine Met.ofW (cc := cX1_field) (maxL := 3) (ret := (some .long)) (by decide) rfl ?_
  intro p e s m args below meth c s₁ B hml hv
  obtain ⟨rfl, hsz, hP, hK, hD0, hN, hT⟩ := hv
  have hx := B.exec
  have hb := B.bytes
  have hr := B.returns
  have hts := atoms_spec (ws := Cond.code yX1_field cX1_field 3 (some .long) :: zw) B.pre
  have hA : ∀ w ∈ zw, w.before _ s = true := fun w h => hts w (List.mem_cons_of_mem _ h)
  have hown : s.vm.findClass RX1 = some m.cls := findClass_of_methodNamed B.named
  have hlocks := B.notSynchronized
  subst hsz
  have hD := hD0.self (sz := s.heap.size)
  generalize hAe : va_A [(h0, .inr (1, [.ref ek, .ref ec, .ref ef, .ref cki, .int e_limit, .int e_fresh, .int e_firstFree, .int e_held, .int e_mostHeld, .int e_made, .int e_reused, .int e_freed, .int e_doubled])), (ek, .inl (e1, 4000, .inl gk)), (ec, .inl (e2, 4000, .inl gc)), (ef, .inl (e3, 12000, .inr (.inl gv)))] s.heap.size = A at hD hT ⊢
  have hAA : ∀ q : Nat, s.heap.size ≤ q → A q := fun q h => by rw [← hAe]; exact Or.inr h
  have hS : va_S A s.heap s.heap [] := va_S.rf
  have hl := lv_entry ([.ref h0, .int ce, .int k]) (n := 3) (Nat.le_of_ble_eq_true rfl)
  rw [lg_entry_eq]
  generalize (lg_sl ([.ref h0, .int ce, .int k]) ++ List.replicate (3 - (lg_sl ([.ref h0, .int ce, .int k])).length) Slot.unset).toArray = ls at hl ⊢
  have hl : lv_has ls 3 [(0, .ref h0), (1, .int ce), (2, .int k)] := hl
  refine lv_aload_n hx hb dX1_field_0 rfl (lv_at hl 0 rfl) ?_
  refine va_get (D := (dC, dI)) (ci := 1) (v := .ref ef) (C := RX1) (T := TX1) (N := 13) hx hb hA zin_X1 hown hK hP 0 rfl rfl 2 (by decide) (hA _ wi_438) (fun _ h9 => h9) rfl dX1_field_1 ?_
  refine lv_iload_n hx hb dX1_field_4 rfl (lv_at hl 1 rfl) ?_
  refine lv_iconst (v := 3) hx hb dX1_field_5 (by decide) ?_
  refine lv_imul hx hb dX1_field_6 ?_
  refine lv_topi (fun x_1 ex_1 => ?_)
  have ix_1 : x_1.toInt = ce.toInt * 3 := by rw [ex_1]; exact zi_mulc (by decide) (by omega) (by omega)
  refine lv_iload_n hx hb dX1_field_7 rfl (lv_at hl 2 rfl) ?_
  refine lv_iadd hx hb dX1_field_8 ?_
  refine lv_topi (fun x_2 ex_2 => ?_)
  have ix_2 : x_2.toInt = x_1.toInt + k.toInt := by rw [ex_2]; exact zi_addc rfl (by omega) (by omega)
  refine va_lald hx hb hK hP 3 2 rfl rfl (vp_in_iff.mpr ⟨by omega, by omega⟩) dX1_field_9 ?_
  refine lv_topl (fun x_3 ex_3 => ?_)
  have hP9 := hP.sub (ws' := [(h0, .inr (1, [.ref ek, .ref ec, .ref ef, .ref cki, .int e_limit, .int e_fresh, .int e_firstFree, .int e_held, .int e_mostHeld, .int e_made, .int e_reused, .int e_freed, .int e_doubled])), (ek, .inl (e1, 4000, .inl gk)), (ec, .inl (e2, 4000, .inl gc)), (ef, .inl (e3, 12000, .inr (.inl gv)))]) [0, 1, 2, 3] rfl
  have hD9 := hD.sub (ws' := [(h0, .inr (1, [.ref ek, .ref ec, .ref ef, .ref cki, .int e_limit, .int e_fresh, .int e_firstFree, .int e_held, .int e_mostHeld, .int e_made, .int e_reused, .int e_freed, .int e_doubled])), (ek, .inl (e1, 4000, .inl gk)), (ec, .inl (e2, 4000, .inl gc)), (ef, .inl (e3, 12000, .inr (.inl gv)))]) [0, 1, 2, 3] (by decide) rfl
  have hK9 := hK.sub (tys' := [(e1, .int), (e2, .int), (e3, .long)]) [0, 1, 2] rfl
  exact W.lret (v := x_3) hx hb hr (fun t ht hW => ⟨⟨x_3, (), rfl, (by rw [ex_3]; exact congrArg gv (zn_3 (by omega) (by omega) (by omega))), by rw [ht]; exact hP9, va_K.moved hW.alike hK9, hD9⟩, hS.F ht⟩) hS.2.2 dX1_field_10
set_option maxHeartbeats 4000000 in
set_option maxRecDepth 100000 in
theorem c_X1_kindOf_x4000 (l : Launch) (dC : Nat → ClassId) (dI : Nat → Nat → Nat) (aK aV : Nat → Nat) (h0 : Nat) (ek : Nat) (ec : Nat) (ef : Nat) (cki : Nat) (e1 : ClassId) (e2 : ClassId) (e3 : ClassId) (e_limit : Int32) (e_fresh : Int32) (e_firstFree : Int32) (e_held : Int32) (e_mostHeld : Int32) (e_made : Int32) (e_reused : Int32) (e_freed : Int32) (e_doubled : Int32) (gk : Nat → Int32) (gc : Nat → Int32) (gv : Nat → Int64) (va : Int64) (sz : Nat) (hgd : zhs va = 2 → 0 ≤ (va.toInt32).toInt ∧ (va.toInt32).toInt < 4000) : Met l yX1_kindOf (Cond.code yX1_kindOf cX1_kindOf 3 (some .int) :: zw) ({ frames := 10, cells := 0, slots := 0, locals := 300 }) (va_Pc [.ref h0, .long va] (zP dC dI aK aV sz [(e1, .int), (e2, .int), (e3, .long)] [(h0, .inr (1, [.ref ek, .ref ec, .ref ef, .ref cki, .int e_limit, .int e_fresh, .int e_firstFree, .int e_held, .int e_mostHeld, .int e_made, .int e_reused, .int e_freed, .int e_doubled])), (ek, .inl (e1, 4000, .inl gk)), (ec, .inl (e2, 4000, .inl gc)), (ef, .inl (e3, 12000, .inr (.inl gv)))])) (va_Qi (fun (r : Int32) (u : Unit) => (zhs va = 0 ∧ r = -1 ∨ zhs va = 2 ∧ r = gk (Int32.toNatClampNeg va.toInt32) ∨ zhs va ≠ 0 ∧ zhs va ≠ 2 ∧ r = va.toInt32)) (fun u => zQ dC dI (va_A [(h0, .inr (1, [.ref ek, .ref ec, .ref ef, .ref cki, .int e_limit, .int e_fresh, .int e_firstFree, .int e_held, .int e_mostHeld, .int e_made, .int e_reused, .int e_freed, .int e_doubled])), (ek, .inl (e1, 4000, .inl gk)), (ec, .inl (e2, 4000, .inl gc)), (ef, .inl (e3, 12000, .inr (.inl gv)))] sz) [(e1, .int), (e2, .int), (e3, .long)] [(h0, .inr (1, [.ref ek, .ref ec, .ref ef, .ref cki, .int e_limit, .int e_fresh, .int e_firstFree, .int e_held, .int e_mostHeld, .int e_made, .int e_reused, .int e_freed, .int e_doubled])), (ek, .inl (e1, 4000, .inl gk)), (ec, .inl (e2, 4000, .inl gc)), (ef, .inl (e3, 12000, .inr (.inl gv)))]) (va_A [(h0, .inr (1, [.ref ek, .ref ec, .ref ef, .ref cki, .int e_limit, .int e_fresh, .int e_firstFree, .int e_held, .int e_mostHeld, .int e_made, .int e_reused, .int e_freed, .int e_doubled])), (ek, .inl (e1, 4000, .inl gk)), (ec, .inl (e2, 4000, .inl gc)), (ef, .inl (e3, 12000, .inr (.inl gv)))] sz)) 0 0 (va_A [(h0, .inr (1, [.ref ek, .ref ec, .ref ef, .ref cki, .int e_limit, .int e_fresh, .int e_firstFree, .int e_held, .int e_mostHeld, .int e_made, .int e_reused, .int e_freed, .int e_doubled])), (ek, .inl (e1, 4000, .inl gk)), (ec, .inl (e2, 4000, .inl gc)), (ef, .inl (e3, 12000, .inr (.inl gv)))] sz) := by
  refine Met.ofW (cc := cX1_kindOf) (maxL := 3) (ret := (some .int)) (by decide) rfl ?_
  intro p e s m args below meth c s₁ B hml hv
  obtain ⟨rfl, hsz, hP, hK, hD0, hN, hT⟩ := hv
  have hx := B.exec
  have hb := B.bytes
  have hr := B.returns
  have hts := atoms_spec (ws := Cond.code yX1_kindOf cX1_kindOf 3 (some .int) :: zw) B.pre
  have hA : ∀ w ∈ zw, w.before _ s = true := fun w h => hts w (List.mem_cons_of_mem _ h)
  have hown : s.vm.findClass RX1 = some m.cls := findClass_of_methodNamed B.named
  have hlocks := B.notSynchronized
  subst hsz
  have hD := hD0.self (sz := s.heap.size)
  generalize hAe : va_A [(h0, .inr (1, [.ref ek, .ref ec, .ref ef, .ref cki, .int e_limit, .int e_fresh, .int e_firstFree, .int e_held, .int e_mostHeld, .int e_made, .int e_reused, .int e_freed, .int e_doubled])), (ek, .inl (e1, 4000, .inl gk)), (ec, .inl (e2, 4000, .inl gc)), (ef, .inl (e3, 12000, .inr (.inl gv)))] s.heap.size = A at hD hT ⊢
  have hAA : ∀ q : Nat, s.heap.size ≤ q → A q := fun q h => by rw [← hAe]; exact Or.inr h
  have hS : va_S A s.heap s.heap [] := va_S.rf
  have hl := lv_entry ([.ref h0, .long va]) (n := 3) (Nat.le_of_ble_eq_true rfl)
  rw [lg_entry_eq]
  generalize (lg_sl ([.ref h0, .long va]) ++ List.replicate (3 - (lg_sl ([.ref h0, .long va])).length) Slot.unset).toArray = ls at hl ⊢
  have hl : lv_has ls 3 [(0, .ref h0), (1, .long va)] := hl
  refine lv_lload_n hx hb dX1_kindOf_0 rfl (lv_at hl 1 rfl) ?_
  have hPc := hP.sub (ws' := []) [] rfl
  have hDc := hD.sub (ws' := []) [] (by decide) rfl
  have hKc := hK.sub (tys' := []) [] rfl
  have hFc := va_free (wc := []) hD hS hAA [] rfl
  refine va_calli (va_runS (As := [.long va]) (rest := []) ⟨hx, hb, hml, hown, hA⟩ (c_X1_isInt_x l dC dI aK aV va s.heap.size) (va_cwS 1 hA (zw_S wi_1250 wi_1236 wi_140 (zw_good wi_1237)) rfl rfl rfl (by decide +kernel) ⟨(Nat.le_of_ble_eq_true rfl), (Nat.le_of_ble_eq_true rfl)⟩) ⟨zP_blind, zz_pre hKc hPc hDc hN hT hS hFc⟩ rfl rfl hl.1 rfl (lv_room (Nat.le_of_ble_eq_true rfl)) dX1_kindOf_1 ⟨(Nat.le_of_ble_eq_true rfl), (Nat.le_of_ble_eq_true rfl)⟩) hS (fun q _ h => hFc q h) hFc (fun r_1 u t H1 locs ht hvm hw hB hz1 hk1 hS => ?_)
  obtain ⟨hP1, hK1, hD1⟩ := hB
  rw [ht] at hP1
  have hK1 := va_K.moved hvm.symm hK1
  obtain ⟨hP, hD⟩ := va_join (wr := [(h0, .inr (1, [.ref ek, .ref ec, .ref ef, .ref cki, .int e_limit, .int e_fresh, .int e_firstFree, .int e_held, .int e_mostHeld, .int e_made, .int e_reused, .int e_freed, .int e_doubled])), (ek, .inl (e1, 4000, .inl gk)), (ec, .inl (e2, 4000, .inl gc)), (ef, .inl (e3, 12000, .inr (.inl gv)))]) (w1 := []) hP hD [] [0, 1, 2, 3] rfl rfl (by decide) (by decide) hk1 hFc hP1 hD1
  have hK := (hK.sub (tys' := [(e1, .int), (e2, .int), (e3, .long)]) [0, 1, 2] rfl).app hK1
  generalize H1 = H at hP hS ⊢
  have hP : va_P (dC, dI) vwCl [(h0, .inr (1, [.ref ek, .ref ec, .ref ef, .ref cki, .int e_limit, .int e_fresh, .int e_firstFree, .int e_held, .int e_mostHeld, .int e_made, .int e_reused, .int e_freed, .int e_doubled])), (ek, .inl (e1, 4000, .inl gk)), (ec, .inl (e2, 4000, .inl gc)), (ef, .inl (e3, 12000, .inr (.inl gv)))] H := hP
  have hD : va_D A [(h0, .inr (1, [.ref ek, .ref ec, .ref ef, .ref cki, .int e_limit, .int e_fresh, .int e_firstFree, .int e_held, .int e_mostHeld, .int e_made, .int e_reused, .int e_freed, .int e_doubled])), (ek, .inl (e1, 4000, .inl gk)), (ec, .inl (e2, 4000, .inl gc)), (ef, .inl (e3, 12000, .inr (.inl gv)))] := hD
  have hK : va_K (dC, dI) vwCl [(e1, .int), (e2, .int), (e3, .long)] s := hK
  have hw_r_1 := hw
  try dsimp only at hw_r_1
  have hq_2 := hw
  refine lv_if_eq (tgt := 9) hx hb dX1_kindOf_4 (by decide) (fun c_3 => ?_) (fun c_3 => ?_)
  · have ic_3 : r_1.toInt = 0 := zi_eq c_3
    have hnint9 : zhs va ≠ 0 := hq_2.elim (fun g => absurd g.1 (by omega)) (fun g => g.2)
    refine lv_lload_n hx hb dX1_kindOf_9 rfl (lv_at hl 1 rfl) ?_
    have hPc := hP.sub (ws' := []) [] rfl
    have hDc := hD.sub (ws' := []) [] (by decide) rfl
    have hKc := hK.sub (tys' := []) [] rfl
    have hFc := va_free (wc := []) hD hS hAA [] rfl
    refine va_calli (va_runS (As := [.long va]) (rest := []) ⟨hx, hb, hml, hown, hA⟩ (c_X1_isCell_x l dC dI aK aV va H.size) (va_cwS 1 hA (zw_S wi_1146 wi_1147 wi_140 (zw_good wi_1148)) rfl rfl rfl (by decide +kernel) ⟨(Nat.le_of_ble_eq_true rfl), (Nat.le_of_ble_eq_true rfl)⟩) ⟨zP_blind, zz_pre hKc hPc hDc hN hT hS hFc⟩ rfl rfl hl.1 rfl (lv_room (Nat.le_of_ble_eq_true rfl)) dX1_kindOf_10 ⟨(Nat.le_of_ble_eq_true rfl), (Nat.le_of_ble_eq_true rfl)⟩) hS (fun q _ h => hFc q h) hFc (fun r_4 u t H1 locs ht hvm hw hB hz1 hk1 hS => ?_)
    obtain ⟨hP1, hK1, hD1⟩ := hB
    rw [ht] at hP1
    have hK1 := va_K.moved hvm.symm hK1
    obtain ⟨hP, hD⟩ := va_join (wr := [(h0, .inr (1, [.ref ek, .ref ec, .ref ef, .ref cki, .int e_limit, .int e_fresh, .int e_firstFree, .int e_held, .int e_mostHeld, .int e_made, .int e_reused, .int e_freed, .int e_doubled])), (ek, .inl (e1, 4000, .inl gk)), (ec, .inl (e2, 4000, .inl gc)), (ef, .inl (e3, 12000, .inr (.inl gv)))]) (w1 := []) hP hD [] [0, 1, 2, 3] rfl rfl (by decide) (by decide) hk1 hFc hP1 hD1
    have hK := (hK.sub (tys' := [(e1, .int), (e2, .int), (e3, .long)]) [0, 1, 2] rfl).app hK1
    generalize H1 = H at hP hS ⊢
    have hP : va_P (dC, dI) vwCl [(h0, .inr (1, [.ref ek, .ref ec, .ref ef, .ref cki, .int e_limit, .int e_fresh, .int e_firstFree, .int e_held, .int e_mostHeld, .int e_made, .int e_reused, .int e_freed, .int e_doubled])), (ek, .inl (e1, 4000, .inl gk)), (ec, .inl (e2, 4000, .inl gc)), (ef, .inl (e3, 12000, .inr (.inl gv)))] H := hP
    have hD : va_D A [(h0, .inr (1, [.ref ek, .ref ec, .ref ef, .ref cki, .int e_limit, .int e_fresh, .int e_firstFree, .int e_held, .int e_mostHeld, .int e_made, .int e_reused, .int e_freed, .int e_doubled])), (ek, .inl (e1, 4000, .inl gk)), (ec, .inl (e2, 4000, .inl gc)), (ef, .inl (e3, 12000, .inr (.inl gv)))] := hD
    have hK : va_K (dC, dI) vwCl [(e1, .int), (e2, .int), (e3, .long)] s := hK
    have hw_r_4 := hw
    try dsimp only at hw_r_4
    have hq_5 := hw
    refine lv_if_eq (tgt := 26) hx hb dX1_kindOf_13 (by decide) (fun c_6 => ?_) (fun c_6 => ?_)
    · have ic_6 : r_4.toInt = 0 := zi_eq c_6
      have hncell9 : zhs va ≠ 2 := hq_5.elim (fun g => absurd g.1 (by omega)) (fun g => g.2)
      refine lv_lload_n hx hb dX1_kindOf_26 rfl (lv_at hl 1 rfl) ?_
      refine lv_l2i hx hb dX1_kindOf_27 rfl ?_
      refine lv_topi (fun x_7 ex_7 => ?_)
      have hP9 := hP.sub (ws' := [(h0, .inr (1, [.ref ek, .ref ec, .ref ef, .ref cki, .int e_limit, .int e_fresh, .int e_firstFree, .int e_held, .int e_mostHeld, .int e_made, .int e_reused, .int e_freed, .int e_doubled])), (ek, .inl (e1, 4000, .inl gk)), (ec, .inl (e2, 4000, .inl gc)), (ef, .inl (e3, 12000, .inr (.inl gv)))]) [0, 1, 2, 3] rfl
      have hD9 := hD.sub (ws' := [(h0, .inr (1, [.ref ek, .ref ec, .ref ef, .ref cki, .int e_limit, .int e_fresh, .int e_firstFree, .int e_held, .int e_mostHeld, .int e_made, .int e_reused, .int e_freed, .int e_doubled])), (ek, .inl (e1, 4000, .inl gk)), (ec, .inl (e2, 4000, .inl gc)), (ef, .inl (e3, 12000, .inr (.inl gv)))]) [0, 1, 2, 3] (by decide) rfl
      have hK9 := hK.sub (tys' := [(e1, .int), (e2, .int), (e3, .long)]) [0, 1, 2] rfl
      exact W.iret (v := x_7) hx hb hr (fun t ht hW => ⟨⟨x_7, (), rfl, (Or.inr (Or.inr ⟨hnint9, hncell9, ex_7⟩)), by rw [ht]; exact hP9, va_K.moved hW.alike hK9, hD9⟩, hS.F ht⟩) hS.2.2 dX1_kindOf_28
    · have ic_6 : r_4.toInt ≠ 0 := zi_ne c_6
      have hcell9 : zhs va = 2 := hq_5.elim (fun g => g.2) (fun g => absurd g.1 (by omega))
      have hg9 := hgd hcell9
      refine lv_aload_n hx hb dX1_kindOf_16 rfl (lv_at hl 0 rfl) ?_
      refine va_get (D := (dC, dI)) (ci := 1) (v := .ref ek) (C := RX1) (T := TX1) (N := 13) hx hb hA zin_X1 hown hK hP 0 rfl rfl 0 (by decide) (hA _ wi_435) (fun _ h9 => h9) rfl dX1_kindOf_17 ?_
      refine lv_lload_n hx hb dX1_kindOf_20 rfl (lv_at hl 1 rfl) ?_
      refine lv_l2i hx hb dX1_kindOf_21 rfl ?_
      refine lv_topi (fun x_8 ex_8 => ?_)
      have ix_8 : x_8.toInt = (va.toInt32).toInt := by rw [ex_8]
      refine va_iald hx hb hK hP 1 0 rfl rfl (vp_in_iff.mpr ⟨by omega, by omega⟩) dX1_kindOf_22 ?_
      refine lv_topi (fun x_9 ex_9 => ?_)
      refine lv_goto (tgt := 28) hx hb dX1_kindOf_23 (by decide) ?_
      have hP9 := hP.sub (ws' := [(h0, .inr (1, [.ref ek, .ref ec, .ref ef, .ref cki, .int e_limit, .int e_fresh, .int e_firstFree, .int e_held, .int e_mostHeld, .int e_made, .int e_reused, .int e_freed, .int e_doubled])), (ek, .inl (e1, 4000, .inl gk)), (ec, .inl (e2, 4000, .inl gc)), (ef, .inl (e3, 12000, .inr (.inl gv)))]) [0, 1, 2, 3] rfl
      have hD9 := hD.sub (ws' := [(h0, .inr (1, [.ref ek, .ref ec, .ref ef, .ref cki, .int e_limit, .int e_fresh, .int e_firstFree, .int e_held, .int e_mostHeld, .int e_made, .int e_reused, .int e_freed, .int e_doubled])), (ek, .inl (e1, 4000, .inl gk)), (ec, .inl (e2, 4000, .inl gc)), (ef, .inl (e3, 12000, .inr (.inl gv)))]) [0, 1, 2, 3] (by decide) rfl
      have hK9 := hK.sub (tys' := [(e1, .int), (e2, .int), (e3, .long)]) [0, 1, 2] rfl
      exact W.iret (v := x_9) hx hb hr (fun t ht hW => ⟨⟨x_9, (), rfl, (Or.inr (Or.inl ⟨hcell9, by rw [ex_9, ex_8]⟩)), by rw [ht]; exact hP9, va_K.moved hW.alike hK9, hD9⟩, hS.F ht⟩) hS.2.2 dX1_kindOf_28
  · have ic_3 : r_1.toInt ≠ 0 := zi_ne c_3
    have hint9 : zhs va = 0 := hq_2.elim (fun g => g.2) (fun g => absurd g.1 (by omega))
    refine lv_iconst (v := (-1)) hx hb dX1_kindOf_7 (by decide) ?_
    have hlit : Int32.toInt (-1) = (-1) := by decide
    have hP9 := hP.sub (ws' := [(h0, .inr (1, [.ref ek, .ref ec, .ref ef, .ref cki, .int e_limit, .int e_fresh, .int e_firstFree, .int e_held, .int e_mostHeld, .int e_made, .int e_reused, .int e_freed, .int e_doubled])), (ek, .inl (e1, 4000, .inl gk)), (ec, .inl (e2, 4000, .inl gc)), (ef, .inl (e3, 12000, .inr (.inl gv)))]) [0, 1, 2, 3] rfl
    have hD9 := hD.sub (ws' := [(h0, .inr (1, [.ref ek, .ref ec, .ref ef, .ref cki, .int e_limit, .int e_fresh, .int e_firstFree, .int e_held, .int e_mostHeld, .int e_made, .int e_reused, .int e_freed, .int e_doubled])), (ek, .inl (e1, 4000, .inl gk)), (ec, .inl (e2, 4000, .inl gc)), (ef, .inl (e3, 12000, .inr (.inl gv)))]) [0, 1, 2, 3] (by decide) rfl
    have hK9 := hK.sub (tys' := [(e1, .int), (e2, .int), (e3, .long)]) [0, 1, 2] rfl
    exact W.iret (v := (-1)) hx hb hr (fun t ht hW => ⟨⟨(-1), (), rfl, (Or.inl ⟨hint9, rfl⟩), by rw [ht]; exact hP9, va_K.moved hW.alike hK9, hD9⟩, hS.F ht⟩) hS.2.2 dX1_kindOf_8
