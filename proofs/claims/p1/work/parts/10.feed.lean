theorem wi_643 : Cond.code yX11_putFour cX11_putFour 3 none ∈ zw := zw_in (List.mem_of_getElem? (i := 643) (by decide +kernel)) (by decide +kernel)
theorem wi_640 : Cond.methodLink RX11 88 yX11_putFour ∈ zw := zw_in (List.mem_of_getElem? (i := 640) (by decide +kernel)) (by decide +kernel)
theorem wi_642 : Cond.instanceMethod yX11_putFour ∈ zw := zw_in (List.mem_of_getElem? (i := 642) (by decide +kernel)) (by decide +kernel)
theorem wi_0 : Cond.selects RX11 yX11_putFour yX11_putFour ∈ zw := zw_in (List.mem_of_getElem? (i := 0) (by decide +kernel)) (by decide +kernel)
theorem dX11_feed_0 : decode cX11_feed 0 = .ok (.aload_n 0, 1) := by decide +kernel
theorem dX11_feed_1 : decode cX11_feed 1 = .ok (.getfield 13, 3) := by decide +kernel
theorem dX11_feed_4 : decode cX11_feed 4 = .ok (.bipush 20, 2) := by decide +kernel
theorem dX11_feed_6 : decode cX11_feed 6 = .ok (.iadd, 1) := by decide +kernel
theorem dX11_feed_7 : decode cX11_feed 7 = .ok (.sipush 2000, 3) := by decide +kernel
theorem dX11_feed_10 : decode cX11_feed 10 = .ok (.if_icmp .le 5, 3) := by decide +kernel
theorem dX11_feed_15 : decode cX11_feed 15 = .ok (.aload_n 0, 1) := by decide +kernel
theorem dX11_feed_16 : decode cX11_feed 16 = .ok (.iload_n 1, 1) := by decide +kernel
theorem dX11_feed_17 : decode cX11_feed 17 = .ok (.invokevirtual 88, 3) := by decide +kernel
theorem dX11_feed_20 : decode cX11_feed 20 = .ok (.aload_n 0, 1) := by decide +kernel
theorem dX11_feed_21 : decode cX11_feed 21 = .ok (.iload_n 2, 1) := by decide +kernel
theorem dX11_feed_22 : decode cX11_feed 22 = .ok (.invokevirtual 88, 3) := by decide +kernel
theorem dX11_feed_25 : decode cX11_feed 25 = .ok (.aload_n 0, 1) := by decide +kernel
theorem dX11_feed_26 : decode cX11_feed 26 = .ok (.iload_n 3, 1) := by decide +kernel
theorem dX11_feed_27 : decode cX11_feed 27 = .ok (.invokevirtual 88, 3) := by decide +kernel
theorem dX11_feed_30 : decode cX11_feed 30 = .ok (.aload_n 0, 1) := by decide +kernel
theorem dX11_feed_31 : decode cX11_feed 31 = .ok (.iload 4, 2) := by decide +kernel
theorem dX11_feed_33 : decode cX11_feed 33 = .ok (.invokevirtual 88, 3) := by decide +kernel
theorem dX11_feed_36 : decode cX11_feed 36 = .ok (.aload_n 0, 1) := by decide +kernel
theorem dX11_feed_37 : decode cX11_feed 37 = .ok (.iload 5, 2) := by decide +kernel
theorem dX11_feed_39 : decode cX11_feed 39 = .ok (.invokevirtual 88, 3) := by decide +kernel
theorem dX11_feed_42 : decode cX11_feed 42 = .ok (.aload_n 0, 1) := by decide +kernel
theorem dX11_feed_43 : decode cX11_feed 43 = .ok (.getfield 13, 3) := by decide +kernel
theorem dX11_feed_46 : decode cX11_feed 46 = .ok (.ireturn, 1) := by decide +kernel
theorem dX11_putFour_0 : decode cX11_putFour 0 = .ok (.bipush 24, 2) := by decide +kernel
theorem dX11_putFour_2 : decode cX11_putFour 2 = .ok (.istore_n 2, 1) := by decide +kernel
theorem dX11_putFour_3 : decode cX11_putFour 3 = .ok (.iload_n 2, 1) := by decide +kernel
theorem dX11_putFour_4 : decode cX11_putFour 4 = .ok (.ifCond .lt 42, 3) := by decide +kernel
theorem dX11_putFour_7 : decode cX11_putFour 7 = .ok (.aload_n 0, 1) := by decide +kernel
theorem dX11_putFour_8 : decode cX11_putFour 8 = .ok (.getfield 13, 3) := by decide +kernel
theorem dX11_putFour_11 : decode cX11_putFour 11 = .ok (.sipush 2000, 3) := by decide +kernel
theorem dX11_putFour_14 : decode cX11_putFour 14 = .ok (.if_icmp .ge 32, 3) := by decide +kernel
theorem dX11_putFour_17 : decode cX11_putFour 17 = .ok (.aload_n 0, 1) := by decide +kernel
theorem dX11_putFour_18 : decode cX11_putFour 18 = .ok (.getfield 9, 3) := by decide +kernel
theorem dX11_putFour_21 : decode cX11_putFour 21 = .ok (.aload_n 0, 1) := by decide +kernel
theorem dX11_putFour_22 : decode cX11_putFour 22 = .ok (.getfield 13, 3) := by decide +kernel
theorem dX11_putFour_25 : decode cX11_putFour 25 = .ok (.iload_n 1, 1) := by decide +kernel
theorem dX11_putFour_26 : decode cX11_putFour 26 = .ok (.iload_n 2, 1) := by decide +kernel
theorem dX11_putFour_27 : decode cX11_putFour 27 = .ok (.iushr, 1) := by decide +kernel
theorem dX11_putFour_28 : decode cX11_putFour 28 = .ok (.i2b, 1) := by decide +kernel
theorem dX11_putFour_29 : decode cX11_putFour 29 = .ok (.bastore, 1) := by decide +kernel
theorem dX11_putFour_30 : decode cX11_putFour 30 = .ok (.aload_n 0, 1) := by decide +kernel
theorem dX11_putFour_31 : decode cX11_putFour 31 = .ok (.dup, 1) := by decide +kernel
theorem dX11_putFour_32 : decode cX11_putFour 32 = .ok (.getfield 13, 3) := by decide +kernel
theorem dX11_putFour_35 : decode cX11_putFour 35 = .ok (.iconst 1, 1) := by decide +kernel
theorem dX11_putFour_36 : decode cX11_putFour 36 = .ok (.iadd, 1) := by decide +kernel
theorem dX11_putFour_37 : decode cX11_putFour 37 = .ok (.putfield 13, 3) := by decide +kernel
theorem dX11_putFour_40 : decode cX11_putFour 40 = .ok (.iinc 2 (-8), 3) := by decide +kernel
theorem dX11_putFour_43 : decode cX11_putFour 43 = .ok (.goto (-40), 3) := by decide +kernel
theorem dX11_putFour_46 : decode cX11_putFour 46 = .ok (.return_, 1) := by decide +kernel
set_option maxHeartbeats 4000000 in
set_option maxRecDepth 100000 in
theorem c_X11_putFour_0 (l : Launch) (dC : Nat → ClassId) (dI : Nat → Nat → Nat) (h0 : Nat) (xt : Nat) (xk : Nat) (xp : Nat) (xm : Nat) (xc : Nat) (xl : Nat) (xr : Nat) (xkt : ClassId) (g : Nat → Int32) (b : Int32) (sz : Nat)  : Met l yX11_putFour (Cond.code yX11_putFour cX11_putFour 3 none :: zw) ({ frames := 8, cells := 0, slots := 0, locals := 200 }) (va_Pc [.ref h0, .int b] (zP dC dI sz [(xkt, .byte)] [(h0, .inr (11, [.ref xt, .int 0, .ref xk, .ref xp, .ref xm, .ref xc, .ref xl, .ref xr, .int 0, .int (-1), .int 0, .int 0, .int 0, .int 0, .long 0, .int 0, .long 0])), (xt, .inl (xkt, 2000, .inl g))])) (va_Qv (fun u : Nat → Int32 => match u with | g2 => True) (fun u => match u with | g2 => zQ dC dI (va_A [(h0, .inr (11, [.ref xt, .int 0, .ref xk, .ref xp, .ref xm, .ref xc, .ref xl, .ref xr, .int 0, .int (-1), .int 0, .int 0, .int 0, .int 0, .long 0, .int 0, .long 0])), (xt, .inl (xkt, 2000, .inl g))] sz) [(xkt, .byte)] [(h0, .inr (11, [.ref xt, .int 4, .ref xk, .ref xp, .ref xm, .ref xc, .ref xl, .ref xr, .int 0, .int (-1), .int 0, .int 0, .int 0, .int 0, .long 0, .int 0, .long 0])), (xt, .inl (xkt, 2000, .inl g2))]) (va_A [(h0, .inr (11, [.ref xt, .int 0, .ref xk, .ref xp, .ref xm, .ref xc, .ref xl, .ref xr, .int 0, .int (-1), .int 0, .int 0, .int 0, .int 0, .long 0, .int 0, .long 0])), (xt, .inl (xkt, 2000, .inl g))] sz)) 0 0 (va_A [(h0, .inr (11, [.ref xt, .int 0, .ref xk, .ref xp, .ref xm, .ref xc, .ref xl, .ref xr, .int 0, .int (-1), .int 0, .int 0, .int 0, .int 0, .long 0, .int 0, .long 0])), (xt, .inl (xkt, 2000, .inl g))] sz) := by
  refine Met.ofW (cc := cX11_putFour) (maxL := 3) (ret := none) (by decide) rfl ?_
  intro p e s m args below meth c s₁ B hml hv
  obtain ⟨rfl, hsz, hP, hK, hD0, hN, hT⟩ := hv
  have hx := B.exec
  have hb := B.bytes
  have hr := B.returns
  have hts := atoms_spec (ws := Cond.code yX11_putFour cX11_putFour 3 none :: zw) B.pre
  have hA : ∀ w ∈ zw, w.before _ s = true := fun w h => hts w (List.mem_cons_of_mem _ h)
  have hown : s.vm.findClass RX11 = some m.cls := findClass_of_methodNamed B.named
  have hlocks := B.notSynchronized
  subst hsz
  have hD := hD0.self (sz := s.heap.size)
  generalize hAe : va_A [(h0, .inr (11, [.ref xt, .int 0, .ref xk, .ref xp, .ref xm, .ref xc, .ref xl, .ref xr, .int 0, .int (-1), .int 0, .int 0, .int 0, .int 0, .long 0, .int 0, .long 0])), (xt, .inl (xkt, 2000, .inl g))] s.heap.size = A at hD hT ⊢
  have hAA : ∀ q : Nat, s.heap.size ≤ q → A q := fun q h => by rw [← hAe]; exact Or.inr h
  have hS : va_S A s.heap s.heap [] := va_S.rf
  have hl := lv_entry ([.ref h0, .int b]) (n := 3) (Nat.le_of_ble_eq_true rfl)
  rw [lg_entry_eq]
  generalize (lg_sl ([.ref h0, .int b]) ++ List.replicate (3 - (lg_sl ([.ref h0, .int b])).length) Slot.unset).toArray = ls at hl ⊢
  have hl : lv_has ls 3 [(0, .ref h0), (1, .int b)] := hl
  refine lv_bipush (v := 24) hx hb dX11_putFour_0 (by decide) ?_
  refine lv_istore_n (lv' := [(2, .int 24), (0, .ref h0), (1, .int b)]) hx hb dX11_putFour_2 rfl hl (by decide) rfl (fun ls hl => ?_)
  refine lv_iload_n hx hb dX11_putFour_3 rfl (lv_at hl 0 rfl) ?_
  refine lv_if_lt (tgt := 46) hx hb dX11_putFour_4 (by decide) (fun c_0 => absurd c_0 (by decide)) (fun _ => ?_)
  refine lv_aload_n hx hb dX11_putFour_7 rfl (lv_at hl 1 rfl) ?_
  refine va_get (D := (dC, dI)) (ci := 11) (v := .int 0) (C := RX11) (T := TX11) (N := 17) hx hb hA zin_X11 hown hK hP 0 rfl rfl 1 (by decide) (hA _ wi_585) (fun _ h9 => h9) rfl dX11_putFour_8 ?_
  refine lv_sipush (v := 2000) hx hb dX11_putFour_11 (by decide) ?_
  refine lv_icmp_ge (tgt := 46) hx hb dX11_putFour_14 (by decide) (fun c_0 => absurd c_0 (by decide)) (fun _ => ?_)
  refine lv_aload_n hx hb dX11_putFour_17 rfl (lv_at hl 1 rfl) ?_
  refine va_get (D := (dC, dI)) (ci := 11) (v := .ref xt) (C := RX11) (T := TX11) (N := 17) hx hb hA zin_X11 hown hK hP 0 rfl rfl 0 (by decide) (hA _ wi_584) (fun _ h9 => h9) rfl dX11_putFour_18 ?_
  refine lv_aload_n hx hb dX11_putFour_21 rfl (lv_at hl 1 rfl) ?_
  refine va_get (D := (dC, dI)) (ci := 11) (v := .int 0) (C := RX11) (T := TX11) (N := 17) hx hb hA zin_X11 hown hK hP 0 rfl rfl 1 (by decide) (hA _ wi_585) (fun _ h9 => h9) rfl dX11_putFour_22 ?_
  refine lv_iload_n hx hb dX11_putFour_25 rfl (lv_at hl 2 rfl) ?_
  refine lv_iload_n hx hb dX11_putFour_26 rfl (lv_at hl 0 rfl) ?_
  obtain ⟨x_1, ex_1⟩ : ∃ z : Int32, z = (Int32.toUInt32 b >>> (Int32.toUInt32 24 &&& Int32.toUInt32 31)).toInt32 := ⟨_, rfl⟩
  refine lv_iushr (v := x_1) hx hb dX11_putFour_27 ex_1.symm ?_
  obtain ⟨x_2, ex_2⟩ : ∃ z : Int32, z = (Int32.toInt8 x_1).toInt32 := ⟨_, rfl⟩
  refine lv_i2b (v := x_2) hx hb dX11_putFour_28 ex_2.symm ?_
  refine va_bast hx hb hK hP hD hS 1 0 rfl rfl (by unfold vp_in; decide) dX11_putFour_29 (fun H locs hP hD hS => ?_)
  obtain ⟨f_3, ef_3⟩ : ∃ gz9 : Nat → Int32, gz9 = upd g (Int32.toNatClampNeg 0) (vp_nar .byte x_2) := ⟨_, rfl⟩
  rw [← ef_3] at hP hD
  have hP : va_P (dC, dI) vwCl [(h0, .inr (11, [.ref xt, .int 0, .ref xk, .ref xp, .ref xm, .ref xc, .ref xl, .ref xr, .int 0, .int (-1), .int 0, .int 0, .int 0, .int 0, .long 0, .int 0, .long 0])), (xt, .inl (xkt, 2000, .inl f_3))] H := hP
  have hD : va_D A [(h0, .inr (11, [.ref xt, .int 0, .ref xk, .ref xp, .ref xm, .ref xc, .ref xl, .ref xr, .int 0, .int (-1), .int 0, .int 0, .int 0, .int 0, .long 0, .int 0, .long 0])), (xt, .inl (xkt, 2000, .inl f_3))] := hD
  refine lv_aload_n hx hb dX11_putFour_30 rfl (lv_at hl 1 rfl) ?_
  refine lv_dup hx hb dX11_putFour_31 rfl ?_
  refine va_get (D := (dC, dI)) (ci := 11) (v := .int 0) (C := RX11) (T := TX11) (N := 17) hx hb hA zin_X11 hown hK hP 0 rfl rfl 1 (by decide) (hA _ wi_585) (fun _ h9 => h9) rfl dX11_putFour_32 ?_
  refine lv_iconst (v := 1) hx hb dX11_putFour_35 (by decide) ?_
  refine lv_iadd hx hb dX11_putFour_36 ?_
  refine lv_topi (fun x_4 ex_4 => ?_)
  obtain rfl : x_4 = 1 := ex_4.trans (by decide)
  refine va_put (D := (dC, dI)) (ci := 11) (v := .int 1) (ty := .int) (C := RX11) (T := TX11) (N := 17) hx hb hA zin_X11 tyX11 tyX11_ok nmX11 hown hK hP hD hS 0 rfl rfl 1 (by decide) (hA _ wi_585) (fun _ h9 => h9) rfl (by decide +kernel) rfl rfl (Nat.le_of_ble_eq_true rfl) dX11_putFour_37 (fun H locs hP hD hS => ?_)
  have hP : va_P (dC, dI) vwCl [(h0, .inr (11, [.ref xt, .int 1, .ref xk, .ref xp, .ref xm, .ref xc, .ref xl, .ref xr, .int 0, .int (-1), .int 0, .int 0, .int 0, .int 0, .long 0, .int 0, .long 0])), (xt, .inl (xkt, 2000, .inl f_3))] H := hP
  have hD : va_D A [(h0, .inr (11, [.ref xt, .int 1, .ref xk, .ref xp, .ref xm, .ref xc, .ref xl, .ref xr, .int 0, .int (-1), .int 0, .int 0, .int 0, .int 0, .long 0, .int 0, .long 0])), (xt, .inl (xkt, 2000, .inl f_3))] := hD
  refine lv_iinc (v := 16) (lv' := [(2, .int 16), (0, .ref h0), (1, .int b)]) hx hb dX11_putFour_40 hl (k := 0) rfl (by decide) (by decide) rfl (fun ls hl => ?_)
  refine lv_goto (tgt := 3) hx hb dX11_putFour_43 (by decide) ?_
  refine lv_iload_n hx hb dX11_putFour_3 rfl (lv_at hl 0 rfl) ?_
  refine lv_if_lt (tgt := 46) hx hb dX11_putFour_4 (by decide) (fun c_0 => absurd c_0 (by decide)) (fun _ => ?_)
  refine lv_aload_n hx hb dX11_putFour_7 rfl (lv_at hl 1 rfl) ?_
  refine va_get (D := (dC, dI)) (ci := 11) (v := .int 1) (C := RX11) (T := TX11) (N := 17) hx hb hA zin_X11 hown hK hP 0 rfl rfl 1 (by decide) (hA _ wi_585) (fun _ h9 => h9) rfl dX11_putFour_8 ?_
  refine lv_sipush (v := 2000) hx hb dX11_putFour_11 (by decide) ?_
  refine lv_icmp_ge (tgt := 46) hx hb dX11_putFour_14 (by decide) (fun c_0 => absurd c_0 (by decide)) (fun _ => ?_)
  refine lv_aload_n hx hb dX11_putFour_17 rfl (lv_at hl 1 rfl) ?_
  refine va_get (D := (dC, dI)) (ci := 11) (v := .ref xt) (C := RX11) (T := TX11) (N := 17) hx hb hA zin_X11 hown hK hP 0 rfl rfl 0 (by decide) (hA _ wi_584) (fun _ h9 => h9) rfl dX11_putFour_18 ?_
  refine lv_aload_n hx hb dX11_putFour_21 rfl (lv_at hl 1 rfl) ?_
  refine va_get (D := (dC, dI)) (ci := 11) (v := .int 1) (C := RX11) (T := TX11) (N := 17) hx hb hA zin_X11 hown hK hP 0 rfl rfl 1 (by decide) (hA _ wi_585) (fun _ h9 => h9) rfl dX11_putFour_22 ?_
  refine lv_iload_n hx hb dX11_putFour_25 rfl (lv_at hl 2 rfl) ?_
  refine lv_iload_n hx hb dX11_putFour_26 rfl (lv_at hl 0 rfl) ?_
  obtain ⟨x_5, ex_5⟩ : ∃ z : Int32, z = (Int32.toUInt32 b >>> (Int32.toUInt32 16 &&& Int32.toUInt32 31)).toInt32 := ⟨_, rfl⟩
  refine lv_iushr (v := x_5) hx hb dX11_putFour_27 ex_5.symm ?_
  obtain ⟨x_6, ex_6⟩ : ∃ z : Int32, z = (Int32.toInt8 x_5).toInt32 := ⟨_, rfl⟩
  refine lv_i2b (v := x_6) hx hb dX11_putFour_28 ex_6.symm ?_
  refine va_bast hx hb hK hP hD hS 1 0 rfl rfl (by unfold vp_in; decide) dX11_putFour_29 (fun H locs hP hD hS => ?_)
  obtain ⟨f_7, ef_7⟩ : ∃ gz9 : Nat → Int32, gz9 = upd f_3 (Int32.toNatClampNeg 1) (vp_nar .byte x_6) := ⟨_, rfl⟩
  rw [← ef_7] at hP hD
  have hP : va_P (dC, dI) vwCl [(h0, .inr (11, [.ref xt, .int 1, .ref xk, .ref xp, .ref xm, .ref xc, .ref xl, .ref xr, .int 0, .int (-1), .int 0, .int 0, .int 0, .int 0, .long 0, .int 0, .long 0])), (xt, .inl (xkt, 2000, .inl f_7))] H := hP
  have hD : va_D A [(h0, .inr (11, [.ref xt, .int 1, .ref xk, .ref xp, .ref xm, .ref xc, .ref xl, .ref xr, .int 0, .int (-1), .int 0, .int 0, .int 0, .int 0, .long 0, .int 0, .long 0])), (xt, .inl (xkt, 2000, .inl f_7))] := hD
  refine lv_aload_n hx hb dX11_putFour_30 rfl (lv_at hl 1 rfl) ?_
  refine lv_dup hx hb dX11_putFour_31 rfl ?_
  refine va_get (D := (dC, dI)) (ci := 11) (v := .int 1) (C := RX11) (T := TX11) (N := 17) hx hb hA zin_X11 hown hK hP 0 rfl rfl 1 (by decide) (hA _ wi_585) (fun _ h9 => h9) rfl dX11_putFour_32 ?_
  refine lv_iconst (v := 1) hx hb dX11_putFour_35 (by decide) ?_
  refine lv_iadd hx hb dX11_putFour_36 ?_
  refine lv_topi (fun x_8 ex_8 => ?_)
  obtain rfl : x_8 = 2 := ex_8.trans (by decide)
  refine va_put (D := (dC, dI)) (ci := 11) (v := .int 2) (ty := .int) (C := RX11) (T := TX11) (N := 17) hx hb hA zin_X11 tyX11 tyX11_ok nmX11 hown hK hP hD hS 0 rfl rfl 1 (by decide) (hA _ wi_585) (fun _ h9 => h9) rfl (by decide +kernel) rfl rfl (Nat.le_of_ble_eq_true rfl) dX11_putFour_37 (fun H locs hP hD hS => ?_)
  have hP : va_P (dC, dI) vwCl [(h0, .inr (11, [.ref xt, .int 2, .ref xk, .ref xp, .ref xm, .ref xc, .ref xl, .ref xr, .int 0, .int (-1), .int 0, .int 0, .int 0, .int 0, .long 0, .int 0, .long 0])), (xt, .inl (xkt, 2000, .inl f_7))] H := hP
  have hD : va_D A [(h0, .inr (11, [.ref xt, .int 2, .ref xk, .ref xp, .ref xm, .ref xc, .ref xl, .ref xr, .int 0, .int (-1), .int 0, .int 0, .int 0, .int 0, .long 0, .int 0, .long 0])), (xt, .inl (xkt, 2000, .inl f_7))] := hD
  refine lv_iinc (v := 8) (lv' := [(2, .int 8), (0, .ref h0), (1, .int b)]) hx hb dX11_putFour_40 hl (k := 0) rfl (by decide) (by decide) rfl (fun ls hl => ?_)
  refine lv_goto (tgt := 3) hx hb dX11_putFour_43 (by decide) ?_
  refine lv_iload_n hx hb dX11_putFour_3 rfl (lv_at hl 0 rfl) ?_
  refine lv_if_lt (tgt := 46) hx hb dX11_putFour_4 (by decide) (fun c_0 => absurd c_0 (by decide)) (fun _ => ?_)
  refine lv_aload_n hx hb dX11_putFour_7 rfl (lv_at hl 1 rfl) ?_
  refine va_get (D := (dC, dI)) (ci := 11) (v := .int 2) (C := RX11) (T := TX11) (N := 17) hx hb hA zin_X11 hown hK hP 0 rfl rfl 1 (by decide) (hA _ wi_585) (fun _ h9 => h9) rfl dX11_putFour_8 ?_
  refine lv_sipush (v := 2000) hx hb dX11_putFour_11 (by decide) ?_
  refine lv_icmp_ge (tgt := 46) hx hb dX11_putFour_14 (by decide) (fun c_0 => absurd c_0 (by decide)) (fun _ => ?_)
  refine lv_aload_n hx hb dX11_putFour_17 rfl (lv_at hl 1 rfl) ?_
  refine va_get (D := (dC, dI)) (ci := 11) (v := .ref xt) (C := RX11) (T := TX11) (N := 17) hx hb hA zin_X11 hown hK hP 0 rfl rfl 0 (by decide) (hA _ wi_584) (fun _ h9 => h9) rfl dX11_putFour_18 ?_
  refine lv_aload_n hx hb dX11_putFour_21 rfl (lv_at hl 1 rfl) ?_
  refine va_get (D := (dC, dI)) (ci := 11) (v := .int 2) (C := RX11) (T := TX11) (N := 17) hx hb hA zin_X11 hown hK hP 0 rfl rfl 1 (by decide) (hA _ wi_585) (fun _ h9 => h9) rfl dX11_putFour_22 ?_
  refine lv_iload_n hx hb dX11_putFour_25 rfl (lv_at hl 2 rfl) ?_
  refine lv_iload_n hx hb dX11_putFour_26 rfl (lv_at hl 0 rfl) ?_
  obtain ⟨x_9, ex_9⟩ : ∃ z : Int32, z = (Int32.toUInt32 b >>> (Int32.toUInt32 8 &&& Int32.toUInt32 31)).toInt32 := ⟨_, rfl⟩
  refine lv_iushr (v := x_9) hx hb dX11_putFour_27 ex_9.symm ?_
  obtain ⟨x_10, ex_10⟩ : ∃ z : Int32, z = (Int32.toInt8 x_9).toInt32 := ⟨_, rfl⟩
  refine lv_i2b (v := x_10) hx hb dX11_putFour_28 ex_10.symm ?_
  refine va_bast hx hb hK hP hD hS 1 0 rfl rfl (by unfold vp_in; decide) dX11_putFour_29 (fun H locs hP hD hS => ?_)
  obtain ⟨f_11, ef_11⟩ : ∃ gz9 : Nat → Int32, gz9 = upd f_7 (Int32.toNatClampNeg 2) (vp_nar .byte x_10) := ⟨_, rfl⟩
  rw [← ef_11] at hP hD
  have hP : va_P (dC, dI) vwCl [(h0, .inr (11, [.ref xt, .int 2, .ref xk, .ref xp, .ref xm, .ref xc, .ref xl, .ref xr, .int 0, .int (-1), .int 0, .int 0, .int 0, .int 0, .long 0, .int 0, .long 0])), (xt, .inl (xkt, 2000, .inl f_11))] H := hP
  have hD : va_D A [(h0, .inr (11, [.ref xt, .int 2, .ref xk, .ref xp, .ref xm, .ref xc, .ref xl, .ref xr, .int 0, .int (-1), .int 0, .int 0, .int 0, .int 0, .long 0, .int 0, .long 0])), (xt, .inl (xkt, 2000, .inl f_11))] := hD
  refine lv_aload_n hx hb dX11_putFour_30 rfl (lv_at hl 1 rfl) ?_
  refine lv_dup hx hb dX11_putFour_31 rfl ?_
  refine va_get (D := (dC, dI)) (ci := 11) (v := .int 2) (C := RX11) (T := TX11) (N := 17) hx hb hA zin_X11 hown hK hP 0 rfl rfl 1 (by decide) (hA _ wi_585) (fun _ h9 => h9) rfl dX11_putFour_32 ?_
  refine lv_iconst (v := 1) hx hb dX11_putFour_35 (by decide) ?_
  refine lv_iadd hx hb dX11_putFour_36 ?_
  refine lv_topi (fun x_12 ex_12 => ?_)
  obtain rfl : x_12 = 3 := ex_12.trans (by decide)
  refine va_put (D := (dC, dI)) (ci := 11) (v := .int 3) (ty := .int) (C := RX11) (T := TX11) (N := 17) hx hb hA zin_X11 tyX11 tyX11_ok nmX11 hown hK hP hD hS 0 rfl rfl 1 (by decide) (hA _ wi_585) (fun _ h9 => h9) rfl (by decide +kernel) rfl rfl (Nat.le_of_ble_eq_true rfl) dX11_putFour_37 (fun H locs hP hD hS => ?_)
  have hP : va_P (dC, dI) vwCl [(h0, .inr (11, [.ref xt, .int 3, .ref xk, .ref xp, .ref xm, .ref xc, .ref xl, .ref xr, .int 0, .int (-1), .int 0, .int 0, .int 0, .int 0, .long 0, .int 0, .long 0])), (xt, .inl (xkt, 2000, .inl f_11))] H := hP
  have hD : va_D A [(h0, .inr (11, [.ref xt, .int 3, .ref xk, .ref xp, .ref xm, .ref xc, .ref xl, .ref xr, .int 0, .int (-1), .int 0, .int 0, .int 0, .int 0, .long 0, .int 0, .long 0])), (xt, .inl (xkt, 2000, .inl f_11))] := hD
  refine lv_iinc (v := 0) (lv' := [(2, .int 0), (0, .ref h0), (1, .int b)]) hx hb dX11_putFour_40 hl (k := 0) rfl (by decide) (by decide) rfl (fun ls hl => ?_)
  refine lv_goto (tgt := 3) hx hb dX11_putFour_43 (by decide) ?_
  refine lv_iload_n hx hb dX11_putFour_3 rfl (lv_at hl 0 rfl) ?_
  refine lv_if_lt (tgt := 46) hx hb dX11_putFour_4 (by decide) (fun c_0 => absurd c_0 (by decide)) (fun _ => ?_)
  refine lv_aload_n hx hb dX11_putFour_7 rfl (lv_at hl 1 rfl) ?_
  refine va_get (D := (dC, dI)) (ci := 11) (v := .int 3) (C := RX11) (T := TX11) (N := 17) hx hb hA zin_X11 hown hK hP 0 rfl rfl 1 (by decide) (hA _ wi_585) (fun _ h9 => h9) rfl dX11_putFour_8 ?_
  refine lv_sipush (v := 2000) hx hb dX11_putFour_11 (by decide) ?_
  refine lv_icmp_ge (tgt := 46) hx hb dX11_putFour_14 (by decide) (fun c_0 => absurd c_0 (by decide)) (fun _ => ?_)
  refine lv_aload_n hx hb dX11_putFour_17 rfl (lv_at hl 1 rfl) ?_
  refine va_get (D := (dC, dI)) (ci := 11) (v := .ref xt) (C := RX11) (T := TX11) (N := 17) hx hb hA zin_X11 hown hK hP 0 rfl rfl 0 (by decide) (hA _ wi_584) (fun _ h9 => h9) rfl dX11_putFour_18 ?_
  refine lv_aload_n hx hb dX11_putFour_21 rfl (lv_at hl 1 rfl) ?_
  refine va_get (D := (dC, dI)) (ci := 11) (v := .int 3) (C := RX11) (T := TX11) (N := 17) hx hb hA zin_X11 hown hK hP 0 rfl rfl 1 (by decide) (hA _ wi_585) (fun _ h9 => h9) rfl dX11_putFour_22 ?_
  refine lv_iload_n hx hb dX11_putFour_25 rfl (lv_at hl 2 rfl) ?_
  refine lv_iload_n hx hb dX11_putFour_26 rfl (lv_at hl 0 rfl) ?_
  obtain ⟨x_13, ex_13⟩ : ∃ z : Int32, z = (Int32.toUInt32 b >>> (Int32.toUInt32 0 &&& Int32.toUInt32 31)).toInt32 := ⟨_, rfl⟩
  refine lv_iushr (v := x_13) hx hb dX11_putFour_27 ex_13.symm ?_
  obtain ⟨x_14, ex_14⟩ : ∃ z : Int32, z = (Int32.toInt8 x_13).toInt32 := ⟨_, rfl⟩
  refine lv_i2b (v := x_14) hx hb dX11_putFour_28 ex_14.symm ?_
  refine va_bast hx hb hK hP hD hS 1 0 rfl rfl (by unfold vp_in; decide) dX11_putFour_29 (fun H locs hP hD hS => ?_)
  obtain ⟨f_15, ef_15⟩ : ∃ gz9 : Nat → Int32, gz9 = upd f_11 (Int32.toNatClampNeg 3) (vp_nar .byte x_14) := ⟨_, rfl⟩
  rw [← ef_15] at hP hD
  have hP : va_P (dC, dI) vwCl [(h0, .inr (11, [.ref xt, .int 3, .ref xk, .ref xp, .ref xm, .ref xc, .ref xl, .ref xr, .int 0, .int (-1), .int 0, .int 0, .int 0, .int 0, .long 0, .int 0, .long 0])), (xt, .inl (xkt, 2000, .inl f_15))] H := hP
  have hD : va_D A [(h0, .inr (11, [.ref xt, .int 3, .ref xk, .ref xp, .ref xm, .ref xc, .ref xl, .ref xr, .int 0, .int (-1), .int 0, .int 0, .int 0, .int 0, .long 0, .int 0, .long 0])), (xt, .inl (xkt, 2000, .inl f_15))] := hD
  refine lv_aload_n hx hb dX11_putFour_30 rfl (lv_at hl 1 rfl) ?_
  refine lv_dup hx hb dX11_putFour_31 rfl ?_
  refine va_get (D := (dC, dI)) (ci := 11) (v := .int 3) (C := RX11) (T := TX11) (N := 17) hx hb hA zin_X11 hown hK hP 0 rfl rfl 1 (by decide) (hA _ wi_585) (fun _ h9 => h9) rfl dX11_putFour_32 ?_
  refine lv_iconst (v := 1) hx hb dX11_putFour_35 (by decide) ?_
  refine lv_iadd hx hb dX11_putFour_36 ?_
  refine lv_topi (fun x_16 ex_16 => ?_)
  obtain rfl : x_16 = 4 := ex_16.trans (by decide)
  refine va_put (D := (dC, dI)) (ci := 11) (v := .int 4) (ty := .int) (C := RX11) (T := TX11) (N := 17) hx hb hA zin_X11 tyX11 tyX11_ok nmX11 hown hK hP hD hS 0 rfl rfl 1 (by decide) (hA _ wi_585) (fun _ h9 => h9) rfl (by decide +kernel) rfl rfl (Nat.le_of_ble_eq_true rfl) dX11_putFour_37 (fun H locs hP hD hS => ?_)
  have hP : va_P (dC, dI) vwCl [(h0, .inr (11, [.ref xt, .int 4, .ref xk, .ref xp, .ref xm, .ref xc, .ref xl, .ref xr, .int 0, .int (-1), .int 0, .int 0, .int 0, .int 0, .long 0, .int 0, .long 0])), (xt, .inl (xkt, 2000, .inl f_15))] H := hP
  have hD : va_D A [(h0, .inr (11, [.ref xt, .int 4, .ref xk, .ref xp, .ref xm, .ref xc, .ref xl, .ref xr, .int 0, .int (-1), .int 0, .int 0, .int 0, .int 0, .long 0, .int 0, .long 0])), (xt, .inl (xkt, 2000, .inl f_15))] := hD
  refine lv_iinc (v := (-8)) (lv' := [(2, .int (-8)), (0, .ref h0), (1, .int b)]) hx hb dX11_putFour_40 hl (k := 0) rfl (by decide) (by decide) rfl (fun ls hl => ?_)
  refine lv_goto (tgt := 3) hx hb dX11_putFour_43 (by decide) ?_
  refine lv_iload_n hx hb dX11_putFour_3 rfl (lv_at hl 0 rfl) ?_
  refine lv_if_lt (tgt := 46) hx hb dX11_putFour_4 (by decide) (fun _ => ?_) (fun c_0 => absurd (by decide) c_0)
  have hP9 := hP.sub (ws' := [(h0, .inr (11, [.ref xt, .int 4, .ref xk, .ref xp, .ref xm, .ref xc, .ref xl, .ref xr, .int 0, .int (-1), .int 0, .int 0, .int 0, .int 0, .long 0, .int 0, .long 0])), (xt, .inl (xkt, 2000, .inl f_15))]) [0, 1] rfl
  have hD9 := hD.sub (ws' := [(h0, .inr (11, [.ref xt, .int 4, .ref xk, .ref xp, .ref xm, .ref xc, .ref xl, .ref xr, .int 0, .int (-1), .int 0, .int 0, .int 0, .int 0, .long 0, .int 0, .long 0])), (xt, .inl (xkt, 2000, .inl f_15))]) [0, 1] (by decide) rfl
  have hK9 := hK.sub (tys' := [(xkt, .byte)]) [0] rfl
  exact W.vret hx hb hr (fun t ht hW => ⟨⟨(f_15), rfl, trivial, by rw [ht]; exact hP9, va_K.moved hW.alike hK9, hD9⟩, hS.F ht⟩) hS.2.2 dX11_putFour_46
set_option maxHeartbeats 4000000 in
set_option maxRecDepth 100000 in
theorem c_X11_putFour_4 (l : Launch) (dC : Nat → ClassId) (dI : Nat → Nat → Nat) (h0 : Nat) (xt : Nat) (xk : Nat) (xp : Nat) (xm : Nat) (xc : Nat) (xl : Nat) (xr : Nat) (xkt : ClassId) (g : Nat → Int32) (b : Int32) (sz : Nat)  : Met l yX11_putFour (Cond.code yX11_putFour cX11_putFour 3 none :: zw) ({ frames := 8, cells := 0, slots := 0, locals := 200 }) (va_Pc [.ref h0, .int b] (zP dC dI sz [(xkt, .byte)] [(h0, .inr (11, [.ref xt, .int 4, .ref xk, .ref xp, .ref xm, .ref xc, .ref xl, .ref xr, .int 0, .int (-1), .int 0, .int 0, .int 0, .int 0, .long 0, .int 0, .long 0])), (xt, .inl (xkt, 2000, .inl g))])) (va_Qv (fun u : Nat → Int32 => match u with | g2 => True) (fun u => match u with | g2 => zQ dC dI (va_A [(h0, .inr (11, [.ref xt, .int 4, .ref xk, .ref xp, .ref xm, .ref xc, .ref xl, .ref xr, .int 0, .int (-1), .int 0, .int 0, .int 0, .int 0, .long 0, .int 0, .long 0])), (xt, .inl (xkt, 2000, .inl g))] sz) [(xkt, .byte)] [(h0, .inr (11, [.ref xt, .int 8, .ref xk, .ref xp, .ref xm, .ref xc, .ref xl, .ref xr, .int 0, .int (-1), .int 0, .int 0, .int 0, .int 0, .long 0, .int 0, .long 0])), (xt, .inl (xkt, 2000, .inl g2))]) (va_A [(h0, .inr (11, [.ref xt, .int 4, .ref xk, .ref xp, .ref xm, .ref xc, .ref xl, .ref xr, .int 0, .int (-1), .int 0, .int 0, .int 0, .int 0, .long 0, .int 0, .long 0])), (xt, .inl (xkt, 2000, .inl g))] sz)) 0 0 (va_A [(h0, .inr (11, [.ref xt, .int 4, .ref xk, .ref xp, .ref xm, .ref xc, .ref xl, .ref xr, .int 0, .int (-1), .int 0, .int 0, .int 0, .int 0, .long 0, .int 0, .long 0])), (xt, .inl (xkt, 2000, .inl g))] sz) := by
  refine Met.ofW (cc := cX11_putFour) (maxL := 3) (ret := none) (by decide) rfl ?_
  intro p e s m args below meth c s₁ B hml hv
  obtain ⟨rfl, hsz, hP, hK, hD0, hN, hT⟩ := hv
  have hx := B.exec
  have hb := B.bytes
  have hr := B.returns
  have hts := atoms_spec (ws := Cond.code yX11_putFour cX11_putFour 3 none :: zw) B.pre
  have hA : ∀ w ∈ zw, w.before _ s = true := fun w h => hts w (List.mem_cons_of_mem _ h)
  have hown : s.vm.findClass RX11 = some m.cls := findClass_of_methodNamed B.named
  have hlocks := B.notSynchronized
  subst hsz
  have hD := hD0.self (sz := s.heap.size)
  generalize hAe : va_A [(h0, .inr (11, [.ref xt, .int 4, .ref xk, .ref xp, .ref xm, .ref xc, .ref xl, .ref xr, .int 0, .int (-1), .int 0, .int 0, .int 0, .int 0, .long 0, .int 0, .long 0])), (xt, .inl (xkt, 2000, .inl g))] s.heap.size = A at hD hT ⊢
  have hAA : ∀ q : Nat, s.heap.size ≤ q → A q := fun q h => by rw [← hAe]; exact Or.inr h
  have hS : va_S A s.heap s.heap [] := va_S.rf
  have hl := lv_entry ([.ref h0, .int b]) (n := 3) (Nat.le_of_ble_eq_true rfl)
  rw [lg_entry_eq]
  generalize (lg_sl ([.ref h0, .int b]) ++ List.replicate (3 - (lg_sl ([.ref h0, .int b])).length) Slot.unset).toArray = ls at hl ⊢
  have hl : lv_has ls 3 [(0, .ref h0), (1, .int b)] := hl
  refine lv_bipush (v := 24) hx hb dX11_putFour_0 (by decide) ?_
  refine lv_istore_n (lv' := [(2, .int 24), (0, .ref h0), (1, .int b)]) hx hb dX11_putFour_2 rfl hl (by decide) rfl (fun ls hl => ?_)
  refine lv_iload_n hx hb dX11_putFour_3 rfl (lv_at hl 0 rfl) ?_
  refine lv_if_lt (tgt := 46) hx hb dX11_putFour_4 (by decide) (fun c_0 => absurd c_0 (by decide)) (fun _ => ?_)
  refine lv_aload_n hx hb dX11_putFour_7 rfl (lv_at hl 1 rfl) ?_
  refine va_get (D := (dC, dI)) (ci := 11) (v := .int 4) (C := RX11) (T := TX11) (N := 17) hx hb hA zin_X11 hown hK hP 0 rfl rfl 1 (by decide) (hA _ wi_585) (fun _ h9 => h9) rfl dX11_putFour_8 ?_
  refine lv_sipush (v := 2000) hx hb dX11_putFour_11 (by decide) ?_
  refine lv_icmp_ge (tgt := 46) hx hb dX11_putFour_14 (by decide) (fun c_0 => absurd c_0 (by decide)) (fun _ => ?_)
  refine lv_aload_n hx hb dX11_putFour_17 rfl (lv_at hl 1 rfl) ?_
  refine va_get (D := (dC, dI)) (ci := 11) (v := .ref xt) (C := RX11) (T := TX11) (N := 17) hx hb hA zin_X11 hown hK hP 0 rfl rfl 0 (by decide) (hA _ wi_584) (fun _ h9 => h9) rfl dX11_putFour_18 ?_
  refine lv_aload_n hx hb dX11_putFour_21 rfl (lv_at hl 1 rfl) ?_
  refine va_get (D := (dC, dI)) (ci := 11) (v := .int 4) (C := RX11) (T := TX11) (N := 17) hx hb hA zin_X11 hown hK hP 0 rfl rfl 1 (by decide) (hA _ wi_585) (fun _ h9 => h9) rfl dX11_putFour_22 ?_
  refine lv_iload_n hx hb dX11_putFour_25 rfl (lv_at hl 2 rfl) ?_
  refine lv_iload_n hx hb dX11_putFour_26 rfl (lv_at hl 0 rfl) ?_
  obtain ⟨x_1, ex_1⟩ : ∃ z : Int32, z = (Int32.toUInt32 b >>> (Int32.toUInt32 24 &&& Int32.toUInt32 31)).toInt32 := ⟨_, rfl⟩
  refine lv_iushr (v := x_1) hx hb dX11_putFour_27 ex_1.symm ?_
  obtain ⟨x_2, ex_2⟩ : ∃ z : Int32, z = (Int32.toInt8 x_1).toInt32 := ⟨_, rfl⟩
  refine lv_i2b (v := x_2) hx hb dX11_putFour_28 ex_2.symm ?_
  refine va_bast hx hb hK hP hD hS 1 0 rfl rfl (by unfold vp_in; decide) dX11_putFour_29 (fun H locs hP hD hS => ?_)
  obtain ⟨f_3, ef_3⟩ : ∃ gz9 : Nat → Int32, gz9 = upd g (Int32.toNatClampNeg 4) (vp_nar .byte x_2) := ⟨_, rfl⟩
  rw [← ef_3] at hP hD
  have hP : va_P (dC, dI) vwCl [(h0, .inr (11, [.ref xt, .int 4, .ref xk, .ref xp, .ref xm, .ref xc, .ref xl, .ref xr, .int 0, .int (-1), .int 0, .int 0, .int 0, .int 0, .long 0, .int 0, .long 0])), (xt, .inl (xkt, 2000, .inl f_3))] H := hP
  have hD : va_D A [(h0, .inr (11, [.ref xt, .int 4, .ref xk, .ref xp, .ref xm, .ref xc, .ref xl, .ref xr, .int 0, .int (-1), .int 0, .int 0, .int 0, .int 0, .long 0, .int 0, .long 0])), (xt, .inl (xkt, 2000, .inl f_3))] := hD
  refine lv_aload_n hx hb dX11_putFour_30 rfl (lv_at hl 1 rfl) ?_
  refine lv_dup hx hb dX11_putFour_31 rfl ?_
  refine va_get (D := (dC, dI)) (ci := 11) (v := .int 4) (C := RX11) (T := TX11) (N := 17) hx hb hA zin_X11 hown hK hP 0 rfl rfl 1 (by decide) (hA _ wi_585) (fun _ h9 => h9) rfl dX11_putFour_32 ?_
  refine lv_iconst (v := 1) hx hb dX11_putFour_35 (by decide) ?_
  refine lv_iadd hx hb dX11_putFour_36 ?_
  refine lv_topi (fun x_4 ex_4 => ?_)
  obtain rfl : x_4 = 5 := ex_4.trans (by decide)
  refine va_put (D := (dC, dI)) (ci := 11) (v := .int 5) (ty := .int) (C := RX11) (T := TX11) (N := 17) hx hb hA zin_X11 tyX11 tyX11_ok nmX11 hown hK hP hD hS 0 rfl rfl 1 (by decide) (hA _ wi_585) (fun _ h9 => h9) rfl (by decide +kernel) rfl rfl (Nat.le_of_ble_eq_true rfl) dX11_putFour_37 (fun H locs hP hD hS => ?_)
  have hP : va_P (dC, dI) vwCl [(h0, .inr (11, [.ref xt, .int 5, .ref xk, .ref xp, .ref xm, .ref xc, .ref xl, .ref xr, .int 0, .int (-1), .int 0, .int 0, .int 0, .int 0, .long 0, .int 0, .long 0])), (xt, .inl (xkt, 2000, .inl f_3))] H := hP
  have hD : va_D A [(h0, .inr (11, [.ref xt, .int 5, .ref xk, .ref xp, .ref xm, .ref xc, .ref xl, .ref xr, .int 0, .int (-1), .int 0, .int 0, .int 0, .int 0, .long 0, .int 0, .long 0])), (xt, .inl (xkt, 2000, .inl f_3))] := hD
  refine lv_iinc (v := 16) (lv' := [(2, .int 16), (0, .ref h0), (1, .int b)]) hx hb dX11_putFour_40 hl (k := 0) rfl (by decide) (by decide) rfl (fun ls hl => ?_)
  refine lv_goto (tgt := 3) hx hb dX11_putFour_43 (by decide) ?_
  refine lv_iload_n hx hb dX11_putFour_3 rfl (lv_at hl 0 rfl) ?_
  refine lv_if_lt (tgt := 46) hx hb dX11_putFour_4 (by decide) (fun c_0 => absurd c_0 (by decide)) (fun _ => ?_)
  refine lv_aload_n hx hb dX11_putFour_7 rfl (lv_at hl 1 rfl) ?_
  refine va_get (D := (dC, dI)) (ci := 11) (v := .int 5) (C := RX11) (T := TX11) (N := 17) hx hb hA zin_X11 hown hK hP 0 rfl rfl 1 (by decide) (hA _ wi_585) (fun _ h9 => h9) rfl dX11_putFour_8 ?_
  refine lv_sipush (v := 2000) hx hb dX11_putFour_11 (by decide) ?_
  refine lv_icmp_ge (tgt := 46) hx hb dX11_putFour_14 (by decide) (fun c_0 => absurd c_0 (by decide)) (fun _ => ?_)
  refine lv_aload_n hx hb dX11_putFour_17 rfl (lv_at hl 1 rfl) ?_
  refine va_get (D := (dC, dI)) (ci := 11) (v := .ref xt) (C := RX11) (T := TX11) (N := 17) hx hb hA zin_X11 hown hK hP 0 rfl rfl 0 (by decide) (hA _ wi_584) (fun _ h9 => h9) rfl dX11_putFour_18 ?_
  refine lv_aload_n hx hb dX11_putFour_21 rfl (lv_at hl 1 rfl) ?_
  refine va_get (D := (dC, dI)) (ci := 11) (v := .int 5) (C := RX11) (T := TX11) (N := 17) hx hb hA zin_X11 hown hK hP 0 rfl rfl 1 (by decide) (hA _ wi_585) (fun _ h9 => h9) rfl dX11_putFour_22 ?_
  refine lv_iload_n hx hb dX11_putFour_25 rfl (lv_at hl 2 rfl) ?_
  refine lv_iload_n hx hb dX11_putFour_26 rfl (lv_at hl 0 rfl) ?_
  obtain ⟨x_5, ex_5⟩ : ∃ z : Int32, z = (Int32.toUInt32 b >>> (Int32.toUInt32 16 &&& Int32.toUInt32 31)).toInt32 := ⟨_, rfl⟩
  refine lv_iushr (v := x_5) hx hb dX11_putFour_27 ex_5.symm ?_
  obtain ⟨x_6, ex_6⟩ : ∃ z : Int32, z = (Int32.toInt8 x_5).toInt32 := ⟨_, rfl⟩
  refine lv_i2b (v := x_6) hx hb dX11_putFour_28 ex_6.symm ?_
  refine va_bast hx hb hK hP hD hS 1 0 rfl rfl (by unfold vp_in; decide) dX11_putFour_29 (fun H locs hP hD hS => ?_)
  obtain ⟨f_7, ef_7⟩ : ∃ gz9 : Nat → Int32, gz9 = upd f_3 (Int32.toNatClampNeg 5) (vp_nar .byte x_6) := ⟨_, rfl⟩
  rw [← ef_7] at hP hD
  have hP : va_P (dC, dI) vwCl [(h0, .inr (11, [.ref xt, .int 5, .ref xk, .ref xp, .ref xm, .ref xc, .ref xl, .ref xr, .int 0, .int (-1), .int 0, .int 0, .int 0, .int 0, .long 0, .int 0, .long 0])), (xt, .inl (xkt, 2000, .inl f_7))] H := hP
  have hD : va_D A [(h0, .inr (11, [.ref xt, .int 5, .ref xk, .ref xp, .ref xm, .ref xc, .ref xl, .ref xr, .int 0, .int (-1), .int 0, .int 0, .int 0, .int 0, .long 0, .int 0, .long 0])), (xt, .inl (xkt, 2000, .inl f_7))] := hD
  refine lv_aload_n hx hb dX11_putFour_30 rfl (lv_at hl 1 rfl) ?_
  refine lv_dup hx hb dX11_putFour_31 rfl ?_
  refine va_get (D := (dC, dI)) (ci := 11) (v := .int 5) (C := RX11) (T := TX11) (N := 17) hx hb hA zin_X11 hown hK hP 0 rfl rfl 1 (by decide) (hA _ wi_585) (fun _ h9 => h9) rfl dX11_putFour_32 ?_
  refine lv_iconst (v := 1) hx hb dX11_putFour_35 (by decide) ?_
  refine lv_iadd hx hb dX11_putFour_36 ?_
  refine lv_topi (fun x_8 ex_8 => ?_)
  obtain rfl : x_8 = 6 := ex_8.trans (by decide)
  refine va_put (D := (dC, dI)) (ci := 11) (v := .int 6) (ty := .int) (C := RX11) (T := TX11) (N := 17) hx hb hA zin_X11 tyX11 tyX11_ok nmX11 hown hK hP hD hS 0 rfl rfl 1 (by decide) (hA _ wi_585) (fun _ h9 => h9) rfl (by decide +kernel) rfl rfl (Nat.le_of_ble_eq_true rfl) dX11_putFour_37 (fun H locs hP hD hS => ?_)
  have hP : va_P (dC, dI) vwCl [(h0, .inr (11, [.ref xt, .int 6, .ref xk, .ref xp, .ref xm, .ref xc, .ref xl, .ref xr, .int 0, .int (-1), .int 0, .int 0, .int 0, .int 0, .long 0, .int 0, .long 0])), (xt, .inl (xkt, 2000, .inl f_7))] H := hP
  have hD : va_D A [(h0, .inr (11, [.ref xt, .int 6, .ref xk, .ref xp, .ref xm, .ref xc, .ref xl, .ref xr, .int 0, .int (-1), .int 0, .int 0, .int 0, .int 0, .long 0, .int 0, .long 0])), (xt, .inl (xkt, 2000, .inl f_7))] := hD
  refine lv_iinc (v := 8) (lv' := [(2, .int 8), (0, .ref h0), (1, .int b)]) hx hb dX11_putFour_40 hl (k := 0) rfl (by decide) (by decide) rfl (fun ls hl => ?_)
  refine lv_goto (tgt := 3) hx hb dX11_putFour_43 (by decide) ?_
  refine lv_iload_n hx hb dX11_putFour_3 rfl (lv_at hl 0 rfl) ?_
  refine lv_if_lt (tgt := 46) hx hb dX11_putFour_4 (by decide) (fun c_0 => absurd c_0 (by decide)) (fun _ => ?_)
  refine lv_aload_n hx hb dX11_putFour_7 rfl (lv_at hl 1 rfl) ?_
  refine va_get (D := (dC, dI)) (ci := 11) (v := .int 6) (C := RX11) (T := TX11) (N := 17) hx hb hA zin_X11 hown hK hP 0 rfl rfl 1 (by decide) (hA _ wi_585) (fun _ h9 => h9) rfl dX11_putFour_8 ?_
  refine lv_sipush (v := 2000) hx hb dX11_putFour_11 (by decide) ?_
  refine lv_icmp_ge (tgt := 46) hx hb dX11_putFour_14 (by decide) (fun c_0 => absurd c_0 (by decide)) (fun _ => ?_)
  refine lv_aload_n hx hb dX11_putFour_17 rfl (lv_at hl 1 rfl) ?_
  refine va_get (D := (dC, dI)) (ci := 11) (v := .ref xt) (C := RX11) (T := TX11) (N := 17) hx hb hA zin_X11 hown hK hP 0 rfl rfl 0 (by decide) (hA _ wi_584) (fun _ h9 => h9) rfl dX11_putFour_18 ?_
  refine lv_aload_n hx hb dX11_putFour_21 rfl (lv_at hl 1 rfl) ?_
  refine va_get (D := (dC, dI)) (ci := 11) (v := .int 6) (C := RX11) (T := TX11) (N := 17) hx hb hA zin_X11 hown hK hP 0 rfl rfl 1 (by decide) (hA _ wi_585) (fun _ h9 => h9) rfl dX11_putFour_22 ?_
  refine lv_iload_n hx hb dX11_putFour_25 rfl (lv_at hl 2 rfl) ?_
  refine lv_iload_n hx hb dX11_putFour_26 rfl (lv_at hl 0 rfl) ?_
  obtain ⟨x_9, ex_9⟩ : ∃ z : Int32, z = (Int32.toUInt32 b >>> (Int32.toUInt32 8 &&& Int32.toUInt32 31)).toInt32 := ⟨_, rfl⟩
  refine lv_iushr (v := x_9) hx hb dX11_putFour_27 ex_9.symm ?_
  obtain ⟨x_10, ex_10⟩ : ∃ z : Int32, z = (Int32.toInt8 x_9).toInt32 := ⟨_, rfl⟩
  refine lv_i2b (v := x_10) hx hb dX11_putFour_28 ex_10.symm ?_
  refine va_bast hx hb hK hP hD hS 1 0 rfl rfl (by unfold vp_in; decide) dX11_putFour_29 (fun H locs hP hD hS => ?_)
  obtain ⟨f_11, ef_11⟩ : ∃ gz9 : Nat → Int32, gz9 = upd f_7 (Int32.toNatClampNeg 6) (vp_nar .byte x_10) := ⟨_, rfl⟩
  rw [← ef_11] at hP hD
  have hP : va_P (dC, dI) vwCl [(h0, .inr (11, [.ref xt, .int 6, .ref xk, .ref xp, .ref xm, .ref xc, .ref xl, .ref xr, .int 0, .int (-1), .int 0, .int 0, .int 0, .int 0, .long 0, .int 0, .long 0])), (xt, .inl (xkt, 2000, .inl f_11))] H := hP
  have hD : va_D A [(h0, .inr (11, [.ref xt, .int 6, .ref xk, .ref xp, .ref xm, .ref xc, .ref xl, .ref xr, .int 0, .int (-1), .int 0, .int 0, .int 0, .int 0, .long 0, .int 0, .long 0])), (xt, .inl (xkt, 2000, .inl f_11))] := hD
  refine lv_aload_n hx hb dX11_putFour_30 rfl (lv_at hl 1 rfl) ?_
  refine lv_dup hx hb dX11_putFour_31 rfl ?_
  refine va_get (D := (dC, dI)) (ci := 11) (v := .int 6) (C := RX11) (T := TX11) (N := 17) hx hb hA zin_X11 hown hK hP 0 rfl rfl 1 (by decide) (hA _ wi_585) (fun _ h9 => h9) rfl dX11_putFour_32 ?_
  refine lv_iconst (v := 1) hx hb dX11_putFour_35 (by decide) ?_
  refine lv_iadd hx hb dX11_putFour_36 ?_
  refine lv_topi (fun x_12 ex_12 => ?_)
  obtain rfl : x_12 = 7 := ex_12.trans (by decide)
  refine va_put (D := (dC, dI)) (ci := 11) (v := .int 7) (ty := .int) (C := RX11) (T := TX11) (N := 17) hx hb hA zin_X11 tyX11 tyX11_ok nmX11 hown hK hP hD hS 0 rfl rfl 1 (by decide) (hA _ wi_585) (fun _ h9 => h9) rfl (by decide +kernel) rfl rfl (Nat.le_of_ble_eq_true rfl) dX11_putFour_37 (fun H locs hP hD hS => ?_)
  have hP : va_P (dC, dI) vwCl [(h0, .inr (11, [.ref xt, .int 7, .ref xk, .ref xp, .ref xm, .ref xc, .ref xl, .ref xr, .int 0, .int (-1), .int 0, .int 0, .int 0, .int 0, .long 0, .int 0, .long 0])), (xt, .inl (xkt, 2000, .inl f_11))] H := hP
  have hD : va_D A [(h0, .inr (11, [.ref xt, .int 7, .ref xk, .ref xp, .ref xm, .ref xc, .ref xl, .ref xr, .int 0, .int (-1), .int 0, .int 0, .int 0, .int 0, .long 0, .int 0, .long 0])), (xt, .inl (xkt, 2000, .inl f_11))] := hD
  refine lv_iinc (v := 0) (lv' := [(2, .int 0), (0, .ref h0), (1, .int b)]) hx hb dX11_putFour_40 hl (k := 0) rfl (by decide) (by decide) rfl (fun ls hl => ?_)
  refine lv_goto (tgt := 3) hx hb dX11_putFour_43 (by decide) ?_
  refine lv_iload_n hx hb dX11_putFour_3 rfl (lv_at hl 0 rfl) ?_
  refine lv_if_lt (tgt := 46) hx hb dX11_putFour_4 (by decide) (fun c_0 => absurd c_0 (by decide)) (fun _ => ?_)
  refine lv_aload_n hx hb dX11_putFour_7 rfl (lv_at hl 1 rfl) ?_
  refine va_get (D := (dC, dI)) (ci := 11) (v := .int 7) (C := RX11) (T := TX11) (N := 17) hx hb hA zin_X11 hown hK hP 0 rfl rfl 1 (by decide) (hA _ wi_585) (fun _ h9 => h9) rfl dX11_putFour_8 ?_
  refine lv_sipush (v := 2000) hx hb dX11_putFour_11 (by decide) ?_
  refine lv_icmp_ge (tgt := 46) hx hb dX11_putFour_14 (by decide) (fun c_0 => absurd c_0 (by decide)) (fun _ => ?_)
  refine lv_aload_n hx hb dX11_putFour_17 rfl (lv_at hl 1 rfl) ?_
  refine va_get (D := (dC, dI)) (ci := 11) (v := .ref xt) (C := RX11) (T := TX11) (N := 17) hx hb hA zin_X11 hown hK hP 0 rfl rfl 0 (by decide) (hA _ wi_584) (fun _ h9 => h9) rfl dX11_putFour_18 ?_
  refine lv_aload_n hx hb dX11_putFour_21 rfl (lv_at hl 1 rfl) ?_
  refine va_get (D := (dC, dI)) (ci := 11) (v := .int 7) (C := RX11) (T := TX11) (N := 17) hx hb hA zin_X11 hown hK hP 0 rfl rfl 1 (by decide) (hA _ wi_585) (fun _ h9 => h9) rfl dX11_putFour_22 ?_
  refine lv_iload_n hx hb dX11_putFour_25 rfl (lv_at hl 2 rfl) ?_
  refine lv_iload_n hx hb dX11_putFour_26 rfl (lv_at hl 0 rfl) ?_
  obtain ⟨x_13, ex_13⟩ : ∃ z : Int32, z = (Int32.toUInt32 b >>> (Int32.toUInt32 0 &&& Int32.toUInt32 31)).toInt32 := ⟨_, rfl⟩
  refine lv_iushr (v := x_13) hx hb dX11_putFour_27 ex_13.symm ?_
  obtain ⟨x_14, ex_14⟩ : ∃ z : Int32, z = (Int32.toInt8 x_13).toInt32 := ⟨_, rfl⟩
  refine lv_i2b (v := x_14) hx hb dX11_putFour_28 ex_14.symm ?_
  refine va_bast hx hb hK hP hD hS 1 0 rfl rfl (by unfold vp_in; decide) dX11_putFour_29 (fun H locs hP hD hS => ?_)
  obtain ⟨f_15, ef_15⟩ : ∃ gz9 : Nat → Int32, gz9 = upd f_11 (Int32.toNatClampNeg 7) (vp_nar .byte x_14) := ⟨_, rfl⟩
  rw [← ef_15] at hP hD
  have hP : va_P (dC, dI) vwCl [(h0, .inr (11, [.ref xt, .int 7, .ref xk, .ref xp, .ref xm, .ref xc, .ref xl, .ref xr, .int 0, .int (-1), .int 0, .int 0, .int 0, .int 0, .long 0, .int 0, .long 0])), (xt, .inl (xkt, 2000, .inl f_15))] H := hP
  have hD : va_D A [(h0, .inr (11, [.ref xt, .int 7, .ref xk, .ref xp, .ref xm, .ref xc, .ref xl, .ref xr, .int 0, .int (-1), .int 0, .int 0, .int 0, .int 0, .long 0, .int 0, .long 0])), (xt, .inl (xkt, 2000, .inl f_15))] := hD
  refine lv_aload_n hx hb dX11_putFour_30 rfl (lv_at hl 1 rfl) ?_
  refine lv_dup hx hb dX11_putFour_31 rfl ?_
  refine va_get (D := (dC, dI)) (ci := 11) (v := .int 7) (C := RX11) (T := TX11) (N := 17) hx hb hA zin_X11 hown hK hP 0 rfl rfl 1 (by decide) (hA _ wi_585) (fun _ h9 => h9) rfl dX11_putFour_32 ?_
  refine lv_iconst (v := 1) hx hb dX11_putFour_35 (by decide) ?_
  refine lv_iadd hx hb dX11_putFour_36 ?_
  refine lv_topi (fun x_16 ex_16 => ?_)
  obtain rfl : x_16 = 8 := ex_16.trans (by decide)
  refine va_put (D := (dC, dI)) (ci := 11) (v := .int 8) (ty := .int) (C := RX11) (T := TX11) (N := 17) hx hb hA zin_X11 tyX11 tyX11_ok nmX11 hown hK hP hD hS 0 rfl rfl 1 (by decide) (hA _ wi_585) (fun _ h9 => h9) rfl (by decide +kernel) rfl rfl (Nat.le_of_ble_eq_true rfl) dX11_putFour_37 (fun H locs hP hD hS => ?_)
  have hP : va_P (dC, dI) vwCl [(h0, .inr (11, [.ref xt, .int 8, .ref xk, .ref xp, .ref xm, .ref xc, .ref xl, .ref xr, .int 0, .int (-1), .int 0, .int 0, .int 0, .int 0, .long 0, .int 0, .long 0])), (xt, .inl (xkt, 2000, .inl f_15))] H := hP
  have hD : va_D A [(h0, .inr (11, [.ref xt, .int 8, .ref xk, .ref xp, .ref xm, .ref xc, .ref xl, .ref xr, .int 0, .int (-1), .int 0, .int 0, .int 0, .int 0, .long 0, .int 0, .long 0])), (xt, .inl (xkt, 2000, .inl f_15))] := hD
  refine lv_iinc (v := (-8)) (lv' := [(2, .int (-8)), (0, .ref h0), (1, .int b)]) hx hb dX11_putFour_40 hl (k := 0) rfl (by decide) (by decide) rfl (fun ls hl => ?_)
  refine lv_goto (tgt := 3) hx hb dX11_putFour_43 (by decide) ?_
  refine lv_iload_n hx hb dX11_putFour_3 rfl (lv_at hl 0 rfl) ?_
  refine lv_if_lt (tgt := 46) hx hb dX11_putFour_4 (by decide) (fun _ => ?_) (fun c_0 => absurd (by decide) c_0)
  have hP9 := hP.sub (ws' := [(h0, .inr (11, [.ref xt, .int 8, .ref xk, .ref xp, .ref xm, .ref xc, .ref xl, .ref xr, .int 0, .int (-1), .int 0, .int 0, .int 0, .int 0, .long 0, .int 0, .long 0])), (xt, .inl (xkt, 2000, .inl f_15))]) [0, 1] rfl
  have hD9 := hD.sub (ws' := [(h0, .inr (11, [.ref xt, .int 8, .ref xk, .ref xp, .ref xm, .ref xc, .ref xl, .ref xr, .int 0, .int (-1), .int 0, .int 0, .int 0, .int 0, .long 0, .int 0, .long 0])), (xt, .inl (xkt, 2000, .inl f_15))]) [0, 1] (by decide) rfl
  have hK9 := hK.sub (tys' := [(xkt, .byte)]) [0] rfl
  exact W.vret hx hb hr (fun t ht hW => ⟨⟨(f_15), rfl, trivial, by rw [ht]; exact hP9, va_K.moved hW.alike hK9, hD9⟩, hS.F ht⟩) hS.2.2 dX11_putFour_46
set_option maxHeartbeats 4000000 in
set_option maxRecDepth 100000 in
theorem c_X11_putFour_8 (l : Launch) (dC : Nat → ClassId) (dI : Nat → Nat → Nat) (h0 : Nat) (xt : Nat) (xk : Nat) (xp : Nat) (xm : Nat) (xc : Nat) (xl : Nat) (xr : Nat) (xkt : ClassId) (g : Nat → Int32) (b : Int32) (sz : Nat)  : Met l yX11_putFour (Cond.code yX11_putFour cX11_putFour 3 none :: zw) ({ frames := 8, cells := 0, slots := 0, locals := 200 }) (va_Pc [.ref h0, .int b] (zP dC dI sz [(xkt, .byte)] [(h0, .inr (11, [.ref xt, .int 8, .ref xk, .ref xp, .ref xm, .ref xc, .ref xl, .ref xr, .int 0, .int (-1), .int 0, .int 0, .int 0, .int 0, .long 0, .int 0, .long 0])), (xt, .inl (xkt, 2000, .inl g))])) (va_Qv (fun u : Nat → Int32 => match u with | g2 => True) (fun u => match u with | g2 => zQ dC dI (va_A [(h0, .inr (11, [.ref xt, .int 8, .ref xk, .ref xp, .ref xm, .ref xc, .ref xl, .ref xr, .int 0, .int (-1), .int 0, .int 0, .int 0, .int 0, .long 0, .int 0, .long 0])), (xt, .inl (xkt, 2000, .inl g))] sz) [(xkt, .byte)] [(h0, .inr (11, [.ref xt, .int 12, .ref xk, .ref xp, .ref xm, .ref xc, .ref xl, .ref xr, .int 0, .int (-1), .int 0, .int 0, .int 0, .int 0, .long 0, .int 0, .long 0])), (xt, .inl (xkt, 2000, .inl g2))]) (va_A [(h0, .inr (11, [.ref xt, .int 8, .ref xk, .ref xp, .ref xm, .ref xc, .ref xl, .ref xr, .int 0, .int (-1), .int 0, .int 0, .int 0, .int 0, .long 0, .int 0, .long 0])), (xt, .inl (xkt, 2000, .inl g))] sz)) 0 0 (va_A [(h0, .inr (11, [.ref xt, .int 8, .ref xk, .ref xp, .ref xm, .ref xc, .ref xl, .ref xr, .int 0, .int (-1), .int 0, .int 0, .int 0, .int 0, .long 0, .int 0, .long 0])), (xt, .inl (xkt, 2000, .inl g))] sz) := by
  refine Met.ofW (cc := cX11_putFour) (maxL := 3) (ret := none) (by decide) rfl ?_
  intro p e s m args below meth c s₁ B hml hv
  obtain ⟨rfl, hsz, hP, hK, hD0, hN, hT⟩ := hv
  have hx := B.exec
  have hb := B.bytes
  have hr := B.returns
  have hts := atoms_spec (ws := Cond.code yX11_putFour cX11_putFour 3 none :: zw) B.pre
  have hA : ∀ w ∈ zw, w.before _ s = true := fun w h => hts w (List.mem_cons_of_mem _ h)
  have hown : s.vm.findClass RX11 = some m.cls := findClass_of_methodNamed B.named
  have hlocks := B.notSynchronized
  subst hsz
  have hD := hD0.self (sz := s.heap.size)
  generalize hAe : va_A [(h0, .inr (11, [.ref xt, .int 8, .ref xk, .ref xp, .ref xm, .ref xc, .ref xl, .ref xr, .int 0, .int (-1), .int 0, .int 0, .int 0, .int 0, .long 0, .int 0, .long 0])), (xt, .inl (xkt, 2000, .inl g))] s.heap.size = A at hD hT ⊢
  have hAA : ∀ q : Nat, s.heap.size ≤ q → A q := fun q h => by rw [← hAe]; exact Or.inr h
  have hS : va_S A s.heap s.heap [] := va_S.rf
  have hl := lv_entry ([.ref h0, .int b]) (n := 3) (Nat.le_of_ble_eq_true rfl)
  rw [lg_entry_eq]
  generalize (lg_sl ([.ref h0, .int b]) ++ List.replicate (3 - (lg_sl ([.ref h0, .int b])).length) Slot.unset).toArray = ls at hl ⊢
  have hl : lv_has ls 3 [(0, .ref h0), (1, .int b)] := hl
  refine lv_bipush (v := 24) hx hb dX11_putFour_0 (by decide) ?_
  refine lv_istore_n (lv' := [(2, .int 24), (0, .ref h0), (1, .int b)]) hx hb dX11_putFour_2 rfl hl (by decide) rfl (fun ls hl => ?_)
  refine lv_iload_n hx hb dX11_putFour_3 rfl (lv_at hl 0 rfl) ?_
  refine lv_if_lt (tgt := 46) hx hb dX11_putFour_4 (by decide) (fun c_0 => absurd c_0 (by decide)) (fun _ => ?_)
  refine lv_aload_n hx hb dX11_putFour_7 rfl (lv_at hl 1 rfl) ?_
  refine va_get (D := (dC, dI)) (ci := 11) (v := .int 8) (C := RX11) (T := TX11) (N := 17) hx hb hA zin_X11 hown hK hP 0 rfl rfl 1 (by decide) (hA _ wi_585) (fun _ h9 => h9) rfl dX11_putFour_8 ?_
  refine lv_sipush (v := 2000) hx hb dX11_putFour_11 (by decide) ?_
  refine lv_icmp_ge (tgt := 46) hx hb dX11_putFour_14 (by decide) (fun c_0 => absurd c_0 (by decide)) (fun _ => ?_)
  refine lv_aload_n hx hb dX11_putFour_17 rfl (lv_at hl 1 rfl) ?_
  refine va_get (D := (dC, dI)) (ci := 11) (v := .ref xt) (C := RX11) (T := TX11) (N := 17) hx hb hA zin_X11 hown hK hP 0 rfl rfl 0 (by decide) (hA _ wi_584) (fun _ h9 => h9) rfl dX11_putFour_18 ?_
  refine lv_aload_n hx hb dX11_putFour_21 rfl (lv_at hl 1 rfl) ?_
  refine va_get (D := (dC, dI)) (ci := 11) (v := .int 8) (C := RX11) (T := TX11) (N := 17) hx hb hA zin_X11 hown hK hP 0 rfl rfl 1 (by decide) (hA _ wi_585) (fun _ h9 => h9) rfl dX11_putFour_22 ?_
  refine lv_iload_n hx hb dX11_putFour_25 rfl (lv_at hl 2 rfl) ?_
  refine lv_iload_n hx hb dX11_putFour_26 rfl (lv_at hl 0 rfl) ?_
  obtain ⟨x_1, ex_1⟩ : ∃ z : Int32, z = (Int32.toUInt32 b >>> (Int32.toUInt32 24 &&& Int32.toUInt32 31)).toInt32 := ⟨_, rfl⟩
  refine lv_iushr (v := x_1) hx hb dX11_putFour_27 ex_1.symm ?_
  obtain ⟨x_2, ex_2⟩ : ∃ z : Int32, z = (Int32.toInt8 x_1).toInt32 := ⟨_, rfl⟩
  refine lv_i2b (v := x_2) hx hb dX11_putFour_28 ex_2.symm ?_
  refine va_bast hx hb hK hP hD hS 1 0 rfl rfl (by unfold vp_in; decide) dX11_putFour_29 (fun H locs hP hD hS => ?_)
  obtain ⟨f_3, ef_3⟩ : ∃ gz9 : Nat → Int32, gz9 = upd g (Int32.toNatClampNeg 8) (vp_nar .byte x_2) := ⟨_, rfl⟩
  rw [← ef_3] at hP hD
  have hP : va_P (dC, dI) vwCl [(h0, .inr (11, [.ref xt, .int 8, .ref xk, .ref xp, .ref xm, .ref xc, .ref xl, .ref xr, .int 0, .int (-1), .int 0, .int 0, .int 0, .int 0, .long 0, .int 0, .long 0])), (xt, .inl (xkt, 2000, .inl f_3))] H := hP
  have hD : va_D A [(h0, .inr (11, [.ref xt, .int 8, .ref xk, .ref xp, .ref xm, .ref xc, .ref xl, .ref xr, .int 0, .int (-1), .int 0, .int 0, .int 0, .int 0, .long 0, .int 0, .long 0])), (xt, .inl (xkt, 2000, .inl f_3))] := hD
  refine lv_aload_n hx hb dX11_putFour_30 rfl (lv_at hl 1 rfl) ?_
  refine lv_dup hx hb dX11_putFour_31 rfl ?_
  refine va_get (D := (dC, dI)) (ci := 11) (v := .int 8) (C := RX11) (T := TX11) (N := 17) hx hb hA zin_X11 hown hK hP 0 rfl rfl 1 (by decide) (hA _ wi_585) (fun _ h9 => h9) rfl dX11_putFour_32 ?_
  refine lv_iconst (v := 1) hx hb dX11_putFour_35 (by decide) ?_
  refine lv_iadd hx hb dX11_putFour_36 ?_
  refine lv_topi (fun x_4 ex_4 => ?_)
  obtain rfl : x_4 = 9 := ex_4.trans (by decide)
  refine va_put (D := (dC, dI)) (ci := 11) (v := .int 9) (ty := .int) (C := RX11) (T := TX11) (N := 17) hx hb hA zin_X11 tyX11 tyX11_ok nmX11 hown hK hP hD hS 0 rfl rfl 1 (by decide) (hA _ wi_585) (fun _ h9 => h9) rfl (by decide +kernel) rfl rfl (Nat.le_of_ble_eq_true rfl) dX11_putFour_37 (fun H locs hP hD hS => ?_)
  have hP : va_P (dC, dI) vwCl [(h0, .inr (11, [.ref xt, .int 9, .ref xk, .ref xp, .ref xm, .ref xc, .ref xl, .ref xr, .int 0, .int (-1), .int 0, .int 0, .int 0, .int 0, .long 0, .int 0, .long 0])), (xt, .inl (xkt, 2000, .inl f_3))] H := hP
  have hD : va_D A [(h0, .inr (11, [.ref xt, .int 9, .ref xk, .ref xp, .ref xm, .ref xc, .ref xl, .ref xr, .int 0, .int (-1), .int 0, .int 0, .int 0, .int 0, .long 0, .int 0, .long 0])), (xt, .inl (xkt, 2000, .inl f_3))] := hD
  refine lv_iinc (v := 16) (lv' := [(2, .int 16), (0, .ref h0), (1, .int b)]) hx hb dX11_putFour_40 hl (k := 0) rfl (by decide) (by decide) rfl (fun ls hl => ?_)
  refine lv_goto (tgt := 3) hx hb dX11_putFour_43 (by decide) ?_
  refine lv_iload_n hx hb dX11_putFour_3 rfl (lv_at hl 0 rfl) ?_
  refine lv_if_lt (tgt := 46) hx hb dX11_putFour_4 (by decide) (fun c_0 => absurd c_0 (by decide)) (fun _ => ?_)
  refine lv_aload_n hx hb dX11_putFour_7 rfl (lv_at hl 1 rfl) ?_
  refine va_get (D := (dC, dI)) (ci := 11) (v := .int 9) (C := RX11) (T := TX11) (N := 17) hx hb hA zin_X11 hown hK hP 0 rfl rfl 1 (by decide) (hA _ wi_585) (fun _ h9 => h9) rfl dX11_putFour_8 ?_
  refine lv_sipush (v := 2000) hx hb dX11_putFour_11 (by decide) ?_
  refine lv_icmp_ge (tgt := 46) hx hb dX11_putFour_14 (by decide) (fun c_0 => absurd c_0 (by decide)) (fun _ => ?_)
  refine lv_aload_n hx hb dX11_putFour_17 rfl (lv_at hl 1 rfl) ?_
  refine va_get (D := (dC, dI)) (ci := 11) (v := .ref xt) (C := RX11) (T := TX11) (N := 17) hx hb hA zin_X11 hown hK hP 0 rfl rfl 0 (by decide) (hA _ wi_584) (fun _ h9 => h9) rfl dX11_putFour_18 ?_
  refine lv_aload_n hx hb dX11_putFour_21 rfl (lv_at hl 1 rfl) ?_
  refine va_get (D := (dC, dI)) (ci := 11) (v := .int 9) (C := RX11) (T := TX11) (N := 17) hx hb hA zin_X11 hown hK hP 0 rfl rfl 1 (by decide) (hA _ wi_585) (fun _ h9 => h9) rfl dX11_putFour_22 ?_
  refine lv_iload_n hx hb dX11_putFour_25 rfl (lv_at hl 2 rfl) ?_
  refine lv_iload_n hx hb dX11_putFour_26 rfl (lv_at hl 0 rfl) ?_
  obtain ⟨x_5, ex_5⟩ : ∃ z : Int32, z = (Int32.toUInt32 b >>> (Int32.toUInt32 16 &&& Int32.toUInt32 31)).toInt32 := ⟨_, rfl⟩
  refine lv_iushr (v := x_5) hx hb dX11_putFour_27 ex_5.symm ?_
  obtain ⟨x_6, ex_6⟩ : ∃ z : Int32, z = (Int32.toInt8 x_5).toInt32 := ⟨_, rfl⟩
  refine lv_i2b (v := x_6) hx hb dX11_putFour_28 ex_6.symm ?_
  refine va_bast hx hb hK hP hD hS 1 0 rfl rfl (by unfold vp_in; decide) dX11_putFour_29 (fun H locs hP hD hS => ?_)
  obtain ⟨f_7, ef_7⟩ : ∃ gz9 : Nat → Int32, gz9 = upd f_3 (Int32.toNatClampNeg 9) (vp_nar .byte x_6) := ⟨_, rfl⟩
  rw [← ef_7] at hP hD
  have hP : va_P (dC, dI) vwCl [(h0, .inr (11, [.ref xt, .int 9, .ref xk, .ref xp, .ref xm, .ref xc, .ref xl, .ref xr, .int 0, .int (-1), .int 0, .int 0, .int 0, .int 0, .long 0, .int 0, .long 0])), (xt, .inl (xkt, 2000, .inl f_7))] H := hP
  have hD : va_D A [(h0, .inr (11, [.ref xt, .int 9, .ref xk, .ref xp, .ref xm, .ref xc, .ref xl, .ref xr, .int 0, .int (-1), .int 0, .int 0, .int 0, .int 0, .long 0, .int 0, .long 0])), (xt, .inl (xkt, 2000, .inl f_7))] := hD
  refine lv_aload_n hx hb dX11_putFour_30 rfl (lv_at hl 1 rfl) ?_
  refine lv_dup hx hb dX11_putFour_31 rfl ?_
  refine va_get (D := (dC, dI)) (ci := 11) (v := .int 9) (C := RX11) (T := TX11) (N := 17) hx hb hA zin_X11 hown hK hP 0 rfl rfl 1 (by decide) (hA _ wi_585) (fun _ h9 => h9) rfl dX11_putFour_32 ?_
  refine lv_iconst (v := 1) hx hb dX11_putFour_35 (by decide) ?_
  refine lv_iadd hx hb dX11_putFour_36 ?_
  refine lv_topi (fun x_8 ex_8 => ?_)
  obtain rfl : x_8 = 10 := ex_8.trans (by decide)
  refine va_put (D := (dC, dI)) (ci := 11) (v := .int 10) (ty := .int) (C := RX11) (T := TX11) (N := 17) hx hb hA zin_X11 tyX11 tyX11_ok nmX11 hown hK hP hD hS 0 rfl rfl 1 (by decide) (hA _ wi_585) (fun _ h9 => h9) rfl (by decide +kernel) rfl rfl (Nat.le_of_ble_eq_true rfl) dX11_putFour_37 (fun H locs hP hD hS => ?_)
  have hP : va_P (dC, dI) vwCl [(h0, .inr (11, [.ref xt, .int 10, .ref xk, .ref xp, .ref xm, .ref xc, .ref xl, .ref xr, .int 0, .int (-1), .int 0, .int 0, .int 0, .int 0, .long 0, .int 0, .long 0])), (xt, .inl (xkt, 2000, .inl f_7))] H := hP
  have hD : va_D A [(h0, .inr (11, [.ref xt, .int 10, .ref xk, .ref xp, .ref xm, .ref xc, .ref xl, .ref xr, .int 0, .int (-1), .int 0, .int 0, .int 0, .int 0, .long 0, .int 0, .long 0])), (xt, .inl (xkt, 2000, .inl f_7))] := hD
  refine lv_iinc (v := 8) (lv' := [(2, .int 8), (0, .ref h0), (1, .int b)]) hx hb dX11_putFour_40 hl (k := 0) rfl (by decide) (by decide) rfl (fun ls hl => ?_)
  refine lv_goto (tgt := 3) hx hb dX11_putFour_43 (by decide) ?_
  refine lv_iload_n hx hb dX11_putFour_3 rfl (lv_at hl 0 rfl) ?_
  refine lv_if_lt (tgt := 46) hx hb dX11_putFour_4 (by decide) (fun c_0 => absurd c_0 (by decide)) (fun _ => ?_)
  refine lv_aload_n hx hb dX11_putFour_7 rfl (lv_at hl 1 rfl) ?_
  refine va_get (D := (dC, dI)) (ci := 11) (v := .int 10) (C := RX11) (T := TX11) (N := 17) hx hb hA zin_X11 hown hK hP 0 rfl rfl 1 (by decide) (hA _ wi_585) (fun _ h9 => h9) rfl dX11_putFour_8 ?_
  refine lv_sipush (v := 2000) hx hb dX11_putFour_11 (by decide) ?_
  refine lv_icmp_ge (tgt := 46) hx hb dX11_putFour_14 (by decide) (fun c_0 => absurd c_0 (by decide)) (fun _ => ?_)
  refine lv_aload_n hx hb dX11_putFour_17 rfl (lv_at hl 1 rfl) ?_
  refine va_get (D := (dC, dI)) (ci := 11) (v := .ref xt) (C := RX11) (T := TX11) (N := 17) hx hb hA zin_X11 hown hK hP 0 rfl rfl 0 (by decide) (hA _ wi_584) (fun _ h9 => h9) rfl dX11_putFour_18 ?_
  refine lv_aload_n hx hb dX11_putFour_21 rfl (lv_at hl 1 rfl) ?_
  refine va_get (D := (dC, dI)) (ci := 11) (v := .int 10) (C := RX11) (T := TX11) (N := 17) hx hb hA zin_X11 hown hK hP 0 rfl rfl 1 (by decide) (hA _ wi_585) (fun _ h9 => h9) rfl dX11_putFour_22 ?_
  refine lv_iload_n hx hb dX11_putFour_25 rfl (lv_at hl 2 rfl) ?_
  refine lv_iload_n hx hb dX11_putFour_26 rfl (lv_at hl 0 rfl) ?_
  obtain ⟨x_9, ex_9⟩ : ∃ z : Int32, z = (Int32.toUInt32 b >>> (Int32.toUInt32 8 &&& Int32.toUInt32 31)).toInt32 := ⟨_, rfl⟩
  refine lv_iushr (v := x_9) hx hb dX11_putFour_27 ex_9.symm ?_
  obtain ⟨x_10, ex_10⟩ : ∃ z : Int32, z = (Int32.toInt8 x_9).toInt32 := ⟨_, rfl⟩
  refine lv_i2b (v := x_10) hx hb dX11_putFour_28 ex_10.symm ?_
  refine va_bast hx hb hK hP hD hS 1 0 rfl rfl (by unfold vp_in; decide) dX11_putFour_29 (fun H locs hP hD hS => ?_)
  obtain ⟨f_11, ef_11⟩ : ∃ gz9 : Nat → Int32, gz9 = upd f_7 (Int32.toNatClampNeg 10) (vp_nar .byte x_10) := ⟨_, rfl⟩
  rw [← ef_11] at hP hD
  have hP : va_P (dC, dI) vwCl [(h0, .inr (11, [.ref xt, .int 10, .ref xk, .ref xp, .ref xm, .ref xc, .ref xl, .ref xr, .int 0, .int (-1), .int 0, .int 0, .int 0, .int 0, .long 0, .int 0, .long 0])), (xt, .inl (xkt, 2000, .inl f_11))] H := hP
  have hD : va_D A [(h0, .inr (11, [.ref xt, .int 10, .ref xk, .ref xp, .ref xm, .ref xc, .ref xl, .ref xr, .int 0, .int (-1), .int 0, .int 0, .int 0, .int 0, .long 0, .int 0, .long 0])), (xt, .inl (xkt, 2000, .inl f_11))] := hD
  refine lv_aload_n hx hb dX11_putFour_30 rfl (lv_at hl 1 rfl) ?_
  refine lv_dup hx hb dX11_putFour_31 rfl ?_
  refine va_get (D := (dC, dI)) (ci := 11) (v := .int 10) (C := RX11) (T := TX11) (N := 17) hx hb hA zin_X11 hown hK hP 0 rfl rfl 1 (by decide) (hA _ wi_585) (fun _ h9 => h9) rfl dX11_putFour_32 ?_
  refine lv_iconst (v := 1) hx hb dX11_putFour_35 (by decide) ?_
  refine lv_iadd hx hb dX11_putFour_36 ?_
  refine lv_topi (fun x_12 ex_12 => ?_)
  obtain rfl : x_12 = 11 := ex_12.trans (by decide)
  refine va_put (D := (dC, dI)) (ci := 11) (v := .int 11) (ty := .int) (C := RX11) (T := TX11) (N := 17) hx hb hA zin_X11 tyX11 tyX11_ok nmX11 hown hK hP hD hS 0 rfl rfl 1 (by decide) (hA _ wi_585) (fun _ h9 => h9) rfl (by decide +kernel) rfl rfl (Nat.le_of_ble_eq_true rfl) dX11_putFour_37 (fun H locs hP hD hS => ?_)
  have hP : va_P (dC, dI) vwCl [(h0, .inr (11, [.ref xt, .int 11, .ref xk, .ref xp, .ref xm, .ref xc, .ref xl, .ref xr, .int 0, .int (-1), .int 0, .int 0, .int 0, .int 0, .long 0, .int 0, .long 0])), (xt, .inl (xkt, 2000, .inl f_11))] H := hP
  have hD : va_D A [(h0, .inr (11, [.ref xt, .int 11, .ref xk, .ref xp, .ref xm, .ref xc, .ref xl, .ref xr, .int 0, .int (-1), .int 0, .int 0, .int 0, .int 0, .long 0, .int 0, .long 0])), (xt, .inl (xkt, 2000, .inl f_11))] := hD
  refine lv_iinc (v := 0) (lv' := [(2, .int 0), (0, .ref h0), (1, .int b)]) hx hb dX11_putFour_40 hl (k := 0) rfl (by decide) (by decide) rfl (fun ls hl => ?_)
  refine lv_goto (tgt := 3) hx hb dX11_putFour_43 (by decide) ?_
  refine lv_iload_n hx hb dX11_putFour_3 rfl (lv_at hl 0 rfl) ?_
  refine lv_if_lt (tgt := 46) hx hb dX11_putFour_4 (by decide) (fun c_0 => absurd c_0 (by decide)) (fun _ => ?_)
  refine lv_aload_n hx hb dX11_putFour_7 rfl (lv_at hl 1 rfl) ?_
  refine va_get (D := (dC, dI)) (ci := 11) (v := .int 11) (C := RX11) (T := TX11) (N := 17) hx hb hA zin_X11 hown hK hP 0 rfl rfl 1 (by decide) (hA _ wi_585) (fun _ h9 => h9) rfl dX11_putFour_8 ?_
  refine lv_sipush (v := 2000) hx hb dX11_putFour_11 (by decide) ?_
  refine lv_icmp_ge (tgt := 46) hx hb dX11_putFour_14 (by decide) (fun c_0 => absurd c_0 (by decide)) (fun _ => ?_)
  refine lv_aload_n hx hb dX11_putFour_17 rfl (lv_at hl 1 rfl) ?_
  refine va_get (D := (dC, dI)) (ci := 11) (v := .ref xt) (C := RX11) (T := TX11) (N := 17) hx hb hA zin_X11 hown hK hP 0 rfl rfl 0 (by decide) (hA _ wi_584) (fun _ h9 => h9) rfl dX11_putFour_18 ?_
  refine lv_aload_n hx hb dX11_putFour_21 rfl (lv_at hl 1 rfl) ?_
  refine va_get (D := (dC, dI)) (ci := 11) (v := .int 11) (C := RX11) (T := TX11) (N := 17) hx hb hA zin_X11 hown hK hP 0 rfl rfl 1 (by decide) (hA _ wi_585) (fun _ h9 => h9) rfl dX11_putFour_22 ?_
  refine lv_iload_n hx hb dX11_putFour_25 rfl (lv_at hl 2 rfl) ?_
  refine lv_iload_n hx hb dX11_putFour_26 rfl (lv_at hl 0 rfl) ?_
  obtain ⟨x_13, ex_13⟩ : ∃ z : Int32, z = (Int32.toUInt32 b >>> (Int32.toUInt32 0 &&& Int32.toUInt32 31)).toInt32 := ⟨_, rfl⟩
  refine lv_iushr (v := x_13) hx hb dX11_putFour_27 ex_13.symm ?_
  obtain ⟨x_14, ex_14⟩ : ∃ z : Int32, z = (Int32.toInt8 x_13).toInt32 := ⟨_, rfl⟩
  refine lv_i2b (v := x_14) hx hb dX11_putFour_28 ex_14.symm ?_
  refine va_bast hx hb hK hP hD hS 1 0 rfl rfl (by unfold vp_in; decide) dX11_putFour_29 (fun H locs hP hD hS => ?_)
  obtain ⟨f_15, ef_15⟩ : ∃ gz9 : Nat → Int32, gz9 = upd f_11 (Int32.toNatClampNeg 11) (vp_nar .byte x_14) := ⟨_, rfl⟩
  rw [← ef_15] at hP hD
  have hP : va_P (dC, dI) vwCl [(h0, .inr (11, [.ref xt, .int 11, .ref xk, .ref xp, .ref xm, .ref xc, .ref xl, .ref xr, .int 0, .int (-1), .int 0, .int 0, .int 0, .int 0, .long 0, .int 0, .long 0])), (xt, .inl (xkt, 2000, .inl f_15))] H := hP
  have hD : va_D A [(h0, .inr (11, [.ref xt, .int 11, .ref xk, .ref xp, .ref xm, .ref xc, .ref xl, .ref xr, .int 0, .int (-1), .int 0, .int 0, .int 0, .int 0, .long 0, .int 0, .long 0])), (xt, .inl (xkt, 2000, .inl f_15))] := hD
  refine lv_aload_n hx hb dX11_putFour_30 rfl (lv_at hl 1 rfl) ?_
  refine lv_dup hx hb dX11_putFour_31 rfl ?_
  refine va_get (D := (dC, dI)) (ci := 11) (v := .int 11) (C := RX11) (T := TX11) (N := 17) hx hb hA zin_X11 hown hK hP 0 rfl rfl 1 (by decide) (hA _ wi_585) (fun _ h9 => h9) rfl dX11_putFour_32 ?_
  refine lv_iconst (v := 1) hx hb dX11_putFour_35 (by decide) ?_
  refine lv_iadd hx hb dX11_putFour_36 ?_
  refine lv_topi (fun x_16 ex_16 => ?_)
  obtain rfl : x_16 = 12 := ex_16.trans (by decide)
  refine va_put (D := (dC, dI)) (ci := 11) (v := .int 12) (ty := .int) (C := RX11) (T := TX11) (N := 17) hx hb hA zin_X11 tyX11 tyX11_ok nmX11 hown hK hP hD hS 0 rfl rfl 1 (by decide) (hA _ wi_585) (fun _ h9 => h9) rfl (by decide +kernel) rfl rfl (Nat.le_of_ble_eq_true rfl) dX11_putFour_37 (fun H locs hP hD hS => ?_)
  have hP : va_P (dC, dI) vwCl [(h0, .inr (11, [.ref xt, .int 12, .ref xk, .ref xp, .ref xm, .ref xc, .ref xl, .ref xr, .int 0, .int (-1), .int 0, .int 0, .int 0, .int 0, .long 0, .int 0, .long 0])), (xt, .inl (xkt, 2000, .inl f_15))] H := hP
  have hD : va_D A [(h0, .inr (11, [.ref xt, .int 12, .ref xk, .ref xp, .ref xm, .ref xc, .ref xl, .ref xr, .int 0, .int (-1), .int 0, .int 0, .int 0, .int 0, .long 0, .int 0, .long 0])), (xt, .inl (xkt, 2000, .inl f_15))] := hD
  refine lv_iinc (v := (-8)) (lv' := [(2, .int (-8)), (0, .ref h0), (1, .int b)]) hx hb dX11_putFour_40 hl (k := 0) rfl (by decide) (by decide) rfl (fun ls hl => ?_)
  refine lv_goto (tgt := 3) hx hb dX11_putFour_43 (by decide) ?_
  refine lv_iload_n hx hb dX11_putFour_3 rfl (lv_at hl 0 rfl) ?_
  refine lv_if_lt (tgt := 46) hx hb dX11_putFour_4 (by decide) (fun _ => ?_) (fun c_0 => absurd (by decide) c_0)
  have hP9 := hP.sub (ws' := [(h0, .inr (11, [.ref xt, .int 12, .ref xk, .ref xp, .ref xm, .ref xc, .ref xl, .ref xr, .int 0, .int (-1), .int 0, .int 0, .int 0, .int 0, .long 0, .int 0, .long 0])), (xt, .inl (xkt, 2000, .inl f_15))]) [0, 1] rfl
  have hD9 := hD.sub (ws' := [(h0, .inr (11, [.ref xt, .int 12, .ref xk, .ref xp, .ref xm, .ref xc, .ref xl, .ref xr, .int 0, .int (-1), .int 0, .int 0, .int 0, .int 0, .long 0, .int 0, .long 0])), (xt, .inl (xkt, 2000, .inl f_15))]) [0, 1] (by decide) rfl
  have hK9 := hK.sub (tys' := [(xkt, .byte)]) [0] rfl
  exact W.vret hx hb hr (fun t ht hW => ⟨⟨(f_15), rfl, trivial, by rw [ht]; exact hP9, va_K.moved hW.alike hK9, hD9⟩, hS.F ht⟩) hS.2.2 dX11_putFour_46
set_option maxHeartbeats 4000000 in
set_option maxRecDepth 100000 in
theorem c_X11_putFour_12 (l : Launch) (dC : Nat → ClassId) (dI : Nat → Nat → Nat) (h0 : Nat) (xt : Nat) (xk : Nat) (xp : Nat) (xm : Nat) (xc : Nat) (xl : Nat) (xr : Nat) (xkt : ClassId) (g : Nat → Int32) (b : Int32) (sz : Nat)  : Met l yX11_putFour (Cond.code yX11_putFour cX11_putFour 3 none :: zw) ({ frames := 8, cells := 0, slots := 0, locals := 200 }) (va_Pc [.ref h0, .int b] (zP dC dI sz [(xkt, .byte)] [(h0, .inr (11, [.ref xt, .int 12, .ref xk, .ref xp, .ref xm, .ref xc, .ref xl, .ref xr, .int 0, .int (-1), .int 0, .int 0, .int 0, .int 0, .long 0, .int 0, .long 0])), (xt, .inl (xkt, 2000, .inl g))])) (va_Qv (fun u : Nat → Int32 => match u with | g2 => True) (fun u => match u with | g2 => zQ dC dI (va_A [(h0, .inr (11, [.ref xt, .int 12, .ref xk, .ref xp, .ref xm, .ref xc, .ref xl, .ref xr, .int 0, .int (-1), .int 0, .int 0, .int 0, .int 0, .long 0, .int 0, .long 0])), (xt, .inl (xkt, 2000, .inl g))] sz) [(xkt, .byte)] [(h0, .inr (11, [.ref xt, .int 16, .ref xk, .ref xp, .ref xm, .ref xc, .ref xl, .ref xr, .int 0, .int (-1), .int 0, .int 0, .int 0, .int 0, .long 0, .int 0, .long 0])), (xt, .inl (xkt, 2000, .inl g2))]) (va_A [(h0, .inr (11, [.ref xt, .int 12, .ref xk, .ref xp, .ref xm, .ref xc, .ref xl, .ref xr, .int 0, .int (-1), .int 0, .int 0, .int 0, .int 0, .long 0, .int 0, .long 0])), (xt, .inl (xkt, 2000, .inl g))] sz)) 0 0 (va_A [(h0, .inr (11, [.ref xt, .int 12, .ref xk, .ref xp, .ref xm, .ref xc, .ref xl, .ref xr, .int 0, .int (-1), .int 0, .int 0, .int 0, .int 0, .long 0, .int 0, .long 0])), (xt, .inl (xkt, 2000, .inl g))] sz) := by
  refine Met.ofW (cc := cX11_putFour) (maxL := 3) (ret := none) (by decide) rfl ?_
  intro p e s m args below meth c s₁ B hml hv
  obtain ⟨rfl, hsz, hP, hK, hD0, hN, hT⟩ := hv
  have hx := B.exec
  have hb := B.bytes
  have hr := B.returns
  have hts := atoms_spec (ws := Cond.code yX11_putFour cX11_putFour 3 none :: zw) B.pre
  have hA : ∀ w ∈ zw, w.before _ s = true := fun w h => hts w (List.mem_cons_of_mem _ h)
  have hown : s.vm.findClass RX11 = some m.cls := findClass_of_methodNamed B.named
  have hlocks := B.notSynchronized
  subst hsz
  have hD := hD0.self (sz := s.heap.size)
  generalize hAe : va_A [(h0, .inr (11, [.ref xt, .int 12, .ref xk, .ref xp, .ref xm, .ref xc, .ref xl, .ref xr, .int 0, .int (-1), .int 0, .int 0, .int 0, .int 0, .long 0, .int 0, .long 0])), (xt, .inl (xkt, 2000, .inl g))] s.heap.size = A at hD hT ⊢
  have hAA : ∀ q : Nat, s.heap.size ≤ q → A q := fun q h => by rw [← hAe]; exact Or.inr h
  have hS : va_S A s.heap s.heap [] := va_S.rf
  have hl := lv_entry ([.ref h0, .int b]) (n := 3) (Nat.le_of_ble_eq_true rfl)
  rw [lg_entry_eq]
  generalize (lg_sl ([.ref h0, .int b]) ++ List.replicate (3 - (lg_sl ([.ref h0, .int b])).length) Slot.unset).toArray = ls at hl ⊢
  have hl : lv_has ls 3 [(0, .ref h0), (1, .int b)] := hl
  refine lv_bipush (v := 24) hx hb dX11_putFour_0 (by decide) ?_
  refine lv_istore_n (lv' := [(2, .int 24), (0, .ref h0), (1, .int b)]) hx hb dX11_putFour_2 rfl hl (by decide) rfl (fun ls hl => ?_)
  refine lv_iload_n hx hb dX11_putFour_3 rfl (lv_at hl 0 rfl) ?_
  refine lv_if_lt (tgt := 46) hx hb dX11_putFour_4 (by decide) (fun c_0 => absurd c_0 (by decide)) (fun _ => ?_)
  refine lv_aload_n hx hb dX11_putFour_7 rfl (lv_at hl 1 rfl) ?_
  refine va_get (D := (dC, dI)) (ci := 11) (v := .int 12) (C := RX11) (T := TX11) (N := 17) hx hb hA zin_X11 hown hK hP 0 rfl rfl 1 (by decide) (hA _ wi_585) (fun _ h9 => h9) rfl dX11_putFour_8 ?_
  refine lv_sipush (v := 2000) hx hb dX11_putFour_11 (by decide) ?_
  refine lv_icmp_ge (tgt := 46) hx hb dX11_putFour_14 (by decide) (fun c_0 => absurd c_0 (by decide)) (fun _ => ?_)
  refine lv_aload_n hx hb dX11_putFour_17 rfl (lv_at hl 1 rfl) ?_
  refine va_get (D := (dC, dI)) (ci := 11) (v := .ref xt) (C := RX11) (T := TX11) (N := 17) hx hb hA zin_X11 hown hK hP 0 rfl rfl 0 (by decide) (hA _ wi_584) (fun _ h9 => h9) rfl dX11_putFour_18 ?_
  refine lv_aload_n hx hb dX11_putFour_21 rfl (lv_at hl 1 rfl) ?_
  refine va_get (D := (dC, dI)) (ci := 11) (v := .int 12) (C := RX11) (T := TX11) (N := 17) hx hb hA zin_X11 hown hK hP 0 rfl rfl 1 (by decide) (hA _ wi_585) (fun _ h9 => h9) rfl dX11_putFour_22 ?_
  refine lv_iload_n hx hb dX11_putFour_25 rfl (lv_at hl 2 rfl) ?_
  refine lv_iload_n hx hb dX11_putFour_26 rfl (lv_at hl 0 rfl) ?_
  obtain ⟨x_1, ex_1⟩ : ∃ z : Int32, z = (Int32.toUInt32 b >>> (Int32.toUInt32 24 &&& Int32.toUInt32 31)).toInt32 := ⟨_, rfl⟩
  refine lv_iushr (v := x_1) hx hb dX11_putFour_27 ex_1.symm ?_
  obtain ⟨x_2, ex_2⟩ : ∃ z : Int32, z = (Int32.toInt8 x_1).toInt32 := ⟨_, rfl⟩
  refine lv_i2b (v := x_2) hx hb dX11_putFour_28 ex_2.symm ?_
  refine va_bast hx hb hK hP hD hS 1 0 rfl rfl (by unfold vp_in; decide) dX11_putFour_29 (fun H locs hP hD hS => ?_)
  obtain ⟨f_3, ef_3⟩ : ∃ gz9 : Nat → Int32, gz9 = upd g (Int32.toNatClampNeg 12) (vp_nar .byte x_2) := ⟨_, rfl⟩
  rw [← ef_3] at hP hD
  have hP : va_P (dC, dI) vwCl [(h0, .inr (11, [.ref xt, .int 12, .ref xk, .ref xp, .ref xm, .ref xc, .ref xl, .ref xr, .int 0, .int (-1), .int 0, .int 0, .int 0, .int 0, .long 0, .int 0, .long 0])), (xt, .inl (xkt, 2000, .inl f_3))] H := hP
  have hD : va_D A [(h0, .inr (11, [.ref xt, .int 12, .ref xk, .ref xp, .ref xm, .ref xc, .ref xl, .ref xr, .int 0, .int (-1), .int 0, .int 0, .int 0, .int 0, .long 0, .int 0, .long 0])), (xt, .inl (xkt, 2000, .inl f_3))] := hD
  refine lv_aload_n hx hb dX11_putFour_30 rfl (lv_at hl 1 rfl) ?_
  refine lv_dup hx hb dX11_putFour_31 rfl ?_
  refine va_get (D := (dC, dI)) (ci := 11) (v := .int 12) (C := RX11) (T := TX11) (N := 17) hx hb hA zin_X11 hown hK hP 0 rfl rfl 1 (by decide) (hA _ wi_585) (fun _ h9 => h9) rfl dX11_putFour_32 ?_
  refine lv_iconst (v := 1) hx hb dX11_putFour_35 (by decide) ?_
  refine lv_iadd hx hb dX11_putFour_36 ?_
  refine lv_topi (fun x_4 ex_4 => ?_)
  obtain rfl : x_4 = 13 := ex_4.trans (by decide)
  refine va_put (D := (dC, dI)) (ci := 11) (v := .int 13) (ty := .int) (C := RX11) (T := TX11) (N := 17) hx hb hA zin_X11 tyX11 tyX11_ok nmX11 hown hK hP hD hS 0 rfl rfl 1 (by decide) (hA _ wi_585) (fun _ h9 => h9) rfl (by decide +kernel) rfl rfl (Nat.le_of_ble_eq_true rfl) dX11_putFour_37 (fun H locs hP hD hS => ?_)
  have hP : va_P (dC, dI) vwCl [(h0, .inr (11, [.ref xt, .int 13, .ref xk, .ref xp, .ref xm, .ref xc, .ref xl, .ref xr, .int 0, .int (-1), .int 0, .int 0, .int 0, .int 0, .long 0, .int 0, .long 0])), (xt, .inl (xkt, 2000, .inl f_3))] H := hP
  have hD : va_D A [(h0, .inr (11, [.ref xt, .int 13, .ref xk, .ref xp, .ref xm, .ref xc, .ref xl, .ref xr, .int 0, .int (-1), .int 0, .int 0, .int 0, .int 0, .long 0, .int 0, .long 0])), (xt, .inl (xkt, 2000, .inl f_3))] := hD
  refine lv_iinc (v := 16) (lv' := [(2, .int 16), (0, .ref h0), (1, .int b)]) hx hb dX11_putFour_40 hl (k := 0) rfl (by decide) (by decide) rfl (fun ls hl => ?_)
  refine lv_goto (tgt := 3) hx hb dX11_putFour_43 (by decide) ?_
  refine lv_iload_n hx hb dX11_putFour_3 rfl (lv_at hl 0 rfl) ?_
  refine lv_if_lt (tgt := 46) hx hb dX11_putFour_4 (by decide) (fun c_0 => absurd c_0 (by decide)) (fun _ => ?_)
  refine lv_aload_n hx hb dX11_putFour_7 rfl (lv_at hl 1 rfl) ?_
  refine va_get (D := (dC, dI)) (ci := 11) (v := .int 13) (C := RX11) (T := TX11) (N := 17) hx hb hA zin_X11 hown hK hP 0 rfl rfl 1 (by decide) (hA _ wi_585) (fun _ h9 => h9) rfl dX11_putFour_8 ?_
  refine lv_sipush (v := 2000) hx hb dX11_putFour_11 (by decide) ?_
  refine lv_icmp_ge (tgt := 46) hx hb dX11_putFour_14 (by decide) (fun c_0 => absurd c_0 (by decide)) (fun _ => ?_)
  refine lv_aload_n hx hb dX11_putFour_17 rfl (lv_at hl 1 rfl) ?_
  refine va_get (D := (dC, dI)) (ci := 11) (v := .ref xt) (C := RX11) (T := TX11) (N := 17) hx hb hA zin_X11 hown hK hP 0 rfl rfl 0 (by decide) (hA _ wi_584) (fun _ h9 => h9) rfl dX11_putFour_18 ?_
  refine lv_aload_n hx hb dX11_putFour_21 rfl (lv_at hl 1 rfl) ?_
  refine va_get (D := (dC, dI)) (ci := 11) (v := .int 13) (C := RX11) (T := TX11) (N := 17) hx hb hA zin_X11 hown hK hP 0 rfl rfl 1 (by decide) (hA _ wi_585) (fun _ h9 => h9) rfl dX11_putFour_22 ?_
  refine lv_iload_n hx hb dX11_putFour_25 rfl (lv_at hl 2 rfl) ?_
  refine lv_iload_n hx hb dX11_putFour_26 rfl (lv_at hl 0 rfl) ?_
  obtain ⟨x_5, ex_5⟩ : ∃ z : Int32, z = (Int32.toUInt32 b >>> (Int32.toUInt32 16 &&& Int32.toUInt32 31)).toInt32 := ⟨_, rfl⟩
  refine lv_iushr (v := x_5) hx hb dX11_putFour_27 ex_5.symm ?_
  obtain ⟨x_6, ex_6⟩ : ∃ z : Int32, z = (Int32.toInt8 x_5).toInt32 := ⟨_, rfl⟩
  refine lv_i2b (v := x_6) hx hb dX11_putFour_28 ex_6.symm ?_
  refine va_bast hx hb hK hP hD hS 1 0 rfl rfl (by unfold vp_in; decide) dX11_putFour_29 (fun H locs hP hD hS => ?_)
  obtain ⟨f_7, ef_7⟩ : ∃ gz9 : Nat → Int32, gz9 = upd f_3 (Int32.toNatClampNeg 13) (vp_nar .byte x_6) := ⟨_, rfl⟩
  rw [← ef_7] at hP hD
  have hP : va_P (dC, dI) vwCl [(h0, .inr (11, [.ref xt, .int 13, .ref xk, .ref xp, .ref xm, .ref xc, .ref xl, .ref xr, .int 0, .int (-1), .int 0, .int 0, .int 0, .int 0, .long 0, .int 0, .long 0])), (xt, .inl (xkt, 2000, .inl f_7))] H := hP
  have hD : va_D A [(h0, .inr (11, [.ref xt, .int 13, .ref xk, .ref xp, .ref xm, .ref xc, .ref xl, .ref xr, .int 0, .int (-1), .int 0, .int 0, .int 0, .int 0, .long 0, .int 0, .long 0])), (xt, .inl (xkt, 2000, .inl f_7))] := hD
  refine lv_aload_n hx hb dX11_putFour_30 rfl (lv_at hl 1 rfl) ?_
  refine lv_dup hx hb dX11_putFour_31 rfl ?_
  refine va_get (D := (dC, dI)) (ci := 11) (v := .int 13) (C := RX11) (T := TX11) (N := 17) hx hb hA zin_X11 hown hK hP 0 rfl rfl 1 (by decide) (hA _ wi_585) (fun _ h9 => h9) rfl dX11_putFour_32 ?_
  refine lv_iconst (v := 1) hx hb dX11_putFour_35 (by decide) ?_
  refine lv_iadd hx hb dX11_putFour_36 ?_
  refine lv_topi (fun x_8 ex_8 => ?_)
  obtain rfl : x_8 = 14 := ex_8.trans (by decide)
  refine va_put (D := (dC, dI)) (ci := 11) (v := .int 14) (ty := .int) (C := RX11) (T := TX11) (N := 17) hx hb hA zin_X11 tyX11 tyX11_ok nmX11 hown hK hP hD hS 0 rfl rfl 1 (by decide) (hA _ wi_585) (fun _ h9 => h9) rfl (by decide +kernel) rfl rfl (Nat.le_of_ble_eq_true rfl) dX11_putFour_37 (fun H locs hP hD hS => ?_)
  have hP : va_P (dC, dI) vwCl [(h0, .inr (11, [.ref xt, .int 14, .ref xk, .ref xp, .ref xm, .ref xc, .ref xl, .ref xr, .int 0, .int (-1), .int 0, .int 0, .int 0, .int 0, .long 0, .int 0, .long 0])), (xt, .inl (xkt, 2000, .inl f_7))] H := hP
  have hD : va_D A [(h0, .inr (11, [.ref xt, .int 14, .ref xk, .ref xp, .ref xm, .ref xc, .ref xl, .ref xr, .int 0, .int (-1), .int 0, .int 0, .int 0, .int 0, .long 0, .int 0, .long 0])), (xt, .inl (xkt, 2000, .inl f_7))] := hD
  refine lv_iinc (v := 8) (lv' := [(2, .int 8), (0, .ref h0), (1, .int b)]) hx hb dX11_putFour_40 hl (k := 0) rfl (by decide) (by decide) rfl (fun ls hl => ?_)
  refine lv_goto (tgt := 3) hx hb dX11_putFour_43 (by decide) ?_
  refine lv_iload_n hx hb dX11_putFour_3 rfl (lv_at hl 0 rfl) ?_
  refine lv_if_lt (tgt := 46) hx hb dX11_putFour_4 (by decide) (fun c_0 => absurd c_0 (by decide)) (fun _ => ?_)
  refine lv_aload_n hx hb dX11_putFour_7 rfl (lv_at hl 1 rfl) ?_
  refine va_get (D := (dC, dI)) (ci := 11) (v := .int 14) (C := RX11) (T := TX11) (N := 17) hx hb hA zin_X11 hown hK hP 0 rfl rfl 1 (by decide) (hA _ wi_585) (fun _ h9 => h9) rfl dX11_putFour_8 ?_
  refine lv_sipush (v := 2000) hx hb dX11_putFour_11 (by decide) ?_
  refine lv_icmp_ge (tgt := 46) hx hb dX11_putFour_14 (by decide) (fun c_0 => absurd c_0 (by decide)) (fun _ => ?_)
  refine lv_aload_n hx hb dX11_putFour_17 rfl (lv_at hl 1 rfl) ?_
  refine va_get (D := (dC, dI)) (ci := 11) (v := .ref xt) (C := RX11) (T := TX11) (N := 17) hx hb hA zin_X11 hown hK hP 0 rfl rfl 0 (by decide) (hA _ wi_584) (fun _ h9 => h9) rfl dX11_putFour_18 ?_
  refine lv_aload_n hx hb dX11_putFour_21 rfl (lv_at hl 1 rfl) ?_
  refine va_get (D := (dC, dI)) (ci := 11) (v := .int 14) (C := RX11) (T := TX11) (N := 17) hx hb hA zin_X11 hown hK hP 0 rfl rfl 1 (by decide) (hA _ wi_585) (fun _ h9 => h9) rfl dX11_putFour_22 ?_
  refine lv_iload_n hx hb dX11_putFour_25 rfl (lv_at hl 2 rfl) ?_
  refine lv_iload_n hx hb dX11_putFour_26 rfl (lv_at hl 0 rfl) ?_
  obtain ⟨x_9, ex_9⟩ : ∃ z : Int32, z = (Int32.toUInt32 b >>> (Int32.toUInt32 8 &&& Int32.toUInt32 31)).toInt32 := ⟨_, rfl⟩
  refine lv_iushr (v := x_9) hx hb dX11_putFour_27 ex_9.symm ?_
  obtain ⟨x_10, ex_10⟩ : ∃ z : Int32, z = (Int32.toInt8 x_9).toInt32 := ⟨_, rfl⟩
  refine lv_i2b (v := x_10) hx hb dX11_putFour_28 ex_10.symm ?_
  refine va_bast hx hb hK hP hD hS 1 0 rfl rfl (by unfold vp_in; decide) dX11_putFour_29 (fun H locs hP hD hS => ?_)
  obtain ⟨f_11, ef_11⟩ : ∃ gz9 : Nat → Int32, gz9 = upd f_7 (Int32.toNatClampNeg 14) (vp_nar .byte x_10) := ⟨_, rfl⟩
  rw [← ef_11] at hP hD
  have hP : va_P (dC, dI) vwCl [(h0, .inr (11, [.ref xt, .int 14, .ref xk, .ref xp, .ref xm, .ref xc, .ref xl, .ref xr, .int 0, .int (-1), .int 0, .int 0, .int 0, .int 0, .long 0, .int 0, .long 0])), (xt, .inl (xkt, 2000, .inl f_11))] H := hP
  have hD : va_D A [(h0, .inr (11, [.ref xt, .int 14, .ref xk, .ref xp, .ref xm, .ref xc, .ref xl, .ref xr, .int 0, .int (-1), .int 0, .int 0, .int 0, .int 0, .long 0, .int 0, .long 0])), (xt, .inl (xkt, 2000, .inl f_11))] := hD
  refine lv_aload_n hx hb dX11_putFour_30 rfl (lv_at hl 1 rfl) ?_
  refine lv_dup hx hb dX11_putFour_31 rfl ?_
  refine va_get (D := (dC, dI)) (ci := 11) (v := .int 14) (C := RX11) (T := TX11) (N := 17) hx hb hA zin_X11 hown hK hP 0 rfl rfl 1 (by decide) (hA _ wi_585) (fun _ h9 => h9) rfl dX11_putFour_32 ?_
  refine lv_iconst (v := 1) hx hb dX11_putFour_35 (by decide) ?_
  refine lv_iadd hx hb dX11_putFour_36 ?_
  refine lv_topi (fun x_12 ex_12 => ?_)
  obtain rfl : x_12 = 15 := ex_12.trans (by decide)
  refine va_put (D := (dC, dI)) (ci := 11) (v := .int 15) (ty := .int) (C := RX11) (T := TX11) (N := 17) hx hb hA zin_X11 tyX11 tyX11_ok nmX11 hown hK hP hD hS 0 rfl rfl 1 (by decide) (hA _ wi_585) (fun _ h9 => h9) rfl (by decide +kernel) rfl rfl (Nat.le_of_ble_eq_true rfl) dX11_putFour_37 (fun H locs hP hD hS => ?_)
  have hP : va_P (dC, dI) vwCl [(h0, .inr (11, [.ref xt, .int 15, .ref xk, .ref xp, .ref xm, .ref xc, .ref xl, .ref xr, .int 0, .int (-1), .int 0, .int 0, .int 0, .int 0, .long 0, .int 0, .long 0])), (xt, .inl (xkt, 2000, .inl f_11))] H := hP
  have hD : va_D A [(h0, .inr (11, [.ref xt, .int 15, .ref xk, .ref xp, .ref xm, .ref xc, .ref xl, .ref xr, .int 0, .int (-1), .int 0, .int 0, .int 0, .int 0, .long 0, .int 0, .long 0])), (xt, .inl (xkt, 2000, .inl f_11))] := hD
  refine lv_iinc (v := 0) (lv' := [(2, .int 0), (0, .ref h0), (1, .int b)]) hx hb dX11_putFour_40 hl (k := 0) rfl (by decide) (by decide) rfl (fun ls hl => ?_)
  refine lv_goto (tgt := 3) hx hb dX11_putFour_43 (by decide) ?_
  refine lv_iload_n hx hb dX11_putFour_3 rfl (lv_at hl 0 rfl) ?_
  refine lv_if_lt (tgt := 46) hx hb dX11_putFour_4 (by decide) (fun c_0 => absurd c_0 (by decide)) (fun _ => ?_)
  refine lv_aload_n hx hb dX11_putFour_7 rfl (lv_at hl 1 rfl) ?_
  refine va_get (D := (dC, dI)) (ci := 11) (v := .int 15) (C := RX11) (T := TX11) (N := 17) hx hb hA zin_X11 hown hK hP 0 rfl rfl 1 (by decide) (hA _ wi_585) (fun _ h9 => h9) rfl dX11_putFour_8 ?_
  refine lv_sipush (v := 2000) hx hb dX11_putFour_11 (by decide) ?_
  refine lv_icmp_ge (tgt := 46) hx hb dX11_putFour_14 (by decide) (fun c_0 => absurd c_0 (by decide)) (fun _ => ?_)
  refine lv_aload_n hx hb dX11_putFour_17 rfl (lv_at hl 1 rfl) ?_
  refine va_get (D := (dC, dI)) (ci := 11) (v := .ref xt) (C := RX11) (T := TX11) (N := 17) hx hb hA zin_X11 hown hK hP 0 rfl rfl 0 (by decide) (hA _ wi_584) (fun _ h9 => h9) rfl dX11_putFour_18 ?_
  refine lv_aload_n hx hb dX11_putFour_21 rfl (lv_at hl 1 rfl) ?_
  refine va_get (D := (dC, dI)) (ci := 11) (v := .int 15) (C := RX11) (T := TX11) (N := 17) hx hb hA zin_X11 hown hK hP 0 rfl rfl 1 (by decide) (hA _ wi_585) (fun _ h9 => h9) rfl dX11_putFour_22 ?_
  refine lv_iload_n hx hb dX11_putFour_25 rfl (lv_at hl 2 rfl) ?_
  refine lv_iload_n hx hb dX11_putFour_26 rfl (lv_at hl 0 rfl) ?_
  obtain ⟨x_13, ex_13⟩ : ∃ z : Int32, z = (Int32.toUInt32 b >>> (Int32.toUInt32 0 &&& Int32.toUInt32 31)).toInt32 := ⟨_, rfl⟩
  refine lv_iushr (v := x_13) hx hb dX11_putFour_27 ex_13.symm ?_
  obtain ⟨x_14, ex_14⟩ : ∃ z : Int32, z = (Int32.toInt8 x_13).toInt32 := ⟨_, rfl⟩
  refine lv_i2b (v := x_14) hx hb dX11_putFour_28 ex_14.symm ?_
  refine va_bast hx hb hK hP hD hS 1 0 rfl rfl (by unfold vp_in; decide) dX11_putFour_29 (fun H locs hP hD hS => ?_)
  obtain ⟨f_15, ef_15⟩ : ∃ gz9 : Nat → Int32, gz9 = upd f_11 (Int32.toNatClampNeg 15) (vp_nar .byte x_14) := ⟨_, rfl⟩
  rw [← ef_15] at hP hD
  have hP : va_P (dC, dI) vwCl [(h0, .inr (11, [.ref xt, .int 15, .ref xk, .ref xp, .ref xm, .ref xc, .ref xl, .ref xr, .int 0, .int (-1), .int 0, .int 0, .int 0, .int 0, .long 0, .int 0, .long 0])), (xt, .inl (xkt, 2000, .inl f_15))] H := hP
  have hD : va_D A [(h0, .inr (11, [.ref xt, .int 15, .ref xk, .ref xp, .ref xm, .ref xc, .ref xl, .ref xr, .int 0, .int (-1), .int 0, .int 0, .int 0, .int 0, .long 0, .int 0, .long 0])), (xt, .inl (xkt, 2000, .inl f_15))] := hD
  refine lv_aload_n hx hb dX11_putFour_30 rfl (lv_at hl 1 rfl) ?_
  refine lv_dup hx hb dX11_putFour_31 rfl ?_
  refine va_get (D := (dC, dI)) (ci := 11) (v := .int 15) (C := RX11) (T := TX11) (N := 17) hx hb hA zin_X11 hown hK hP 0 rfl rfl 1 (by decide) (hA _ wi_585) (fun _ h9 => h9) rfl dX11_putFour_32 ?_
  refine lv_iconst (v := 1) hx hb dX11_putFour_35 (by decide) ?_
  refine lv_iadd hx hb dX11_putFour_36 ?_
  refine lv_topi (fun x_16 ex_16 => ?_)
  obtain rfl : x_16 = 16 := ex_16.trans (by decide)
  refine va_put (D := (dC, dI)) (ci := 11) (v := .int 16) (ty := .int) (C := RX11) (T := TX11) (N := 17) hx hb hA zin_X11 tyX11 tyX11_ok nmX11 hown hK hP hD hS 0 rfl rfl 1 (by decide) (hA _ wi_585) (fun _ h9 => h9) rfl (by decide +kernel) rfl rfl (Nat.le_of_ble_eq_true rfl) dX11_putFour_37 (fun H locs hP hD hS => ?_)
  have hP : va_P (dC, dI) vwCl [(h0, .inr (11, [.ref xt, .int 16, .ref xk, .ref xp, .ref xm, .ref xc, .ref xl, .ref xr, .int 0, .int (-1), .int 0, .int 0, .int 0, .int 0, .long 0, .int 0, .long 0])), (xt, .inl (xkt, 2000, .inl f_15))] H := hP
  have hD : va_D A [(h0, .inr (11, [.ref xt, .int 16, .ref xk, .ref xp, .ref xm, .ref xc, .ref xl, .ref xr, .int 0, .int (-1), .int 0, .int 0, .int 0, .int 0, .long 0, .int 0, .long 0])), (xt, .inl (xkt, 2000, .inl f_15))] := hD
  refine lv_iinc (v := (-8)) (lv' := [(2, .int (-8)), (0, .ref h0), (1, .int b)]) hx hb dX11_putFour_40 hl (k := 0) rfl (by decide) (by decide) rfl (fun ls hl => ?_)
  refine lv_goto (tgt := 3) hx hb dX11_putFour_43 (by decide) ?_
  refine lv_iload_n hx hb dX11_putFour_3 rfl (lv_at hl 0 rfl) ?_
  refine lv_if_lt (tgt := 46) hx hb dX11_putFour_4 (by decide) (fun _ => ?_) (fun c_0 => absurd (by decide) c_0)
  have hP9 := hP.sub (ws' := [(h0, .inr (11, [.ref xt, .int 16, .ref xk, .ref xp, .ref xm, .ref xc, .ref xl, .ref xr, .int 0, .int (-1), .int 0, .int 0, .int 0, .int 0, .long 0, .int 0, .long 0])), (xt, .inl (xkt, 2000, .inl f_15))]) [0, 1] rfl
  have hD9 := hD.sub (ws' := [(h0, .inr (11, [.ref xt, .int 16, .ref xk, .ref xp, .ref xm, .ref xc, .ref xl, .ref xr, .int 0, .int (-1), .int 0, .int 0, .int 0, .int 0, .long 0, .int 0, .long 0])), (xt, .inl (xkt, 2000, .inl f_15))]) [0, 1] (by decide) rfl
  have hK9 := hK.sub (tys' := [(xkt, .byte)]) [0] rfl
  exact W.vret hx hb hr (fun t ht hW => ⟨⟨(f_15), rfl, trivial, by rw [ht]; exact hP9, va_K.moved hW.alike hK9, hD9⟩, hS.F ht⟩) hS.2.2 dX11_putFour_46
set_option maxHeartbeats 4000000 in
set_option maxRecDepth 100000 in
theorem c_X11_putFour_16 (l : Launch) (dC : Nat → ClassId) (dI : Nat → Nat → Nat) (h0 : Nat) (xt : Nat) (xk : Nat) (xp : Nat) (xm : Nat) (xc : Nat) (xl : Nat) (xr : Nat) (xkt : ClassId) (g : Nat → Int32) (b : Int32) (sz : Nat)  : Met l yX11_putFour (Cond.code yX11_putFour cX11_putFour 3 none :: zw) ({ frames := 8, cells := 0, slots := 0, locals := 200 }) (va_Pc [.ref h0, .int b] (zP dC dI sz [(xkt, .byte)] [(h0, .inr (11, [.ref xt, .int 16, .ref xk, .ref xp, .ref xm, .ref xc, .ref xl, .ref xr, .int 0, .int (-1), .int 0, .int 0, .int 0, .int 0, .long 0, .int 0, .long 0])), (xt, .inl (xkt, 2000, .inl g))])) (va_Qv (fun u : Nat → Int32 => match u with | g2 => True) (fun u => match u with | g2 => zQ dC dI (va_A [(h0, .inr (11, [.ref xt, .int 16, .ref xk, .ref xp, .ref xm, .ref xc, .ref xl, .ref xr, .int 0, .int (-1), .int 0, .int 0, .int 0, .int 0, .long 0, .int 0, .long 0])), (xt, .inl (xkt, 2000, .inl g))] sz) [(xkt, .byte)] [(h0, .inr (11, [.ref xt, .int 20, .ref xk, .ref xp, .ref xm, .ref xc, .ref xl, .ref xr, .int 0, .int (-1), .int 0, .int 0, .int 0, .int 0, .long 0, .int 0, .long 0])), (xt, .inl (xkt, 2000, .inl g2))]) (va_A [(h0, .inr (11, [.ref xt, .int 16, .ref xk, .ref xp, .ref xm, .ref xc, .ref xl, .ref xr, .int 0, .int (-1), .int 0, .int 0, .int 0, .int 0, .long 0, .int 0, .long 0])), (xt, .inl (xkt, 2000, .inl g))] sz)) 0 0 (va_A [(h0, .inr (11, [.ref xt, .int 16, .ref xk, .ref xp, .ref xm, .ref xc, .ref xl, .ref xr, .int 0, .int (-1), .int 0, .int 0, .int 0, .int 0, .long 0, .int 0, .long 0])), (xt, .inl (xkt, 2000, .inl g))] sz) := by
  refine Met.ofW (cc := cX11_putFour) (maxL := 3) (ret := none) (by decide) rfl ?_
  intro p e s m args below meth c s₁ B hml hv
  obtain ⟨rfl, hsz, hP, hK, hD0, hN, hT⟩ := hv
  have hx := B.exec
  have hb := B.bytes
  have hr := B.returns
  have hts := atoms_spec (ws := Cond.code yX11_putFour cX11_putFour 3 none :: zw) B.pre
  have hA : ∀ w ∈ zw, w.before _ s = true := fun w h => hts w (List.mem_cons_of_mem _ h)
  have hown : s.vm.findClass RX11 = some m.cls := findClass_of_methodNamed B.named
  have hlocks := B.notSynchronized
  subst hsz
  have hD := hD0.self (sz := s.heap.size)
  generalize hAe : va_A [(h0, .inr (11, [.ref xt, .int 16, .ref xk, .ref xp, .ref xm, .ref xc, .ref xl, .ref xr, .int 0, .int (-1), .int 0, .int 0, .int 0, .int 0, .long 0, .int 0, .long 0])), (xt, .inl (xkt, 2000, .inl g))] s.heap.size = A at hD hT ⊢
  have hAA : ∀ q : Nat, s.heap.size ≤ q → A q := fun q h => by rw [← hAe]; exact Or.inr h
  have hS : va_S A s.heap s.heap [] := va_S.rf
  have hl := lv_entry ([.ref h0, .int b]) (n := 3) (Nat.le_of_ble_eq_true rfl)
  rw [lg_entry_eq]
  generalize (lg_sl ([.ref h0, .int b]) ++ List.replicate (3 - (lg_sl ([.ref h0, .int b])).length) Slot.unset).toArray = ls at hl ⊢
  have hl : lv_has ls 3 [(0, .ref h0), (1, .int b)] := hl
  refine lv_bipush (v := 24) hx hb dX11_putFour_0 (by decide) ?_
  refine lv_istore_n (lv' := [(2, .int 24), (0, .ref h0), (1, .int b)]) hx hb dX11_putFour_2 rfl hl (by decide) rfl (fun ls hl => ?_)
  refine lv_iload_n hx hb dX11_putFour_3 rfl (lv_at hl 0 rfl) ?_
  refine lv_if_lt (tgt := 46) hx hb dX11_putFour_4 (by decide) (fun c_0 => absurd c_0 (by decide)) (fun _ => ?_)
  refine lv_aload_n hx hb dX11_putFour_7 rfl (lv_at hl 1 rfl) ?_
  refine va_get (D := (dC, dI)) (ci := 11) (v := .int 16) (C := RX11) (T := TX11) (N := 17) hx hb hA zin_X11 hown hK hP 0 rfl rfl 1 (by decide) (hA _ wi_585) (fun _ h9 => h9) rfl dX11_putFour_8 ?_
  refine lv_sipush (v := 2000) hx hb dX11_putFour_11 (by decide) ?_
  refine lv_icmp_ge (tgt := 46) hx hb dX11_putFour_14 (by decide) (fun c_0 => absurd c_0 (by decide)) (fun _ => ?_)
  refine lv_aload_n hx hb dX11_putFour_17 rfl (lv_at hl 1 rfl) ?_
  refine va_get (D := (dC, dI)) (ci := 11) (v := .ref xt) (C := RX11) (T := TX11) (N := 17) hx hb hA zin_X11 hown hK hP 0 rfl rfl 0 (by decide) (hA _ wi_584) (fun _ h9 => h9) rfl dX11_putFour_18 ?_
  refine lv_aload_n hx hb dX11_putFour_21 rfl (lv_at hl 1 rfl) ?_
  refine va_get (D := (dC, dI)) (ci := 11) (v := .int 16) (C := RX11) (T := TX11) (N := 17) hx hb hA zin_X11 hown hK hP 0 rfl rfl 1 (by decide) (hA _ wi_585) (fun _ h9 => h9) rfl dX11_putFour_22 ?_
  refine lv_iload_n hx hb dX11_putFour_25 rfl (lv_at hl 2 rfl) ?_
  refine lv_iload_n hx hb dX11_putFour_26 rfl (lv_at hl 0 rfl) ?_
  obtain ⟨x_1, ex_1⟩ : ∃ z : Int32, z = (Int32.toUInt32 b >>> (Int32.toUInt32 24 &&& Int32.toUInt32 31)).toInt32 := ⟨_, rfl⟩
  refine lv_iushr (v := x_1) hx hb dX11_putFour_27 ex_1.symm ?_
  obtain ⟨x_2, ex_2⟩ : ∃ z : Int32, z = (Int32.toInt8 x_1).toInt32 := ⟨_, rfl⟩
  refine lv_i2b (v := x_2) hx hb dX11_putFour_28 ex_2.symm ?_
  refine va_bast hx hb hK hP hD hS 1 0 rfl rfl (by unfold vp_in; decide) dX11_putFour_29 (fun H locs hP hD hS => ?_)
  obtain ⟨f_3, ef_3⟩ : ∃ gz9 : Nat → Int32, gz9 = upd g (Int32.toNatClampNeg 16) (vp_nar .byte x_2) := ⟨_, rfl⟩
  rw [← ef_3] at hP hD
  have hP : va_P (dC, dI) vwCl [(h0, .inr (11, [.ref xt, .int 16, .ref xk, .ref xp, .ref xm, .ref xc, .ref xl, .ref xr, .int 0, .int (-1), .int 0, .int 0, .int 0, .int 0, .long 0, .int 0, .long 0])), (xt, .inl (xkt, 2000, .inl f_3))] H := hP
  have hD : va_D A [(h0, .inr (11, [.ref xt, .int 16, .ref xk, .ref xp, .ref xm, .ref xc, .ref xl, .ref xr, .int 0, .int (-1), .int 0, .int 0, .int 0, .int 0, .long 0, .int 0, .long 0])), (xt, .inl (xkt, 2000, .inl f_3))] := hD
  refine lv_aload_n hx hb dX11_putFour_30 rfl (lv_at hl 1 rfl) ?_
  refine lv_dup hx hb dX11_putFour_31 rfl ?_
  refine va_get (D := (dC, dI)) (ci := 11) (v := .int 16) (C := RX11) (T := TX11) (N := 17) hx hb hA zin_X11 hown hK hP 0 rfl rfl 1 (by decide) (hA _ wi_585) (fun _ h9 => h9) rfl dX11_putFour_32 ?_
  refine lv_iconst (v := 1) hx hb dX11_putFour_35 (by decide) ?_
  refine lv_iadd hx hb dX11_putFour_36 ?_
  refine lv_topi (fun x_4 ex_4 => ?_)
  obtain rfl : x_4 = 17 := ex_4.trans (by decide)
  refine va_put (D := (dC, dI)) (ci := 11) (v := .int 17) (ty := .int) (C := RX11) (T := TX11) (N := 17) hx hb hA zin_X11 tyX11 tyX11_ok nmX11 hown hK hP hD hS 0 rfl rfl 1 (by decide) (hA _ wi_585) (fun _ h9 => h9) rfl (by decide +kernel) rfl rfl (Nat.le_of_ble_eq_true rfl) dX11_putFour_37 (fun H locs hP hD hS => ?_)
  have hP : va_P (dC, dI) vwCl [(h0, .inr (11, [.ref xt, .int 17, .ref xk, .ref xp, .ref xm, .ref xc, .ref xl, .ref xr, .int 0, .int (-1), .int 0, .int 0, .int 0, .int 0, .long 0, .int 0, .long 0])), (xt, .inl (xkt, 2000, .inl f_3))] H := hP
  have hD : va_D A [(h0, .inr (11, [.ref xt, .int 17, .ref xk, .ref xp, .ref xm, .ref xc, .ref xl, .ref xr, .int 0, .int (-1), .int 0, .int 0, .int 0, .int 0, .long 0, .int 0, .long 0])), (xt, .inl (xkt, 2000, .inl f_3))] := hD
  refine lv_iinc (v := 16) (lv' := [(2, .int 16), (0, .ref h0), (1, .int b)]) hx hb dX11_putFour_40 hl (k := 0) rfl (by decide) (by decide) rfl (fun ls hl => ?_)
  refine lv_goto (tgt := 3) hx hb dX11_putFour_43 (by decide) ?_
  refine lv_iload_n hx hb dX11_putFour_3 rfl (lv_at hl 0 rfl) ?_
  refine lv_if_lt (tgt := 46) hx hb dX11_putFour_4 (by decide) (fun c_0 => absurd c_0 (by decide)) (fun _ => ?_)
  refine lv_aload_n hx hb dX11_putFour_7 rfl (lv_at hl 1 rfl) ?_
  refine va_get (D := (dC, dI)) (ci := 11) (v := .int 17) (C := RX11) (T := TX11) (N := 17) hx hb hA zin_X11 hown hK hP 0 rfl rfl 1 (by decide) (hA _ wi_585) (fun _ h9 => h9) rfl dX11_putFour_8 ?_
  refine lv_sipush (v := 2000) hx hb dX11_putFour_11 (by decide) ?_
  refine lv_icmp_ge (tgt := 46) hx hb dX11_putFour_14 (by decide) (fun c_0 => absurd c_0 (by decide)) (fun _ => ?_)
  refine lv_aload_n hx hb dX11_putFour_17 rfl (lv_at hl 1 rfl) ?_
  refine va_get (D := (dC, dI)) (ci := 11) (v := .ref xt) (C := RX11) (T := TX11) (N := 17) hx hb hA zin_X11 hown hK hP 0 rfl rfl 0 (by decide) (hA _ wi_584) (fun _ h9 => h9) rfl dX11_putFour_18 ?_
  refine lv_aload_n hx hb dX11_putFour_21 rfl (lv_at hl 1 rfl) ?_
  refine va_get (D := (dC, dI)) (ci := 11) (v := .int 17) (C := RX11) (T := TX11) (N := 17) hx hb hA zin_X11 hown hK hP 0 rfl rfl 1 (by decide) (hA _ wi_585) (fun _ h9 => h9) rfl dX11_putFour_22 ?_
  refine lv_iload_n hx hb dX11_putFour_25 rfl (lv_at hl 2 rfl) ?_
  refine lv_iload_n hx hb dX11_putFour_26 rfl (lv_at hl 0 rfl) ?_
  obtain ⟨x_5, ex_5⟩ : ∃ z : Int32, z = (Int32.toUInt32 b >>> (Int32.toUInt32 16 &&& Int32.toUInt32 31)).toInt32 := ⟨_, rfl⟩
  refine lv_iushr (v := x_5) hx hb dX11_putFour_27 ex_5.symm ?_
  obtain ⟨x_6, ex_6⟩ : ∃ z : Int32, z = (Int32.toInt8 x_5).toInt32 := ⟨_, rfl⟩
  refine lv_i2b (v := x_6) hx hb dX11_putFour_28 ex_6.symm ?_
  refine va_bast hx hb hK hP hD hS 1 0 rfl rfl (by unfold vp_in; decide) dX11_putFour_29 (fun H locs hP hD hS => ?_)
  obtain ⟨f_7, ef_7⟩ : ∃ gz9 : Nat → Int32, gz9 = upd f_3 (Int32.toNatClampNeg 17) (vp_nar .byte x_6) := ⟨_, rfl⟩
  rw [← ef_7] at hP hD
  have hP : va_P (dC, dI) vwCl [(h0, .inr (11, [.ref xt, .int 17, .ref xk, .ref xp, .ref xm, .ref xc, .ref xl, .ref xr, .int 0, .int (-1), .int 0, .int 0, .int 0, .int 0, .long 0, .int 0, .long 0])), (xt, .inl (xkt, 2000, .inl f_7))] H := hP
  have hD : va_D A [(h0, .inr (11, [.ref xt, .int 17, .ref xk, .ref xp, .ref xm, .ref xc, .ref xl, .ref xr, .int 0, .int (-1), .int 0, .int 0, .int 0, .int 0, .long 0, .int 0, .long 0])), (xt, .inl (xkt, 2000, .inl f_7))] := hD
  refine lv_aload_n hx hb dX11_putFour_30 rfl (lv_at hl 1 rfl) ?_
  refine lv_dup hx hb dX11_putFour_31 rfl ?_
  refine va_get (D := (dC, dI)) (ci := 11) (v := .int 17) (C := RX11) (T := TX11) (N := 17) hx hb hA zin_X11 hown hK hP 0 rfl rfl 1 (by decide) (hA _ wi_585) (fun _ h9 => h9) rfl dX11_putFour_32 ?_
  refine lv_iconst (v := 1) hx hb dX11_putFour_35 (by decide) ?_
  refine lv_iadd hx hb dX11_putFour_36 ?_
  refine lv_topi (fun x_8 ex_8 => ?_)
  obtain rfl : x_8 = 18 := ex_8.trans (by decide)
  refine va_put (D := (dC, dI)) (ci := 11) (v := .int 18) (ty := .int) (C := RX11) (T := TX11) (N := 17) hx hb hA zin_X11 tyX11 tyX11_ok nmX11 hown hK hP hD hS 0 rfl rfl 1 (by decide) (hA _ wi_585) (fun _ h9 => h9) rfl (by decide +kernel) rfl rfl (Nat.le_of_ble_eq_true rfl) dX11_putFour_37 (fun H locs hP hD hS => ?_)
  have hP : va_P (dC, dI) vwCl [(h0, .inr (11, [.ref xt, .int 18, .ref xk, .ref xp, .ref xm, .ref xc, .ref xl, .ref xr, .int 0, .int (-1), .int 0, .int 0, .int 0, .int 0, .long 0, .int 0, .long 0])), (xt, .inl (xkt, 2000, .inl f_7))] H := hP
  have hD : va_D A [(h0, .inr (11, [.ref xt, .int 18, .ref xk, .ref xp, .ref xm, .ref xc, .ref xl, .ref xr, .int 0, .int (-1), .int 0, .int 0, .int 0, .int 0, .long 0, .int 0, .long 0])), (xt, .inl (xkt, 2000, .inl f_7))] := hD
  refine lv_iinc (v := 8) (lv' := [(2, .int 8), (0, .ref h0), (1, .int b)]) hx hb dX11_putFour_40 hl (k := 0) rfl (by decide) (by decide) rfl (fun ls hl => ?_)
  refine lv_goto (tgt := 3) hx hb dX11_putFour_43 (by decide) ?_
  refine lv_iload_n hx hb dX11_putFour_3 rfl (lv_at hl 0 rfl) ?_
  refine lv_if_lt (tgt := 46) hx hb dX11_putFour_4 (by decide) (fun c_0 => absurd c_0 (by decide)) (fun _ => ?_)
  refine lv_aload_n hx hb dX11_putFour_7 rfl (lv_at hl 1 rfl) ?_
  refine va_get (D := (dC, dI)) (ci := 11) (v := .int 18) (C := RX11) (T := TX11) (N := 17) hx hb hA zin_X11 hown hK hP 0 rfl rfl 1 (by decide) (hA _ wi_585) (fun _ h9 => h9) rfl dX11_putFour_8 ?_
  refine lv_sipush (v := 2000) hx hb dX11_putFour_11 (by decide) ?_
  refine lv_icmp_ge (tgt := 46) hx hb dX11_putFour_14 (by decide) (fun c_0 => absurd c_0 (by decide)) (fun _ => ?_)
  refine lv_aload_n hx hb dX11_putFour_17 rfl (lv_at hl 1 rfl) ?_
  refine va_get (D := (dC, dI)) (ci := 11) (v := .ref xt) (C := RX11) (T := TX11) (N := 17) hx hb hA zin_X11 hown hK hP 0 rfl rfl 0 (by decide) (hA _ wi_584) (fun _ h9 => h9) rfl dX11_putFour_18 ?_
  refine lv_aload_n hx hb dX11_putFour_21 rfl (lv_at hl 1 rfl) ?_
  refine va_get (D := (dC, dI)) (ci := 11) (v := .int 18) (C := RX11) (T := TX11) (N := 17) hx hb hA zin_X11 hown hK hP 0 rfl rfl 1 (by decide) (hA _ wi_585) (fun _ h9 => h9) rfl dX11_putFour_22 ?_
  refine lv_iload_n hx hb dX11_putFour_25 rfl (lv_at hl 2 rfl) ?_
  refine lv_iload_n hx hb dX11_putFour_26 rfl (lv_at hl 0 rfl) ?_
  obtain ⟨x_9, ex_9⟩ : ∃ z : Int32, z = (Int32.toUInt32 b >>> (Int32.toUInt32 8 &&& Int32.toUInt32 31)).toInt32 := ⟨_, rfl⟩
  refine lv_iushr (v := x_9) hx hb dX11_putFour_27 ex_9.symm ?_
  obtain ⟨x_10, ex_10⟩ : ∃ z : Int32, z = (Int32.toInt8 x_9).toInt32 := ⟨_, rfl⟩
  refine lv_i2b (v := x_10) hx hb dX11_putFour_28 ex_10.symm ?_
  refine va_bast hx hb hK hP hD hS 1 0 rfl rfl (by unfold vp_in; decide) dX11_putFour_29 (fun H locs hP hD hS => ?_)
  obtain ⟨f_11, ef_11⟩ : ∃ gz9 : Nat → Int32, gz9 = upd f_7 (Int32.toNatClampNeg 18) (vp_nar .byte x_10) := ⟨_, rfl⟩
  rw [← ef_11] at hP hD
  have hP : va_P (dC, dI) vwCl [(h0, .inr (11, [.ref xt, .int 18, .ref xk, .ref xp, .ref xm, .ref xc, .ref xl, .ref xr, .int 0, .int (-1), .int 0, .int 0, .int 0, .int 0, .long 0, .int 0, .long 0])), (xt, .inl (xkt, 2000, .inl f_11))] H := hP
  have hD : va_D A [(h0, .inr (11, [.ref xt, .int 18, .ref xk, .ref xp, .ref xm, .ref xc, .ref xl, .ref xr, .int 0, .int (-1), .int 0, .int 0, .int 0, .int 0, .long 0, .int 0, .long 0])), (xt, .inl (xkt, 2000, .inl f_11))] := hD
  refine lv_aload_n hx hb dX11_putFour_30 rfl (lv_at hl 1 rfl) ?_
  refine lv_dup hx hb dX11_putFour_31 rfl ?_
  refine va_get (D := (dC, dI)) (ci := 11) (v := .int 18) (C := RX11) (T := TX11) (N := 17) hx hb hA zin_X11 hown hK hP 0 rfl rfl 1 (by decide) (hA _ wi_585) (fun _ h9 => h9) rfl dX11_putFour_32 ?_
  refine lv_iconst (v := 1) hx hb dX11_putFour_35 (by decide) ?_
  refine lv_iadd hx hb dX11_putFour_36 ?_
  refine lv_topi (fun x_12 ex_12 => ?_)
  obtain rfl : x_12 = 19 := ex_12.trans (by decide)
  refine va_put (D := (dC, dI)) (ci := 11) (v := .int 19) (ty := .int) (C := RX11) (T := TX11) (N := 17) hx hb hA zin_X11 tyX11 tyX11_ok nmX11 hown hK hP hD hS 0 rfl rfl 1 (by decide) (hA _ wi_585) (fun _ h9 => h9) rfl (by decide +kernel) rfl rfl (Nat.le_of_ble_eq_true rfl) dX11_putFour_37 (fun H locs hP hD hS => ?_)
  have hP : va_P (dC, dI) vwCl [(h0, .inr (11, [.ref xt, .int 19, .ref xk, .ref xp, .ref xm, .ref xc, .ref xl, .ref xr, .int 0, .int (-1), .int 0, .int 0, .int 0, .int 0, .long 0, .int 0, .long 0])), (xt, .inl (xkt, 2000, .inl f_11))] H := hP
  have hD : va_D A [(h0, .inr (11, [.ref xt, .int 19, .ref xk, .ref xp, .ref xm, .ref xc, .ref xl, .ref xr, .int 0, .int (-1), .int 0, .int 0, .int 0, .int 0, .long 0, .int 0, .long 0])), (xt, .inl (xkt, 2000, .inl f_11))] := hD
  refine lv_iinc (v := 0) (lv' := [(2, .int 0), (0, .ref h0), (1, .int b)]) hx hb dX11_putFour_40 hl (k := 0) rfl (by decide) (by decide) rfl (fun ls hl => ?_)
  refine lv_goto (tgt := 3) hx hb dX11_putFour_43 (by decide) ?_
  refine lv_iload_n hx hb dX11_putFour_3 rfl (lv_at hl 0 rfl) ?_
  refine lv_if_lt (tgt := 46) hx hb dX11_putFour_4 (by decide) (fun c_0 => absurd c_0 (by decide)) (fun _ => ?_)
  refine lv_aload_n hx hb dX11_putFour_7 rfl (lv_at hl 1 rfl) ?_
  refine va_get (D := (dC, dI)) (ci := 11) (v := .int 19) (C := RX11) (T := TX11) (N := 17) hx hb hA zin_X11 hown hK hP 0 rfl rfl 1 (by decide) (hA _ wi_585) (fun _ h9 => h9) rfl dX11_putFour_8 ?_
  refine lv_sipush (v := 2000) hx hb dX11_putFour_11 (by decide) ?_
  refine lv_icmp_ge (tgt := 46) hx hb dX11_putFour_14 (by decide) (fun c_0 => absurd c_0 (by decide)) (fun _ => ?_)
  refine lv_aload_n hx hb dX11_putFour_17 rfl (lv_at hl 1 rfl) ?_
  refine va_get (D := (dC, dI)) (ci := 11) (v := .ref xt) (C := RX11) (T := TX11) (N := 17) hx hb hA zin_X11 hown hK hP 0 rfl rfl 0 (by decide) (hA _ wi_584) (fun _ h9 => h9) rfl dX11_putFour_18 ?_
  refine lv_aload_n hx hb dX11_putFour_21 rfl (lv_at hl 1 rfl) ?_
  refine va_get (D := (dC, dI)) (ci := 11) (v := .int 19) (C := RX11) (T := TX11) (N := 17) hx hb hA zin_X11 hown hK hP 0 rfl rfl 1 (by decide) (hA _ wi_585) (fun _ h9 => h9) rfl dX11_putFour_22 ?_
  refine lv_iload_n hx hb dX11_putFour_25 rfl (lv_at hl 2 rfl) ?_
  refine lv_iload_n hx hb dX11_putFour_26 rfl (lv_at hl 0 rfl) ?_
  obtain ⟨x_13, ex_13⟩ : ∃ z : Int32, z = (Int32.toUInt32 b >>> (Int32.toUInt32 0 &&& Int32.toUInt32 31)).toInt32 := ⟨_, rfl⟩
  refine lv_iushr (v := x_13) hx hb dX11_putFour_27 ex_13.symm ?_
  obtain ⟨x_14, ex_14⟩ : ∃ z : Int32, z = (Int32.toInt8 x_13).toInt32 := ⟨_, rfl⟩
  refine lv_i2b (v := x_14) hx hb dX11_putFour_28 ex_14.symm ?_
  refine va_bast hx hb hK hP hD hS 1 0 rfl rfl (by unfold vp_in; decide) dX11_putFour_29 (fun H locs hP hD hS => ?_)
  obtain ⟨f_15, ef_15⟩ : ∃ gz9 : Nat → Int32, gz9 = upd f_11 (Int32.toNatClampNeg 19) (vp_nar .byte x_14) := ⟨_, rfl⟩
  rw [← ef_15] at hP hD
  have hP : va_P (dC, dI) vwCl [(h0, .inr (11, [.ref xt, .int 19, .ref xk, .ref xp, .ref xm, .ref xc, .ref xl, .ref xr, .int 0, .int (-1), .int 0, .int 0, .int 0, .int 0, .long 0, .int 0, .long 0])), (xt, .inl (xkt, 2000, .inl f_15))] H := hP
  have hD : va_D A [(h0, .inr (11, [.ref xt, .int 19, .ref xk, .ref xp, .ref xm, .ref xc, .ref xl, .ref xr, .int 0, .int (-1), .int 0, .int 0, .int 0, .int 0, .long 0, .int 0, .long 0])), (xt, .inl (xkt, 2000, .inl f_15))] := hD
  refine lv_aload_n hx hb dX11_putFour_30 rfl (lv_at hl 1 rfl) ?_
  refine lv_dup hx hb dX11_putFour_31 rfl ?_
  refine va_get (D := (dC, dI)) (ci := 11) (v := .int 19) (C := RX11) (T := TX11) (N := 17) hx hb hA zin_X11 hown hK hP 0 rfl rfl 1 (by decide) (hA _ wi_585) (fun _ h9 => h9) rfl dX11_putFour_32 ?_
  refine lv_iconst (v := 1) hx hb dX11_putFour_35 (by decide) ?_
  refine lv_iadd hx hb dX11_putFour_36 ?_
  refine lv_topi (fun x_16 ex_16 => ?_)
  obtain rfl : x_16 = 20 := ex_16.trans (by decide)
  refine va_put (D := (dC, dI)) (ci := 11) (v := .int 20) (ty := .int) (C := RX11) (T := TX11) (N := 17) hx hb hA zin_X11 tyX11 tyX11_ok nmX11 hown hK hP hD hS 0 rfl rfl 1 (by decide) (hA _ wi_585) (fun _ h9 => h9) rfl (by decide +kernel) rfl rfl (Nat.le_of_ble_eq_true rfl) dX11_putFour_37 (fun H locs hP hD hS => ?_)
  have hP : va_P (dC, dI) vwCl [(h0, .inr (11, [.ref xt, .int 20, .ref xk, .ref xp, .ref xm, .ref xc, .ref xl, .ref xr, .int 0, .int (-1), .int 0, .int 0, .int 0, .int 0, .long 0, .int 0, .long 0])), (xt, .inl (xkt, 2000, .inl f_15))] H := hP
  have hD : va_D A [(h0, .inr (11, [.ref xt, .int 20, .ref xk, .ref xp, .ref xm, .ref xc, .ref xl, .ref xr, .int 0, .int (-1), .int 0, .int 0, .int 0, .int 0, .long 0, .int 0, .long 0])), (xt, .inl (xkt, 2000, .inl f_15))] := hD
  refine lv_iinc (v := (-8)) (lv' := [(2, .int (-8)), (0, .ref h0), (1, .int b)]) hx hb dX11_putFour_40 hl (k := 0) rfl (by decide) (by decide) rfl (fun ls hl => ?_)
  refine lv_goto (tgt := 3) hx hb dX11_putFour_43 (by decide) ?_
  refine lv_iload_n hx hb dX11_putFour_3 rfl (lv_at hl 0 rfl) ?_
  refine lv_if_lt (tgt := 46) hx hb dX11_putFour_4 (by decide) (fun _ => ?_) (fun c_0 => absurd (by decide) c_0)
  have hP9 := hP.sub (ws' := [(h0, .inr (11, [.ref xt, .int 20, .ref xk, .ref xp, .ref xm, .ref xc, .ref xl, .ref xr, .int 0, .int (-1), .int 0, .int 0, .int 0, .int 0, .long 0, .int 0, .long 0])), (xt, .inl (xkt, 2000, .inl f_15))]) [0, 1] rfl
  have hD9 := hD.sub (ws' := [(h0, .inr (11, [.ref xt, .int 20, .ref xk, .ref xp, .ref xm, .ref xc, .ref xl, .ref xr, .int 0, .int (-1), .int 0, .int 0, .int 0, .int 0, .long 0, .int 0, .long 0])), (xt, .inl (xkt, 2000, .inl f_15))]) [0, 1] (by decide) rfl
  have hK9 := hK.sub (tys' := [(xkt, .byte)]) [0] rfl
  exact W.vret hx hb hr (fun t ht hW => ⟨⟨(f_15), rfl, trivial, by rw [ht]; exact hP9, va_K.moved hW.alike hK9, hD9⟩, hS.F ht⟩) hS.2.2 dX11_putFour_46
set_option maxHeartbeats 4000000 in
set_option maxRecDepth 100000 in
theorem c_X11_feed (l : Launch) (dC : Nat → ClassId) (dI : Nat → Nat → Nat) (h0 : Nat) (xt : Nat) (xk : Nat) (xp : Nat) (xm : Nat) (xc : Nat) (xl : Nat) (xr : Nat) (xkt : ClassId) (a1 : Int32) (a2 : Int32) (a3 : Int32) (a4 : Int32) (a5 : Int32) (sz : Nat)  : Met l yX11_feed (Cond.code yX11_feed cX11_feed 6 (some .int) :: zw) ({ frames := 10, cells := 0, slots := 0, locals := 300 }) (va_Pc [.ref h0, .int a1, .int a2, .int a3, .int a4, .int a5] (zP dC dI sz [(xkt, .byte)] [(h0, .inr (11, [.ref xt, .int 0, .ref xk, .ref xp, .ref xm, .ref xc, .ref xl, .ref xr, .int 0, .int (-1), .int 0, .int 0, .int 0, .int 0, .long 0, .int 0, .long 0])), (xt, .inl (xkt, 2000, .inl (fun _ => 0)))])) (va_Qi (fun (r : Int32) (u : Unit) => r = 20) (fun u => zQ dC dI (va_A [(h0, .inr (11, [.ref xt, .int 0, .ref xk, .ref xp, .ref xm, .ref xc, .ref xl, .ref xr, .int 0, .int (-1), .int 0, .int 0, .int 0, .int 0, .long 0, .int 0, .long 0])), (xt, .inl (xkt, 2000, .inl (fun _ => 0)))] sz) [] []) (va_A [(h0, .inr (11, [.ref xt, .int 0, .ref xk, .ref xp, .ref xm, .ref xc, .ref xl, .ref xr, .int 0, .int (-1), .int 0, .int 0, .int 0, .int 0, .long 0, .int 0, .long 0])), (xt, .inl (xkt, 2000, .inl (fun _ => 0)))] sz)) 0 0 (va_A [(h0, .inr (11, [.ref xt, .int 0, .ref xk, .ref xp, .ref xm, .ref xc, .ref xl, .ref xr, .int 0, .int (-1), .int 0, .int 0, .int 0, .int 0, .long 0, .int 0, .long 0])), (xt, .inl (xkt, 2000, .inl (fun _ => 0)))] sz) := by
  refine Met.ofW (cc := cX11_feed) (maxL := 6) (ret := (some .int)) (by decide) rfl ?_
  intro p e s m args below meth c s₁ B hml hv
  obtain ⟨rfl, hsz, hP, hK, hD0, hN, hT⟩ := hv
  have hx := B.exec
  have hb := B.bytes
  have hr := B.returns
  have hts := atoms_spec (ws := Cond.code yX11_feed cX11_feed 6 (some .int) :: zw) B.pre
  have hA : ∀ w ∈ zw, w.before _ s = true := fun w h => hts w (List.mem_cons_of_mem _ h)
  have hown : s.vm.findClass RX11 = some m.cls := findClass_of_methodNamed B.named
  have hlocks := B.notSynchronized
  subst hsz
  have hD := hD0.self (sz := s.heap.size)
  generalize hAe : va_A [(h0, .inr (11, [.ref xt, .int 0, .ref xk, .ref xp, .ref xm, .ref xc, .ref xl, .ref xr, .int 0, .int (-1), .int 0, .int 0, .int 0, .int 0, .long 0, .int 0, .long 0])), (xt, .inl (xkt, 2000, .inl (fun _ => 0)))] s.heap.size = A at hD hT ⊢
  have hAA : ∀ q : Nat, s.heap.size ≤ q → A q := fun q h => by rw [← hAe]; exact Or.inr h
  have hS : va_S A s.heap s.heap [] := va_S.rf
  have hl := lv_entry ([.ref h0, .int a1, .int a2, .int a3, .int a4, .int a5]) (n := 6) (Nat.le_of_ble_eq_true rfl)
  rw [lg_entry_eq]
  generalize (lg_sl ([.ref h0, .int a1, .int a2, .int a3, .int a4, .int a5]) ++ List.replicate (6 - (lg_sl ([.ref h0, .int a1, .int a2, .int a3, .int a4, .int a5])).length) Slot.unset).toArray = ls at hl ⊢
  have hl : lv_has ls 6 [(0, .ref h0), (1, .int a1), (2, .int a2), (3, .int a3), (4, .int a4), (5, .int a5)] := hl
  refine lv_aload_n hx hb dX11_feed_0 rfl (lv_at hl 0 rfl) ?_
  refine va_get (D := (dC, dI)) (ci := 11) (v := .int 0) (C := RX11) (T := TX11) (N := 17) hx hb hA zin_X11 hown hK hP 0 rfl rfl 1 (by decide) (hA _ wi_585) (fun _ h9 => h9) rfl dX11_feed_1 ?_
  refine lv_bipush (v := 20) hx hb dX11_feed_4 (by decide) ?_
  refine lv_iadd hx hb dX11_feed_6 ?_
  refine lv_topi (fun x_1 ex_1 => ?_)
  obtain rfl : x_1 = 20 := ex_1.trans (by decide)
  refine lv_sipush (v := 2000) hx hb dX11_feed_7 (by decide) ?_
  refine lv_icmp_le (tgt := 15) hx hb dX11_feed_10 (by decide) (fun _ => ?_) (fun c_0 => absurd (by decide) c_0)
  refine lv_aload_n hx hb dX11_feed_15 rfl (lv_at hl 0 rfl) ?_
  refine lv_iload_n hx hb dX11_feed_16 rfl (lv_at hl 1 rfl) ?_
  have hPc := hP.sub (ws' := [(h0, .inr (11, [.ref xt, .int 0, .ref xk, .ref xp, .ref xm, .ref xc, .ref xl, .ref xr, .int 0, .int (-1), .int 0, .int 0, .int 0, .int 0, .long 0, .int 0, .long 0])), (xt, .inl (xkt, 2000, .inl (fun _ => 0)))]) [0, 1] rfl
  have hDc := hD.sub (ws' := [(h0, .inr (11, [.ref xt, .int 0, .ref xk, .ref xp, .ref xm, .ref xc, .ref xl, .ref xr, .int 0, .int (-1), .int 0, .int 0, .int 0, .int 0, .long 0, .int 0, .long 0])), (xt, .inl (xkt, 2000, .inl (fun _ => 0)))]) [0, 1] (by decide) rfl
  have hKc := hK.sub (tys' := [(xkt, .byte)]) [0] rfl
  have hFc := va_free (wc := [(h0, .inr (11, [.ref xt, .int 0, .ref xk, .ref xp, .ref xm, .ref xc, .ref xl, .ref xr, .int 0, .int (-1), .int 0, .int 0, .int 0, .int 0, .long 0, .int 0, .long 0])), (xt, .inl (xkt, 2000, .inl (fun _ => 0)))]) hD hS hAA [0, 1] rfl
  refine va_callv (va_runV (As := [.int a1]) (rest := []) ⟨hx, hb, hml, hown, hA⟩ (c_X11_putFour_0 l dC dI h0 xt xk xp xm xc xl xr xkt (fun _ => 0) a1 s.heap.size) (cwV 1 hA (zw_V wi_640 wi_642 wi_0 wi_130 (zw_good wi_643)) rfl rfl rfl (by decide +kernel) ⟨(Nat.le_of_ble_eq_true rfl), (Nat.le_of_ble_eq_true rfl)⟩) ⟨zP_blind, va_recv hKc hPc (ci := 11) (q0 := 0) rfl rfl, zz_pre hKc hPc hDc hN hT hS hFc⟩ rfl rfl hl.1 rfl (lv_room (Nat.le_of_ble_eq_true rfl)) dX11_feed_17 ⟨(Nat.le_of_ble_eq_true rfl), (Nat.le_of_ble_eq_true rfl)⟩) hS (fun q _ h => hFc q h) hFc (fun u t H1 locs ht hvm hw hB hz1 hk1 hS => ?_)
  obtain ⟨g_3, rfl⟩ : ∃ z, z = u := ⟨_, rfl⟩
  obtain ⟨hP1, hK1, hD1⟩ := hB
  rw [ht] at hP1
  have hK1 := va_K.moved hvm.symm hK1
  obtain ⟨hP, hD⟩ := va_join (wr := []) (w1 := [(h0, .inr (11, [.ref xt, .int 4, .ref xk, .ref xp, .ref xm, .ref xc, .ref xl, .ref xr, .int 0, .int (-1), .int 0, .int 0, .int 0, .int 0, .long 0, .int 0, .long 0])), (xt, .inl (xkt, 2000, .inl g_3))]) hP hD [0, 1] [] rfl rfl (by decide) (by decide) hk1 hFc hP1 hD1
  have hK := (hK.sub (tys' := []) [] rfl).app hK1
  generalize H1 = H at hP hS ⊢
  have hP : va_P (dC, dI) vwCl [(h0, .inr (11, [.ref xt, .int 4, .ref xk, .ref xp, .ref xm, .ref xc, .ref xl, .ref xr, .int 0, .int (-1), .int 0, .int 0, .int 0, .int 0, .long 0, .int 0, .long 0])), (xt, .inl (xkt, 2000, .inl g_3))] H := hP
  have hD : va_D A [(h0, .inr (11, [.ref xt, .int 4, .ref xk, .ref xp, .ref xm, .ref xc, .ref xl, .ref xr, .int 0, .int (-1), .int 0, .int 0, .int 0, .int 0, .long 0, .int 0, .long 0])), (xt, .inl (xkt, 2000, .inl g_3))] := hD
  have hK : va_K (dC, dI) vwCl [(xkt, .byte)] s := hK
  refine lv_aload_n hx hb dX11_feed_20 rfl (lv_at hl 0 rfl) ?_
  refine lv_iload_n hx hb dX11_feed_21 rfl (lv_at hl 2 rfl) ?_
  have hPc := hP.sub (ws' := [(h0, .inr (11, [.ref xt, .int 4, .ref xk, .ref xp, .ref xm, .ref xc, .ref xl, .ref xr, .int 0, .int (-1), .int 0, .int 0, .int 0, .int 0, .long 0, .int 0, .long 0])), (xt, .inl (xkt, 2000, .inl g_3))]) [0, 1] rfl
  have hDc := hD.sub (ws' := [(h0, .inr (11, [.ref xt, .int 4, .ref xk, .ref xp, .ref xm, .ref xc, .ref xl, .ref xr, .int 0, .int (-1), .int 0, .int 0, .int 0, .int 0, .long 0, .int 0, .long 0])), (xt, .inl (xkt, 2000, .inl g_3))]) [0, 1] (by decide) rfl
  have hKc := hK.sub (tys' := [(xkt, .byte)]) [0] rfl
  have hFc := va_free (wc := [(h0, .inr (11, [.ref xt, .int 4, .ref xk, .ref xp, .ref xm, .ref xc, .ref xl, .ref xr, .int 0, .int (-1), .int 0, .int 0, .int 0, .int 0, .long 0, .int 0, .long 0])), (xt, .inl (xkt, 2000, .inl g_3))]) hD hS hAA [0, 1] rfl
  refine va_callv (va_runV (As := [.int a2]) (rest := []) ⟨hx, hb, hml, hown, hA⟩ (c_X11_putFour_4 l dC dI h0 xt xk xp xm xc xl xr xkt g_3 a2 H.size) (cwV 1 hA (zw_V wi_640 wi_642 wi_0 wi_130 (zw_good wi_643)) rfl rfl rfl (by decide +kernel) ⟨(Nat.le_of_ble_eq_true rfl), (Nat.le_of_ble_eq_true rfl)⟩) ⟨zP_blind, va_recv hKc hPc (ci := 11) (q0 := 0) rfl rfl, zz_pre hKc hPc hDc hN hT hS hFc⟩ rfl rfl hl.1 rfl (lv_room (Nat.le_of_ble_eq_true rfl)) dX11_feed_22 ⟨(Nat.le_of_ble_eq_true rfl), (Nat.le_of_ble_eq_true rfl)⟩) hS (fun q _ h => hFc q h) hFc (fun u t H1 locs ht hvm hw hB hz1 hk1 hS => ?_)
  obtain ⟨g_5, rfl⟩ : ∃ z, z = u := ⟨_, rfl⟩
  obtain ⟨hP1, hK1, hD1⟩ := hB
  rw [ht] at hP1
  have hK1 := va_K.moved hvm.symm hK1
  obtain ⟨hP, hD⟩ := va_join (wr := []) (w1 := [(h0, .inr (11, [.ref xt, .int 8, .ref xk, .ref xp, .ref xm, .ref xc, .ref xl, .ref xr, .int 0, .int (-1), .int 0, .int 0, .int 0, .int 0, .long 0, .int 0, .long 0])), (xt, .inl (xkt, 2000, .inl g_5))]) hP hD [0, 1] [] rfl rfl (by decide) (by decide) hk1 hFc hP1 hD1
  have hK := (hK.sub (tys' := []) [] rfl).app hK1
  generalize H1 = H at hP hS ⊢
  have hP : va_P (dC, dI) vwCl [(h0, .inr (11, [.ref xt, .int 8, .ref xk, .ref xp, .ref xm, .ref xc, .ref xl, .ref xr, .int 0, .int (-1), .int 0, .int 0, .int 0, .int 0, .long 0, .int 0, .long 0])), (xt, .inl (xkt, 2000, .inl g_5))] H := hP
  have hD : va_D A [(h0, .inr (11, [.ref xt, .int 8, .ref xk, .ref xp, .ref xm, .ref xc, .ref xl, .ref xr, .int 0, .int (-1), .int 0, .int 0, .int 0, .int 0, .long 0, .int 0, .long 0])), (xt, .inl (xkt, 2000, .inl g_5))] := hD
  have hK : va_K (dC, dI) vwCl [(xkt, .byte)] s := hK
  refine lv_aload_n hx hb dX11_feed_25 rfl (lv_at hl 0 rfl) ?_
  refine lv_iload_n hx hb dX11_feed_26 rfl (lv_at hl 3 rfl) ?_
  have hPc := hP.sub (ws' := [(h0, .inr (11, [.ref xt, .int 8, .ref xk, .ref xp, .ref xm, .ref xc, .ref xl, .ref xr, .int 0, .int (-1), .int 0, .int 0, .int 0, .int 0, .long 0, .int 0, .long 0])), (xt, .inl (xkt, 2000, .inl g_5))]) [0, 1] rfl
  have hDc := hD.sub (ws' := [(h0, .inr (11, [.ref xt, .int 8, .ref xk, .ref xp, .ref xm, .ref xc, .ref xl, .ref xr, .int 0, .int (-1), .int 0, .int 0, .int 0, .int 0, .long 0, .int 0, .long 0])), (xt, .inl (xkt, 2000, .inl g_5))]) [0, 1] (by decide) rfl
  have hKc := hK.sub (tys' := [(xkt, .byte)]) [0] rfl
  have hFc := va_free (wc := [(h0, .inr (11, [.ref xt, .int 8, .ref xk, .ref xp, .ref xm, .ref xc, .ref xl, .ref xr, .int 0, .int (-1), .int 0, .int 0, .int 0, .int 0, .long 0, .int 0, .long 0])), (xt, .inl (xkt, 2000, .inl g_5))]) hD hS hAA [0, 1] rfl
  refine va_callv (va_runV (As := [.int a3]) (rest := []) ⟨hx, hb, hml, hown, hA⟩ (c_X11_putFour_8 l dC dI h0 xt xk xp xm xc xl xr xkt g_5 a3 H.size) (cwV 1 hA (zw_V wi_640 wi_642 wi_0 wi_130 (zw_good wi_643)) rfl rfl rfl (by decide +kernel) ⟨(Nat.le_of_ble_eq_true rfl), (Nat.le_of_ble_eq_true rfl)⟩) ⟨zP_blind, va_recv hKc hPc (ci := 11) (q0 := 0) rfl rfl, zz_pre hKc hPc hDc hN hT hS hFc⟩ rfl rfl hl.1 rfl (lv_room (Nat.le_of_ble_eq_true rfl)) dX11_feed_27 ⟨(Nat.le_of_ble_eq_true rfl), (Nat.le_of_ble_eq_true rfl)⟩) hS (fun q _ h => hFc q h) hFc (fun u t H1 locs ht hvm hw hB hz1 hk1 hS => ?_)
  obtain ⟨g_7, rfl⟩ : ∃ z, z = u := ⟨_, rfl⟩
  obtain ⟨hP1, hK1, hD1⟩ := hB
  rw [ht] at hP1
  have hK1 := va_K.moved hvm.symm hK1
  obtain ⟨hP, hD⟩ := va_join (wr := []) (w1 := [(h0, .inr (11, [.ref xt, .int 12, .ref xk, .ref xp, .ref xm, .ref xc, .ref xl, .ref xr, .int 0, .int (-1), .int 0, .int 0, .int 0, .int 0, .long 0, .int 0, .long 0])), (xt, .inl (xkt, 2000, .inl g_7))]) hP hD [0, 1] [] rfl rfl (by decide) (by decide) hk1 hFc hP1 hD1
  have hK := (hK.sub (tys' := []) [] rfl).app hK1
  generalize H1 = H at hP hS ⊢
  have hP : va_P (dC, dI) vwCl [(h0, .inr (11, [.ref xt, .int 12, .ref xk, .ref xp, .ref xm, .ref xc, .ref xl, .ref xr, .int 0, .int (-1), .int 0, .int 0, .int 0, .int 0, .long 0, .int 0, .long 0])), (xt, .inl (xkt, 2000, .inl g_7))] H := hP
  have hD : va_D A [(h0, .inr (11, [.ref xt, .int 12, .ref xk, .ref xp, .ref xm, .ref xc, .ref xl, .ref xr, .int 0, .int (-1), .int 0, .int 0, .int 0, .int 0, .long 0, .int 0, .long 0])), (xt, .inl (xkt, 2000, .inl g_7))] := hD
  have hK : va_K (dC, dI) vwCl [(xkt, .byte)] s := hK
  refine lv_aload_n hx hb dX11_feed_30 rfl (lv_at hl 0 rfl) ?_
  refine lv_iload hx hb dX11_feed_31 (lv_at hl 4 rfl) ?_
  have hPc := hP.sub (ws' := [(h0, .inr (11, [.ref xt, .int 12, .ref xk, .ref xp, .ref xm, .ref xc, .ref xl, .ref xr, .int 0, .int (-1), .int 0, .int 0, .int 0, .int 0, .long 0, .int 0, .long 0])), (xt, .inl (xkt, 2000, .inl g_7))]) [0, 1] rfl
  have hDc := hD.sub (ws' := [(h0, .inr (11, [.ref xt, .int 12, .ref xk, .ref xp, .ref xm, .ref xc, .ref xl, .ref xr, .int 0, .int (-1), .int 0, .int 0, .int 0, .int 0, .long 0, .int 0, .long 0])), (xt, .inl (xkt, 2000, .inl g_7))]) [0, 1] (by decide) rfl
  have hKc := hK.sub (tys' := [(xkt, .byte)]) [0] rfl
  have hFc := va_free (wc := [(h0, .inr (11, [.ref xt, .int 12, .ref xk, .ref xp, .ref xm, .ref xc, .ref xl, .ref xr, .int 0, .int (-1), .int 0, .int 0, .int 0, .int 0, .long 0, .int 0, .long 0])), (xt, .inl (xkt, 2000, .inl g_7))]) hD hS hAA [0, 1] rfl
  refine va_callv (va_runV (As := [.int a4]) (rest := []) ⟨hx, hb, hml, hown, hA⟩ (c_X11_putFour_12 l dC dI h0 xt xk xp xm xc xl xr xkt g_7 a4 H.size) (cwV 1 hA (zw_V wi_640 wi_642 wi_0 wi_130 (zw_good wi_643)) rfl rfl rfl (by decide +kernel) ⟨(Nat.le_of_ble_eq_true rfl), (Nat.le_of_ble_eq_true rfl)⟩) ⟨zP_blind, va_recv hKc hPc (ci := 11) (q0 := 0) rfl rfl, zz_pre hKc hPc hDc hN hT hS hFc⟩ rfl rfl hl.1 rfl (lv_room (Nat.le_of_ble_eq_true rfl)) dX11_feed_33 ⟨(Nat.le_of_ble_eq_true rfl), (Nat.le_of_ble_eq_true rfl)⟩) hS (fun q _ h => hFc q h) hFc (fun u t H1 locs ht hvm hw hB hz1 hk1 hS => ?_)
  obtain ⟨g_9, rfl⟩ : ∃ z, z = u := ⟨_, rfl⟩
  obtain ⟨hP1, hK1, hD1⟩ := hB
  rw [ht] at hP1
  have hK1 := va_K.moved hvm.symm hK1
  obtain ⟨hP, hD⟩ := va_join (wr := []) (w1 := [(h0, .inr (11, [.ref xt, .int 16, .ref xk, .ref xp, .ref xm, .ref xc, .ref xl, .ref xr, .int 0, .int (-1), .int 0, .int 0, .int 0, .int 0, .long 0, .int 0, .long 0])), (xt, .inl (xkt, 2000, .inl g_9))]) hP hD [0, 1] [] rfl rfl (by decide) (by decide) hk1 hFc hP1 hD1
  have hK := (hK.sub (tys' := []) [] rfl).app hK1
  generalize H1 = H at hP hS ⊢
  have hP : va_P (dC, dI) vwCl [(h0, .inr (11, [.ref xt, .int 16, .ref xk, .ref xp, .ref xm, .ref xc, .ref xl, .ref xr, .int 0, .int (-1), .int 0, .int 0, .int 0, .int 0, .long 0, .int 0, .long 0])), (xt, .inl (xkt, 2000, .inl g_9))] H := hP
  have hD : va_D A [(h0, .inr (11, [.ref xt, .int 16, .ref xk, .ref xp, .ref xm, .ref xc, .ref xl, .ref xr, .int 0, .int (-1), .int 0, .int 0, .int 0, .int 0, .long 0, .int 0, .long 0])), (xt, .inl (xkt, 2000, .inl g_9))] := hD
  have hK : va_K (dC, dI) vwCl [(xkt, .byte)] s := hK
  refine lv_aload_n hx hb dX11_feed_36 rfl (lv_at hl 0 rfl) ?_
  refine lv_iload hx hb dX11_feed_37 (lv_at hl 5 rfl) ?_
  have hPc := hP.sub (ws' := [(h0, .inr (11, [.ref xt, .int 16, .ref xk, .ref xp, .ref xm, .ref xc, .ref xl, .ref xr, .int 0, .int (-1), .int 0, .int 0, .int 0, .int 0, .long 0, .int 0, .long 0])), (xt, .inl (xkt, 2000, .inl g_9))]) [0, 1] rfl
  have hDc := hD.sub (ws' := [(h0, .inr (11, [.ref xt, .int 16, .ref xk, .ref xp, .ref xm, .ref xc, .ref xl, .ref xr, .int 0, .int (-1), .int 0, .int 0, .int 0, .int 0, .long 0, .int 0, .long 0])), (xt, .inl (xkt, 2000, .inl g_9))]) [0, 1] (by decide) rfl
  have hKc := hK.sub (tys' := [(xkt, .byte)]) [0] rfl
  have hFc := va_free (wc := [(h0, .inr (11, [.ref xt, .int 16, .ref xk, .ref xp, .ref xm, .ref xc, .ref xl, .ref xr, .int 0, .int (-1), .int 0, .int 0, .int 0, .int 0, .long 0, .int 0, .long 0])), (xt, .inl (xkt, 2000, .inl g_9))]) hD hS hAA [0, 1] rfl
  refine va_callv (va_runV (As := [.int a5]) (rest := []) ⟨hx, hb, hml, hown, hA⟩ (c_X11_putFour_16 l dC dI h0 xt xk xp xm xc xl xr xkt g_9 a5 H.size) (cwV 1 hA (zw_V wi_640 wi_642 wi_0 wi_130 (zw_good wi_643)) rfl rfl rfl (by decide +kernel) ⟨(Nat.le_of_ble_eq_true rfl), (Nat.le_of_ble_eq_true rfl)⟩) ⟨zP_blind, va_recv hKc hPc (ci := 11) (q0 := 0) rfl rfl, zz_pre hKc hPc hDc hN hT hS hFc⟩ rfl rfl hl.1 rfl (lv_room (Nat.le_of_ble_eq_true rfl)) dX11_feed_39 ⟨(Nat.le_of_ble_eq_true rfl), (Nat.le_of_ble_eq_true rfl)⟩) hS (fun q _ h => hFc q h) hFc (fun u t H1 locs ht hvm hw hB hz1 hk1 hS => ?_)
  obtain ⟨g_11, rfl⟩ : ∃ z, z = u := ⟨_, rfl⟩
  obtain ⟨hP1, hK1, hD1⟩ := hB
  rw [ht] at hP1
  have hK1 := va_K.moved hvm.symm hK1
  obtain ⟨hP, hD⟩ := va_join (wr := []) (w1 := [(h0, .inr (11, [.ref xt, .int 20, .ref xk, .ref xp, .ref xm, .ref xc, .ref xl, .ref xr, .int 0, .int (-1), .int 0, .int 0, .int 0, .int 0, .long 0, .int 0, .long 0])), (xt, .inl (xkt, 2000, .inl g_11))]) hP hD [0, 1] [] rfl rfl (by decide) (by decide) hk1 hFc hP1 hD1
  have hK := (hK.sub (tys' := []) [] rfl).app hK1
  generalize H1 = H at hP hS ⊢
  have hP : va_P (dC, dI) vwCl [(h0, .inr (11, [.ref xt, .int 20, .ref xk, .ref xp, .ref xm, .ref xc, .ref xl, .ref xr, .int 0, .int (-1), .int 0, .int 0, .int 0, .int 0, .long 0, .int 0, .long 0])), (xt, .inl (xkt, 2000, .inl g_11))] H := hP
  have hD : va_D A [(h0, .inr (11, [.ref xt, .int 20, .ref xk, .ref xp, .ref xm, .ref xc, .ref xl, .ref xr, .int 0, .int (-1), .int 0, .int 0, .int 0, .int 0, .long 0, .int 0, .long 0])), (xt, .inl (xkt, 2000, .inl g_11))] := hD
  have hK : va_K (dC, dI) vwCl [(xkt, .byte)] s := hK
  refine lv_aload_n hx hb dX11_feed_42 rfl (lv_at hl 0 rfl) ?_
  refine va_get (D := (dC, dI)) (ci := 11) (v := .int 20) (C := RX11) (T := TX11) (N := 17) hx hb hA zin_X11 hown hK hP 0 rfl rfl 1 (by decide) (hA _ wi_585) (fun _ h9 => h9) rfl dX11_feed_43 ?_
  have hP9 := hP.sub (ws' := []) [] rfl
  have hD9 := hD.sub (ws' := []) [] (by decide) rfl
  have hK9 := hK.sub (tys' := []) [] rfl
  exact W.iret (v := 20) hx hb hr (fun t ht hW => ⟨⟨20, (), rfl, rfl, by rw [ht]; exact hP9, va_K.moved hW.alike hK9, hD9⟩, hS.F ht⟩) hS.2.2 dX11_feed_46
