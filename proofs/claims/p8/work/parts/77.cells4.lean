theorem wi_430 : Cond.methodLink RX1 39 Lib.Math.max.name ∈ zw := zw_in (List.mem_of_getElem? (i := 430) (by decide +kernel)) (by decide +kernel)
theorem dX1_free_0 : decode cX1_free 0 = .ok (.aload_n 0, 1) := by decide +kernel
theorem dX1_free_1 : decode cX1_free 1 = .ok (.getfield 49, 3) := by decide +kernel
theorem dX1_free_4 : decode cX1_free 4 = .ok (.iload_n 1, 1) := by decide +kernel
theorem dX1_free_5 : decode cX1_free 5 = .ok (.aload_n 0, 1) := by decide +kernel
theorem dX1_free_6 : decode cX1_free 6 = .ok (.getfield 18, 3) := by decide +kernel
theorem dX1_free_9 : decode cX1_free 9 = .ok (.iastore, 1) := by decide +kernel
theorem dX1_free_10 : decode cX1_free 10 = .ok (.aload_n 0, 1) := by decide +kernel
theorem dX1_free_11 : decode cX1_free 11 = .ok (.iload_n 1, 1) := by decide +kernel
theorem dX1_free_12 : decode cX1_free 12 = .ok (.putfield 18, 3) := by decide +kernel
theorem dX1_free_15 : decode cX1_free 15 = .ok (.aload_n 0, 1) := by decide +kernel
theorem dX1_free_16 : decode cX1_free 16 = .ok (.dup, 1) := by decide +kernel
theorem dX1_free_17 : decode cX1_free 17 = .ok (.getfield 21, 3) := by decide +kernel
theorem dX1_free_20 : decode cX1_free 20 = .ok (.iconst 1, 1) := by decide +kernel
theorem dX1_free_21 : decode cX1_free 21 = .ok (.isub, 1) := by decide +kernel
theorem dX1_free_22 : decode cX1_free 22 = .ok (.putfield 21, 3) := by decide +kernel
theorem dX1_free_25 : decode cX1_free 25 = .ok (.aload_n 0, 1) := by decide +kernel
theorem dX1_free_26 : decode cX1_free 26 = .ok (.dup, 1) := by decide +kernel
theorem dX1_free_27 : decode cX1_free 27 = .ok (.getfield 33, 3) := by decide +kernel
theorem dX1_free_30 : decode cX1_free 30 = .ok (.iconst 1, 1) := by decide +kernel
theorem dX1_free_31 : decode cX1_free 31 = .ok (.iadd, 1) := by decide +kernel
theorem dX1_free_32 : decode cX1_free 32 = .ok (.putfield 33, 3) := by decide +kernel
theorem dX1_free_35 : decode cX1_free 35 = .ok (.return_, 1) := by decide +kernel
theorem dX1_take_0 : decode cX1_take 0 = .ok (.aload_n 0, 1) := by decide +kernel
theorem dX1_take_1 : decode cX1_take 1 = .ok (.getfield 21, 3) := by decide +kernel
theorem dX1_take_4 : decode cX1_take 4 = .ok (.aload_n 0, 1) := by decide +kernel
theorem dX1_take_5 : decode cX1_take 5 = .ok (.getfield 9, 3) := by decide +kernel
theorem dX1_take_8 : decode cX1_take 8 = .ok (.if_icmp .lt 5, 3) := by decide +kernel
theorem dX1_take_11 : decode cX1_take 11 = .ok (.iconst (-1), 1) := by decide +kernel
theorem dX1_take_12 : decode cX1_take 12 = .ok (.ireturn, 1) := by decide +kernel
theorem dX1_take_13 : decode cX1_take 13 = .ok (.aload_n 0, 1) := by decide +kernel
theorem dX1_take_14 : decode cX1_take 14 = .ok (.getfield 18, 3) := by decide +kernel
theorem dX1_take_17 : decode cX1_take 17 = .ok (.istore_n 1, 1) := by decide +kernel
theorem dX1_take_18 : decode cX1_take 18 = .ok (.iload_n 1, 1) := by decide +kernel
theorem dX1_take_19 : decode cX1_take 19 = .ok (.iconst (-1), 1) := by decide +kernel
theorem dX1_take_20 : decode cX1_take 20 = .ok (.if_icmp .ne 21, 3) := by decide +kernel
theorem dX1_take_23 : decode cX1_take 23 = .ok (.aload_n 0, 1) := by decide +kernel
theorem dX1_take_24 : decode cX1_take 24 = .ok (.getfield 15, 3) := by decide +kernel
theorem dX1_take_27 : decode cX1_take 27 = .ok (.istore_n 1, 1) := by decide +kernel
theorem dX1_take_28 : decode cX1_take 28 = .ok (.aload_n 0, 1) := by decide +kernel
theorem dX1_take_29 : decode cX1_take 29 = .ok (.dup, 1) := by decide +kernel
theorem dX1_take_30 : decode cX1_take 30 = .ok (.getfield 15, 3) := by decide +kernel
theorem dX1_take_33 : decode cX1_take 33 = .ok (.iconst 1, 1) := by decide +kernel
theorem dX1_take_34 : decode cX1_take 34 = .ok (.iadd, 1) := by decide +kernel
theorem dX1_take_35 : decode cX1_take 35 = .ok (.putfield 15, 3) := by decide +kernel
theorem dX1_take_38 : decode cX1_take 38 = .ok (.goto 13, 3) := by decide +kernel
theorem dX1_take_41 : decode cX1_take 41 = .ok (.aload_n 0, 1) := by decide +kernel
theorem dX1_take_42 : decode cX1_take 42 = .ok (.aload_n 0, 1) := by decide +kernel
theorem dX1_take_43 : decode cX1_take 43 = .ok (.getfield 49, 3) := by decide +kernel
theorem dX1_take_46 : decode cX1_take 46 = .ok (.iload_n 1, 1) := by decide +kernel
theorem dX1_take_47 : decode cX1_take 47 = .ok (.iaload, 1) := by decide +kernel
theorem dX1_take_48 : decode cX1_take 48 = .ok (.putfield 18, 3) := by decide +kernel
theorem dX1_take_51 : decode cX1_take 51 = .ok (.aload_n 0, 1) := by decide +kernel
theorem dX1_take_52 : decode cX1_take 52 = .ok (.dup, 1) := by decide +kernel
theorem dX1_take_53 : decode cX1_take 53 = .ok (.getfield 27, 3) := by decide +kernel
theorem dX1_take_56 : decode cX1_take 56 = .ok (.iconst 1, 1) := by decide +kernel
theorem dX1_take_57 : decode cX1_take 57 = .ok (.iadd, 1) := by decide +kernel
theorem dX1_take_58 : decode cX1_take 58 = .ok (.putfield 27, 3) := by decide +kernel
theorem dX1_take_61 : decode cX1_take 61 = .ok (.aload_n 0, 1) := by decide +kernel
theorem dX1_take_62 : decode cX1_take 62 = .ok (.dup, 1) := by decide +kernel
theorem dX1_take_63 : decode cX1_take 63 = .ok (.getfield 21, 3) := by decide +kernel
theorem dX1_take_66 : decode cX1_take 66 = .ok (.iconst 1, 1) := by decide +kernel
theorem dX1_take_67 : decode cX1_take 67 = .ok (.iadd, 1) := by decide +kernel
theorem dX1_take_68 : decode cX1_take 68 = .ok (.putfield 21, 3) := by decide +kernel
theorem dX1_take_71 : decode cX1_take 71 = .ok (.aload_n 0, 1) := by decide +kernel
theorem dX1_take_72 : decode cX1_take 72 = .ok (.aload_n 0, 1) := by decide +kernel
theorem dX1_take_73 : decode cX1_take 73 = .ok (.getfield 24, 3) := by decide +kernel
theorem dX1_take_76 : decode cX1_take 76 = .ok (.aload_n 0, 1) := by decide +kernel
theorem dX1_take_77 : decode cX1_take 77 = .ok (.getfield 21, 3) := by decide +kernel
theorem dX1_take_80 : decode cX1_take 80 = .ok (.invokestatic 39, 3) := by decide +kernel
theorem dX1_take_83 : decode cX1_take 83 = .ok (.putfield 24, 3) := by decide +kernel
theorem dX1_take_86 : decode cX1_take 86 = .ok (.iload_n 1, 1) := by decide +kernel
theorem dX1_take_87 : decode cX1_take 87 = .ok (.ireturn, 1) := by decide +kernel
set_option maxHeartbeats 4000000 in
set_option maxRecDepth 100000 in
theorem c_X1_free_x (l : Launch) (dC : Nat → ClassId) (dI : Nat → Nat → Nat) (aK aV : Nat → Nat) (h0 : Nat) (ek : Nat) (ec : Nat) (ef : Nat) (cki : Nat) (e1 : ClassId) (e2 : ClassId) (e3 : ClassId) (e_limit : Int32) (e_fresh : Int32) (e_firstFree : Int32) (e_held : Int32) (e_mostHeld : Int32) (e_made : Int32) (e_reused : Int32) (e_freed : Int32) (e_doubled : Int32) (gk : Nat → Int32) (gc : Nat → Int32) (gv : Nat → Int64) (ce : Int32) (wd : Nat → Nat) (lv : Nat → Bool) (R : Nat → Int) (FL : List Nat) (DL : List Nat) (dm : Int32) (sz : Nat) (hcs : zCS wd gc gv e_fresh e_firstFree e_held e_doubled lv R FL DL dm) (hlx : lv (Int32.toNatClampNeg ce) = false) (hxn : Int32.toNatClampNeg ce ∉ FL ++ DL) (hc0 : 0 ≤ ce.toInt) (hc1 : ce.toInt < e_fresh.toInt) : Met l yX1_free (Cond.code yX1_free cX1_free 2 none :: zw) ({ frames := 8, cells := 0, slots := 0, locals := 200 }) (va_Pc [.ref h0, .int ce] (zP dC dI aK aV sz [(e1, .int), (e2, .int), (e3, .long)] [(h0, .inr (1, [.ref ek, .ref ec, .ref ef, .ref cki, .int e_limit, .int e_fresh, .int e_firstFree, .int e_held, .int e_mostHeld, .int e_made, .int e_reused, .int e_freed, .int e_doubled])), (ek, .inl (e1, 400, .inl gk)), (ec, .inl (e2, 400, .inl gc)), (ef, .inl (e3, 1200, .inr (.inl gv)))])) (va_Qv (fun u : (Nat → Int32) × Int32 × Int32 => match u with | (gc2, he2, fd2) => (zCS wd gc2 gv e_fresh ce he2 e_doubled lv R (Int32.toNatClampNeg ce :: FL) DL dm)) (fun u => match u with | (gc2, he2, fd2) => zQ dC dI (va_A [(h0, .inr (1, [.ref ek, .ref ec, .ref ef, .ref cki, .int e_limit, .int e_fresh, .int e_firstFree, .int e_held, .int e_mostHeld, .int e_made, .int e_reused, .int e_freed, .int e_doubled])), (ek, .inl (e1, 400, .inl gk)), (ec, .inl (e2, 400, .inl gc)), (ef, .inl (e3, 1200, .inr (.inl gv)))] sz) [(e1, .int), (e2, .int), (e3, .long)] [(h0, .inr (1, [.ref ek, .ref ec, .ref ef, .ref cki, .int e_limit, .int e_fresh, .int ce, .int he2, .int e_mostHeld, .int e_made, .int e_reused, .int fd2, .int e_doubled])), (ek, .inl (e1, 400, .inl gk)), (ec, .inl (e2, 400, .inl gc2)), (ef, .inl (e3, 1200, .inr (.inl gv)))]) (va_A [(h0, .inr (1, [.ref ek, .ref ec, .ref ef, .ref cki, .int e_limit, .int e_fresh, .int e_firstFree, .int e_held, .int e_mostHeld, .int e_made, .int e_reused, .int e_freed, .int e_doubled])), (ek, .inl (e1, 400, .inl gk)), (ec, .inl (e2, 400, .inl gc)), (ef, .inl (e3, 1200, .inr (.inl gv)))] sz)) 0 0 (va_A [(h0, .inr (1, [.ref ek, .ref ec, .ref ef, .ref cki, .int e_limit, .int e_fresh, .int e_firstFree, .int e_held, .int e_mostHeld, .int e_made, .int e_reused, .int e_freed, .int e_doubled])), (ek, .inl (e1, 400, .inl gk)), (ec, .inl (e2, 400, .inl gc)), (ef, .inl (e3, 1200, .inr (.inl gv)))] sz) := by
  refine Met.ofW (cc := cX1_free) (maxL := 2) (ret := none) (by decide) rfl ?_
  intro p e s m args below meth c s₁ B hml hv
  obtain ⟨rfl, hsz, hP, hK, hD0, hN, hT⟩ := hv
  have hx := B.exec
  have hb := B.bytes
  have hr := B.returns
  have hts := atoms_spec (ws := Cond.code yX1_free cX1_free 2 none :: zw) B.pre
  have hA : ∀ w ∈ zw, w.before _ s = true := fun w h => hts w (List.mem_cons_of_mem _ h)
  have hown : s.vm.findClass RX1 = some m.cls := findClass_of_methodNamed B.named
  have hlocks := B.notSynchronized
  subst hsz
  have hD := hD0.self (sz := s.heap.size)
  generalize hAe : va_A [(h0, .inr (1, [.ref ek, .ref ec, .ref ef, .ref cki, .int e_limit, .int e_fresh, .int e_firstFree, .int e_held, .int e_mostHeld, .int e_made, .int e_reused, .int e_freed, .int e_doubled])), (ek, .inl (e1, 400, .inl gk)), (ec, .inl (e2, 400, .inl gc)), (ef, .inl (e3, 1200, .inr (.inl gv)))] s.heap.size = A at hD hT ⊢
  have hAA : ∀ q : Nat, s.heap.size ≤ q → A q := fun q h => by rw [← hAe]; exact Or.inr h
  have hS : va_S A s.heap s.heap [] := va_S.rf
  have hl := lv_entry ([.ref h0, .int ce]) (n := 2) (Nat.le_of_ble_eq_true rfl)
  rw [lg_entry_eq]
  generalize (lg_sl ([.ref h0, .int ce]) ++ List.replicate (2 - (lg_sl ([.ref h0, .int ce])).length) Slot.unset).toArray = ls at hl ⊢
  have hl : lv_has ls 2 [(0, .ref h0), (1, .int ce)] := hl
  refine lv_aload_n hx hb dX1_free_0 rfl (lv_at hl 0 rfl) ?_
  have hhe9 := zCS_held hcs
  refine va_get (D := (dC, dI)) (ci := 1) (v := .ref ec) (C := RX1) (T := TX1) (N := 13) hx hb hA zin_X1 hown hK hP 0 rfl rfl 1 (by decide) (hA _ wi_436) (fun _ h9 => h9) rfl dX1_free_1 ?_
  refine lv_iload_n hx hb dX1_free_4 rfl (lv_at hl 1 rfl) ?_
  refine lv_aload_n hx hb dX1_free_5 rfl (lv_at hl 0 rfl) ?_
  refine va_get (D := (dC, dI)) (ci := 1) (v := .int e_firstFree) (C := RX1) (T := TX1) (N := 13) hx hb hA zin_X1 hown hK hP 0 rfl rfl 6 (by decide) (hA _ wi_443) (fun _ h9 => h9) rfl dX1_free_6 ?_
  refine va_iast hx hb hK hP hD hS 2 1 rfl rfl (vp_in_iff.mpr ⟨by omega, by omega⟩) dX1_free_9 (fun H locs hP hD hS => ?_)
  obtain ⟨f_1, ef_1⟩ : ∃ gz9 : Nat → Int32, gz9 = upd gc (Int32.toNatClampNeg ce) e_firstFree := ⟨_, rfl⟩
  rw [← ef_1] at hP hD
  have hP : va_P (dC, dI) vwCl [(h0, .inr (1, [.ref ek, .ref ec, .ref ef, .ref cki, .int e_limit, .int e_fresh, .int e_firstFree, .int e_held, .int e_mostHeld, .int e_made, .int e_reused, .int e_freed, .int e_doubled])), (ek, .inl (e1, 400, .inl gk)), (ec, .inl (e2, 400, .inl f_1)), (ef, .inl (e3, 1200, .inr (.inl gv)))] H := hP
  have hD : va_D A [(h0, .inr (1, [.ref ek, .ref ec, .ref ef, .ref cki, .int e_limit, .int e_fresh, .int e_firstFree, .int e_held, .int e_mostHeld, .int e_made, .int e_reused, .int e_freed, .int e_doubled])), (ek, .inl (e1, 400, .inl gk)), (ec, .inl (e2, 400, .inl f_1)), (ef, .inl (e3, 1200, .inr (.inl gv)))] := hD
  refine lv_aload_n hx hb dX1_free_10 rfl (lv_at hl 0 rfl) ?_
  refine lv_iload_n hx hb dX1_free_11 rfl (lv_at hl 1 rfl) ?_
  refine va_put (D := (dC, dI)) (ci := 1) (v := .int ce) (ty := .int) (C := RX1) (T := TX1) (N := 13) hx hb hA zin_X1 tyX1 tyX1_ok nmX1 hown hK hP hD hS 0 rfl rfl 6 (by decide) (hA _ wi_443) (fun _ h9 => h9) rfl (by decide +kernel) rfl rfl (Nat.le_of_ble_eq_true rfl) dX1_free_12 (fun H locs hP hD hS => ?_)
  have hP : va_P (dC, dI) vwCl [(h0, .inr (1, [.ref ek, .ref ec, .ref ef, .ref cki, .int e_limit, .int e_fresh, .int ce, .int e_held, .int e_mostHeld, .int e_made, .int e_reused, .int e_freed, .int e_doubled])), (ek, .inl (e1, 400, .inl gk)), (ec, .inl (e2, 400, .inl f_1)), (ef, .inl (e3, 1200, .inr (.inl gv)))] H := hP
  have hD : va_D A [(h0, .inr (1, [.ref ek, .ref ec, .ref ef, .ref cki, .int e_limit, .int e_fresh, .int ce, .int e_held, .int e_mostHeld, .int e_made, .int e_reused, .int e_freed, .int e_doubled])), (ek, .inl (e1, 400, .inl gk)), (ec, .inl (e2, 400, .inl f_1)), (ef, .inl (e3, 1200, .inr (.inl gv)))] := hD
  refine lv_aload_n hx hb dX1_free_15 rfl (lv_at hl 0 rfl) ?_
  refine lv_dup hx hb dX1_free_16 rfl ?_
  refine va_get (D := (dC, dI)) (ci := 1) (v := .int e_held) (C := RX1) (T := TX1) (N := 13) hx hb hA zin_X1 hown hK hP 0 rfl rfl 7 (by decide) (hA _ wi_444) (fun _ h9 => h9) rfl dX1_free_17 ?_
  refine lv_iconst (v := 1) hx hb dX1_free_20 (by decide) ?_
  refine lv_isub hx hb dX1_free_21 ?_
  refine lv_topi (fun x_2 ex_2 => ?_)
  have ix_2 : x_2.toInt = e_held.toInt - 1 := by rw [ex_2]; exact zi_subc (by decide) (by omega) (by omega)
  refine va_put (D := (dC, dI)) (ci := 1) (v := .int x_2) (ty := .int) (C := RX1) (T := TX1) (N := 13) hx hb hA zin_X1 tyX1 tyX1_ok nmX1 hown hK hP hD hS 0 rfl rfl 7 (by decide) (hA _ wi_444) (fun _ h9 => h9) rfl (by decide +kernel) rfl rfl (Nat.le_of_ble_eq_true rfl) dX1_free_22 (fun H locs hP hD hS => ?_)
  have hP : va_P (dC, dI) vwCl [(h0, .inr (1, [.ref ek, .ref ec, .ref ef, .ref cki, .int e_limit, .int e_fresh, .int ce, .int x_2, .int e_mostHeld, .int e_made, .int e_reused, .int e_freed, .int e_doubled])), (ek, .inl (e1, 400, .inl gk)), (ec, .inl (e2, 400, .inl f_1)), (ef, .inl (e3, 1200, .inr (.inl gv)))] H := hP
  have hD : va_D A [(h0, .inr (1, [.ref ek, .ref ec, .ref ef, .ref cki, .int e_limit, .int e_fresh, .int ce, .int x_2, .int e_mostHeld, .int e_made, .int e_reused, .int e_freed, .int e_doubled])), (ek, .inl (e1, 400, .inl gk)), (ec, .inl (e2, 400, .inl f_1)), (ef, .inl (e3, 1200, .inr (.inl gv)))] := hD
  refine lv_aload_n hx hb dX1_free_25 rfl (lv_at hl 0 rfl) ?_
  refine lv_dup hx hb dX1_free_26 rfl ?_
  refine va_get (D := (dC, dI)) (ci := 1) (v := .int e_freed) (C := RX1) (T := TX1) (N := 13) hx hb hA zin_X1 hown hK hP 0 rfl rfl 11 (by decide) (hA _ wi_453) (fun _ h9 => h9) rfl dX1_free_27 ?_
  refine lv_iconst (v := 1) hx hb dX1_free_30 (by decide) ?_
  refine lv_iadd hx hb dX1_free_31 ?_
  refine lv_topi (fun x_3 ex_3 => ?_)
  refine va_put (D := (dC, dI)) (ci := 1) (v := .int x_3) (ty := .int) (C := RX1) (T := TX1) (N := 13) hx hb hA zin_X1 tyX1 tyX1_ok nmX1 hown hK hP hD hS 0 rfl rfl 11 (by decide) (hA _ wi_453) (fun _ h9 => h9) rfl (by decide +kernel) rfl rfl (Nat.le_of_ble_eq_true rfl) dX1_free_32 (fun H locs hP hD hS => ?_)
  have hP : va_P (dC, dI) vwCl [(h0, .inr (1, [.ref ek, .ref ec, .ref ef, .ref cki, .int e_limit, .int e_fresh, .int ce, .int x_2, .int e_mostHeld, .int e_made, .int e_reused, .int x_3, .int e_doubled])), (ek, .inl (e1, 400, .inl gk)), (ec, .inl (e2, 400, .inl f_1)), (ef, .inl (e3, 1200, .inr (.inl gv)))] H := hP
  have hD : va_D A [(h0, .inr (1, [.ref ek, .ref ec, .ref ef, .ref cki, .int e_limit, .int e_fresh, .int ce, .int x_2, .int e_mostHeld, .int e_made, .int e_reused, .int x_3, .int e_doubled])), (ek, .inl (e1, 400, .inl gk)), (ec, .inl (e2, 400, .inl f_1)), (ef, .inl (e3, 1200, .inr (.inl gv)))] := hD
  have hP9 := hP.sub (ws' := [(h0, .inr (1, [.ref ek, .ref ec, .ref ef, .ref cki, .int e_limit, .int e_fresh, .int ce, .int x_2, .int e_mostHeld, .int e_made, .int e_reused, .int x_3, .int e_doubled])), (ek, .inl (e1, 400, .inl gk)), (ec, .inl (e2, 400, .inl f_1)), (ef, .inl (e3, 1200, .inr (.inl gv)))]) [0, 1, 2, 3] rfl
  have hD9 := hD.sub (ws' := [(h0, .inr (1, [.ref ek, .ref ec, .ref ef, .ref cki, .int e_limit, .int e_fresh, .int ce, .int x_2, .int e_mostHeld, .int e_made, .int e_reused, .int x_3, .int e_doubled])), (ek, .inl (e1, 400, .inl gk)), (ec, .inl (e2, 400, .inl f_1)), (ef, .inl (e3, 1200, .inr (.inl gv)))]) [0, 1, 2, 3] (by decide) rfl
  have hK9 := hK.sub (tys' := [(e1, .int), (e2, .int), (e3, .long)]) [0, 1, 2] rfl
  exact W.vret hx hb hr (fun t ht hW => ⟨⟨(f_1, x_2, x_3), rfl, (zCS_free hcs hlx hxn (by have := zn_nat (x := ce) hc0; omega) ef_1 (by have := zn_nat (x := ce) hc0; omega) (by omega)), by rw [ht]; exact hP9, va_K.moved hW.alike hK9, hD9⟩, hS.F ht⟩) hS.2.2 dX1_free_35
set_option maxHeartbeats 4000000 in
set_option maxRecDepth 100000 in
theorem c_X1_take_x (l : Launch) (dC : Nat → ClassId) (dI : Nat → Nat → Nat) (aK aV : Nat → Nat) (h0 : Nat) (ek : Nat) (ec : Nat) (ef : Nat) (cki : Nat) (e1 : ClassId) (e2 : ClassId) (e3 : ClassId) (e_limit : Int32) (e_fresh : Int32) (e_firstFree : Int32) (e_held : Int32) (e_mostHeld : Int32) (e_made : Int32) (e_reused : Int32) (e_freed : Int32) (e_doubled : Int32) (gk : Nat → Int32) (gc : Nat → Int32) (gv : Nat → Int64) (wd : Nat → Nat) (lv : Nat → Bool) (R : Nat → Int) (FL : List Nat) (DL : List Nat) (dm : Int32) (sz : Nat) (hcs : zCS wd gc gv e_fresh e_firstFree e_held e_doubled lv R FL DL dm) (hli : e_limit.toInt ≤ 400) : Met l yX1_take (Cond.code yX1_take cX1_take 2 (some .int) :: zw) ({ frames := 8, cells := 0, slots := 0, locals := 200 }) (va_Pc [.ref h0] (zP dC dI aK aV sz [(e1, .int), (e2, .int), (e3, .long)] [(h0, .inr (1, [.ref ek, .ref ec, .ref ef, .ref cki, .int e_limit, .int e_fresh, .int e_firstFree, .int e_held, .int e_mostHeld, .int e_made, .int e_reused, .int e_freed, .int e_doubled])), (ek, .inl (e1, 400, .inl gk)), (ec, .inl (e2, 400, .inl gc)), (ef, .inl (e3, 1200, .inr (.inl gv)))])) (va_Qi (fun (r : Int32) (u : Int32 × Int32 × Int32 × Int32 × Int32) => match u with | (fr2, ff2, he2, mh2, md2) => ((r.toInt = -1 ∧ zCS wd gc gv fr2 ff2 he2 e_doubled lv R FL DL dm) ∨ (0 ≤ r.toInt ∧ r.toInt < fr2.toInt ∧ lv (Int32.toNatClampNeg r) = false ∧ ∃ FL2, zCS wd gc gv fr2 ff2 he2 e_doubled lv R FL2 DL dm ∧ Int32.toNatClampNeg r ∉ FL2 ++ DL ∧ (∀ c ∈ FL2, c ∈ FL) ∧ (Int32.toNatClampNeg r ∈ FL ∨ (Int32.toNatClampNeg r : Int) = e_fresh.toInt))) ∧ (e_fresh.toInt ≤ fr2.toInt)) (fun u => match u with | (fr2, ff2, he2, mh2, md2) => zQ dC dI (va_A [(h0, .inr (1, [.ref ek, .ref ec, .ref ef, .ref cki, .int e_limit, .int e_fresh, .int e_firstFree, .int e_held, .int e_mostHeld, .int e_made, .int e_reused, .int e_freed, .int e_doubled])), (ek, .inl (e1, 400, .inl gk)), (ec, .inl (e2, 400, .inl gc)), (ef, .inl (e3, 1200, .inr (.inl gv)))] sz) [(e1, .int), (e2, .int), (e3, .long)] [(h0, .inr (1, [.ref ek, .ref ec, .ref ef, .ref cki, .int e_limit, .int fr2, .int ff2, .int he2, .int mh2, .int md2, .int e_reused, .int e_freed, .int e_doubled])), (ek, .inl (e1, 400, .inl gk)), (ec, .inl (e2, 400, .inl gc)), (ef, .inl (e3, 1200, .inr (.inl gv)))]) (va_A [(h0, .inr (1, [.ref ek, .ref ec, .ref ef, .ref cki, .int e_limit, .int e_fresh, .int e_firstFree, .int e_held, .int e_mostHeld, .int e_made, .int e_reused, .int e_freed, .int e_doubled])), (ek, .inl (e1, 400, .inl gk)), (ec, .inl (e2, 400, .inl gc)), (ef, .inl (e3, 1200, .inr (.inl gv)))] sz)) 0 0 (va_A [(h0, .inr (1, [.ref ek, .ref ec, .ref ef, .ref cki, .int e_limit, .int e_fresh, .int e_firstFree, .int e_held, .int e_mostHeld, .int e_made, .int e_reused, .int e_freed, .int e_doubled])), (ek, .inl (e1, 400, .inl gk)), (ec, .inl (e2, 400, .inl gc)), (ef, .inl (e3, 1200, .inr (.inl gv)))] sz) := by
  refine Met.ofW (cc := cX1_take) (maxL := 2) (ret := (some .int)) (by decide) rfl ?_
  intro p e s m args below meth c s₁ B hml hv
  obtain ⟨rfl, hsz, hP, hK, hD0, hN, hT⟩ := hv
  have hx := B.exec
  have hb := B.bytes
  have hr := B.returns
  have hts := atoms_spec (ws := Cond.code yX1_take cX1_take 2 (some .int) :: zw) B.pre
  have hA : ∀ w ∈ zw, w.before _ s = true := fun w h => hts w (List.mem_cons_of_mem _ h)
  have hown : s.vm.findClass RX1 = some m.cls := findClass_of_methodNamed B.named
  have hlocks := B.notSynchronized
  subst hsz
  have hD := hD0.self (sz := s.heap.size)
  generalize hAe : va_A [(h0, .inr (1, [.ref ek, .ref ec, .ref ef, .ref cki, .int e_limit, .int e_fresh, .int e_firstFree, .int e_held, .int e_mostHeld, .int e_made, .int e_reused, .int e_freed, .int e_doubled])), (ek, .inl (e1, 400, .inl gk)), (ec, .inl (e2, 400, .inl gc)), (ef, .inl (e3, 1200, .inr (.inl gv)))] s.heap.size = A at hD hT ⊢
  have hAA : ∀ q : Nat, s.heap.size ≤ q → A q := fun q h => by rw [← hAe]; exact Or.inr h
  have hS : va_S A s.heap s.heap [] := va_S.rf
  have hl := lv_entry ([.ref h0]) (n := 2) (Nat.le_of_ble_eq_true rfl)
  rw [lg_entry_eq]
  generalize (lg_sl ([.ref h0]) ++ List.replicate (2 - (lg_sl ([.ref h0])).length) Slot.unset).toArray = ls at hl ⊢
  have hl : lv_has ls 2 [(0, .ref h0)] := hl
  refine lv_aload_n hx hb dX1_take_0 rfl (lv_at hl 0 rfl) ?_
  have hhe9 := zCS_held hcs
  refine va_get (D := (dC, dI)) (ci := 1) (v := .int e_held) (C := RX1) (T := TX1) (N := 13) hx hb hA zin_X1 hown hK hP 0 rfl rfl 7 (by decide) (hA _ wi_444) (fun _ h9 => h9) rfl dX1_take_1 ?_
  refine lv_aload_n hx hb dX1_take_4 rfl (lv_at hl 0 rfl) ?_
  refine va_get (D := (dC, dI)) (ci := 1) (v := .int e_limit) (C := RX1) (T := TX1) (N := 13) hx hb hA zin_X1 hown hK hP 0 rfl rfl 4 (by decide) (hA _ wi_441) (fun _ h9 => h9) rfl dX1_take_5 ?_
  refine lv_icmp_lt (tgt := 13) hx hb dX1_take_8 (by decide) (fun c_1 => ?_) (fun c_1 => ?_)
  · have ic_1 : e_held.toInt < e_limit.toInt := zi_lt c_1
    refine lv_aload_n hx hb dX1_take_13 rfl (lv_at hl 0 rfl) ?_
    refine va_get (D := (dC, dI)) (ci := 1) (v := .int e_firstFree) (C := RX1) (T := TX1) (N := 13) hx hb hA zin_X1 hown hK hP 0 rfl rfl 6 (by decide) (hA _ wi_443) (fun _ h9 => h9) rfl dX1_take_14 ?_
    refine lv_istore_n (lv' := [(1, .int e_firstFree), (0, .ref h0)]) hx hb dX1_take_17 rfl hl (by decide) rfl (fun ls hl => ?_)
    refine lv_iload_n hx hb dX1_take_18 rfl (lv_at hl 0 rfl) ?_
    refine lv_iconst (v := (-1)) hx hb dX1_take_19 (by decide) ?_
    refine lv_icmp_ne (tgt := 41) hx hb dX1_take_20 (by decide) (fun c_2 => ?_) (fun c_2 => ?_)
    · have ic_2 : e_firstFree.toInt ≠ (-1) := zi_ne c_2
      have hff9 := zCS_take1 (ff2 := gc (Int32.toNatClampNeg e_firstFree)) (held2 := e_held + 1) hcs (by omega) rfl (by rw [Int32.toInt_add]; exact zi_bmod (by have : Int32.toInt 1 = 1 := (by decide); omega) (by have : Int32.toInt 1 = 1 := (by decide); omega))
      refine lv_aload_n hx hb dX1_take_41 rfl (lv_at hl 1 rfl) ?_
      refine lv_aload_n hx hb dX1_take_42 rfl (lv_at hl 1 rfl) ?_
      refine va_get (D := (dC, dI)) (ci := 1) (v := .ref ec) (C := RX1) (T := TX1) (N := 13) hx hb hA zin_X1 hown hK hP 0 rfl rfl 1 (by decide) (hA _ wi_436) (fun _ h9 => h9) rfl dX1_take_43 ?_
      refine lv_iload_n hx hb dX1_take_46 rfl (lv_at hl 0 rfl) ?_
      refine va_iald hx hb hK hP 2 1 rfl rfl (vp_in_iff.mpr ⟨by omega, by omega⟩) dX1_take_47 ?_
      refine lv_topi (fun x_3 ex_3 => ?_)
      refine va_put (D := (dC, dI)) (ci := 1) (v := .int x_3) (ty := .int) (C := RX1) (T := TX1) (N := 13) hx hb hA zin_X1 tyX1 tyX1_ok nmX1 hown hK hP hD hS 0 rfl rfl 6 (by decide) (hA _ wi_443) (fun _ h9 => h9) rfl (by decide +kernel) rfl rfl (Nat.le_of_ble_eq_true rfl) dX1_take_48 (fun H locs hP hD hS => ?_)
      have hP : va_P (dC, dI) vwCl [(h0, .inr (1, [.ref ek, .ref ec, .ref ef, .ref cki, .int e_limit, .int e_fresh, .int x_3, .int e_held, .int e_mostHeld, .int e_made, .int e_reused, .int e_freed, .int e_doubled])), (ek, .inl (e1, 400, .inl gk)), (ec, .inl (e2, 400, .inl gc)), (ef, .inl (e3, 1200, .inr (.inl gv)))] H := hP
      have hD : va_D A [(h0, .inr (1, [.ref ek, .ref ec, .ref ef, .ref cki, .int e_limit, .int e_fresh, .int x_3, .int e_held, .int e_mostHeld, .int e_made, .int e_reused, .int e_freed, .int e_doubled])), (ek, .inl (e1, 400, .inl gk)), (ec, .inl (e2, 400, .inl gc)), (ef, .inl (e3, 1200, .inr (.inl gv)))] := hD
      refine lv_aload_n hx hb dX1_take_51 rfl (lv_at hl 1 rfl) ?_
      refine lv_dup hx hb dX1_take_52 rfl ?_
      refine va_get (D := (dC, dI)) (ci := 1) (v := .int e_made) (C := RX1) (T := TX1) (N := 13) hx hb hA zin_X1 hown hK hP 0 rfl rfl 9 (by decide) (hA _ wi_448) (fun _ h9 => h9) rfl dX1_take_53 ?_
      refine lv_iconst (v := 1) hx hb dX1_take_56 (by decide) ?_
      refine lv_iadd hx hb dX1_take_57 ?_
      refine lv_topi (fun x_4 ex_4 => ?_)
      refine va_put (D := (dC, dI)) (ci := 1) (v := .int x_4) (ty := .int) (C := RX1) (T := TX1) (N := 13) hx hb hA zin_X1 tyX1 tyX1_ok nmX1 hown hK hP hD hS 0 rfl rfl 9 (by decide) (hA _ wi_448) (fun _ h9 => h9) rfl (by decide +kernel) rfl rfl (Nat.le_of_ble_eq_true rfl) dX1_take_58 (fun H locs hP hD hS => ?_)
      have hP : va_P (dC, dI) vwCl [(h0, .inr (1, [.ref ek, .ref ec, .ref ef, .ref cki, .int e_limit, .int e_fresh, .int x_3, .int e_held, .int e_mostHeld, .int x_4, .int e_reused, .int e_freed, .int e_doubled])), (ek, .inl (e1, 400, .inl gk)), (ec, .inl (e2, 400, .inl gc)), (ef, .inl (e3, 1200, .inr (.inl gv)))] H := hP
      have hD : va_D A [(h0, .inr (1, [.ref ek, .ref ec, .ref ef, .ref cki, .int e_limit, .int e_fresh, .int x_3, .int e_held, .int e_mostHeld, .int x_4, .int e_reused, .int e_freed, .int e_doubled])), (ek, .inl (e1, 400, .inl gk)), (ec, .inl (e2, 400, .inl gc)), (ef, .inl (e3, 1200, .inr (.inl gv)))] := hD
      refine lv_aload_n hx hb dX1_take_61 rfl (lv_at hl 1 rfl) ?_
      refine lv_dup hx hb dX1_take_62 rfl ?_
      refine va_get (D := (dC, dI)) (ci := 1) (v := .int e_held) (C := RX1) (T := TX1) (N := 13) hx hb hA zin_X1 hown hK hP 0 rfl rfl 7 (by decide) (hA _ wi_444) (fun _ h9 => h9) rfl dX1_take_63 ?_
      refine lv_iconst (v := 1) hx hb dX1_take_66 (by decide) ?_
      refine lv_iadd hx hb dX1_take_67 ?_
      refine lv_topi (fun x_5 ex_5 => ?_)
      have ix_5 : x_5.toInt = e_held.toInt + 1 := by rw [ex_5]; exact zi_addc (by decide) (by omega) (by omega)
      refine va_put (D := (dC, dI)) (ci := 1) (v := .int x_5) (ty := .int) (C := RX1) (T := TX1) (N := 13) hx hb hA zin_X1 tyX1 tyX1_ok nmX1 hown hK hP hD hS 0 rfl rfl 7 (by decide) (hA _ wi_444) (fun _ h9 => h9) rfl (by decide +kernel) rfl rfl (Nat.le_of_ble_eq_true rfl) dX1_take_68 (fun H locs hP hD hS => ?_)
      have hP : va_P (dC, dI) vwCl [(h0, .inr (1, [.ref ek, .ref ec, .ref ef, .ref cki, .int e_limit, .int e_fresh, .int x_3, .int x_5, .int e_mostHeld, .int x_4, .int e_reused, .int e_freed, .int e_doubled])), (ek, .inl (e1, 400, .inl gk)), (ec, .inl (e2, 400, .inl gc)), (ef, .inl (e3, 1200, .inr (.inl gv)))] H := hP
      have hD : va_D A [(h0, .inr (1, [.ref ek, .ref ec, .ref ef, .ref cki, .int e_limit, .int e_fresh, .int x_3, .int x_5, .int e_mostHeld, .int x_4, .int e_reused, .int e_freed, .int e_doubled])), (ek, .inl (e1, 400, .inl gk)), (ec, .inl (e2, 400, .inl gc)), (ef, .inl (e3, 1200, .inr (.inl gv)))] := hD
      refine lv_aload_n hx hb dX1_take_71 rfl (lv_at hl 1 rfl) ?_
      refine lv_aload_n hx hb dX1_take_72 rfl (lv_at hl 1 rfl) ?_
      refine va_get (D := (dC, dI)) (ci := 1) (v := .int e_mostHeld) (C := RX1) (T := TX1) (N := 13) hx hb hA zin_X1 hown hK hP 0 rfl rfl 8 (by decide) (hA _ wi_446) (fun _ h9 => h9) rfl dX1_take_73 ?_
      refine lv_aload_n hx hb dX1_take_76 rfl (lv_at hl 1 rfl) ?_
      refine va_get (D := (dC, dI)) (ci := 1) (v := .int x_5) (C := RX1) (T := TX1) (N := 13) hx hb hA zin_X1 hown hK hP 0 rfl rfl 7 (by decide) (hA _ wi_444) (fun _ h9 => h9) rfl dX1_take_77 ?_
      refine va_mmax hx hb (by rw [hml]; exact hl.1.symm) hown (hA _ wi_430) (hA _ wi_431) (hA _ wi_141) (hA _ wi_432) (Nat.le_of_ble_eq_true rfl) (Nat.le_of_ble_eq_true rfl) (Nat.le_of_ble_eq_true rfl) (Nat.le_of_ble_eq_true rfl) dX1_take_80 ?_
      refine lv_topi (fun x_6 ex_6 => ?_)
      have ix_6 : x_6.toInt ≥ e_mostHeld.toInt ∧ x_6.toInt ≥ x_5.toInt ∧ (x_6.toInt = e_mostHeld.toInt ∨ x_6.toInt = x_5.toInt) := zi_max ex_6 rfl rfl
      refine va_put (D := (dC, dI)) (ci := 1) (v := .int x_6) (ty := .int) (C := RX1) (T := TX1) (N := 13) hx hb hA zin_X1 tyX1 tyX1_ok nmX1 hown hK hP hD hS 0 rfl rfl 8 (by decide) (hA _ wi_446) (fun _ h9 => h9) rfl (by decide +kernel) rfl rfl (Nat.le_of_ble_eq_true rfl) dX1_take_83 (fun H locs hP hD hS => ?_)
      have hP : va_P (dC, dI) vwCl [(h0, .inr (1, [.ref ek, .ref ec, .ref ef, .ref cki, .int e_limit, .int e_fresh, .int x_3, .int x_5, .int x_6, .int x_4, .int e_reused, .int e_freed, .int e_doubled])), (ek, .inl (e1, 400, .inl gk)), (ec, .inl (e2, 400, .inl gc)), (ef, .inl (e3, 1200, .inr (.inl gv)))] H := hP
      have hD : va_D A [(h0, .inr (1, [.ref ek, .ref ec, .ref ef, .ref cki, .int e_limit, .int e_fresh, .int x_3, .int x_5, .int x_6, .int x_4, .int e_reused, .int e_freed, .int e_doubled])), (ek, .inl (e1, 400, .inl gk)), (ec, .inl (e2, 400, .inl gc)), (ef, .inl (e3, 1200, .inr (.inl gv)))] := hD
      refine lv_iload_n hx hb dX1_take_86 rfl (lv_at hl 0 rfl) ?_
      have hP9 := hP.sub (ws' := [(h0, .inr (1, [.ref ek, .ref ec, .ref ef, .ref cki, .int e_limit, .int e_fresh, .int x_3, .int x_5, .int x_6, .int x_4, .int e_reused, .int e_freed, .int e_doubled])), (ek, .inl (e1, 400, .inl gk)), (ec, .inl (e2, 400, .inl gc)), (ef, .inl (e3, 1200, .inr (.inl gv)))]) [0, 1, 2, 3] rfl
      have hD9 := hD.sub (ws' := [(h0, .inr (1, [.ref ek, .ref ec, .ref ef, .ref cki, .int e_limit, .int e_fresh, .int x_3, .int x_5, .int x_6, .int x_4, .int e_reused, .int e_freed, .int e_doubled])), (ek, .inl (e1, 400, .inl gk)), (ec, .inl (e2, 400, .inl gc)), (ef, .inl (e3, 1200, .inr (.inl gv)))]) [0, 1, 2, 3] (by decide) rfl
      have hK9 := hK.sub (tys' := [(e1, .int), (e2, .int), (e3, .long)]) [0, 1, 2] rfl
      exact W.iret (v := e_firstFree) hx hb hr (fun t ht hW => ⟨⟨e_firstFree, (e_fresh, x_3, x_5, x_6, x_4), rfl, ⟨(by obtain ⟨t1, t2, t3, FL2, t4, t5, t6⟩ := zCS_take1 (held2 := x_5) hcs (by omega) ex_3 (by omega); exact Or.inr ⟨t1, t2, t3, FL2, t4, t5, t6.1, Or.inl t6.2⟩), by omega⟩, by rw [ht]; exact hP9, va_K.moved hW.alike hK9, hD9⟩, hS.F ht⟩) hS.2.2 dX1_take_87
    · have ic_2 : e_firstFree.toInt = (-1) := zi_eq c_2
      refine lv_aload_n hx hb dX1_take_23 rfl (lv_at hl 1 rfl) ?_
      refine va_get (D := (dC, dI)) (ci := 1) (v := .int e_fresh) (C := RX1) (T := TX1) (N := 13) hx hb hA zin_X1 hown hK hP 0 rfl rfl 5 (by decide) (hA _ wi_442) (fun _ h9 => h9) rfl dX1_take_24 ?_
      refine lv_istore_n (lv' := [(1, .int e_fresh), (0, .ref h0)]) hx hb dX1_take_27 rfl hl (by decide) rfl (fun ls hl => ?_)
      refine lv_aload_n hx hb dX1_take_28 rfl (lv_at hl 1 rfl) ?_
      refine lv_dup hx hb dX1_take_29 rfl ?_
      refine va_get (D := (dC, dI)) (ci := 1) (v := .int e_fresh) (C := RX1) (T := TX1) (N := 13) hx hb hA zin_X1 hown hK hP 0 rfl rfl 5 (by decide) (hA _ wi_442) (fun _ h9 => h9) rfl dX1_take_30 ?_
      refine lv_iconst (v := 1) hx hb dX1_take_33 (by decide) ?_
      refine lv_iadd hx hb dX1_take_34 ?_
      refine lv_topi (fun x_7 ex_7 => ?_)
      have ix_7 : x_7.toInt = e_fresh.toInt + 1 := by rw [ex_7]; exact zi_addc (by decide) (by omega) (by omega)
      refine va_put (D := (dC, dI)) (ci := 1) (v := .int x_7) (ty := .int) (C := RX1) (T := TX1) (N := 13) hx hb hA zin_X1 tyX1 tyX1_ok nmX1 hown hK hP hD hS 0 rfl rfl 5 (by decide) (hA _ wi_442) (fun _ h9 => h9) rfl (by decide +kernel) rfl rfl (Nat.le_of_ble_eq_true rfl) dX1_take_35 (fun H locs hP hD hS => ?_)
      have hP : va_P (dC, dI) vwCl [(h0, .inr (1, [.ref ek, .ref ec, .ref ef, .ref cki, .int e_limit, .int x_7, .int e_firstFree, .int e_held, .int e_mostHeld, .int e_made, .int e_reused, .int e_freed, .int e_doubled])), (ek, .inl (e1, 400, .inl gk)), (ec, .inl (e2, 400, .inl gc)), (ef, .inl (e3, 1200, .inr (.inl gv)))] H := hP
      have hD : va_D A [(h0, .inr (1, [.ref ek, .ref ec, .ref ef, .ref cki, .int e_limit, .int x_7, .int e_firstFree, .int e_held, .int e_mostHeld, .int e_made, .int e_reused, .int e_freed, .int e_doubled])), (ek, .inl (e1, 400, .inl gk)), (ec, .inl (e2, 400, .inl gc)), (ef, .inl (e3, 1200, .inr (.inl gv)))] := hD
      refine lv_goto (tgt := 51) hx hb dX1_take_38 (by decide) ?_
      refine lv_aload_n hx hb dX1_take_51 rfl (lv_at hl 1 rfl) ?_
      refine lv_dup hx hb dX1_take_52 rfl ?_
      refine va_get (D := (dC, dI)) (ci := 1) (v := .int e_made) (C := RX1) (T := TX1) (N := 13) hx hb hA zin_X1 hown hK hP 0 rfl rfl 9 (by decide) (hA _ wi_448) (fun _ h9 => h9) rfl dX1_take_53 ?_
      refine lv_iconst (v := 1) hx hb dX1_take_56 (by decide) ?_
      refine lv_iadd hx hb dX1_take_57 ?_
      refine lv_topi (fun x_8 ex_8 => ?_)
      refine va_put (D := (dC, dI)) (ci := 1) (v := .int x_8) (ty := .int) (C := RX1) (T := TX1) (N := 13) hx hb hA zin_X1 tyX1 tyX1_ok nmX1 hown hK hP hD hS 0 rfl rfl 9 (by decide) (hA _ wi_448) (fun _ h9 => h9) rfl (by decide +kernel) rfl rfl (Nat.le_of_ble_eq_true rfl) dX1_take_58 (fun H locs hP hD hS => ?_)
      have hP : va_P (dC, dI) vwCl [(h0, .inr (1, [.ref ek, .ref ec, .ref ef, .ref cki, .int e_limit, .int x_7, .int e_firstFree, .int e_held, .int e_mostHeld, .int x_8, .int e_reused, .int e_freed, .int e_doubled])), (ek, .inl (e1, 400, .inl gk)), (ec, .inl (e2, 400, .inl gc)), (ef, .inl (e3, 1200, .inr (.inl gv)))] H := hP
      have hD : va_D A [(h0, .inr (1, [.ref ek, .ref ec, .ref ef, .ref cki, .int e_limit, .int x_7, .int e_firstFree, .int e_held, .int e_mostHeld, .int x_8, .int e_reused, .int e_freed, .int e_doubled])), (ek, .inl (e1, 400, .inl gk)), (ec, .inl (e2, 400, .inl gc)), (ef, .inl (e3, 1200, .inr (.inl gv)))] := hD
      refine lv_aload_n hx hb dX1_take_61 rfl (lv_at hl 1 rfl) ?_
      refine lv_dup hx hb dX1_take_62 rfl ?_
      refine va_get (D := (dC, dI)) (ci := 1) (v := .int e_held) (C := RX1) (T := TX1) (N := 13) hx hb hA zin_X1 hown hK hP 0 rfl rfl 7 (by decide) (hA _ wi_444) (fun _ h9 => h9) rfl dX1_take_63 ?_
      refine lv_iconst (v := 1) hx hb dX1_take_66 (by decide) ?_
      refine lv_iadd hx hb dX1_take_67 ?_
      refine lv_topi (fun x_9 ex_9 => ?_)
      have ix_9 : x_9.toInt = e_held.toInt + 1 := by rw [ex_9]; exact zi_addc (by decide) (by omega) (by omega)
      refine va_put (D := (dC, dI)) (ci := 1) (v := .int x_9) (ty := .int) (C := RX1) (T := TX1) (N := 13) hx hb hA zin_X1 tyX1 tyX1_ok nmX1 hown hK hP hD hS 0 rfl rfl 7 (by decide) (hA _ wi_444) (fun _ h9 => h9) rfl (by decide +kernel) rfl rfl (Nat.le_of_ble_eq_true rfl) dX1_take_68 (fun H locs hP hD hS => ?_)
      have hP : va_P (dC, dI) vwCl [(h0, .inr (1, [.ref ek, .ref ec, .ref ef, .ref cki, .int e_limit, .int x_7, .int e_firstFree, .int x_9, .int e_mostHeld, .int x_8, .int e_reused, .int e_freed, .int e_doubled])), (ek, .inl (e1, 400, .inl gk)), (ec, .inl (e2, 400, .inl gc)), (ef, .inl (e3, 1200, .inr (.inl gv)))] H := hP
      have hD : va_D A [(h0, .inr (1, [.ref ek, .ref ec, .ref ef, .ref cki, .int e_limit, .int x_7, .int e_firstFree, .int x_9, .int e_mostHeld, .int x_8, .int e_reused, .int e_freed, .int e_doubled])), (ek, .inl (e1, 400, .inl gk)), (ec, .inl (e2, 400, .inl gc)), (ef, .inl (e3, 1200, .inr (.inl gv)))] := hD
      refine lv_aload_n hx hb dX1_take_71 rfl (lv_at hl 1 rfl) ?_
      refine lv_aload_n hx hb dX1_take_72 rfl (lv_at hl 1 rfl) ?_
      refine va_get (D := (dC, dI)) (ci := 1) (v := .int e_mostHeld) (C := RX1) (T := TX1) (N := 13) hx hb hA zin_X1 hown hK hP 0 rfl rfl 8 (by decide) (hA _ wi_446) (fun _ h9 => h9) rfl dX1_take_73 ?_
      refine lv_aload_n hx hb dX1_take_76 rfl (lv_at hl 1 rfl) ?_
      refine va_get (D := (dC, dI)) (ci := 1) (v := .int x_9) (C := RX1) (T := TX1) (N := 13) hx hb hA zin_X1 hown hK hP 0 rfl rfl 7 (by decide) (hA _ wi_444) (fun _ h9 => h9) rfl dX1_take_77 ?_
      refine va_mmax hx hb (by rw [hml]; exact hl.1.symm) hown (hA _ wi_430) (hA _ wi_431) (hA _ wi_141) (hA _ wi_432) (Nat.le_of_ble_eq_true rfl) (Nat.le_of_ble_eq_true rfl) (Nat.le_of_ble_eq_true rfl) (Nat.le_of_ble_eq_true rfl) dX1_take_80 ?_
      refine lv_topi (fun x_10 ex_10 => ?_)
      have ix_10 : x_10.toInt ≥ e_mostHeld.toInt ∧ x_10.toInt ≥ x_9.toInt ∧ (x_10.toInt = e_mostHeld.toInt ∨ x_10.toInt = x_9.toInt) := zi_max ex_10 rfl rfl
      refine va_put (D := (dC, dI)) (ci := 1) (v := .int x_10) (ty := .int) (C := RX1) (T := TX1) (N := 13) hx hb hA zin_X1 tyX1 tyX1_ok nmX1 hown hK hP hD hS 0 rfl rfl 8 (by decide) (hA _ wi_446) (fun _ h9 => h9) rfl (by decide +kernel) rfl rfl (Nat.le_of_ble_eq_true rfl) dX1_take_83 (fun H locs hP hD hS => ?_)
      have hP : va_P (dC, dI) vwCl [(h0, .inr (1, [.ref ek, .ref ec, .ref ef, .ref cki, .int e_limit, .int x_7, .int e_firstFree, .int x_9, .int x_10, .int x_8, .int e_reused, .int e_freed, .int e_doubled])), (ek, .inl (e1, 400, .inl gk)), (ec, .inl (e2, 400, .inl gc)), (ef, .inl (e3, 1200, .inr (.inl gv)))] H := hP
      have hD : va_D A [(h0, .inr (1, [.ref ek, .ref ec, .ref ef, .ref cki, .int e_limit, .int x_7, .int e_firstFree, .int x_9, .int x_10, .int x_8, .int e_reused, .int e_freed, .int e_doubled])), (ek, .inl (e1, 400, .inl gk)), (ec, .inl (e2, 400, .inl gc)), (ef, .inl (e3, 1200, .inr (.inl gv)))] := hD
      refine lv_iload_n hx hb dX1_take_86 rfl (lv_at hl 0 rfl) ?_
      have hP9 := hP.sub (ws' := [(h0, .inr (1, [.ref ek, .ref ec, .ref ef, .ref cki, .int e_limit, .int x_7, .int e_firstFree, .int x_9, .int x_10, .int x_8, .int e_reused, .int e_freed, .int e_doubled])), (ek, .inl (e1, 400, .inl gk)), (ec, .inl (e2, 400, .inl gc)), (ef, .inl (e3, 1200, .inr (.inl gv)))]) [0, 1, 2, 3] rfl
      have hD9 := hD.sub (ws' := [(h0, .inr (1, [.ref ek, .ref ec, .ref ef, .ref cki, .int e_limit, .int x_7, .int e_firstFree, .int x_9, .int x_10, .int x_8, .int e_reused, .int e_freed, .int e_doubled])), (ek, .inl (e1, 400, .inl gk)), (ec, .inl (e2, 400, .inl gc)), (ef, .inl (e3, 1200, .inr (.inl gv)))]) [0, 1, 2, 3] (by decide) rfl
      have hK9 := hK.sub (tys' := [(e1, .int), (e2, .int), (e3, .long)]) [0, 1, 2] rfl
      exact W.iret (v := e_fresh) hx hb hr (fun t ht hW => ⟨⟨e_fresh, (x_7, e_firstFree, x_9, x_10, x_8), rfl, ⟨(by obtain ⟨t1, t2, t3, t4, t5⟩ := zCS_take2 (fresh2 := x_7) (held2 := x_9) hcs (by omega) (by omega) (by omega) (by omega); exact Or.inr ⟨by omega, by omega, t2, [], t4, t5, fun _ h => (nomatch h), Or.inr (zn_nat (by omega))⟩), by omega⟩, by rw [ht]; exact hP9, va_K.moved hW.alike hK9, hD9⟩, hS.F ht⟩) hS.2.2 dX1_take_87
  · have ic_1 : e_limit.toInt ≤ e_held.toInt := zi_nlt c_1
    refine lv_iconst (v := (-1)) hx hb dX1_take_11 (by decide) ?_
    have hlit : Int32.toInt (-1) = (-1) := by decide
    have hP9 := hP.sub (ws' := [(h0, .inr (1, [.ref ek, .ref ec, .ref ef, .ref cki, .int e_limit, .int e_fresh, .int e_firstFree, .int e_held, .int e_mostHeld, .int e_made, .int e_reused, .int e_freed, .int e_doubled])), (ek, .inl (e1, 400, .inl gk)), (ec, .inl (e2, 400, .inl gc)), (ef, .inl (e3, 1200, .inr (.inl gv)))]) [0, 1, 2, 3] rfl
    have hD9 := hD.sub (ws' := [(h0, .inr (1, [.ref ek, .ref ec, .ref ef, .ref cki, .int e_limit, .int e_fresh, .int e_firstFree, .int e_held, .int e_mostHeld, .int e_made, .int e_reused, .int e_freed, .int e_doubled])), (ek, .inl (e1, 400, .inl gk)), (ec, .inl (e2, 400, .inl gc)), (ef, .inl (e3, 1200, .inr (.inl gv)))]) [0, 1, 2, 3] (by decide) rfl
    have hK9 := hK.sub (tys' := [(e1, .int), (e2, .int), (e3, .long)]) [0, 1, 2] rfl
    exact W.iret (v := (-1)) hx hb hr (fun t ht hW => ⟨⟨(-1), (e_fresh, e_firstFree, e_held, e_mostHeld, e_made), rfl, ⟨(Or.inl ⟨by decide, hcs⟩), by omega⟩, by rw [ht]; exact hP9, va_K.moved hW.alike hK9, hD9⟩, hS.F ht⟩) hS.2.2 dX1_take_12
set_option maxHeartbeats 4000000 in
set_option maxRecDepth 100000 in
theorem c_X1_take_x4000 (l : Launch) (dC : Nat → ClassId) (dI : Nat → Nat → Nat) (aK aV : Nat → Nat) (h0 : Nat) (ek : Nat) (ec : Nat) (ef : Nat) (cki : Nat) (e1 : ClassId) (e2 : ClassId) (e3 : ClassId) (e_limit : Int32) (e_fresh : Int32) (e_firstFree : Int32) (e_held : Int32) (e_mostHeld : Int32) (e_made : Int32) (e_reused : Int32) (e_freed : Int32) (e_doubled : Int32) (gk : Nat → Int32) (gc : Nat → Int32) (gv : Nat → Int64) (sz : Nat) (hff : e_firstFree.toInt = -1) (hhe : e_held.toInt = e_fresh.toInt) (hfr : 0 ≤ e_fresh.toInt) (hli : e_limit.toInt ≤ 4000) : Met l yX1_take (Cond.code yX1_take cX1_take 2 (some .int) :: zw) ({ frames := 8, cells := 0, slots := 0, locals := 200 }) (va_Pc [.ref h0] (zP dC dI aK aV sz [(e1, .int), (e2, .int), (e3, .long)] [(h0, .inr (1, [.ref ek, .ref ec, .ref ef, .ref cki, .int e_limit, .int e_fresh, .int e_firstFree, .int e_held, .int e_mostHeld, .int e_made, .int e_reused, .int e_freed, .int e_doubled])), (ek, .inl (e1, 4000, .inl gk)), (ec, .inl (e2, 4000, .inl gc)), (ef, .inl (e3, 12000, .inr (.inl gv)))])) (va_Qi (fun (r : Int32) (u : Int32 × Int32 × Int32 × Int32 × Int32) => match u with | (fr2, ff2, he2, mh2, md2) => (r.toInt = -1 ∧ fr2.toInt = e_fresh.toInt ∧ e_limit.toInt ≤ e_fresh.toInt ∨ r.toInt = e_fresh.toInt ∧ r.toInt < 4000 ∧ fr2.toInt = e_fresh.toInt + 1) ∧ (ff2.toInt = -1) ∧ (he2.toInt = fr2.toInt)) (fun u => match u with | (fr2, ff2, he2, mh2, md2) => zQ dC dI (va_A [(h0, .inr (1, [.ref ek, .ref ec, .ref ef, .ref cki, .int e_limit, .int e_fresh, .int e_firstFree, .int e_held, .int e_mostHeld, .int e_made, .int e_reused, .int e_freed, .int e_doubled])), (ek, .inl (e1, 4000, .inl gk)), (ec, .inl (e2, 4000, .inl gc)), (ef, .inl (e3, 12000, .inr (.inl gv)))] sz) [(e1, .int), (e2, .int), (e3, .long)] [(h0, .inr (1, [.ref ek, .ref ec, .ref ef, .ref cki, .int e_limit, .int fr2, .int ff2, .int he2, .int mh2, .int md2, .int e_reused, .int e_freed, .int e_doubled])), (ek, .inl (e1, 4000, .inl gk)), (ec, .inl (e2, 4000, .inl gc)), (ef, .inl (e3, 12000, .inr (.inl gv)))]) (va_A [(h0, .inr (1, [.ref ek, .ref ec, .ref ef, .ref cki, .int e_limit, .int e_fresh, .int e_firstFree, .int e_held, .int e_mostHeld, .int e_made, .int e_reused, .int e_freed, .int e_doubled])), (ek, .inl (e1, 4000, .inl gk)), (ec, .inl (e2, 4000, .inl gc)), (ef, .inl (e3, 12000, .inr (.inl gv)))] sz)) 0 0 (va_A [(h0, .inr (1, [.ref ek, .ref ec, .ref ef, .ref cki, .int e_limit, .int e_fresh, .int e_firstFree, .int e_held, .int e_mostHeld, .int e_made, .int e_reused, .int e_freed, .int e_doubled])), (ek, .inl (e1, 4000, .inl gk)), (ec, .inl (e2, 4000, .inl gc)), (ef, .inl (e3, 12000, .inr (.inl gv)))] sz) := by
  refine Met.ofW (cc := cX1_take) (maxL := 2) (ret := (some .int)) (by decide) rfl ?_
  intro p e s m args below meth c s₁ B hml hv
  obtain ⟨rfl, hsz, hP, hK, hD0, hN, hT⟩ := hv
  have hx := B.exec
  have hb := B.bytes
  have hr := B.returns
  have hts := atoms_spec (ws := Cond.code yX1_take cX1_take 2 (some .int) :: zw) B.pre
  have hA : ∀ w ∈ zw, w.before _ s = true := fun w h => hts w (List.mem_cons_of_mem _ h)
  have hown : s.vm.findClass RX1 = some m.cls := findClass_of_methodNamed B.named
  have hlocks := B.notSynchronized
  subst hsz
  have hD := hD0.self (sz := s.heap.size)
  generalize hAe : va_A [(h0, .inr (1, [.ref ek, .ref ec, .ref ef, .ref cki, .int e_limit, .int e_fresh, .int e_firstFree, .int e_held, .int e_mostHeld, .int e_made, .int e_reused, .int e_freed, .int e_doubled])), (ek, .inl (e1, 4000, .inl gk)), (ec, .inl (e2, 4000, .inl gc)), (ef, .inl (e3, 12000, .inr (.inl gv)))] s.heap.size = A at hD hT ⊢
  have hAA : ∀ q : Nat, s.heap.size ≤ q → A q := fun q h => by rw [← hAe]; exact Or.inr h
  have hS : va_S A s.heap s.heap [] := va_S.rf
  have hl := lv_entry ([.ref h0]) (n := 2) (Nat.le_of_ble_eq_true rfl)
  rw [lg_entry_eq]
  generalize (lg_sl ([.ref h0]) ++ List.replicate (2 - (lg_sl ([.ref h0])).length) Slot.unset).toArray = ls at hl ⊢
  have hl : lv_has ls 2 [(0, .ref h0)] := hl
  refine lv_aload_n hx hb dX1_take_0 rfl (lv_at hl 0 rfl) ?_
  refine va_get (D := (dC, dI)) (ci := 1) (v := .int e_held) (C := RX1) (T := TX1) (N := 13) hx hb hA zin_X1 hown hK hP 0 rfl rfl 7 (by decide) (hA _ wi_444) (fun _ h9 => h9) rfl dX1_take_1 ?_
  refine lv_aload_n hx hb dX1_take_4 rfl (lv_at hl 0 rfl) ?_
  refine va_get (D := (dC, dI)) (ci := 1) (v := .int e_limit) (C := RX1) (T := TX1) (N := 13) hx hb hA zin_X1 hown hK hP 0 rfl rfl 4 (by decide) (hA _ wi_441) (fun _ h9 => h9) rfl dX1_take_5 ?_
  refine lv_icmp_lt (tgt := 13) hx hb dX1_take_8 (by decide) (fun c_1 => ?_) (fun c_1 => ?_)
  · have ic_1 : e_held.toInt < e_limit.toInt := zi_lt c_1
    refine lv_aload_n hx hb dX1_take_13 rfl (lv_at hl 0 rfl) ?_
    refine va_get (D := (dC, dI)) (ci := 1) (v := .int e_firstFree) (C := RX1) (T := TX1) (N := 13) hx hb hA zin_X1 hown hK hP 0 rfl rfl 6 (by decide) (hA _ wi_443) (fun _ h9 => h9) rfl dX1_take_14 ?_
    refine lv_istore_n (lv' := [(1, .int e_firstFree), (0, .ref h0)]) hx hb dX1_take_17 rfl hl (by decide) rfl (fun ls hl => ?_)
    refine lv_iload_n hx hb dX1_take_18 rfl (lv_at hl 0 rfl) ?_
    refine lv_iconst (v := (-1)) hx hb dX1_take_19 (by decide) ?_
    refine lv_icmp_ne (tgt := 41) hx hb dX1_take_20 (by decide) (fun c_2 => ?_) (fun c_2 => ?_)
    · have ic_2 : e_firstFree.toInt ≠ (-1) := zi_ne c_2
      exfalso
      omega
    · have ic_2 : e_firstFree.toInt = (-1) := zi_eq c_2
      refine lv_aload_n hx hb dX1_take_23 rfl (lv_at hl 1 rfl) ?_
      refine va_get (D := (dC, dI)) (ci := 1) (v := .int e_fresh) (C := RX1) (T := TX1) (N := 13) hx hb hA zin_X1 hown hK hP 0 rfl rfl 5 (by decide) (hA _ wi_442) (fun _ h9 => h9) rfl dX1_take_24 ?_
      refine lv_istore_n (lv' := [(1, .int e_fresh), (0, .ref h0)]) hx hb dX1_take_27 rfl hl (by decide) rfl (fun ls hl => ?_)
      refine lv_aload_n hx hb dX1_take_28 rfl (lv_at hl 1 rfl) ?_
      refine lv_dup hx hb dX1_take_29 rfl ?_
      refine va_get (D := (dC, dI)) (ci := 1) (v := .int e_fresh) (C := RX1) (T := TX1) (N := 13) hx hb hA zin_X1 hown hK hP 0 rfl rfl 5 (by decide) (hA _ wi_442) (fun _ h9 => h9) rfl dX1_take_30 ?_
      refine lv_iconst (v := 1) hx hb dX1_take_33 (by decide) ?_
      refine lv_iadd hx hb dX1_take_34 ?_
      refine lv_topi (fun x_3 ex_3 => ?_)
      have ix_3 : x_3.toInt = e_fresh.toInt + 1 := by rw [ex_3]; exact zi_addc (by decide) (by omega) (by omega)
      refine va_put (D := (dC, dI)) (ci := 1) (v := .int x_3) (ty := .int) (C := RX1) (T := TX1) (N := 13) hx hb hA zin_X1 tyX1 tyX1_ok nmX1 hown hK hP hD hS 0 rfl rfl 5 (by decide) (hA _ wi_442) (fun _ h9 => h9) rfl (by decide +kernel) rfl rfl (Nat.le_of_ble_eq_true rfl) dX1_take_35 (fun H locs hP hD hS => ?_)
      have hP : va_P (dC, dI) vwCl [(h0, .inr (1, [.ref ek, .ref ec, .ref ef, .ref cki, .int e_limit, .int x_3, .int e_firstFree, .int e_held, .int e_mostHeld, .int e_made, .int e_reused, .int e_freed, .int e_doubled])), (ek, .inl (e1, 4000, .inl gk)), (ec, .inl (e2, 4000, .inl gc)), (ef, .inl (e3, 12000, .inr (.inl gv)))] H := hP
      have hD : va_D A [(h0, .inr (1, [.ref ek, .ref ec, .ref ef, .ref cki, .int e_limit, .int x_3, .int e_firstFree, .int e_held, .int e_mostHeld, .int e_made, .int e_reused, .int e_freed, .int e_doubled])), (ek, .inl (e1, 4000, .inl gk)), (ec, .inl (e2, 4000, .inl gc)), (ef, .inl (e3, 12000, .inr (.inl gv)))] := hD
      refine lv_goto (tgt := 51) hx hb dX1_take_38 (by decide) ?_
      refine lv_aload_n hx hb dX1_take_51 rfl (lv_at hl 1 rfl) ?_
      refine lv_dup hx hb dX1_take_52 rfl ?_
      refine va_get (D := (dC, dI)) (ci := 1) (v := .int e_made) (C := RX1) (T := TX1) (N := 13) hx hb hA zin_X1 hown hK hP 0 rfl rfl 9 (by decide) (hA _ wi_448) (fun _ h9 => h9) rfl dX1_take_53 ?_
      refine lv_iconst (v := 1) hx hb dX1_take_56 (by decide) ?_
      refine lv_iadd hx hb dX1_take_57 ?_
      refine lv_topi (fun x_4 ex_4 => ?_)
      refine va_put (D := (dC, dI)) (ci := 1) (v := .int x_4) (ty := .int) (C := RX1) (T := TX1) (N := 13) hx hb hA zin_X1 tyX1 tyX1_ok nmX1 hown hK hP hD hS 0 rfl rfl 9 (by decide) (hA _ wi_448) (fun _ h9 => h9) rfl (by decide +kernel) rfl rfl (Nat.le_of_ble_eq_true rfl) dX1_take_58 (fun H locs hP hD hS => ?_)
      have hP : va_P (dC, dI) vwCl [(h0, .inr (1, [.ref ek, .ref ec, .ref ef, .ref cki, .int e_limit, .int x_3, .int e_firstFree, .int e_held, .int e_mostHeld, .int x_4, .int e_reused, .int e_freed, .int e_doubled])), (ek, .inl (e1, 4000, .inl gk)), (ec, .inl (e2, 4000, .inl gc)), (ef, .inl (e3, 12000, .inr (.inl gv)))] H := hP
      have hD : va_D A [(h0, .inr (1, [.ref ek, .ref ec, .ref ef, .ref cki, .int e_limit, .int x_3, .int e_firstFree, .int e_held, .int e_mostHeld, .int x_4, .int e_reused, .int e_freed, .int e_doubled])), (ek, .inl (e1, 4000, .inl gk)), (ec, .inl (e2, 4000, .inl gc)), (ef, .inl (e3, 12000, .inr (.inl gv)))] := hD
      refine lv_aload_n hx hb dX1_take_61 rfl (lv_at hl 1 rfl) ?_
      refine lv_dup hx hb dX1_take_62 rfl ?_
      refine va_get (D := (dC, dI)) (ci := 1) (v := .int e_held) (C := RX1) (T := TX1) (N := 13) hx hb hA zin_X1 hown hK hP 0 rfl rfl 7 (by decide) (hA _ wi_444) (fun _ h9 => h9) rfl dX1_take_63 ?_
      refine lv_iconst (v := 1) hx hb dX1_take_66 (by decide) ?_
      refine lv_iadd hx hb dX1_take_67 ?_
      refine lv_topi (fun x_5 ex_5 => ?_)
      have ix_5 : x_5.toInt = e_held.toInt + 1 := by rw [ex_5]; exact zi_addc (by decide) (by omega) (by omega)
      refine va_put (D := (dC, dI)) (ci := 1) (v := .int x_5) (ty := .int) (C := RX1) (T := TX1) (N := 13) hx hb hA zin_X1 tyX1 tyX1_ok nmX1 hown hK hP hD hS 0 rfl rfl 7 (by decide) (hA _ wi_444) (fun _ h9 => h9) rfl (by decide +kernel) rfl rfl (Nat.le_of_ble_eq_true rfl) dX1_take_68 (fun H locs hP hD hS => ?_)
      have hP : va_P (dC, dI) vwCl [(h0, .inr (1, [.ref ek, .ref ec, .ref ef, .ref cki, .int e_limit, .int x_3, .int e_firstFree, .int x_5, .int e_mostHeld, .int x_4, .int e_reused, .int e_freed, .int e_doubled])), (ek, .inl (e1, 4000, .inl gk)), (ec, .inl (e2, 4000, .inl gc)), (ef, .inl (e3, 12000, .inr (.inl gv)))] H := hP
      have hD : va_D A [(h0, .inr (1, [.ref ek, .ref ec, .ref ef, .ref cki, .int e_limit, .int x_3, .int e_firstFree, .int x_5, .int e_mostHeld, .int x_4, .int e_reused, .int e_freed, .int e_doubled])), (ek, .inl (e1, 4000, .inl gk)), (ec, .inl (e2, 4000, .inl gc)), (ef, .inl (e3, 12000, .inr (.inl gv)))] := hD
      refine lv_aload_n hx hb dX1_take_71 rfl (lv_at hl 1 rfl) ?_
      refine lv_aload_n hx hb dX1_take_72 rfl (lv_at hl 1 rfl) ?_
      refine va_get (D := (dC, dI)) (ci := 1) (v := .int e_mostHeld) (C := RX1) (T := TX1) (N := 13) hx hb hA zin_X1 hown hK hP 0 rfl rfl 8 (by decide) (hA _ wi_446) (fun _ h9 => h9) rfl dX1_take_73 ?_
      refine lv_aload_n hx hb dX1_take_76 rfl (lv_at hl 1 rfl) ?_
      refine va_get (D := (dC, dI)) (ci := 1) (v := .int x_5) (C := RX1) (T := TX1) (N := 13) hx hb hA zin_X1 hown hK hP 0 rfl rfl 7 (by decide) (hA _ wi_444) (fun _ h9 => h9) rfl dX1_take_77 ?_
      refine va_mmax hx hb (by rw [hml]; exact hl.1.symm) hown (hA _ wi_430) (hA _ wi_431) (hA _ wi_141) (hA _ wi_432) (Nat.le_of_ble_eq_true rfl) (Nat.le_of_ble_eq_true rfl) (Nat.le_of_ble_eq_true rfl) (Nat.le_of_ble_eq_true rfl) dX1_take_80 ?_
      refine lv_topi (fun x_6 ex_6 => ?_)
      have ix_6 : x_6.toInt ≥ e_mostHeld.toInt ∧ x_6.toInt ≥ x_5.toInt ∧ (x_6.toInt = e_mostHeld.toInt ∨ x_6.toInt = x_5.toInt) := zi_max ex_6 rfl rfl
      refine va_put (D := (dC, dI)) (ci := 1) (v := .int x_6) (ty := .int) (C := RX1) (T := TX1) (N := 13) hx hb hA zin_X1 tyX1 tyX1_ok nmX1 hown hK hP hD hS 0 rfl rfl 8 (by decide) (hA _ wi_446) (fun _ h9 => h9) rfl (by decide +kernel) rfl rfl (Nat.le_of_ble_eq_true rfl) dX1_take_83 (fun H locs hP hD hS => ?_)
      have hP : va_P (dC, dI) vwCl [(h0, .inr (1, [.ref ek, .ref ec, .ref ef, .ref cki, .int e_limit, .int x_3, .int e_firstFree, .int x_5, .int x_6, .int x_4, .int e_reused, .int e_freed, .int e_doubled])), (ek, .inl (e1, 4000, .inl gk)), (ec, .inl (e2, 4000, .inl gc)), (ef, .inl (e3, 12000, .inr (.inl gv)))] H := hP
      have hD : va_D A [(h0, .inr (1, [.ref ek, .ref ec, .ref ef, .ref cki, .int e_limit, .int x_3, .int e_firstFree, .int x_5, .int x_6, .int x_4, .int e_reused, .int e_freed, .int e_doubled])), (ek, .inl (e1, 4000, .inl gk)), (ec, .inl (e2, 4000, .inl gc)), (ef, .inl (e3, 12000, .inr (.inl gv)))] := hD
      refine lv_iload_n hx hb dX1_take_86 rfl (lv_at hl 0 rfl) ?_
      have hP9 := hP.sub (ws' := [(h0, .inr (1, [.ref ek, .ref ec, .ref ef, .ref cki, .int e_limit, .int x_3, .int e_firstFree, .int x_5, .int x_6, .int x_4, .int e_reused, .int e_freed, .int e_doubled])), (ek, .inl (e1, 4000, .inl gk)), (ec, .inl (e2, 4000, .inl gc)), (ef, .inl (e3, 12000, .inr (.inl gv)))]) [0, 1, 2, 3] rfl
      have hD9 := hD.sub (ws' := [(h0, .inr (1, [.ref ek, .ref ec, .ref ef, .ref cki, .int e_limit, .int x_3, .int e_firstFree, .int x_5, .int x_6, .int x_4, .int e_reused, .int e_freed, .int e_doubled])), (ek, .inl (e1, 4000, .inl gk)), (ec, .inl (e2, 4000, .inl gc)), (ef, .inl (e3, 12000, .inr (.inl gv)))]) [0, 1, 2, 3] (by decide) rfl
      have hK9 := hK.sub (tys' := [(e1, .int), (e2, .int), (e3, .long)]) [0, 1, 2] rfl
      exact W.iret (v := e_fresh) hx hb hr (fun t ht hW => ⟨⟨e_fresh, (x_3, e_firstFree, x_5, x_6, x_4), rfl, ⟨by omega, by omega, by omega⟩, by rw [ht]; exact hP9, va_K.moved hW.alike hK9, hD9⟩, hS.F ht⟩) hS.2.2 dX1_take_87
  · have ic_1 : e_limit.toInt ≤ e_held.toInt := zi_nlt c_1
    refine lv_iconst (v := (-1)) hx hb dX1_take_11 (by decide) ?_
    have hlit : Int32.toInt (-1) = (-1) := by decide
    have hP9 := hP.sub (ws' := [(h0, .inr (1, [.ref ek, .ref ec, .ref ef, .ref cki, .int e_limit, .int e_fresh, .int e_firstFree, .int e_held, .int e_mostHeld, .int e_made, .int e_reused, .int e_freed, .int e_doubled])), (ek, .inl (e1, 4000, .inl gk)), (ec, .inl (e2, 4000, .inl gc)), (ef, .inl (e3, 12000, .inr (.inl gv)))]) [0, 1, 2, 3] rfl
    have hD9 := hD.sub (ws' := [(h0, .inr (1, [.ref ek, .ref ec, .ref ef, .ref cki, .int e_limit, .int e_fresh, .int e_firstFree, .int e_held, .int e_mostHeld, .int e_made, .int e_reused, .int e_freed, .int e_doubled])), (ek, .inl (e1, 4000, .inl gk)), (ec, .inl (e2, 4000, .inl gc)), (ef, .inl (e3, 12000, .inr (.inl gv)))]) [0, 1, 2, 3] (by decide) rfl
    have hK9 := hK.sub (tys' := [(e1, .int), (e2, .int), (e3, .long)]) [0, 1, 2] rfl
    exact W.iret (v := (-1)) hx hb hr (fun t ht hW => ⟨⟨(-1), (e_fresh, e_firstFree, e_held, e_mostHeld, e_made), rfl, ⟨by omega, by omega, by omega⟩, by rw [ht]; exact hP9, va_K.moved hW.alike hK9, hD9⟩, hS.F ht⟩) hS.2.2 dX1_take_12
