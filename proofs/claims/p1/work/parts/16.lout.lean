theorem wi_1350 : Cond.code yX11_out cX11_out 2 (some .int) ∈ zw := zw_in (List.mem_of_getElem? (i := 1350) (by decide +kernel)) (by decide +kernel)
theorem wi_1347 : Cond.methodLink RL 7 yX11_out ∈ zw := zw_in (List.mem_of_getElem? (i := 1347) (by decide +kernel)) (by decide +kernel)
theorem wi_1348 : Cond.instanceMethod yX11_out ∈ zw := zw_in (List.mem_of_getElem? (i := 1348) (by decide +kernel)) (by decide +kernel)
theorem wi_1349 : Cond.selects RX11 yX11_out yX11_out ∈ zw := zw_in (List.mem_of_getElem? (i := 1349) (by decide +kernel)) (by decide +kernel)
theorem wi_1346 : Cond.classLink RL 13 "java/util/NoSuchElementException" ∈ zw := zw_in (List.mem_of_getElem? (i := 1346) (by decide +kernel)) (by decide +kernel)
theorem dL_out_0 : decode cL_out 0 = .ok (.aload_n 2, 1) := by decide +kernel
theorem dL_out_1 : decode cL_out 1 = .ok (.iconst 0, 1) := by decide +kernel
theorem dL_out_2 : decode cL_out 2 = .ok (.aload_n 0, 1) := by decide +kernel
theorem dL_out_3 : decode cL_out 3 = .ok (.iload_n 1, 1) := by decide +kernel
theorem dL_out_4 : decode cL_out 4 = .ok (.invokevirtual 7, 3) := by decide +kernel
theorem dL_out_12 : decode cL_out 12 = .ok (.astore_n 3, 1) := by decide +kernel
theorem dL_out_13 : decode cL_out 13 = .ok (.iconst 1, 1) := by decide +kernel
theorem dL_out_14 : decode cL_out 14 = .ok (.ireturn, 1) := by decide +kernel
set_option maxHeartbeats 4000000 in
set_option maxRecDepth 100000 in
theorem c_L_out (l : Launch) (dC : Nat → ClassId) (dI : Nat → Nat → Nat) (xh : Nat) (xt : Nat) (xk : Nat) (xp : Nat) (xm : Nat) (xc : Nat) (xl : Nat) (xr : Nat) (xr_bytes : Nat) (xr_spare : Nat) (xr_openCell : Nat) (xr_openField : Nat) (i : Int32) (ou : Nat) (sz : Nat) (hlt : l.stackTraces = false) : vx_Met l yL_out (Cond.codeWith yL_out cL_out 4 (some .int) [(0, 9, 12, 13)] :: zw) ({ frames := 14, cells := 1, slots := 6, locals := 500 }) (va_Pc [.ref xh, .int i, .ref ou] (zP dC dI sz [] [(xh, .inr (11, [.ref xt, .int 0, .ref xk, .ref xp, .ref xm, .ref xc, .ref xl, .ref xr, .int 0, .int (-1), .int 0, .int 0, .int 0, .int 0, .long 0, .int 0, .long 0])), (xr, .inr (8, [.ref xr_bytes, .int 0, .ref xr_spare, .int 0, .int 0, .ref xr_openCell, .ref xr_openField, .int 0]))])) (va_Qi (fun (r : Int32) (u : Unit) => r = 1) (fun u => zQ dC dI (va_A [(xh, .inr (11, [.ref xt, .int 0, .ref xk, .ref xp, .ref xm, .ref xc, .ref xl, .ref xr, .int 0, .int (-1), .int 0, .int 0, .int 0, .int 0, .long 0, .int 0, .long 0])), (xr, .inr (8, [.ref xr_bytes, .int 0, .ref xr_spare, .int 0, .int 0, .ref xr_openCell, .ref xr_openField, .int 0]))] sz) [] []) (va_A [(xh, .inr (11, [.ref xt, .int 0, .ref xk, .ref xp, .ref xm, .ref xc, .ref xl, .ref xr, .int 0, .int (-1), .int 0, .int 0, .int 0, .int 0, .long 0, .int 0, .long 0])), (xr, .inr (8, [.ref xr_bytes, .int 0, .ref xr_spare, .int 0, .int 0, .ref xr_openCell, .ref xr_openField, .int 0]))] sz)) (vx_X (fun _ : Unit => False) (fun _ _ _ => True) (va_A [(xh, .inr (11, [.ref xt, .int 0, .ref xk, .ref xp, .ref xm, .ref xc, .ref xl, .ref xr, .int 0, .int (-1), .int 0, .int 0, .int 0, .int 0, .long 0, .int 0, .long 0])), (xr, .inr (8, [.ref xr_bytes, .int 0, .ref xr_spare, .int 0, .int 0, .ref xr_openCell, .ref xr_openField, .int 0]))] sz)) 1 6 (va_A [(xh, .inr (11, [.ref xt, .int 0, .ref xk, .ref xp, .ref xm, .ref xc, .ref xl, .ref xr, .int 0, .int (-1), .int 0, .int 0, .int 0, .int 0, .long 0, .int 0, .long 0])), (xr, .inr (8, [.ref xr_bytes, .int 0, .ref xr_spare, .int 0, .int 0, .ref xr_openCell, .ref xr_openField, .int 0]))] sz) := by
  refine vx_ofWH (cc := cL_out) (maxL := 4) (ret := (some .int)) (by decide) rfl ?_
  intro p e s m args below meth c s₁ B hml hv
  obtain ⟨rfl, hsz, hP, hK, hD0, hN, hT⟩ := hv
  have hx := B.exec
  have hb := B.bytes
  have hr := B.returns
  have hts := atoms_spec (ws := Cond.codeWith yL_out cL_out 4 (some .int) [(0, 9, 12, 13)] :: zw) B.pre
  have hA : ∀ w ∈ zw, w.before _ s = true := fun w h => hts w (List.mem_cons_of_mem _ h)
  have hown : s.vm.findClass RL = some m.cls := findClass_of_methodNamed B.named
  have hlocks := B.notSynchronized
  subst hsz
  have hD := hD0.self (sz := s.heap.size)
  generalize hAe : va_A [(xh, .inr (11, [.ref xt, .int 0, .ref xk, .ref xp, .ref xm, .ref xc, .ref xl, .ref xr, .int 0, .int (-1), .int 0, .int 0, .int 0, .int 0, .long 0, .int 0, .long 0])), (xr, .inr (8, [.ref xr_bytes, .int 0, .ref xr_spare, .int 0, .int 0, .ref xr_openCell, .ref xr_openField, .int 0]))] s.heap.size = A at hD hT ⊢
  have hAA : ∀ q : Nat, s.heap.size ≤ q → A q := fun q h => by rw [← hAe]; exact Or.inr h
  have hS : va_S A s.heap s.heap [] := va_S.rf
  have hl := lv_entry ([.ref xh, .int i, .ref ou]) (n := 4) (Nat.le_of_ble_eq_true rfl)
  rw [lg_entry_eq]
  generalize (lg_sl ([.ref xh, .int i, .ref ou]) ++ List.replicate (4 - (lg_sl ([.ref xh, .int i, .ref ou])).length) Slot.unset).toArray = ls at hl ⊢
  have hl : lv_has ls 4 [(0, .ref xh), (1, .int i), (2, .ref ou)] := hl
  refine lv_aload_n hx hb dL_out_0 rfl (lv_at hl 2 rfl) ?_
  refine lv_iconst (v := 0) hx hb dL_out_1 (by decide) ?_
  refine lv_aload_n hx hb dL_out_2 rfl (lv_at hl 0 rfl) ?_
  refine lv_iload_n hx hb dL_out_3 rfl (lv_at hl 1 rfl) ?_
  have hPc := hP.sub (ws' := [(xh, .inr (11, [.ref xt, .int 0, .ref xk, .ref xp, .ref xm, .ref xc, .ref xl, .ref xr, .int 0, .int (-1), .int 0, .int 0, .int 0, .int 0, .long 0, .int 0, .long 0])), (xr, .inr (8, [.ref xr_bytes, .int 0, .ref xr_spare, .int 0, .int 0, .ref xr_openCell, .ref xr_openField, .int 0]))]) [0, 1] rfl
  have hDc := hD.sub (ws' := [(xh, .inr (11, [.ref xt, .int 0, .ref xk, .ref xp, .ref xm, .ref xc, .ref xl, .ref xr, .int 0, .int (-1), .int 0, .int 0, .int 0, .int 0, .long 0, .int 0, .long 0])), (xr, .inr (8, [.ref xr_bytes, .int 0, .ref xr_spare, .int 0, .int 0, .ref xr_openCell, .ref xr_openField, .int 0]))]) [0, 1] (by decide) rfl
  have hKc := hK.sub (tys' := []) [] rfl
  have hFc := va_free (wc := [(xh, .inr (11, [.ref xt, .int 0, .ref xk, .ref xp, .ref xm, .ref xc, .ref xl, .ref xr, .int 0, .int (-1), .int 0, .int 0, .int 0, .int 0, .long 0, .int 0, .long 0])), (xr, .inr (8, [.ref xr_bytes, .int 0, .ref xr_spare, .int 0, .int 0, .ref xr_openCell, .ref xr_openField, .int 0]))]) hD hS hAA [0, 1] rfl
  refine vx_calli (vx_runV (As := [.int i]) (rest := [.int 0, .ref ou]) ⟨hx, hb, hml, hown, hA⟩ (c_X11_out l dC dI xh xt xk xp xm xc xl xr xr_bytes xr_spare xr_openCell xr_openField i s.heap.size hlt) (cwV 1 hA (zw_V wi_1347 wi_1348 wi_1349 wi_130 (zw_good wi_1350)) rfl rfl rfl (by decide +kernel) ⟨(Nat.le_of_ble_eq_true rfl), (Nat.le_of_ble_eq_true rfl)⟩) ⟨zP_blind, va_recv hKc hPc (ci := 11) (q0 := 0) rfl rfl, zz_pre hKc hPc hDc hN hT hS hFc⟩ rfl rfl hl.1 rfl (lv_room (Nat.le_of_ble_eq_true rfl)) dL_out_4 ⟨(Nat.le_of_ble_eq_true rfl), (Nat.le_of_ble_eq_true rfl)⟩) hS (fun q _ h => hFc q h) hFc (fun q _ h => hFc q h) (fun E9 ce9 q9 u t H1 locs ht hvm hw hB hz1 hk1 hS hcell hcv hcl => ?_) (fun r_1 u t H1 locs ht hvm hw hB hz1 hk1 hS => absurd hw id)
  obtain ⟨rfl, hP1, hK1, hD1⟩ := hB
  rw [ht] at hP1
  have hK1 := va_K.moved hvm.symm hK1
  obtain ⟨hP, hD⟩ := va_join (wr := []) (w1 := []) hP hD [0, 1] [] rfl rfl (by decide) (by decide) hk1 hFc hP1 hD1
  have hK := (hK.sub (tys' := []) [] rfl).app hK1
  clear hPc hDc hFc hP1 hD1 hk1 hz1 ht hvm
  generalize H1 = H at hP hS hcell ⊢
  have hP : va_P (dC, dI) vwCl [] H := hP
  have hD : va_D A [] := hD
  have hK : va_K (dC, dI) vwCl [] s := hK
  refine vx_widen (k := 1) (n := 6) (Nat.le_of_ble_eq_true rfl) (Nat.le_of_ble_eq_true rfl) ?_
  refine vx_catch hown [] ⟨0, 9, 12, 13⟩ [] ((vx_table (x := yL_out) B (hts _ List.mem_cons_self)).trans rfl) (fun z hz => nomatch hz) (by decide) (by decide) (hA _ wi_1346) (va_Nw.use rfl (hN.2.2.1 ("java/util/NoSuchElementException", "java/util/NoSuchElementException") (by decide +kernel))) hcell hcv hcl ?_
  refine lv_astore_n (lv' := [(3, .ref q9), (0, .ref xh), (1, .int i), (2, .ref ou)]) hx hb dL_out_12 rfl hl (by decide) rfl (fun ls hl => ?_)
  refine lv_iconst (v := 1) hx hb dL_out_13 (by decide) ?_
  have hP9 := hP.sub (ws' := []) [] rfl
  have hD9 := hD.sub (ws' := []) [] (by decide) rfl
  have hK9 := hK.sub (tys' := []) [] rfl
  exact vx_ret (W.iret (v := 1) hx hb hr (fun t ht hW => ⟨⟨1, (), rfl, rfl, by rw [ht]; exact hP9, va_K.moved hW.alike hK9, hD9⟩, hS.F ht⟩) hS.2.2 dL_out_14)
