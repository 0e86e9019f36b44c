section
theorem wi_308 : Cond.fieldLink RX9 10 "ReuseHouse$Program" "code" "LReuseHouse$Code;" ∈ zw := zw_in (List.mem_of_getElem? (i := 308) (by decide +kernel)) (by decide +kernel)
theorem wi_785 : Cond.code yX2_clear cX2_clear 1 none ∈ zw := zw_in (List.mem_of_getElem? (i := 785) (by decide +kernel)) (by decide +kernel)
theorem wi_782 : Cond.methodLink RX9 37 yX2_clear ∈ zw := zw_in (List.mem_of_getElem? (i := 782) (by decide +kernel)) (by decide +kernel)
theorem wi_783 : Cond.instanceMethod yX2_clear ∈ zw := zw_in (List.mem_of_getElem? (i := 783) (by decide +kernel)) (by decide +kernel)
theorem wi_784 : Cond.selects RX2 yX2_clear yX2_clear ∈ zw := zw_in (List.mem_of_getElem? (i := 784) (by decide +kernel)) (by decide +kernel)
theorem wi_312 : Cond.fieldLink RX9 19 "ReuseHouse$Program" "arms" "LReuseHouse$Arms;" ∈ zw := zw_in (List.mem_of_getElem? (i := 312) (by decide +kernel)) (by decide +kernel)
theorem wi_248 : Cond.fieldLink RX9 40 "ReuseHouse$Arms" "size" "I" ∈ zw := zw_in (List.mem_of_getElem? (i := 248) (by decide +kernel)) (by decide +kernel)
theorem wi_316 : Cond.fieldLink RX9 26 "ReuseHouse$Program" "kinds" "LReuseHouse$Kinds;" ∈ zw := zw_in (List.mem_of_getElem? (i := 316) (by decide +kernel)) (by decide +kernel)
theorem wi_274 : Cond.fieldLink RX9 44 "ReuseHouse$Kinds" "size" "I" ∈ zw := zw_in (List.mem_of_getElem? (i := 274) (by decide +kernel)) (by decide +kernel)
theorem wi_320 : Cond.fieldLink RX9 33 "ReuseHouse$Program" "functions" "LReuseHouse$Functions;" ∈ zw := zw_in (List.mem_of_getElem? (i := 320) (by decide +kernel)) (by decide +kernel)
theorem wi_296 : Cond.fieldLink RX9 45 "ReuseHouse$Functions" "size" "I" ∈ zw := zw_in (List.mem_of_getElem? (i := 296) (by decide +kernel)) (by decide +kernel)
theorem wi_228 : Cond.fieldLink RX9 46 "ReuseHouse$Arms" "kind" "[I" ∈ zw := zw_in (List.mem_of_getElem? (i := 228) (by decide +kernel)) (by decide +kernel)
theorem wi_1055 : Cond.methodLink RX9 50 yX4_fieldsOf ∈ zw := zw_in (List.mem_of_getElem? (i := 1055) (by decide +kernel)) (by decide +kernel)
theorem wi_245 : Cond.fieldLink RX9 54 "ReuseHouse$Arms" "builds" "[I" ∈ zw := zw_in (List.mem_of_getElem? (i := 245) (by decide +kernel)) (by decide +kernel)
theorem wi_1054 : Cond.code yX9_armFields cX9_armFields 2 (some .int) ∈ zw := zw_in (List.mem_of_getElem? (i := 1054) (by decide +kernel)) (by decide +kernel)
theorem wi_1064 : Cond.methodLink RX9 57 yX9_armFields ∈ zw := zw_in (List.mem_of_getElem? (i := 1064) (by decide +kernel)) (by decide +kernel)
theorem wi_1052 : Cond.instanceMethod yX9_armFields ∈ zw := zw_in (List.mem_of_getElem? (i := 1052) (by decide +kernel)) (by decide +kernel)
theorem wi_1053 : Cond.selects RX9 yX9_armFields yX9_armFields ∈ zw := zw_in (List.mem_of_getElem? (i := 1053) (by decide +kernel)) (by decide +kernel)
theorem wi_131 : Cond.initialized RX9 ∈ zw := zw_in (List.mem_of_getElem? (i := 131) (by decide +kernel)) (by decide +kernel)
theorem dX2_clear_0 : decode cX2_clear 0 = .ok (.aload_n 0, 1) := by decide +kernel
theorem dX2_clear_1 : decode cX2_clear 1 = .ok (.iconst 0, 1) := by decide +kernel
theorem dX2_clear_2 : decode cX2_clear 2 = .ok (.putfield 30, 3) := by decide +kernel
theorem dX2_clear_5 : decode cX2_clear 5 = .ok (.aload_n 0, 1) := by decide +kernel
theorem dX2_clear_6 : decode cX2_clear 6 = .ok (.iconst (-1), 1) := by decide +kernel
theorem dX2_clear_7 : decode cX2_clear 7 = .ok (.putfield 34, 3) := by decide +kernel
theorem dX2_clear_10 : decode cX2_clear 10 = .ok (.return_, 1) := by decide +kernel
theorem dX9_armFields_0 : decode cX9_armFields 0 = .ok (.aload_n 0, 1) := by decide +kernel
theorem dX9_armFields_1 : decode cX9_armFields 1 = .ok (.getfield 26, 3) := by decide +kernel
theorem dX9_armFields_4 : decode cX9_armFields 4 = .ok (.aload_n 0, 1) := by decide +kernel
theorem dX9_armFields_5 : decode cX9_armFields 5 = .ok (.getfield 19, 3) := by decide +kernel
theorem dX9_armFields_8 : decode cX9_armFields 8 = .ok (.getfield 46, 3) := by decide +kernel
theorem dX9_armFields_11 : decode cX9_armFields 11 = .ok (.iload_n 1, 1) := by decide +kernel
theorem dX9_armFields_12 : decode cX9_armFields 12 = .ok (.iaload, 1) := by decide +kernel
theorem dX9_armFields_13 : decode cX9_armFields 13 = .ok (.invokevirtual 50, 3) := by decide +kernel
theorem dX9_armFields_16 : decode cX9_armFields 16 = .ok (.ireturn, 1) := by decide +kernel
theorem dX9_buildsAsMany_0 : decode cX9_buildsAsMany 0 = .ok (.aload_n 0, 1) := by decide +kernel
theorem dX9_buildsAsMany_1 : decode cX9_buildsAsMany 1 = .ok (.getfield 19, 3) := by decide +kernel
theorem dX9_buildsAsMany_4 : decode cX9_buildsAsMany 4 = .ok (.getfield 54, 3) := by decide +kernel
theorem dX9_buildsAsMany_7 : decode cX9_buildsAsMany 7 = .ok (.iload_n 1, 1) := by decide +kernel
theorem dX9_buildsAsMany_8 : decode cX9_buildsAsMany 8 = .ok (.iaload, 1) := by decide +kernel
theorem dX9_buildsAsMany_9 : decode cX9_buildsAsMany 9 = .ok (.aload_n 0, 1) := by decide +kernel
theorem dX9_buildsAsMany_10 : decode cX9_buildsAsMany 10 = .ok (.iload_n 1, 1) := by decide +kernel
theorem dX9_buildsAsMany_11 : decode cX9_buildsAsMany 11 = .ok (.invokevirtual 57, 3) := by decide +kernel
theorem dX9_buildsAsMany_14 : decode cX9_buildsAsMany 14 = .ok (.ishr, 1) := by decide +kernel
theorem dX9_buildsAsMany_15 : decode cX9_buildsAsMany 15 = .ok (.iconst 1, 1) := by decide +kernel
theorem dX9_buildsAsMany_16 : decode cX9_buildsAsMany 16 = .ok (.iand, 1) := by decide +kernel
theorem dX9_buildsAsMany_17 : decode cX9_buildsAsMany 17 = .ok (.iconst 1, 1) := by decide +kernel
theorem dX9_buildsAsMany_18 : decode cX9_buildsAsMany 18 = .ok (.if_icmp .ne 7, 3) := by decide +kernel
theorem dX9_buildsAsMany_21 : decode cX9_buildsAsMany 21 = .ok (.iconst 1, 1) := by decide +kernel
theorem dX9_buildsAsMany_22 : decode cX9_buildsAsMany 22 = .ok (.goto 4, 3) := by decide +kernel
theorem dX9_buildsAsMany_25 : decode cX9_buildsAsMany 25 = .ok (.iconst 0, 1) := by decide +kernel
theorem dX9_buildsAsMany_26 : decode cX9_buildsAsMany 26 = .ok (.ireturn, 1) := by decide +kernel
theorem dX9_clear_0 : decode cX9_clear 0 = .ok (.aload_n 0, 1) := by decide +kernel
theorem dX9_clear_1 : decode cX9_clear 1 = .ok (.getfield 10, 3) := by decide +kernel
theorem dX9_clear_4 : decode cX9_clear 4 = .ok (.invokevirtual 37, 3) := by decide +kernel
theorem dX9_clear_7 : decode cX9_clear 7 = .ok (.aload_n 0, 1) := by decide +kernel
theorem dX9_clear_8 : decode cX9_clear 8 = .ok (.getfield 19, 3) := by decide +kernel
theorem dX9_clear_11 : decode cX9_clear 11 = .ok (.iconst 0, 1) := by decide +kernel
theorem dX9_clear_12 : decode cX9_clear 12 = .ok (.putfield 40, 3) := by decide +kernel
theorem dX9_clear_15 : decode cX9_clear 15 = .ok (.aload_n 0, 1) := by decide +kernel
theorem dX9_clear_16 : decode cX9_clear 16 = .ok (.getfield 26, 3) := by decide +kernel
theorem dX9_clear_19 : decode cX9_clear 19 = .ok (.iconst 0, 1) := by decide +kernel
theorem dX9_clear_20 : decode cX9_clear 20 = .ok (.putfield 44, 3) := by decide +kernel
theorem dX9_clear_23 : decode cX9_clear 23 = .ok (.aload_n 0, 1) := by decide +kernel
theorem dX9_clear_24 : decode cX9_clear 24 = .ok (.getfield 33, 3) := by decide +kernel
theorem dX9_clear_27 : decode cX9_clear 27 = .ok (.iconst 0, 1) := by decide +kernel
theorem dX9_clear_28 : decode cX9_clear 28 = .ok (.putfield 45, 3) := by decide +kernel
theorem dX9_clear_31 : decode cX9_clear 31 = .ok (.return_, 1) := by decide +kernel
set_option maxHeartbeats 4000000 in
set_option maxRecDepth 100000 in
theorem c_X2_clear (l : Launch) (dC : Nat → ClassId) (dI : Nat → Nat → Nat) (aK aV : Nat → Nat) (h0 : Nat) (cop : Nat) (ca : Nat) (cb : Nat) (cplace : Nat) (cnext : Nat) (cneeded : Nat) (z : Int32) (ta : Int32) (sz : Nat)  : Met l yX2_clear (Cond.code yX2_clear cX2_clear 1 none :: zw) ({ frames := 8, cells := 0, slots := 0, locals := 200 }) (va_Pc [.ref h0] (zP dC dI aK aV sz [] [(h0, .inr (2, [.ref cop, .ref ca, .ref cb, .ref cplace, .ref cnext, .ref cneeded, .int z, .int ta]))])) (va_Qv (fun u : Unit => True) (fun u => zQ dC dI (va_A [(h0, .inr (2, [.ref cop, .ref ca, .ref cb, .ref cplace, .ref cnext, .ref cneeded, .int z, .int ta]))] sz) [] [(h0, .inr (2, [.ref cop, .ref ca, .ref cb, .ref cplace, .ref cnext, .ref cneeded, .int 0, .int (-1)]))]) (va_A [(h0, .inr (2, [.ref cop, .ref ca, .ref cb, .ref cplace, .ref cnext, .ref cneeded, .int z, .int ta]))] sz)) 0 0 (va_A [(h0, .inr (2, [.ref cop, .ref ca, .ref cb, .ref cplace, .ref cnext, .ref cneeded, .int z, .int ta]))] sz) := by
  refine Met.ofW (cc := cX2_clear) (maxL := 1) (ret := none) (by decide) rfl ?_
  intro p e s m args below meth c s₁ B hml hv
  obtain ⟨rfl, hsz, hP, hK, hD0, hN, hT⟩ := hv
  have hx := B.exec
  have hb := B.bytes
  have hr := B.returns
  have hts := atoms_spec (ws := Cond.code yX2_clear cX2_clear 1 none :: zw) B.pre
  have hA : ∀ w ∈ zw, w.before _ s = true := fun w h => hts w (List.mem_cons_of_mem _ h)
  have hown : s.vm.findClass RX2 = some m.cls := findClass_of_methodNamed B.named
  have hlocks := B.notSynchronized
  subst hsz
  have hD := hD0.self (sz := s.heap.size)
  generalize hAe : va_A [(h0, .inr (2, [.ref cop, .ref ca, .ref cb, .ref cplace, .ref cnext, .ref cneeded, .int z, .int ta]))] s.heap.size = A at hD hT ⊢
  have hAA : ∀ q : Nat, s.heap.size ≤ q → A q := fun q h => by rw [← hAe]; exact Or.inr h
  have hS : va_S A s.heap s.heap [] := va_S.rf
  have hl := lv_entry ([.ref h0]) (n := 1) (Nat.le_of_ble_eq_true rfl)
  rw [lg_entry_eq]
  generalize (lg_sl ([.ref h0]) ++ List.replicate (1 - (lg_sl ([.ref h0])).length) Slot.unset).toArray = ls at hl ⊢
  have hl : lv_has ls 1 [(0, .ref h0)] := hl
  refine lv_aload_n hx hb dX2_clear_0 rfl (lv_at hl 0 rfl) ?_
  refine lv_iconst (v := 0) hx hb dX2_clear_1 (by decide) ?_
  refine va_put (D := (dC, dI)) (ci := 2) (v := .int 0) (ty := .int) (C := RX2) (T := TX2) (N := 8) hx hb hA zin_X2 tyX2 tyX2_ok nmX2 hown hK hP hD hS 0 rfl rfl 6 (by decide) (hA _ wi_197) (fun _ h9 => h9) rfl (by decide +kernel) rfl rfl (Nat.le_of_ble_eq_true rfl) dX2_clear_2 (fun H locs hP hD hS => ?_)
  have hP : va_P (dC, dI) vwCl [(h0, .inr (2, [.ref cop, .ref ca, .ref cb, .ref cplace, .ref cnext, .ref cneeded, .int 0, .int ta]))] H := hP
  have hD : va_D A [(h0, .inr (2, [.ref cop, .ref ca, .ref cb, .ref cplace, .ref cnext, .ref cneeded, .int 0, .int ta]))] := hD
  refine lv_aload_n hx hb dX2_clear_5 rfl (lv_at hl 0 rfl) ?_
  refine lv_iconst (v := (-1)) hx hb dX2_clear_6 (by decide) ?_
  refine va_put (D := (dC, dI)) (ci := 2) (v := .int (-1)) (ty := .int) (C := RX2) (T := TX2) (N := 8) hx hb hA zin_X2 tyX2 tyX2_ok nmX2 hown hK hP hD hS 0 rfl rfl 7 (by decide) (hA _ wi_200) (fun _ h9 => h9) rfl (by decide +kernel) rfl rfl (Nat.le_of_ble_eq_true rfl) dX2_clear_7 (fun H locs hP hD hS => ?_)
  have hP : va_P (dC, dI) vwCl [(h0, .inr (2, [.ref cop, .ref ca, .ref cb, .ref cplace, .ref cnext, .ref cneeded, .int 0, .int (-1)]))] H := hP
  have hD : va_D A [(h0, .inr (2, [.ref cop, .ref ca, .ref cb, .ref cplace, .ref cnext, .ref cneeded, .int 0, .int (-1)]))] := hD
  have hP9 := hP.sub (ws' := [(h0, .inr (2, [.ref cop, .ref ca, .ref cb, .ref cplace, .ref cnext, .ref cneeded, .int 0, .int (-1)]))]) [0] rfl
  have hD9 := hD.sub (ws' := [(h0, .inr (2, [.ref cop, .ref ca, .ref cb, .ref cplace, .ref cnext, .ref cneeded, .int 0, .int (-1)]))]) [0] (by decide) rfl
  have hK9 := hK.sub (tys' := []) [] rfl
  exact W.vret hx hb hr (fun t ht hW => ⟨⟨(), rfl, trivial, by rw [ht]; exact hP9, va_K.moved hW.alike hK9, hD9⟩, hS.F ht⟩) hS.2.2 dX2_clear_10
set_option maxHeartbeats 4000000 in
set_option maxRecDepth 100000 in
theorem c_X9_clear (l : Launch) (dC : Nat → ClassId) (dI : Nat → Nat → Nat) (aK aV : Nat → Nat) (h0 : Nat) (gco : Nat) (gar : Nat) (gki : Nat) (gfu : Nat) (cop : Nat) (ca : Nat) (cb : Nat) (cplace : Nat) (cnext : Nat) (cneeded : Nat) (cz : Int32) (ct : Int32) (akind : Nat) (anext : Nat) (abefore : Nat) (aleave : Nat) (afirstSlot : Nat) (abuilds : Nat) (az : Int32) (kw : Nat) (kf : Nat) (kz : Int32) (fw : Nat) (fe : Nat) (ff : Nat) (fz : Int32) (sz : Nat)  : Met l yX9_clear (Cond.code yX9_clear cX9_clear 1 none :: zw) ({ frames := 10, cells := 0, slots := 0, locals := 300 }) (va_Pc [.ref h0] (zP dC dI aK aV sz [] [(h0, .inr (9, [.ref gco, .ref gar, .ref gki, .ref gfu])), (gco, .inr (2, [.ref cop, .ref ca, .ref cb, .ref cplace, .ref cnext, .ref cneeded, .int cz, .int ct])), (gar, .inr (0, [.ref akind, .ref anext, .ref abefore, .ref aleave, .ref afirstSlot, .ref abuilds, .int az])), (gki, .inr (4, [.ref kw, .ref kf, .int kz])), (gfu, .inr (3, [.ref fw, .ref fe, .ref ff, .int fz]))])) (va_Qv (fun u : Unit => True) (fun u => zQ dC dI (va_A [(h0, .inr (9, [.ref gco, .ref gar, .ref gki, .ref gfu])), (gco, .inr (2, [.ref cop, .ref ca, .ref cb, .ref cplace, .ref cnext, .ref cneeded, .int cz, .int ct])), (gar, .inr (0, [.ref akind, .ref anext, .ref abefore, .ref aleave, .ref afirstSlot, .ref abuilds, .int az])), (gki, .inr (4, [.ref kw, .ref kf, .int kz])), (gfu, .inr (3, [.ref fw, .ref fe, .ref ff, .int fz]))] sz) [] [(h0, .inr (9, [.ref gco, .ref gar, .ref gki, .ref gfu])), (gco, .inr (2, [.ref cop, .ref ca, .ref cb, .ref cplace, .ref cnext, .ref cneeded, .int 0, .int (-1)])), (gar, .inr (0, [.ref akind, .ref anext, .ref abefore, .ref aleave, .ref afirstSlot, .ref abuilds, .int 0])), (gki, .inr (4, [.ref kw, .ref kf, .int 0])), (gfu, .inr (3, [.ref fw, .ref fe, .ref ff, .int 0]))]) (va_A [(h0, .inr (9, [.ref gco, .ref gar, .ref gki, .ref gfu])), (gco, .inr (2, [.ref cop, .ref ca, .ref cb, .ref cplace, .ref cnext, .ref cneeded, .int cz, .int ct])), (gar, .inr (0, [.ref akind, .ref anext, .ref abefore, .ref aleave, .ref afirstSlot, .ref abuilds, .int az])), (gki, .inr (4, [.ref kw, .ref kf, .int kz])), (gfu, .inr (3, [.ref fw, .ref fe, .ref ff, .int fz]))] sz)) 0 0 (va_A [(h0, .inr (9, [.ref gco, .ref gar, .ref gki, .ref gfu])), (gco, .inr (2, [.ref cop, .ref ca, .ref cb, .ref cplace, .ref cnext, .ref cneeded, .int cz, .int ct])), (gar, .inr (0, [.ref akind, .ref anext, .ref abefore, .ref aleave, .ref afirstSlot, .ref abuilds, .int az])), (gki, .inr (4, [.ref kw, .ref kf, .int kz])), (gfu, .inr (3, [.ref fw, .ref fe, .ref ff, .int fz]))] sz) := by
  refine Met.ofW (cc := cX9_clear) (maxL := 1) (ret := none) (by decide) rfl ?_
  intro p e s m args below meth c s₁ B hml hv
  obtain ⟨rfl, hsz, hP, hK, hD0, hN, hT⟩ := hv
  have hx := B.exec
  have hb := B.bytes
  have hr := B.returns
  have hts := atoms_spec (ws := Cond.code yX9_clear cX9_clear 1 none :: zw) B.pre
  have hA : ∀ w ∈ zw, w.before _ s = true := fun w h => hts w (List.mem_cons_of_mem _ h)
  have hown : s.vm.findClass RX9 = some m.cls := findClass_of_methodNamed B.named
  have hlocks := B.notSynchronized
  subst hsz
  have hD := hD0.self (sz := s.heap.size)
  generalize hAe : va_A [(h0, .inr (9, [.ref gco, .ref gar, .ref gki, .ref gfu])), (gco, .inr (2, [.ref cop, .ref ca, .ref cb, .ref cplace, .ref cnext, .ref cneeded, .int cz, .int ct])), (gar, .inr (0, [.ref akind, .ref anext, .ref abefore, .ref aleave, .ref afirstSlot, .ref abuilds, .int az])), (gki, .inr (4, [.ref kw, .ref kf, .int kz])), (gfu, .inr (3, [.ref fw, .ref fe, .ref ff, .int fz]))] s.heap.size = A at hD hT ⊢
  have hAA : ∀ q : Nat, s.heap.size ≤ q → A q := fun q h => by rw [← hAe]; exact Or.inr h
  have hS : va_S A s.heap s.heap [] := va_S.rf
  have hl := lv_entry ([.ref h0]) (n := 1) (Nat.le_of_ble_eq_true rfl)
  rw [lg_entry_eq]
  generalize (lg_sl ([.ref h0]) ++ List.replicate (1 - (lg_sl ([.ref h0])).length) Slot.unset).toArray = ls at hl ⊢
  have hl : lv_has ls 1 [(0, .ref h0)] := hl
  refine lv_aload_n hx hb dX9_clear_0 rfl (lv_at hl 0 rfl) ?_
  refine va_get (D := (dC, dI)) (ci := 9) (v := .ref gco) (C := RX9) (T := TX9) (N := 4) hx hb hA zin_X9 hown hK hP 0 rfl rfl 0 (by decide) (hA _ wi_308) (fun _ h9 => h9) rfl dX9_clear_1 ?_
  have hPc := hP.sub (ws' := [(gco, .inr (2, [.ref cop, .ref ca, .ref cb, .ref cplace, .ref cnext, .ref cneeded, .int cz, .int ct]))]) [1] rfl
  have hDc := hD.sub (ws' := [(gco, .inr (2, [.ref cop, .ref ca, .ref cb, .ref cplace, .ref cnext, .ref cneeded, .int cz, .int ct]))]) [1] (by decide) rfl
  have hKc := hK.sub (tys' := []) [] rfl
  have hFc := va_free (wc := [(gco, .inr (2, [.ref cop, .ref ca, .ref cb, .ref cplace, .ref cnext, .ref cneeded, .int cz, .int ct]))]) hD hS hAA [1] rfl
  refine va_callv (va_runV (As := []) (rest := []) ⟨hx, hb, hml, hown, hA⟩ (c_X2_clear l dC dI aK aV gco cop ca cb cplace cnext cneeded cz ct s.heap.size) (cwV 0 hA (zw_V wi_782 wi_783 wi_784 wi_132 (zw_good wi_785)) rfl rfl rfl (by decide +kernel) ⟨(Nat.le_of_ble_eq_true rfl), (Nat.le_of_ble_eq_true rfl)⟩) ⟨zP_blind, va_recv hKc hPc (ci := 2) (q0 := 0) rfl rfl, zz_pre hKc hPc hDc hN hT hS hFc⟩ rfl rfl hl.1 rfl (lv_room (Nat.le_of_ble_eq_true rfl)) dX9_clear_4 ⟨(Nat.le_of_ble_eq_true rfl), (Nat.le_of_ble_eq_true rfl)⟩) hS (fun q _ h => hFc q h) hFc (fun u t H1 locs ht hvm hw hB hz1 hk1 hS => ?_)
  obtain ⟨hP1, hK1, hD1⟩ := hB
  rw [ht] at hP1
  have hK1 := va_K.moved hvm.symm hK1
  obtain ⟨hP, hD⟩ := va_join (wr := [(h0, .inr (9, [.ref gco, .ref gar, .ref gki, .ref gfu])), (gar, .inr (0, [.ref akind, .ref anext, .ref abefore, .ref aleave, .ref afirstSlot, .ref abuilds, .int az])), (gki, .inr (4, [.ref kw, .ref kf, .int kz])), (gfu, .inr (3, [.ref fw, .ref fe, .ref ff, .int fz]))]) (w1 := [(gco, .inr (2, [.ref cop, .ref ca, .ref cb, .ref cplace, .ref cnext, .ref cneeded, .int 0, .int (-1)]))]) hP hD [1] [0, 2, 3, 4] rfl rfl (by decide) (by decide) hk1 hFc hP1 hD1
  have hK := (hK.sub (tys' := []) [] rfl).app hK1
  generalize H1 = H at hP hS ⊢
  have hP : va_P (dC, dI) vwCl [(h0, .inr (9, [.ref gco, .ref gar, .ref gki, .ref gfu])), (gar, .inr (0, [.ref akind, .ref anext, .ref abefore, .ref aleave, .ref afirstSlot, .ref abuilds, .int az])), (gki, .inr (4, [.ref kw, .ref kf, .int kz])), (gfu, .inr (3, [.ref fw, .ref fe, .ref ff, .int fz])), (gco, .inr (2, [.ref cop, .ref ca, .ref cb, .ref cplace, .ref cnext, .ref cneeded, .int 0, .int (-1)]))] H := hP
  have hD : va_D A [(h0, .inr (9, [.ref gco, .ref gar, .ref gki, .ref gfu])), (gar, .inr (0, [.ref akind, .ref anext, .ref abefore, .ref aleave, .ref afirstSlot, .ref abuilds, .int az])), (gki, .inr (4, [.ref kw, .ref kf, .int kz])), (gfu, .inr (3, [.ref fw, .ref fe, .ref ff, .int fz])), (gco, .inr (2, [.ref cop, .ref ca, .ref cb, .ref cplace, .ref cnext, .ref cneeded, .int 0, .int (-1)]))] := hD
  have hK : va_K (dC, dI) vwCl [] s := hK
  refine lv_aload_n hx hb dX9_clear_7 rfl (lv_at hl 0 rfl) ?_
  refine va_get (D := (dC, dI)) (ci := 9) (v := .ref gar) (C := RX9) (T := TX9) (N := 4) hx hb hA zin_X9 hown hK hP 0 rfl rfl 1 (by decide) (hA _ wi_312) (fun _ h9 => h9) rfl dX9_clear_8 ?_
  refine lv_iconst (v := 0) hx hb dX9_clear_11 (by decide) ?_
  refine va_put (D := (dC, dI)) (ci := 0) (v := .int 0) (ty := .int) (C := RX0) (T := TX0) (N := 7) hx hb hA zin_X0 tyX0 tyX0_ok nmX0 hown hK hP hD hS 1 rfl rfl 6 (by decide) (hA _ wi_248) (fun _ h9 => h9) rfl (by decide +kernel) rfl rfl (Nat.le_of_ble_eq_true rfl) dX9_clear_12 (fun H locs hP hD hS => ?_)
  have hP : va_P (dC, dI) vwCl [(h0, .inr (9, [.ref gco, .ref gar, .ref gki, .ref gfu])), (gar, .inr (0, [.ref akind, .ref anext, .ref abefore, .ref aleave, .ref afirstSlot, .ref abuilds, .int 0])), (gki, .inr (4, [.ref kw, .ref kf, .int kz])), (gfu, .inr (3, [.ref fw, .ref fe, .ref ff, .int fz])), (gco, .inr (2, [.ref cop, .ref ca, .ref cb, .ref cplace, .ref cnext, .ref cneeded, .int 0, .int (-1)]))] H := hP
  have hD : va_D A [(h0, .inr (9, [.ref gco, .ref gar, .ref gki, .ref gfu])), (gar, .inr (0, [.ref akind, .ref anext, .ref abefore, .ref aleave, .ref afirstSlot, .ref abuilds, .int 0])), (gki, .inr (4, [.ref kw, .ref kf, .int kz])), (gfu, .inr (3, [.ref fw, .ref fe, .ref ff, .int fz])), (gco, .inr (2, [.ref cop, .ref ca, .ref cb, .ref cplace, .ref cnext, .ref cneeded, .int 0, .int (-1)]))] := hD
  refine lv_aload_n hx hb dX9_clear_15 rfl (lv_at hl 0 rfl) ?_
  refine va_get (D := (dC, dI)) (ci := 9) (v := .ref gki) (C := RX9) (T := TX9) (N := 4) hx hb hA zin_X9 hown hK hP 0 rfl rfl 2 (by decide) (hA _ wi_316) (fun _ h9 => h9) rfl dX9_clear_16 ?_
  refine lv_iconst (v := 0) hx hb dX9_clear_19 (by decide) ?_
  refine va_put (D := (dC, dI)) (ci := 4) (v := .int 0) (ty := .int) (C := RX4) (T := TX4) (N := 3) hx hb hA zin_X4 tyX4 tyX4_ok nmX4 hown hK hP hD hS 2 rfl rfl 2 (by decide) (hA _ wi_274) (fun _ h9 => h9) rfl (by decide +kernel) rfl rfl (Nat.le_of_ble_eq_true rfl) dX9_clear_20 (fun H locs hP hD hS => ?_)
  have hP : va_P (dC, dI) vwCl [(h0, .inr (9, [.ref gco, .ref gar, .ref gki, .ref gfu])), (gar, .inr (0, [.ref akind, .ref anext, .ref abefore, .ref aleave, .ref afirstSlot, .ref abuilds, .int 0])), (gki, .inr (4, [.ref kw, .ref kf, .int 0])), (gfu, .inr (3, [.ref fw, .ref fe, .ref ff, .int fz])), (gco, .inr (2, [.ref cop, .ref ca, .ref cb, .ref cplace, .ref cnext, .ref cneeded, .int 0, .int (-1)]))] H := hP
  have hD : va_D A [(h0, .inr (9, [.ref gco, .ref gar, .ref gki, .ref gfu])), (gar, .inr (0, [.ref akind, .ref anext, .ref abefore, .ref aleave, .ref afirstSlot, .ref abuilds, .int 0])), (gki, .inr (4, [.ref kw, .ref kf, .int 0])), (gfu, .inr (3, [.ref fw, .ref fe, .ref ff, .int fz])), (gco, .inr (2, [.ref cop, .ref ca, .ref cb, .ref cplace, .ref cnext, .ref cneeded, .int 0, .int (-1)]))] := hD
  refine lv_aload_n hx hb dX9_clear_23 rfl (lv_at hl 0 rfl) ?_
  refine va_get (D := (dC, dI)) (ci := 9) (v := .ref gfu) (C := RX9) (T := TX9) (N := 4) hx hb hA zin_X9 hown hK hP 0 rfl rfl 3 (by decide) (hA _ wi_320) (fun _ h9 => h9) rfl dX9_clear_24 ?_
  refine lv_iconst (v := 0) hx hb dX9_clear_27 (by decide) ?_
  refine va_put (D := (dC, dI)) (ci := 3) (v := .int 0) (ty := .int) (C := RX3) (T := TX3) (N := 4) hx hb hA zin_X3 tyX3 tyX3_ok nmX3 hown hK hP hD hS 3 rfl rfl 3 (by decide) (hA _ wi_296) (fun _ h9 => h9) rfl (by decide +kernel) rfl rfl (Nat.le_of_ble_eq_true rfl) dX9_clear_28 (fun H locs hP hD hS => ?_)
  have hP : va_P (dC, dI) vwCl [(h0, .inr (9, [.ref gco, .ref gar, .ref gki, .ref gfu])), (gar, .inr (0, [.ref akind, .ref anext, .ref abefore, .ref aleave, .ref afirstSlot, .ref abuilds, .int 0])), (gki, .inr (4, [.ref kw, .ref kf, .int 0])), (gfu, .inr (3, [.ref fw, .ref fe, .ref ff, .int 0])), (gco, .inr (2, [.ref cop, .ref ca, .ref cb, .ref cplace, .ref cnext, .ref cneeded, .int 0, .int (-1)]))] H := hP
  have hD : va_D A [(h0, .inr (9, [.ref gco, .ref gar, .ref gki, .ref gfu])), (gar, .inr (0, [.ref akind, .ref anext, .ref abefore, .ref aleave, .ref afirstSlot, .ref abuilds, .int 0])), (gki, .inr (4, [.ref kw, .ref kf, .int 0])), (gfu, .inr (3, [.ref fw, .ref fe, .ref ff, .int 0])), (gco, .inr (2, [.ref cop, .ref ca, .ref cb, .ref cplace, .ref cnext, .ref cneeded, .int 0, .int (-1)]))] := hD
  have hP9 := hP.sub (ws' := [(h0, .inr (9, [.ref gco, .ref gar, .ref gki, .ref gfu])), (gco, .inr (2, [.ref cop, .ref ca, .ref cb, .ref cplace, .ref cnext, .ref cneeded, .int 0, .int (-1)])), (gar, .inr (0, [.ref akind, .ref anext, .ref abefore, .ref aleave, .ref afirstSlot, .ref abuilds, .int 0])), (gki, .inr (4, [.ref kw, .ref kf, .int 0])), (gfu, .inr (3, [.ref fw, .ref fe, .ref ff, .int 0]))]) [0, 4, 1, 2, 3] rfl
  have hD9 := hD.sub (ws' := [(h0, .inr (9, [.ref gco, .ref gar, .ref gki, .ref gfu])), (gco, .inr (2, [.ref cop, .ref ca, .ref cb, .ref cplace, .ref cnext, .ref cneeded, .int 0, .int (-1)])), (gar, .inr (0, [.ref akind, .ref anext, .ref abefore, .ref aleave, .ref afirstSlot, .ref abuilds, .int 0])), (gki, .inr (4, [.ref kw, .ref kf, .int 0])), (gfu, .inr (3, [.ref fw, .ref fe, .ref ff, .int 0]))]) [0, 4, 1, 2, 3] (by decide) rfl
  have hK9 := hK.sub (tys' := []) [] rfl
  exact W.vret hx hb hr (fun t ht hW => ⟨⟨(), rfl, trivial, by rw [ht]; exact hP9, va_K.moved hW.alike hK9, hD9⟩, hS.F ht⟩) hS.2.2 dX9_clear_31

end
section
theorem wi_897 : Cond.code yX7_newName cX7_newName 1 none ∈ zw := zw_in (List.mem_of_getElem? (i := 897) (by decide +kernel)) (by decide +kernel)
theorem wi_894 : Cond.methodLink RX7 150 yX7_newName ∈ zw := zw_in (List.mem_of_getElem? (i := 894) (by decide +kernel)) (by decide +kernel)
theorem wi_896 : Cond.instanceMethod yX7_newName ∈ zw := zw_in (List.mem_of_getElem? (i := 896) (by decide +kernel)) (by decide +kernel)
theorem wi_10 : Cond.selects RX7 yX7_newName yX7_newName ∈ zw := zw_in (List.mem_of_getElem? (i := 10) (by decide +kernel)) (by decide +kernel)
theorem wi_905 : Cond.code yX7_tell cX7_tell 3 (some .int) ∈ zw := zw_in (List.mem_of_getElem? (i := 905) (by decide +kernel)) (by decide +kernel)
theorem wi_902 : Cond.methodLink RX7 153 yX7_tell ∈ zw := zw_in (List.mem_of_getElem? (i := 902) (by decide +kernel)) (by decide +kernel)
theorem wi_904 : Cond.instanceMethod yX7_tell ∈ zw := zw_in (List.mem_of_getElem? (i := 904) (by decide +kernel)) (by decide +kernel)
theorem wi_12 : Cond.selects RX7 yX7_tell yX7_tell ∈ zw := zw_in (List.mem_of_getElem? (i := 12) (by decide +kernel)) (by decide +kernel)
theorem dX7_toldNames_0 : decode cX7_toldNames 0 = .ok (.iconst 0, 1) := by decide +kernel
theorem dX7_toldNames_1 : decode cX7_toldNames 1 = .ok (.istore_n 1, 1) := by decide +kernel
theorem dX7_toldNames_2 : decode cX7_toldNames 2 = .ok (.iload_n 1, 1) := by decide +kernel
theorem dX7_toldNames_3 : decode cX7_toldNames 3 = .ok (.bipush 6, 2) := by decide +kernel
theorem dX7_toldNames_5 : decode cX7_toldNames 5 = .ok (.if_icmp .gt 70, 3) := by decide +kernel
theorem dX7_toldNames_8 : decode cX7_toldNames 8 = .ok (.aload_n 0, 1) := by decide +kernel
theorem dX7_toldNames_9 : decode cX7_toldNames 9 = .ok (.getfield 12, 3) := by decide +kernel
theorem dX7_toldNames_12 : decode cX7_toldNames 12 = .ok (.getfield 60, 3) := by decide +kernel
theorem dX7_toldNames_15 : decode cX7_toldNames 15 = .ok (.sipush 258, 3) := by decide +kernel
theorem dX7_toldNames_18 : decode cX7_toldNames 18 = .ok (.if_icmp .ne 57, 3) := by decide +kernel
theorem dX7_toldNames_21 : decode cX7_toldNames 21 = .ok (.aload_n 0, 1) := by decide +kernel
theorem dX7_toldNames_22 : decode cX7_toldNames 22 = .ok (.invokevirtual 150, 3) := by decide +kernel
theorem dX7_toldNames_25 : decode cX7_toldNames 25 = .ok (.iload_n 1, 1) := by decide +kernel
theorem dX7_toldNames_26 : decode cX7_toldNames 26 = .ok (.bipush 6, 2) := by decide +kernel
theorem dX7_toldNames_28 : decode cX7_toldNames 28 = .ok (.if_icmp .lt 7, 3) := by decide +kernel
theorem dX7_toldNames_31 : decode cX7_toldNames 31 = .ok (.aload_n 0, 1) := by decide +kernel
theorem dX7_toldNames_32 : decode cX7_toldNames 32 = .ok (.invokevirtual 124, 3) := by decide +kernel
theorem dX7_toldNames_35 : decode cX7_toldNames 35 = .ok (.aload_n 0, 1) := by decide +kernel
theorem dX7_toldNames_36 : decode cX7_toldNames 36 = .ok (.aload_n 0, 1) := by decide +kernel
theorem dX7_toldNames_37 : decode cX7_toldNames 37 = .ok (.getfield 12, 3) := by decide +kernel
theorem dX7_toldNames_40 : decode cX7_toldNames 40 = .ok (.getfield 95, 3) := by decide +kernel
theorem dX7_toldNames_43 : decode cX7_toldNames 43 = .ok (.invokevirtual 153, 3) := by decide +kernel
theorem dX7_toldNames_46 : decode cX7_toldNames 46 = .ok (.pop, 1) := by decide +kernel
theorem dX7_toldNames_47 : decode cX7_toldNames 47 = .ok (.aload_n 0, 1) := by decide +kernel
theorem dX7_toldNames_48 : decode cX7_toldNames 48 = .ok (.getfield 40, 3) := by decide +kernel
theorem dX7_toldNames_51 : decode cX7_toldNames 51 = .ok (.getfield 115, 3) := by decide +kernel
theorem dX7_toldNames_54 : decode cX7_toldNames 54 = .ok (.aload_n 0, 1) := by decide +kernel
theorem dX7_toldNames_55 : decode cX7_toldNames 55 = .ok (.getfield 44, 3) := by decide +kernel
theorem dX7_toldNames_58 : decode cX7_toldNames 58 = .ok (.iconst 0, 1) := by decide +kernel
theorem dX7_toldNames_59 : decode cX7_toldNames 59 = .ok (.invokevirtual 156, 3) := by decide +kernel
theorem dX7_toldNames_62 : decode cX7_toldNames 62 = .ok (.aload_n 0, 1) := by decide +kernel
theorem dX7_toldNames_63 : decode cX7_toldNames 63 = .ok (.getfield 12, 3) := by decide +kernel
theorem dX7_toldNames_66 : decode cX7_toldNames 66 = .ok (.invokevirtual 112, 3) := by decide +kernel
theorem dX7_toldNames_69 : decode cX7_toldNames 69 = .ok (.iinc 1 1, 3) := by decide +kernel
theorem dX7_toldNames_72 : decode cX7_toldNames 72 = .ok (.goto (-70), 3) := by decide +kernel
theorem dX7_toldNames_75 : decode cX7_toldNames 75 = .ok (.return_, 1) := by decide +kernel

end
section
theorem wi_977 : Cond.code yX7_toldToEnd cX7_toldToEnd 4 none ∈ zw := zw_in (List.mem_of_getElem? (i := 977) (by decide +kernel)) (by decide +kernel)
theorem wi_974 : Cond.methodLink RX7 236 yX7_toldToEnd ∈ zw := zw_in (List.mem_of_getElem? (i := 974) (by decide +kernel)) (by decide +kernel)
theorem wi_976 : Cond.instanceMethod yX7_toldToEnd ∈ zw := zw_in (List.mem_of_getElem? (i := 976) (by decide +kernel)) (by decide +kernel)
theorem wi_22 : Cond.selects RX7 yX7_toldToEnd yX7_toldToEnd ∈ zw := zw_in (List.mem_of_getElem? (i := 22) (by decide +kernel)) (by decide +kernel)
theorem wi_876 : Cond.code yX7_expect cX7_expect 2 none ∈ zw := zw_in (List.mem_of_getElem? (i := 876) (by decide +kernel)) (by decide +kernel)
theorem wi_873 : Cond.methodLink RX7 66 yX7_expect ∈ zw := zw_in (List.mem_of_getElem? (i := 873) (by decide +kernel)) (by decide +kernel)
theorem wi_875 : Cond.instanceMethod yX7_expect ∈ zw := zw_in (List.mem_of_getElem? (i := 875) (by decide +kernel)) (by decide +kernel)
theorem wi_7 : Cond.selects RX7 yX7_expect yX7_expect ∈ zw := zw_in (List.mem_of_getElem? (i := 7) (by decide +kernel)) (by decide +kernel)
theorem dX7_pattern_0 : decode cX7_pattern 0 = .ok (.aload_n 0, 1) := by decide +kernel
theorem dX7_pattern_1 : decode cX7_pattern 1 = .ok (.getfield 12, 3) := by decide +kernel
theorem dX7_pattern_4 : decode cX7_pattern 4 = .ok (.getfield 80, 3) := by decide +kernel
theorem dX7_pattern_7 : decode cX7_pattern 7 = .ok (.istore_n 2, 1) := by decide +kernel
theorem dX7_pattern_8 : decode cX7_pattern 8 = .ok (.iconst 0, 1) := by decide +kernel
theorem dX7_pattern_9 : decode cX7_pattern 9 = .ok (.istore_n 3, 1) := by decide +kernel
theorem dX7_pattern_10 : decode cX7_pattern 10 = .ok (.aload_n 0, 1) := by decide +kernel
theorem dX7_pattern_11 : decode cX7_pattern 11 = .ok (.getfield 12, 3) := by decide +kernel
theorem dX7_pattern_14 : decode cX7_pattern 14 = .ok (.invokevirtual 112, 3) := by decide +kernel
theorem dX7_pattern_17 : decode cX7_pattern 17 = .ok (.aload_n 0, 1) := by decide +kernel
theorem dX7_pattern_18 : decode cX7_pattern 18 = .ok (.getfield 12, 3) := by decide +kernel
theorem dX7_pattern_21 : decode cX7_pattern 21 = .ok (.getfield 60, 3) := by decide +kernel
theorem dX7_pattern_24 : decode cX7_pattern 24 = .ok (.bipush 40, 2) := by decide +kernel
theorem dX7_pattern_26 : decode cX7_pattern 26 = .ok (.if_icmp .ne 86, 3) := by decide +kernel
theorem dX7_pattern_29 : decode cX7_pattern 29 = .ok (.iconst 1, 1) := by decide +kernel
theorem dX7_pattern_30 : decode cX7_pattern 30 = .ok (.istore 4, 2) := by decide +kernel
theorem dX7_pattern_32 : decode cX7_pattern 32 = .ok (.iload 4, 2) := by decide +kernel
theorem dX7_pattern_34 : decode cX7_pattern 34 = .ok (.ifCond .eq 72, 3) := by decide +kernel
theorem dX7_pattern_37 : decode cX7_pattern 37 = .ok (.iload_n 3, 1) := by decide +kernel
theorem dX7_pattern_38 : decode cX7_pattern 38 = .ok (.iconst 3, 1) := by decide +kernel
theorem dX7_pattern_39 : decode cX7_pattern 39 = .ok (.if_icmp .gt 67, 3) := by decide +kernel
theorem dX7_pattern_42 : decode cX7_pattern 42 = .ok (.aload_n 0, 1) := by decide +kernel
theorem dX7_pattern_43 : decode cX7_pattern 43 = .ok (.getfield 12, 3) := by decide +kernel
theorem dX7_pattern_46 : decode cX7_pattern 46 = .ok (.invokevirtual 112, 3) := by decide +kernel
theorem dX7_pattern_49 : decode cX7_pattern 49 = .ok (.aload_n 0, 1) := by decide +kernel
theorem dX7_pattern_50 : decode cX7_pattern 50 = .ok (.invokevirtual 150, 3) := by decide +kernel
theorem dX7_pattern_53 : decode cX7_pattern 53 = .ok (.iload_n 3, 1) := by decide +kernel
theorem dX7_pattern_54 : decode cX7_pattern 54 = .ok (.iconst 3, 1) := by decide +kernel
theorem dX7_pattern_55 : decode cX7_pattern 55 = .ok (.if_icmp .lt 7, 3) := by decide +kernel
theorem dX7_pattern_58 : decode cX7_pattern 58 = .ok (.aload_n 0, 1) := by decide +kernel
theorem dX7_pattern_59 : decode cX7_pattern 59 = .ok (.invokevirtual 124, 3) := by decide +kernel
theorem dX7_pattern_62 : decode cX7_pattern 62 = .ok (.aload_n 0, 1) := by decide +kernel
theorem dX7_pattern_63 : decode cX7_pattern 63 = .ok (.aload_n 0, 1) := by decide +kernel
theorem dX7_pattern_64 : decode cX7_pattern 64 = .ok (.getfield 12, 3) := by decide +kernel
theorem dX7_pattern_67 : decode cX7_pattern 67 = .ok (.getfield 95, 3) := by decide +kernel
theorem dX7_pattern_70 : decode cX7_pattern 70 = .ok (.invokevirtual 153, 3) := by decide +kernel
theorem dX7_pattern_73 : decode cX7_pattern 73 = .ok (.pop, 1) := by decide +kernel
theorem dX7_pattern_74 : decode cX7_pattern 74 = .ok (.aload_n 0, 1) := by decide +kernel
theorem dX7_pattern_75 : decode cX7_pattern 75 = .ok (.getfield 12, 3) := by decide +kernel
theorem dX7_pattern_78 : decode cX7_pattern 78 = .ok (.invokevirtual 112, 3) := by decide +kernel
theorem dX7_pattern_81 : decode cX7_pattern 81 = .ok (.iinc 3 1, 3) := by decide +kernel
theorem dX7_pattern_84 : decode cX7_pattern 84 = .ok (.aload_n 0, 1) := by decide +kernel
theorem dX7_pattern_85 : decode cX7_pattern 85 = .ok (.getfield 12, 3) := by decide +kernel
theorem dX7_pattern_88 : decode cX7_pattern 88 = .ok (.getfield 60, 3) := by decide +kernel
theorem dX7_pattern_91 : decode cX7_pattern 91 = .ok (.bipush 44, 2) := by decide +kernel
theorem dX7_pattern_93 : decode cX7_pattern 93 = .ok (.if_icmp .ne 7, 3) := by decide +kernel
theorem dX7_pattern_96 : decode cX7_pattern 96 = .ok (.iconst 1, 1) := by decide +kernel
theorem dX7_pattern_97 : decode cX7_pattern 97 = .ok (.goto 4, 3) := by decide +kernel
theorem dX7_pattern_100 : decode cX7_pattern 100 = .ok (.iconst 0, 1) := by decide +kernel
theorem dX7_pattern_101 : decode cX7_pattern 101 = .ok (.istore 4, 2) := by decide +kernel
theorem dX7_pattern_103 : decode cX7_pattern 103 = .ok (.goto (-71), 3) := by decide +kernel
theorem dX7_pattern_106 : decode cX7_pattern 106 = .ok (.aload_n 0, 1) := by decide +kernel
theorem dX7_pattern_107 : decode cX7_pattern 107 = .ok (.bipush 41, 2) := by decide +kernel
theorem dX7_pattern_109 : decode cX7_pattern 109 = .ok (.invokevirtual 66, 3) := by decide +kernel
theorem dX7_pattern_112 : decode cX7_pattern 112 = .ok (.aload_n 0, 1) := by decide +kernel
theorem dX7_pattern_113 : decode cX7_pattern 113 = .ok (.iload_n 1, 1) := by decide +kernel
theorem dX7_pattern_114 : decode cX7_pattern 114 = .ok (.iload_n 3, 1) := by decide +kernel
theorem dX7_pattern_115 : decode cX7_pattern 115 = .ok (.iload_n 2, 1) := by decide +kernel
theorem dX7_pattern_116 : decode cX7_pattern 116 = .ok (.invokevirtual 236, 3) := by decide +kernel
theorem dX7_pattern_119 : decode cX7_pattern 119 = .ok (.return_, 1) := by decide +kernel

end
section
theorem wi_311 : Cond.fieldLink RX7 137 "ReuseHouse$Program" "code" "LReuseHouse$Code;" ∈ zw := zw_in (List.mem_of_getElem? (i := 311) (by decide +kernel)) (by decide +kernel)
theorem wi_179 : Cond.fieldLink RX7 283 "ReuseHouse$Code" "op" "[I" ∈ zw := zw_in (List.mem_of_getElem? (i := 179) (by decide +kernel)) (by decide +kernel)
theorem wi_183 : Cond.fieldLink RX7 184 "ReuseHouse$Code" "a" "[I" ∈ zw := zw_in (List.mem_of_getElem? (i := 183) (by decide +kernel)) (by decide +kernel)
theorem wi_1034 : Cond.code yX10_wordOf cX10_wordOf 2 (some .long) ∈ zw := zw_in (List.mem_of_getElem? (i := 1034) (by decide +kernel)) (by decide +kernel)
theorem wi_1031 : Cond.methodLink RX7 286 yX10_wordOf ∈ zw := zw_in (List.mem_of_getElem? (i := 1031) (by decide +kernel)) (by decide +kernel)
theorem wi_1032 : Cond.instanceMethod yX10_wordOf ∈ zw := zw_in (List.mem_of_getElem? (i := 1032) (by decide +kernel)) (by decide +kernel)
theorem wi_1033 : Cond.selects RX10 yX10_wordOf yX10_wordOf ∈ zw := zw_in (List.mem_of_getElem? (i := 1033) (by decide +kernel)) (by decide +kernel)
theorem wi_885 : Cond.code yX3_find cX3_find 4 (some .int) ∈ zw := zw_in (List.mem_of_getElem? (i := 885) (by decide +kernel)) (by decide +kernel)
theorem wi_882 : Cond.methodLink RX7 127 yX3_find ∈ zw := zw_in (List.mem_of_getElem? (i := 882) (by decide +kernel)) (by decide +kernel)
theorem wi_883 : Cond.instanceMethod yX3_find ∈ zw := zw_in (List.mem_of_getElem? (i := 883) (by decide +kernel)) (by decide +kernel)
theorem wi_884 : Cond.selects RX3 yX3_find yX3_find ∈ zw := zw_in (List.mem_of_getElem? (i := 884) (by decide +kernel)) (by decide +kernel)
theorem wi_186 : Cond.fieldLink RX7 206 "ReuseHouse$Code" "b" "[I" ∈ zw := zw_in (List.mem_of_getElem? (i := 186) (by decide +kernel)) (by decide +kernel)
theorem wi_199 : Cond.fieldLink RX7 273 "ReuseHouse$Code" "size" "I" ∈ zw := zw_in (List.mem_of_getElem? (i := 199) (by decide +kernel)) (by decide +kernel)
theorem wi_1026 : Cond.code yX7_isCall cX7_isCall 2 (some .boolean) ∈ zw := zw_in (List.mem_of_getElem? (i := 1026) (by decide +kernel)) (by decide +kernel)
theorem wi_1023 : Cond.methodLink RX7 274 yX7_isCall ∈ zw := zw_in (List.mem_of_getElem? (i := 1023) (by decide +kernel)) (by decide +kernel)
theorem wi_1025 : Cond.instanceMethod yX7_isCall ∈ zw := zw_in (List.mem_of_getElem? (i := 1025) (by decide +kernel)) (by decide +kernel)
theorem wi_34 : Cond.selects RX7 yX7_isCall yX7_isCall ∈ zw := zw_in (List.mem_of_getElem? (i := 34) (by decide +kernel)) (by decide +kernel)
theorem wi_1030 : Cond.code yX7_resolveCall cX7_resolveCall 3 (some .int) ∈ zw := zw_in (List.mem_of_getElem? (i := 1030) (by decide +kernel)) (by decide +kernel)
theorem wi_1027 : Cond.methodLink RX7 278 yX7_resolveCall ∈ zw := zw_in (List.mem_of_getElem? (i := 1027) (by decide +kernel)) (by decide +kernel)
theorem wi_1029 : Cond.instanceMethod yX7_resolveCall ∈ zw := zw_in (List.mem_of_getElem? (i := 1029) (by decide +kernel)) (by decide +kernel)
theorem wi_35 : Cond.selects RX7 yX7_resolveCall yX7_resolveCall ∈ zw := zw_in (List.mem_of_getElem? (i := 35) (by decide +kernel)) (by decide +kernel)
theorem wi_190 : Cond.fieldLink RX7 281 "ReuseHouse$Code" "place" "[I" ∈ zw := zw_in (List.mem_of_getElem? (i := 190) (by decide +kernel)) (by decide +kernel)
theorem dX7_isCall_0 : decode cX7_isCall 0 = .ok (.aload_n 0, 1) := by decide +kernel
theorem dX7_isCall_1 : decode cX7_isCall 1 = .ok (.getfield 40, 3) := by decide +kernel
theorem dX7_isCall_4 : decode cX7_isCall 4 = .ok (.getfield 137, 3) := by decide +kernel
theorem dX7_isCall_7 : decode cX7_isCall 7 = .ok (.getfield 283, 3) := by decide +kernel
theorem dX7_isCall_10 : decode cX7_isCall 10 = .ok (.iload_n 1, 1) := by decide +kernel
theorem dX7_isCall_11 : decode cX7_isCall 11 = .ok (.iaload, 1) := by decide +kernel
theorem dX7_isCall_12 : decode cX7_isCall 12 = .ok (.bipush 7, 2) := by decide +kernel
theorem dX7_isCall_14 : decode cX7_isCall 14 = .ok (.if_icmp .eq 20, 3) := by decide +kernel
theorem dX7_isCall_17 : decode cX7_isCall 17 = .ok (.aload_n 0, 1) := by decide +kernel
theorem dX7_isCall_18 : decode cX7_isCall 18 = .ok (.getfield 40, 3) := by decide +kernel
theorem dX7_isCall_21 : decode cX7_isCall 21 = .ok (.getfield 137, 3) := by decide +kernel
theorem dX7_isCall_24 : decode cX7_isCall 24 = .ok (.getfield 283, 3) := by decide +kernel
theorem dX7_isCall_27 : decode cX7_isCall 27 = .ok (.iload_n 1, 1) := by decide +kernel
theorem dX7_isCall_28 : decode cX7_isCall 28 = .ok (.iaload, 1) := by decide +kernel
theorem dX7_isCall_29 : decode cX7_isCall 29 = .ok (.bipush 6, 2) := by decide +kernel
theorem dX7_isCall_31 : decode cX7_isCall 31 = .ok (.if_icmp .ne 7, 3) := by decide +kernel
theorem dX7_isCall_34 : decode cX7_isCall 34 = .ok (.iconst 1, 1) := by decide +kernel
theorem dX7_isCall_35 : decode cX7_isCall 35 = .ok (.goto 4, 3) := by decide +kernel
theorem dX7_isCall_38 : decode cX7_isCall 38 = .ok (.iconst 0, 1) := by decide +kernel
theorem dX7_isCall_39 : decode cX7_isCall 39 = .ok (.ireturn, 1) := by decide +kernel
theorem dX7_resolveCall_0 : decode cX7_resolveCall 0 = .ok (.aload_n 0, 1) := by decide +kernel
theorem dX7_resolveCall_1 : decode cX7_resolveCall 1 = .ok (.getfield 40, 3) := by decide +kernel
theorem dX7_resolveCall_4 : decode cX7_resolveCall 4 = .ok (.getfield 115, 3) := by decide +kernel
theorem dX7_resolveCall_7 : decode cX7_resolveCall 7 = .ok (.aload_n 0, 1) := by decide +kernel
theorem dX7_resolveCall_8 : decode cX7_resolveCall 8 = .ok (.getfield 12, 3) := by decide +kernel
theorem dX7_resolveCall_11 : decode cX7_resolveCall 11 = .ok (.aload_n 0, 1) := by decide +kernel
theorem dX7_resolveCall_12 : decode cX7_resolveCall 12 = .ok (.getfield 40, 3) := by decide +kernel
theorem dX7_resolveCall_15 : decode cX7_resolveCall 15 = .ok (.getfield 137, 3) := by decide +kernel
theorem dX7_resolveCall_18 : decode cX7_resolveCall 18 = .ok (.getfield 184, 3) := by decide +kernel
theorem dX7_resolveCall_21 : decode cX7_resolveCall 21 = .ok (.iload_n 1, 1) := by decide +kernel
theorem dX7_resolveCall_22 : decode cX7_resolveCall 22 = .ok (.iaload, 1) := by decide +kernel
theorem dX7_resolveCall_23 : decode cX7_resolveCall 23 = .ok (.invokevirtual 286, 3) := by decide +kernel
theorem dX7_resolveCall_26 : decode cX7_resolveCall 26 = .ok (.invokevirtual 127, 3) := by decide +kernel
theorem dX7_resolveCall_29 : decode cX7_resolveCall 29 = .ok (.istore_n 2, 1) := by decide +kernel
theorem dX7_resolveCall_30 : decode cX7_resolveCall 30 = .ok (.aload_n 0, 1) := by decide +kernel
theorem dX7_resolveCall_31 : decode cX7_resolveCall 31 = .ok (.getfield 40, 3) := by decide +kernel
theorem dX7_resolveCall_34 : decode cX7_resolveCall 34 = .ok (.getfield 137, 3) := by decide +kernel
theorem dX7_resolveCall_37 : decode cX7_resolveCall 37 = .ok (.getfield 184, 3) := by decide +kernel
theorem dX7_resolveCall_40 : decode cX7_resolveCall 40 = .ok (.iload_n 1, 1) := by decide +kernel
theorem dX7_resolveCall_41 : decode cX7_resolveCall 41 = .ok (.iload_n 2, 1) := by decide +kernel
theorem dX7_resolveCall_42 : decode cX7_resolveCall 42 = .ok (.iastore, 1) := by decide +kernel
theorem dX7_resolveCall_43 : decode cX7_resolveCall 43 = .ok (.iload_n 2, 1) := by decide +kernel
theorem dX7_resolveCall_44 : decode cX7_resolveCall 44 = .ok (.iconst (-1), 1) := by decide +kernel
theorem dX7_resolveCall_45 : decode cX7_resolveCall 45 = .ok (.if_icmp .ne 5, 3) := by decide +kernel
theorem dX7_resolveCall_48 : decode cX7_resolveCall 48 = .ok (.iconst 2, 1) := by decide +kernel
theorem dX7_resolveCall_49 : decode cX7_resolveCall 49 = .ok (.ireturn, 1) := by decide +kernel
theorem dX7_resolveCall_50 : decode cX7_resolveCall 50 = .ok (.aload_n 0, 1) := by decide +kernel
theorem dX7_resolveCall_51 : decode cX7_resolveCall 51 = .ok (.getfield 40, 3) := by decide +kernel
theorem dX7_resolveCall_54 : decode cX7_resolveCall 54 = .ok (.getfield 115, 3) := by decide +kernel
theorem dX7_resolveCall_57 : decode cX7_resolveCall 57 = .ok (.iload_n 2, 1) := by decide +kernel
theorem dX7_resolveCall_58 : decode cX7_resolveCall 58 = .ok (.iconst 0, 1) := by decide +kernel
theorem dX7_resolveCall_59 : decode cX7_resolveCall 59 = .ok (.invokevirtual 162, 3) := by decide +kernel
theorem dX7_resolveCall_62 : decode cX7_resolveCall 62 = .ok (.aload_n 0, 1) := by decide +kernel
theorem dX7_resolveCall_63 : decode cX7_resolveCall 63 = .ok (.getfield 40, 3) := by decide +kernel
theorem dX7_resolveCall_66 : decode cX7_resolveCall 66 = .ok (.getfield 137, 3) := by decide +kernel
theorem dX7_resolveCall_69 : decode cX7_resolveCall 69 = .ok (.getfield 206, 3) := by decide +kernel
theorem dX7_resolveCall_72 : decode cX7_resolveCall 72 = .ok (.iload_n 1, 1) := by decide +kernel
theorem dX7_resolveCall_73 : decode cX7_resolveCall 73 = .ok (.iaload, 1) := by decide +kernel
theorem dX7_resolveCall_74 : decode cX7_resolveCall 74 = .ok (.if_icmp .ne 7, 3) := by decide +kernel
theorem dX7_resolveCall_77 : decode cX7_resolveCall 77 = .ok (.iconst 0, 1) := by decide +kernel
theorem dX7_resolveCall_78 : decode cX7_resolveCall 78 = .ok (.goto 4, 3) := by decide +kernel
theorem dX7_resolveCall_81 : decode cX7_resolveCall 81 = .ok (.iconst 4, 1) := by decide +kernel
theorem dX7_resolveCall_82 : decode cX7_resolveCall 82 = .ok (.ireturn, 1) := by decide +kernel
theorem dX7_resolveCalls_0 : decode cX7_resolveCalls 0 = .ok (.iconst 0, 1) := by decide +kernel
theorem dX7_resolveCalls_1 : decode cX7_resolveCalls 1 = .ok (.istore_n 1, 1) := by decide +kernel
theorem dX7_resolveCalls_2 : decode cX7_resolveCalls 2 = .ok (.sipush 2000, 3) := by decide +kernel
theorem dX7_resolveCalls_5 : decode cX7_resolveCalls 5 = .ok (.istore_n 2, 1) := by decide +kernel
theorem dX7_resolveCalls_6 : decode cX7_resolveCalls 6 = .ok (.iconst 0, 1) := by decide +kernel
theorem dX7_resolveCalls_7 : decode cX7_resolveCalls 7 = .ok (.istore_n 3, 1) := by decide +kernel
theorem dX7_resolveCalls_8 : decode cX7_resolveCalls 8 = .ok (.iload_n 3, 1) := by decide +kernel
theorem dX7_resolveCalls_9 : decode cX7_resolveCalls 9 = .ok (.aload_n 0, 1) := by decide +kernel
theorem dX7_resolveCalls_10 : decode cX7_resolveCalls 10 = .ok (.getfield 40, 3) := by decide +kernel
theorem dX7_resolveCalls_13 : decode cX7_resolveCalls 13 = .ok (.getfield 137, 3) := by decide +kernel
theorem dX7_resolveCalls_16 : decode cX7_resolveCalls 16 = .ok (.getfield 273, 3) := by decide +kernel
theorem dX7_resolveCalls_19 : decode cX7_resolveCalls 19 = .ok (.if_icmp .ge 65, 3) := by decide +kernel
theorem dX7_resolveCalls_22 : decode cX7_resolveCalls 22 = .ok (.aload_n 0, 1) := by decide +kernel
theorem dX7_resolveCalls_23 : decode cX7_resolveCalls 23 = .ok (.iload_n 3, 1) := by decide +kernel
theorem dX7_resolveCalls_24 : decode cX7_resolveCalls 24 = .ok (.invokevirtual 274, 3) := by decide +kernel
theorem dX7_resolveCalls_27 : decode cX7_resolveCalls 27 = .ok (.ifCond .eq 11, 3) := by decide +kernel
theorem dX7_resolveCalls_30 : decode cX7_resolveCalls 30 = .ok (.aload_n 0, 1) := by decide +kernel
theorem dX7_resolveCalls_31 : decode cX7_resolveCalls 31 = .ok (.iload_n 3, 1) := by decide +kernel
theorem dX7_resolveCalls_32 : decode cX7_resolveCalls 32 = .ok (.invokevirtual 278, 3) := by decide +kernel
theorem dX7_resolveCalls_35 : decode cX7_resolveCalls 35 = .ok (.goto 4, 3) := by decide +kernel
theorem dX7_resolveCalls_38 : decode cX7_resolveCalls 38 = .ok (.iconst 0, 1) := by decide +kernel
theorem dX7_resolveCalls_39 : decode cX7_resolveCalls 39 = .ok (.istore 4, 2) := by decide +kernel
theorem dX7_resolveCalls_41 : decode cX7_resolveCalls 41 = .ok (.iload 4, 2) := by decide +kernel
theorem dX7_resolveCalls_43 : decode cX7_resolveCalls 43 = .ok (.ifCond .eq 35, 3) := by decide +kernel
theorem dX7_resolveCalls_46 : decode cX7_resolveCalls 46 = .ok (.aload_n 0, 1) := by decide +kernel
theorem dX7_resolveCalls_47 : decode cX7_resolveCalls 47 = .ok (.getfield 40, 3) := by decide +kernel
theorem dX7_resolveCalls_50 : decode cX7_resolveCalls 50 = .ok (.getfield 137, 3) := by decide +kernel
theorem dX7_resolveCalls_53 : decode cX7_resolveCalls 53 = .ok (.getfield 281, 3) := by decide +kernel
theorem dX7_resolveCalls_56 : decode cX7_resolveCalls 56 = .ok (.iload_n 3, 1) := by decide +kernel
theorem dX7_resolveCalls_57 : decode cX7_resolveCalls 57 = .ok (.iaload, 1) := by decide +kernel
theorem dX7_resolveCalls_58 : decode cX7_resolveCalls 58 = .ok (.iload_n 2, 1) := by decide +kernel
theorem dX7_resolveCalls_59 : decode cX7_resolveCalls 59 = .ok (.if_icmp .ge 19, 3) := by decide +kernel
theorem dX7_resolveCalls_62 : decode cX7_resolveCalls 62 = .ok (.iload 4, 2) := by decide +kernel
theorem dX7_resolveCalls_64 : decode cX7_resolveCalls 64 = .ok (.istore_n 1, 1) := by decide +kernel
theorem dX7_resolveCalls_65 : decode cX7_resolveCalls 65 = .ok (.aload_n 0, 1) := by decide +kernel
theorem dX7_resolveCalls_66 : decode cX7_resolveCalls 66 = .ok (.getfield 40, 3) := by decide +kernel
theorem dX7_resolveCalls_69 : decode cX7_resolveCalls 69 = .ok (.getfield 137, 3) := by decide +kernel
theorem dX7_resolveCalls_72 : decode cX7_resolveCalls 72 = .ok (.getfield 281, 3) := by decide +kernel
theorem dX7_resolveCalls_75 : decode cX7_resolveCalls 75 = .ok (.iload_n 3, 1) := by decide +kernel
theorem dX7_resolveCalls_76 : decode cX7_resolveCalls 76 = .ok (.iaload, 1) := by decide +kernel
theorem dX7_resolveCalls_77 : decode cX7_resolveCalls 77 = .ok (.istore_n 2, 1) := by decide +kernel
theorem dX7_resolveCalls_78 : decode cX7_resolveCalls 78 = .ok (.iinc 3 1, 3) := by decide +kernel
theorem dX7_resolveCalls_81 : decode cX7_resolveCalls 81 = .ok (.goto (-73), 3) := by decide +kernel
theorem dX7_resolveCalls_84 : decode cX7_resolveCalls 84 = .ok (.iload_n 1, 1) := by decide +kernel
theorem dX7_resolveCalls_85 : decode cX7_resolveCalls 85 = .ok (.ifCond .eq 9, 3) := by decide +kernel
theorem dX7_resolveCalls_88 : decode cX7_resolveCalls 88 = .ok (.aload_n 0, 1) := by decide +kernel
theorem dX7_resolveCalls_89 : decode cX7_resolveCalls 89 = .ok (.iload_n 1, 1) := by decide +kernel
theorem dX7_resolveCalls_90 : decode cX7_resolveCalls 90 = .ok (.iload_n 2, 1) := by decide +kernel
theorem dX7_resolveCalls_91 : decode cX7_resolveCalls 91 = .ok (.invokevirtual 83, 3) := by decide +kernel
theorem dX7_resolveCalls_94 : decode cX7_resolveCalls 94 = .ok (.return_, 1) := by decide +kernel

end
section
theorem wi_704 : Cond.fieldLink RJ0 38 "java/lang/String" "COMPACT_STRINGS" "Z" ∈ zw := zw_in (List.mem_of_getElem? (i := 704) (by decide +kernel)) (by decide +kernel)
theorem wi_2045 : Cond.fieldLink RJ0 15 "java/lang/String" "coder" "B" ∈ zw := zw_in (List.mem_of_getElem? (i := 2045) (by decide +kernel)) (by decide +kernel)
theorem wi_2046 : Cond.fieldLink RJ0 9 "java/lang/String" "value" "[B" ∈ zw := zw_in (List.mem_of_getElem? (i := 2046) (by decide +kernel)) (by decide +kernel)
theorem wi_713 : Cond.code yJ0_coder_7d493 cJ0_coder_7d493 1 (some .byte) ∈ zw := zw_in (List.mem_of_getElem? (i := 713) (by decide +kernel)) (by decide +kernel)
theorem wi_710 : Cond.methodLink RJ0 335 yJ0_coder_7d493 ∈ zw := zw_in (List.mem_of_getElem? (i := 710) (by decide +kernel)) (by decide +kernel)
theorem wi_711 : Cond.instanceMethod yJ0_coder_7d493 ∈ zw := zw_in (List.mem_of_getElem? (i := 711) (by decide +kernel)) (by decide +kernel)
theorem wi_712 : Cond.selects RJ0 yJ0_coder_7d493 yJ0_coder_7d493 ∈ zw := zw_in (List.mem_of_getElem? (i := 712) (by decide +kernel)) (by decide +kernel)
theorem wi_149 : Cond.initialized RJ0 ∈ zw := zw_in (List.mem_of_getElem? (i := 149) (by decide +kernel)) (by decide +kernel)
theorem wi_719 : Cond.code yJ1_canEncode_9a6ad cJ1_canEncode_9a6ad 1 (some .boolean) ∈ zw := zw_in (List.mem_of_getElem? (i := 719) (by decide +kernel)) (by decide +kernel)
theorem wi_717 : Cond.methodLink RJ1 88 yJ1_canEncode_9a6ad ∈ zw := zw_in (List.mem_of_getElem? (i := 717) (by decide +kernel)) (by decide +kernel)
theorem wi_718 : Cond.static yJ1_canEncode_9a6ad ∈ zw := zw_in (List.mem_of_getElem? (i := 718) (by decide +kernel)) (by decide +kernel)
theorem wi_150 : Cond.initialized RJ1 ∈ zw := zw_in (List.mem_of_getElem? (i := 150) (by decide +kernel)) (by decide +kernel)
theorem wi_720 : Cond.methodLink RJ1 92 Lib.Math.max.name ∈ zw := zw_in (List.mem_of_getElem? (i := 720) (by decide +kernel)) (by decide +kernel)
theorem wi_431 : Cond.static Lib.Math.max.name ∈ zw := zw_in (List.mem_of_getElem? (i := 431) (by decide +kernel)) (by decide +kernel)
theorem wi_432 : Cond.code Lib.Math.max.name Lib.Math.max.code 2 (some .int) ∈ zw := zw_in (List.mem_of_getElem? (i := 432) (by decide +kernel)) (by decide +kernel)
theorem wi_721 : Cond.methodLink RJ1 38 Lib.Math.min.name ∈ zw := zw_in (List.mem_of_getElem? (i := 721) (by decide +kernel)) (by decide +kernel)
theorem wi_724 : Cond.code yJ1_indexOfChar_4cfef cJ1_indexOfChar_4cfef 6 (some .int) ∈ zw := zw_in (List.mem_of_getElem? (i := 724) (by decide +kernel)) (by decide +kernel)
theorem wi_722 : Cond.methodLink RJ1 95 yJ1_indexOfChar_4cfef ∈ zw := zw_in (List.mem_of_getElem? (i := 722) (by decide +kernel)) (by decide +kernel)
theorem wi_723 : Cond.static yJ1_indexOfChar_4cfef ∈ zw := zw_in (List.mem_of_getElem? (i := 723) (by decide +kernel)) (by decide +kernel)
theorem wi_703 : Cond.code yJ0_isLatin1_aae02 cJ0_isLatin1_aae02 1 (some .boolean) ∈ zw := zw_in (List.mem_of_getElem? (i := 703) (by decide +kernel)) (by decide +kernel)
theorem wi_700 : Cond.methodLink RJ0 492 yJ0_isLatin1_aae02 ∈ zw := zw_in (List.mem_of_getElem? (i := 700) (by decide +kernel)) (by decide +kernel)
theorem wi_701 : Cond.instanceMethod yJ0_isLatin1_aae02 ∈ zw := zw_in (List.mem_of_getElem? (i := 701) (by decide +kernel)) (by decide +kernel)
theorem wi_702 : Cond.selects RJ0 yJ0_isLatin1_aae02 yJ0_isLatin1_aae02 ∈ zw := zw_in (List.mem_of_getElem? (i := 702) (by decide +kernel)) (by decide +kernel)
theorem wi_709 : Cond.code yJ0_length_8abf5 cJ0_length_8abf5 1 (some .int) ∈ zw := zw_in (List.mem_of_getElem? (i := 709) (by decide +kernel)) (by decide +kernel)
theorem wi_706 : Cond.methodLink RJ0 505 yJ0_length_8abf5 ∈ zw := zw_in (List.mem_of_getElem? (i := 706) (by decide +kernel)) (by decide +kernel)
theorem wi_707 : Cond.instanceMethod yJ0_length_8abf5 ∈ zw := zw_in (List.mem_of_getElem? (i := 707) (by decide +kernel)) (by decide +kernel)
theorem wi_708 : Cond.selects RJ0 yJ0_length_8abf5 yJ0_length_8abf5 ∈ zw := zw_in (List.mem_of_getElem? (i := 708) (by decide +kernel)) (by decide +kernel)
theorem wi_716 : Cond.code yJ1_indexOf_4cfef cJ1_indexOf_4cfef 4 (some .int) ∈ zw := zw_in (List.mem_of_getElem? (i := 716) (by decide +kernel)) (by decide +kernel)
theorem wi_714 : Cond.methodLink RJ0 637 yJ1_indexOf_4cfef ∈ zw := zw_in (List.mem_of_getElem? (i := 714) (by decide +kernel)) (by decide +kernel)
theorem wi_715 : Cond.static yJ1_indexOf_4cfef ∈ zw := zw_in (List.mem_of_getElem? (i := 715) (by decide +kernel)) (by decide +kernel)
theorem wi_699 : Cond.code yJ0_indexOf_7cf53 cJ0_indexOf_7cf53 3 (some .int) ∈ zw := zw_in (List.mem_of_getElem? (i := 699) (by decide +kernel)) (by decide +kernel)
theorem wi_696 : Cond.methodLink RJ0 633 yJ0_indexOf_7cf53 ∈ zw := zw_in (List.mem_of_getElem? (i := 696) (by decide +kernel)) (by decide +kernel)
theorem wi_697 : Cond.instanceMethod yJ0_indexOf_7cf53 ∈ zw := zw_in (List.mem_of_getElem? (i := 697) (by decide +kernel)) (by decide +kernel)
theorem wi_698 : Cond.selects RJ0 yJ0_indexOf_7cf53 yJ0_indexOf_7cf53 ∈ zw := zw_in (List.mem_of_getElem? (i := 698) (by decide +kernel)) (by decide +kernel)
theorem dJ0_coder_7d493_0 : decode cJ0_coder_7d493 0 = .ok (.getstatic 38, 3) := by decide +kernel
theorem dJ0_coder_7d493_3 : decode cJ0_coder_7d493 3 = .ok (.ifCond .eq 10, 3) := by decide +kernel
theorem dJ0_coder_7d493_6 : decode cJ0_coder_7d493 6 = .ok (.aload_n 0, 1) := by decide +kernel
theorem dJ0_coder_7d493_7 : decode cJ0_coder_7d493 7 = .ok (.getfield 15, 3) := by decide +kernel
theorem dJ0_coder_7d493_10 : decode cJ0_coder_7d493 10 = .ok (.goto 4, 3) := by decide +kernel
theorem dJ0_coder_7d493_14 : decode cJ0_coder_7d493 14 = .ok (.ireturn, 1) := by decide +kernel
theorem dJ0_indexOf_0f7a4_0 : decode cJ0_indexOf_0f7a4 0 = .ok (.aload_n 0, 1) := by decide +kernel
theorem dJ0_indexOf_0f7a4_1 : decode cJ0_indexOf_0f7a4 1 = .ok (.iload_n 1, 1) := by decide +kernel
theorem dJ0_indexOf_0f7a4_2 : decode cJ0_indexOf_0f7a4 2 = .ok (.iconst 0, 1) := by decide +kernel
theorem dJ0_indexOf_0f7a4_3 : decode cJ0_indexOf_0f7a4 3 = .ok (.invokevirtual 633, 3) := by decide +kernel
theorem dJ0_indexOf_0f7a4_6 : decode cJ0_indexOf_0f7a4 6 = .ok (.ireturn, 1) := by decide +kernel
theorem dJ0_indexOf_7cf53_0 : decode cJ0_indexOf_7cf53 0 = .ok (.aload_n 0, 1) := by decide +kernel
theorem dJ0_indexOf_7cf53_1 : decode cJ0_indexOf_7cf53 1 = .ok (.invokevirtual 492, 3) := by decide +kernel
theorem dJ0_indexOf_7cf53_4 : decode cJ0_indexOf_7cf53 4 = .ok (.ifCond .eq 19, 3) := by decide +kernel
theorem dJ0_indexOf_7cf53_7 : decode cJ0_indexOf_7cf53 7 = .ok (.aload_n 0, 1) := by decide +kernel
theorem dJ0_indexOf_7cf53_8 : decode cJ0_indexOf_7cf53 8 = .ok (.getfield 9, 3) := by decide +kernel
theorem dJ0_indexOf_7cf53_11 : decode cJ0_indexOf_7cf53 11 = .ok (.iload_n 1, 1) := by decide +kernel
theorem dJ0_indexOf_7cf53_12 : decode cJ0_indexOf_7cf53 12 = .ok (.iload_n 2, 1) := by decide +kernel
theorem dJ0_indexOf_7cf53_13 : decode cJ0_indexOf_7cf53 13 = .ok (.aload_n 0, 1) := by decide +kernel
theorem dJ0_indexOf_7cf53_14 : decode cJ0_indexOf_7cf53 14 = .ok (.invokevirtual 505, 3) := by decide +kernel
theorem dJ0_indexOf_7cf53_17 : decode cJ0_indexOf_7cf53 17 = .ok (.invokestatic 637, 3) := by decide +kernel
theorem dJ0_indexOf_7cf53_20 : decode cJ0_indexOf_7cf53 20 = .ok (.goto 16, 3) := by decide +kernel
theorem dJ0_indexOf_7cf53_36 : decode cJ0_indexOf_7cf53 36 = .ok (.ireturn, 1) := by decide +kernel
theorem dJ0_length_8abf5_0 : decode cJ0_length_8abf5 0 = .ok (.aload_n 0, 1) := by decide +kernel
theorem dJ0_length_8abf5_1 : decode cJ0_length_8abf5 1 = .ok (.getfield 9, 3) := by decide +kernel
theorem dJ0_length_8abf5_4 : decode cJ0_length_8abf5 4 = .ok (.arraylength, 1) := by decide +kernel
theorem dJ0_length_8abf5_5 : decode cJ0_length_8abf5 5 = .ok (.aload_n 0, 1) := by decide +kernel
theorem dJ0_length_8abf5_6 : decode cJ0_length_8abf5 6 = .ok (.invokevirtual 335, 3) := by decide +kernel
theorem dJ0_length_8abf5_9 : decode cJ0_length_8abf5 9 = .ok (.ishr, 1) := by decide +kernel
theorem dJ0_length_8abf5_10 : decode cJ0_length_8abf5 10 = .ok (.ireturn, 1) := by decide +kernel
theorem dJ1_canEncode_9a6ad_0 : decode cJ1_canEncode_9a6ad 0 = .ok (.iload_n 0, 1) := by decide +kernel
theorem dJ1_canEncode_9a6ad_1 : decode cJ1_canEncode_9a6ad 1 = .ok (.ifCond .lt 14, 3) := by decide +kernel
theorem dJ1_canEncode_9a6ad_4 : decode cJ1_canEncode_9a6ad 4 = .ok (.iload_n 0, 1) := by decide +kernel
theorem dJ1_canEncode_9a6ad_5 : decode cJ1_canEncode_9a6ad 5 = .ok (.sipush 255, 3) := by decide +kernel
theorem dJ1_canEncode_9a6ad_8 : decode cJ1_canEncode_9a6ad 8 = .ok (.if_icmp .gt 7, 3) := by decide +kernel
theorem dJ1_canEncode_9a6ad_11 : decode cJ1_canEncode_9a6ad 11 = .ok (.iconst 1, 1) := by decide +kernel
theorem dJ1_canEncode_9a6ad_12 : decode cJ1_canEncode_9a6ad 12 = .ok (.goto 4, 3) := by decide +kernel
theorem dJ1_canEncode_9a6ad_16 : decode cJ1_canEncode_9a6ad 16 = .ok (.ireturn, 1) := by decide +kernel
theorem dJ1_indexOfChar_4cfef_0 : decode cJ1_indexOfChar_4cfef 0 = .ok (.iload_n 1, 1) := by decide +kernel
theorem dJ1_indexOfChar_4cfef_1 : decode cJ1_indexOfChar_4cfef 1 = .ok (.i2b, 1) := by decide +kernel
theorem dJ1_indexOfChar_4cfef_2 : decode cJ1_indexOfChar_4cfef 2 = .ok (.istore 4, 2) := by decide +kernel
theorem dJ1_indexOfChar_4cfef_4 : decode cJ1_indexOfChar_4cfef 4 = .ok (.iload_n 2, 1) := by decide +kernel
theorem dJ1_indexOfChar_4cfef_5 : decode cJ1_indexOfChar_4cfef 5 = .ok (.istore 5, 2) := by decide +kernel
theorem dJ1_indexOfChar_4cfef_7 : decode cJ1_indexOfChar_4cfef 7 = .ok (.iload 5, 2) := by decide +kernel
theorem dJ1_indexOfChar_4cfef_9 : decode cJ1_indexOfChar_4cfef 9 = .ok (.iload_n 3, 1) := by decide +kernel
theorem dJ1_indexOfChar_4cfef_10 : decode cJ1_indexOfChar_4cfef 10 = .ok (.if_icmp .ge 21, 3) := by decide +kernel
theorem dJ1_indexOfChar_4cfef_13 : decode cJ1_indexOfChar_4cfef 13 = .ok (.aload_n 0, 1) := by decide +kernel
theorem dJ1_indexOfChar_4cfef_14 : decode cJ1_indexOfChar_4cfef 14 = .ok (.iload 5, 2) := by decide +kernel
theorem dJ1_indexOfChar_4cfef_16 : decode cJ1_indexOfChar_4cfef 16 = .ok (.baload, 1) := by decide +kernel
theorem dJ1_indexOfChar_4cfef_17 : decode cJ1_indexOfChar_4cfef 17 = .ok (.iload 4, 2) := by decide +kernel
theorem dJ1_indexOfChar_4cfef_19 : decode cJ1_indexOfChar_4cfef 19 = .ok (.if_icmp .ne 6, 3) := by decide +kernel
theorem dJ1_indexOfChar_4cfef_22 : decode cJ1_indexOfChar_4cfef 22 = .ok (.iload 5, 2) := by decide +kernel
theorem dJ1_indexOfChar_4cfef_24 : decode cJ1_indexOfChar_4cfef 24 = .ok (.ireturn, 1) := by decide +kernel
theorem dJ1_indexOfChar_4cfef_25 : decode cJ1_indexOfChar_4cfef 25 = .ok (.iinc 5 1, 3) := by decide +kernel
theorem dJ1_indexOfChar_4cfef_28 : decode cJ1_indexOfChar_4cfef 28 = .ok (.goto (-21), 3) := by decide +kernel
theorem dJ1_indexOfChar_4cfef_31 : decode cJ1_indexOfChar_4cfef 31 = .ok (.iconst (-1), 1) := by decide +kernel
theorem dJ1_indexOfChar_4cfef_32 : decode cJ1_indexOfChar_4cfef 32 = .ok (.ireturn, 1) := by decide +kernel
theorem dJ1_indexOf_4cfef_0 : decode cJ1_indexOf_4cfef 0 = .ok (.iload_n 1, 1) := by decide +kernel
theorem dJ1_indexOf_4cfef_1 : decode cJ1_indexOf_4cfef 1 = .ok (.invokestatic 88, 3) := by decide +kernel
theorem dJ1_indexOf_4cfef_4 : decode cJ1_indexOf_4cfef 4 = .ok (.ifCond .ne 5, 3) := by decide +kernel
theorem dJ1_indexOf_4cfef_9 : decode cJ1_indexOf_4cfef 9 = .ok (.iload_n 2, 1) := by decide +kernel
theorem dJ1_indexOf_4cfef_10 : decode cJ1_indexOf_4cfef 10 = .ok (.iconst 0, 1) := by decide +kernel
theorem dJ1_indexOf_4cfef_11 : decode cJ1_indexOf_4cfef 11 = .ok (.invokestatic 92, 3) := by decide +kernel
theorem dJ1_indexOf_4cfef_14 : decode cJ1_indexOf_4cfef 14 = .ok (.istore_n 2, 1) := by decide +kernel
theorem dJ1_indexOf_4cfef_15 : decode cJ1_indexOf_4cfef 15 = .ok (.iload_n 3, 1) := by decide +kernel
theorem dJ1_indexOf_4cfef_16 : decode cJ1_indexOf_4cfef 16 = .ok (.aload_n 0, 1) := by decide +kernel
theorem dJ1_indexOf_4cfef_17 : decode cJ1_indexOf_4cfef 17 = .ok (.arraylength, 1) := by decide +kernel
theorem dJ1_indexOf_4cfef_18 : decode cJ1_indexOf_4cfef 18 = .ok (.invokestatic 38, 3) := by decide +kernel
theorem dJ1_indexOf_4cfef_21 : decode cJ1_indexOf_4cfef 21 = .ok (.istore_n 3, 1) := by decide +kernel
theorem dJ1_indexOf_4cfef_22 : decode cJ1_indexOf_4cfef 22 = .ok (.iload_n 2, 1) := by decide +kernel
theorem dJ1_indexOf_4cfef_23 : decode cJ1_indexOf_4cfef 23 = .ok (.iload_n 3, 1) := by decide +kernel
theorem dJ1_indexOf_4cfef_24 : decode cJ1_indexOf_4cfef 24 = .ok (.if_icmp .lt 5, 3) := by decide +kernel
theorem dJ1_indexOf_4cfef_29 : decode cJ1_indexOf_4cfef 29 = .ok (.aload_n 0, 1) := by decide +kernel
theorem dJ1_indexOf_4cfef_30 : decode cJ1_indexOf_4cfef 30 = .ok (.iload_n 1, 1) := by decide +kernel
theorem dJ1_indexOf_4cfef_31 : decode cJ1_indexOf_4cfef 31 = .ok (.iload_n 2, 1) := by decide +kernel
theorem dJ1_indexOf_4cfef_32 : decode cJ1_indexOf_4cfef 32 = .ok (.iload_n 3, 1) := by decide +kernel
theorem dJ1_indexOf_4cfef_33 : decode cJ1_indexOf_4cfef 33 = .ok (.invokestatic 95, 3) := by decide +kernel
theorem dJ1_indexOf_4cfef_36 : decode cJ1_indexOf_4cfef 36 = .ok (.ireturn, 1) := by decide +kernel
set_option maxHeartbeats 4000000 in
set_option maxRecDepth 100000 in
theorem c_J0_coder_7d493 (l : Launch) (dC : Nat → ClassId) (dI : Nat → Nat → Nat) (aK aV : Nat → Nat) (i : Nat) (sz : Nat) (hi : i < 8) : Met l yJ0_coder_7d493 (Cond.code yJ0_coder_7d493 cJ0_coder_7d493 1 (some .byte) :: zw) ({ frames := 8, cells := 0, slots := 0, locals := 200 }) (va_Pc [.ref (aK i)] (zP dC dI aK aV sz [] [])) (va_Qi (fun (r : Int32) (u : Unit) => (r = 0)) (fun u => zQ dC dI (va_A [] sz) [] []) (va_A [] sz)) 0 0 (va_A [] sz) := by
  refine Met.ofW (cc := cJ0_coder_7d493) (maxL := 1) (ret := (some .byte)) (by decide) rfl ?_
  intro p e s m args below meth c s₁ B hml hv
  obtain ⟨rfl, hsz, hP, hK, hD0, hN, hT⟩ := hv
  have hx := B.exec
  have hb := B.bytes
  have hr := B.returns
  have hts := atoms_spec (ws := Cond.code yJ0_coder_7d493 cJ0_coder_7d493 1 (some .byte) :: zw) B.pre
  have hA : ∀ w ∈ zw, w.before _ s = true := fun w h => hts w (List.mem_cons_of_mem _ h)
  have hown : s.vm.findClass RJ0 = some m.cls := findClass_of_methodNamed B.named
  have hlocks := B.notSynchronized
  subst hsz
  have hD := hD0.self (sz := s.heap.size)
  generalize hAe : va_A [] s.heap.size = A at hD hT ⊢
  have hAA : ∀ q : Nat, s.heap.size ≤ q → A q := fun q h => by rw [← hAe]; exact Or.inr h
  have hS : va_S A s.heap s.heap [] := va_S.rf
  have hl := lv_entry ([.ref (aK i)]) (n := 1) (Nat.le_of_ble_eq_true rfl)
  rw [lg_entry_eq]
  generalize (lg_sl ([.ref (aK i)]) ++ List.replicate (1 - (lg_sl ([.ref (aK i)])).length) Slot.unset).toArray = ls at hl ⊢
  have hl : lv_has ls 1 [(0, .ref (aK i))] := hl
  refine va_gets hx hb hT.2.2.1 hS hown (hA _ wi_704) (fun _ h9 => h9) dJ0_coder_7d493_0 ?_
  refine lv_if_eq (tgt := 13) hx hb dJ0_coder_7d493_3 (by decide) (fun c_0 => absurd c_0 (by decide)) (fun _ => ?_)
  refine lv_aload_n hx hb dJ0_coder_7d493_6 rfl (lv_at hl 0 rfl) ?_
  refine vk_getf (v := .int 0) hx hb (hT.2.2.2.1.1 i hi).2.1 hS hown (hA _ wi_2045) (fun _ h9 => h9) dJ0_coder_7d493_7 ?_
  refine lv_goto (tgt := 14) hx hb dJ0_coder_7d493_10 (by decide) ?_
  have hlit : Int32.toInt 0 = 0 := by decide
  have hP9 := hP.sub (ws' := []) [] rfl
  have hD9 := hD.sub (ws' := []) [] (by decide) rfl
  have hK9 := hK.sub (tys' := []) [] rfl
  exact W.zret (v := 0) hx hb hr rfl (fun t ht hW => ⟨⟨0, (), rfl, rfl, by rw [ht]; exact hP9, va_K.moved hW.alike hK9, hD9⟩, hS.F ht⟩) hS.2.2 dJ0_coder_7d493_14
set_option maxHeartbeats 4000000 in
set_option maxRecDepth 100000 in
theorem c_J0_isLatin1_aae02 (l : Launch) (dC : Nat → ClassId) (dI : Nat → Nat → Nat) (aK aV : Nat → Nat) (i : Nat) (sz : Nat) (hi : i < 8) : Met l yJ0_isLatin1_aae02 (Cond.code yJ0_isLatin1_aae02 cJ0_isLatin1_aae02 1 (some .boolean) :: zw) ({ frames := 8, cells := 0, slots := 0, locals := 200 }) (va_Pc [.ref (aK i)] (zP dC dI aK aV sz [] [])) (va_Qi (fun (r : Int32) (u : Unit) => (r = 1)) (fun u => zQ dC dI (va_A [] sz) [] []) (va_A [] sz)) 0 0 (va_A [] sz) := by
  refine Met.ofW (cc := cJ0_isLatin1_aae02) (maxL := 1) (ret := (some .boolean)) (by decide) rfl ?_
  intro p e s m args below meth c s₁ B hml hv
  obtain ⟨rfl, hsz, hP, hK, hD0, hN, hT⟩ := hv
  have hx := B.exec
  have hb := B.bytes
  have hr := B.returns
  have hts := atoms_spec (ws := Cond.code yJ0_isLatin1_aae02 cJ0_isLatin1_aae02 1 (some .boolean) :: zw) B.pre
  have hA : ∀ w ∈ zw, w.before _ s = true := fun w h => hts w (List.mem_cons_of_mem _ h)
  have hown : s.vm.findClass RJ0 = some m.cls := findClass_of_methodNamed B.named
  have hlocks := B.notSynchronized
  subst hsz
  have hD := hD0.self (sz := s.heap.size)
  generalize hAe : va_A [] s.heap.size = A at hD hT ⊢
  have hAA : ∀ q : Nat, s.heap.size ≤ q → A q := fun q h => by rw [← hAe]; exact Or.inr h
  have hS : va_S A s.heap s.heap [] := va_S.rf
  have hl := lv_entry ([.ref (aK i)]) (n := 1) (Nat.le_of_ble_eq_true rfl)
  rw [lg_entry_eq]
  generalize (lg_sl ([.ref (aK i)]) ++ List.replicate (1 - (lg_sl ([.ref (aK i)])).length) Slot.unset).toArray = ls at hl ⊢
  have hl : lv_has ls 1 [(0, .ref (aK i))] := hl
  refine va_gets hx hb hT.2.2.1 hS hown (hA _ wi_704) (fun _ h9 => h9) dJ0_isLatin1_aae02_0 ?_
  refine lv_if_eq (tgt := 17) hx hb dJ0_isLatin1_aae02_3 (by decide) (fun c_0 => absurd c_0 (by decide)) (fun _ => ?_)
  refine lv_aload_n hx hb dJ0_isLatin1_aae02_6 rfl (lv_at hl 0 rfl) ?_
  refine vk_getf (v := .int 0) hx hb (hT.2.2.2.1.1 i hi).2.1 hS hown (hA _ wi_2045) (fun _ h9 => h9) dJ0_isLatin1_aae02_7 ?_
  refine lv_if_ne (tgt := 17) hx hb dJ0_isLatin1_aae02_10 (by decide) (fun c_0 => absurd c_0 (by decide)) (fun _ => ?_)
  refine lv_iconst (v := 1) hx hb dJ0_isLatin1_aae02_13 (by decide) ?_
  refine lv_goto (tgt := 18) hx hb dJ0_isLatin1_aae02_14 (by decide) ?_
  have hlit : Int32.toInt 1 = 1 := by decide
  have hP9 := hP.sub (ws' := []) [] rfl
  have hD9 := hD.sub (ws' := []) [] (by decide) rfl
  have hK9 := hK.sub (tys' := []) [] rfl
  exact W.zret (v := 1) hx hb hr rfl (fun t ht hW => ⟨⟨1, (), rfl, rfl, by rw [ht]; exact hP9, va_K.moved hW.alike hK9, hD9⟩, hS.F ht⟩) hS.2.2 dJ0_isLatin1_aae02_18
set_option maxHeartbeats 4000000 in
set_option maxRecDepth 100000 in
theorem c_J0_length_8abf5 (l : Launch) (dC : Nat → ClassId) (dI : Nat → Nat → Nat) (aK aV : Nat → Nat) (i : Nat) (sz : Nat) (hi : i < 8) : Met l yJ0_length_8abf5 (Cond.code yJ0_length_8abf5 cJ0_length_8abf5 1 (some .int) :: zw) ({ frames := 10, cells := 0, slots := 0, locals := 300 }) (va_Pc [.ref (aK i)] (zP dC dI aK aV sz [] [])) (va_Qi (fun (r : Int32) (u : Unit) => (r.toInt = ((zSl.getD i 0 : Nat) : Int))) (fun u => zQ dC dI (va_A [] sz) [] []) (va_A [] sz)) 0 0 (va_A [] sz) := by
  refine Met.ofW (cc := cJ0_length_8abf5) (maxL := 1) (ret := (some .int)) (by decide) rfl ?_
  intro p e s m args below meth c s₁ B hml hv
  obtain ⟨rfl, hsz, hP, hK, hD0, hN, hT⟩ := hv
  have hx := B.exec
  have hb := B.bytes
  have hr := B.returns
  have hts := atoms_spec (ws := Cond.code yJ0_length_8abf5 cJ0_length_8abf5 1 (some .int) :: zw) B.pre
  have hA : ∀ w ∈ zw, w.before _ s = true := fun w h => hts w (List.mem_cons_of_mem _ h)
  have hown : s.vm.findClass RJ0 = some m.cls := findClass_of_methodNamed B.named
  have hlocks := B.notSynchronized
  subst hsz
  have hD := hD0.self (sz := s.heap.size)
  generalize hAe : va_A [] s.heap.size = A at hD hT ⊢
  have hAA : ∀ q : Nat, s.heap.size ≤ q → A q := fun q h => by rw [← hAe]; exact Or.inr h
  have hS : va_S A s.heap s.heap [] := va_S.rf
  have hl := lv_entry ([.ref (aK i)]) (n := 1) (Nat.le_of_ble_eq_true rfl)
  rw [lg_entry_eq]
  generalize (lg_sl ([.ref (aK i)]) ++ List.replicate (1 - (lg_sl ([.ref (aK i)])).length) Slot.unset).toArray = ls at hl ⊢
  have hl : lv_has ls 1 [(0, .ref (aK i))] := hl
  refine lv_aload_n hx hb dJ0_length_8abf5_0 rfl (lv_at hl 0 rfl) ?_
  refine vk_getf (v := .ref (aV i)) hx hb (hT.2.2.2.1.1 i hi).2.2.1 hS hown (hA _ wi_2046) (fun _ h9 => h9) dJ0_length_8abf5_1 ?_
  refine va_tlen hx hb (hT.2.2.2.1.1 i hi).2.2.2 hS rfl dJ0_length_8abf5_4 ?_
  refine lv_topi (fun x_1 ex_1 => ?_)
  have ix_1 : x_1.toInt = ((zSl.getD i 0 : Nat) : Int) ∧ zSl.getD i 0 ≤ 13 := ⟨by rw [ex_1]; exact nI_toInt (by have := zSl_le i; omega), zSl_le i⟩
  refine lv_aload_n hx hb dJ0_length_8abf5_5 rfl (lv_at hl 0 rfl) ?_
  have hPc := hP.sub (ws' := []) [] rfl
  have hDc := hD.sub (ws' := []) [] (by decide) rfl
  have hKc := hK.sub (tys' := []) [] rfl
  have hFc := va_free (wc := []) hD hS hAA [] rfl
  refine va_calli (va_runV (As := []) (rest := [.int x_1]) ⟨hx, hb, hml, hown, hA⟩ (c_J0_coder_7d493 l dC dI aK aV i s.heap.size (by omega)) (cwV 0 hA (zw_V wi_710 wi_711 wi_712 wi_149 (zw_good wi_713)) rfl rfl rfl (by decide +kernel) ⟨(Nat.le_of_ble_eq_true rfl), (Nat.le_of_ble_eq_true rfl)⟩) ⟨zP_blind, vk_recv hT.2.2.2.1 hi hS, zz_pre hKc hPc hDc hN hT hS hFc⟩ rfl rfl hl.1 rfl (lv_room (Nat.le_of_ble_eq_true rfl)) dJ0_length_8abf5_6 ⟨(Nat.le_of_ble_eq_true rfl), (Nat.le_of_ble_eq_true rfl)⟩) hS (fun q _ h => hFc q h) hFc (fun r_2 u t H1 locs ht hvm hw hB hz1 hk1 hS => ?_)
  obtain ⟨hP1, hK1, hD1⟩ := hB
  rw [ht] at hP1
  have hK1 := va_K.moved hvm.symm hK1
  obtain ⟨hP, hD⟩ := va_join (wr := []) (w1 := []) hP hD [] [] rfl rfl (by decide) (by decide) hk1 hFc hP1 hD1
  have hK := (hK.sub (tys' := []) [] rfl).app hK1
  generalize H1 = H at hP hS ⊢
  have hP : va_P (dC, dI) vwCl [] H := hP
  have hD : va_D A [] := hD
  have hK : va_K (dC, dI) vwCl [] s := hK
  obtain rfl : r_2 = 0 := hw
  refine lv_ishr hx hb dJ0_length_8abf5_9 ?_
  refine lv_topi (fun x_3 ex_3 => ?_)
  have ix_3 : x_3.toInt = x_1.toInt := by rw [ex_3]; exact congrArg Int32.toInt (sb_shr0 x_1)
  have hP9 := hP.sub (ws' := []) [] rfl
  have hD9 := hD.sub (ws' := []) [] (by decide) rfl
  have hK9 := hK.sub (tys' := []) [] rfl
  exact W.iret (v := x_3) hx hb hr (fun t ht hW => ⟨⟨x_3, (), rfl, by omega, by rw [ht]; exact hP9, va_K.moved hW.alike hK9, hD9⟩, hS.F ht⟩) hS.2.2 dJ0_length_8abf5_10

end
section
theorem wi_695 : Cond.code yJ0_indexOf_0f7a4 cJ0_indexOf_0f7a4 2 (some .int) ∈ zw := zw_in (List.mem_of_getElem? (i := 695) (by decide +kernel)) (by decide +kernel)
theorem wi_692 : Cond.methodLink RX10 91 yJ0_indexOf_0f7a4 ∈ zw := zw_in (List.mem_of_getElem? (i := 692) (by decide +kernel)) (by decide +kernel)
theorem wi_693 : Cond.instanceMethod yJ0_indexOf_0f7a4 ∈ zw := zw_in (List.mem_of_getElem? (i := 693) (by decide +kernel)) (by decide +kernel)
theorem wi_694 : Cond.selects RJ0 yJ0_indexOf_0f7a4 yJ0_indexOf_0f7a4 ∈ zw := zw_in (List.mem_of_getElem? (i := 694) (by decide +kernel)) (by decide +kernel)
theorem wi_660 : Cond.methodLink RX10 45 Lib.Math.max.name ∈ zw := zw_in (List.mem_of_getElem? (i := 660) (by decide +kernel)) (by decide +kernel)
theorem wi_774 : Cond.methodLink RX10 59 yX10_advance ∈ zw := zw_in (List.mem_of_getElem? (i := 774) (by decide +kernel)) (by decide +kernel)
theorem wi_690 : Cond.code yX10_readSign cX10_readSign 5 (some .int) ∈ zw := zw_in (List.mem_of_getElem? (i := 690) (by decide +kernel)) (by decide +kernel)
theorem wi_687 : Cond.methodLink RX10 56 yX10_readSign ∈ zw := zw_in (List.mem_of_getElem? (i := 687) (by decide +kernel)) (by decide +kernel)
theorem wi_689 : Cond.instanceMethod yX10_readSign ∈ zw := zw_in (List.mem_of_getElem? (i := 689) (by decide +kernel)) (by decide +kernel)
theorem wi_2 : Cond.selects RX10 yX10_readSign yX10_readSign ∈ zw := zw_in (List.mem_of_getElem? (i := 2) (by decide +kernel)) (by decide +kernel)
theorem wi_676 : Cond.code yX10_readWord cX10_readWord 11 (some .int) ∈ zw := zw_in (List.mem_of_getElem? (i := 676) (by decide +kernel)) (by decide +kernel)
theorem wi_673 : Cond.methodLink RX10 52 yX10_readWord ∈ zw := zw_in (List.mem_of_getElem? (i := 673) (by decide +kernel)) (by decide +kernel)
theorem wi_675 : Cond.instanceMethod yX10_readWord ∈ zw := zw_in (List.mem_of_getElem? (i := 675) (by decide +kernel)) (by decide +kernel)
theorem wi_1 : Cond.selects RX10 yX10_readWord yX10_readWord ∈ zw := zw_in (List.mem_of_getElem? (i := 1) (by decide +kernel)) (by decide +kernel)
theorem dX10_read_0 : decode cX10_read 0 = .ok (.iconst 0, 1) := by decide +kernel
theorem dX10_read_1 : decode cX10_read 1 = .ok (.iload_n 2, 1) := by decide +kernel
theorem dX10_read_2 : decode cX10_read 2 = .ok (.sipush 2000, 3) := by decide +kernel
theorem dX10_read_5 : decode cX10_read 5 = .ok (.invokestatic 39, 3) := by decide +kernel
theorem dX10_read_8 : decode cX10_read 8 = .ok (.invokestatic 45, 3) := by decide +kernel
theorem dX10_read_11 : decode cX10_read 11 = .ok (.istore_n 3, 1) := by decide +kernel
theorem dX10_read_12 : decode cX10_read 12 = .ok (.iconst 0, 1) := by decide +kernel
theorem dX10_read_13 : decode cX10_read 13 = .ok (.istore 4, 2) := by decide +kernel
theorem dX10_read_15 : decode cX10_read 15 = .ok (.aload_n 0, 1) := by decide +kernel
theorem dX10_read_16 : decode cX10_read 16 = .ok (.iconst 0, 1) := by decide +kernel
theorem dX10_read_17 : decode cX10_read 17 = .ok (.putfield 22, 3) := by decide +kernel
theorem dX10_read_20 : decode cX10_read 20 = .ok (.iconst 0, 1) := by decide +kernel
theorem dX10_read_21 : decode cX10_read 21 = .ok (.istore 5, 2) := by decide +kernel
theorem dX10_read_23 : decode cX10_read 23 = .ok (.iload 5, 2) := by decide +kernel
theorem dX10_read_25 : decode cX10_read 25 = .ok (.iload_n 3, 1) := by decide +kernel
theorem dX10_read_26 : decode cX10_read 26 = .ok (.if_icmp .ge 95, 3) := by decide +kernel
theorem dX10_read_29 : decode cX10_read 29 = .ok (.iload 4, 2) := by decide +kernel
theorem dX10_read_31 : decode cX10_read 31 = .ok (.iload_n 3, 1) := by decide +kernel
theorem dX10_read_32 : decode cX10_read 32 = .ok (.if_icmp .ge 89, 3) := by decide +kernel
theorem dX10_read_35 : decode cX10_read 35 = .ok (.aload_n 1, 1) := by decide +kernel
theorem dX10_read_36 : decode cX10_read 36 = .ok (.iload 4, 2) := by decide +kernel
theorem dX10_read_38 : decode cX10_read 38 = .ok (.baload, 1) := by decide +kernel
theorem dX10_read_39 : decode cX10_read 39 = .ok (.sipush 255, 3) := by decide +kernel
theorem dX10_read_42 : decode cX10_read 42 = .ok (.iand, 1) := by decide +kernel
theorem dX10_read_43 : decode cX10_read 43 = .ok (.istore 6, 2) := by decide +kernel
theorem dX10_read_45 : decode cX10_read 45 = .ok (.iload 6, 2) := by decide +kernel
theorem dX10_read_47 : decode cX10_read 47 = .ok (.bipush 32, 2) := by decide +kernel
theorem dX10_read_49 : decode cX10_read 49 = .ok (.if_icmp .eq 10, 3) := by decide +kernel
theorem dX10_read_52 : decode cX10_read 52 = .ok (.iload 6, 2) := by decide +kernel
theorem dX10_read_54 : decode cX10_read 54 = .ok (.bipush 10, 2) := by decide +kernel
theorem dX10_read_56 : decode cX10_read 56 = .ok (.if_icmp .ne 9, 3) := by decide +kernel
theorem dX10_read_59 : decode cX10_read 59 = .ok (.iinc 4 1, 3) := by decide +kernel
theorem dX10_read_62 : decode cX10_read 62 = .ok (.goto 53, 3) := by decide +kernel
theorem dX10_read_65 : decode cX10_read 65 = .ok (.aload_n 0, 1) := by decide +kernel
theorem dX10_read_66 : decode cX10_read 66 = .ok (.getfield 15, 3) := by decide +kernel
theorem dX10_read_69 : decode cX10_read 69 = .ok (.aload_n 0, 1) := by decide +kernel
theorem dX10_read_70 : decode cX10_read 70 = .ok (.getfield 22, 3) := by decide +kernel
theorem dX10_read_73 : decode cX10_read 73 = .ok (.iload 4, 2) := by decide +kernel
theorem dX10_read_75 : decode cX10_read 75 = .ok (.iastore, 1) := by decide +kernel
theorem dX10_read_76 : decode cX10_read 76 = .ok (.iload 6, 2) := by decide +kernel
theorem dX10_read_78 : decode cX10_read 78 = .ok (.invokestatic 48, 3) := by decide +kernel
theorem dX10_read_81 : decode cX10_read 81 = .ok (.ifCond .eq 14, 3) := by decide +kernel
theorem dX10_read_84 : decode cX10_read 84 = .ok (.aload_n 0, 1) := by decide +kernel
theorem dX10_read_85 : decode cX10_read 85 = .ok (.aload_n 1, 1) := by decide +kernel
theorem dX10_read_86 : decode cX10_read 86 = .ok (.iload 4, 2) := by decide +kernel
theorem dX10_read_88 : decode cX10_read 88 = .ok (.iload_n 3, 1) := by decide +kernel
theorem dX10_read_89 : decode cX10_read 89 = .ok (.invokevirtual 52, 3) := by decide +kernel
theorem dX10_read_92 : decode cX10_read 92 = .ok (.goto 11, 3) := by decide +kernel
theorem dX10_read_95 : decode cX10_read 95 = .ok (.aload_n 0, 1) := by decide +kernel
theorem dX10_read_96 : decode cX10_read 96 = .ok (.aload_n 1, 1) := by decide +kernel
theorem dX10_read_97 : decode cX10_read 97 = .ok (.iload 4, 2) := by decide +kernel
theorem dX10_read_99 : decode cX10_read 99 = .ok (.iload_n 3, 1) := by decide +kernel
theorem dX10_read_100 : decode cX10_read 100 = .ok (.invokevirtual 56, 3) := by decide +kernel
theorem dX10_read_103 : decode cX10_read 103 = .ok (.istore 4, 2) := by decide +kernel
theorem dX10_read_105 : decode cX10_read 105 = .ok (.aload_n 0, 1) := by decide +kernel
theorem dX10_read_106 : decode cX10_read 106 = .ok (.dup, 1) := by decide +kernel
theorem dX10_read_107 : decode cX10_read 107 = .ok (.getfield 22, 3) := by decide +kernel
theorem dX10_read_110 : decode cX10_read 110 = .ok (.iconst 1, 1) := by decide +kernel
theorem dX10_read_111 : decode cX10_read 111 = .ok (.iadd, 1) := by decide +kernel
theorem dX10_read_112 : decode cX10_read 112 = .ok (.putfield 22, 3) := by decide +kernel
theorem dX10_read_115 : decode cX10_read 115 = .ok (.iinc 5 1, 3) := by decide +kernel
theorem dX10_read_118 : decode cX10_read 118 = .ok (.goto (-95), 3) := by decide +kernel
theorem dX10_read_121 : decode cX10_read 121 = .ok (.aload_n 0, 1) := by decide +kernel
theorem dX10_read_122 : decode cX10_read 122 = .ok (.getfield 9, 3) := by decide +kernel
theorem dX10_read_125 : decode cX10_read 125 = .ok (.aload_n 0, 1) := by decide +kernel
theorem dX10_read_126 : decode cX10_read 126 = .ok (.getfield 22, 3) := by decide +kernel
theorem dX10_read_129 : decode cX10_read 129 = .ok (.sipush 256, 3) := by decide +kernel
theorem dX10_read_132 : decode cX10_read 132 = .ok (.iastore, 1) := by decide +kernel
theorem dX10_read_133 : decode cX10_read 133 = .ok (.aload_n 0, 1) := by decide +kernel
theorem dX10_read_134 : decode cX10_read 134 = .ok (.getfield 15, 3) := by decide +kernel
theorem dX10_read_137 : decode cX10_read 137 = .ok (.aload_n 0, 1) := by decide +kernel
theorem dX10_read_138 : decode cX10_read 138 = .ok (.getfield 22, 3) := by decide +kernel
theorem dX10_read_141 : decode cX10_read 141 = .ok (.iload_n 3, 1) := by decide +kernel
theorem dX10_read_142 : decode cX10_read 142 = .ok (.iastore, 1) := by decide +kernel
theorem dX10_read_143 : decode cX10_read 143 = .ok (.aload_n 0, 1) := by decide +kernel
theorem dX10_read_144 : decode cX10_read 144 = .ok (.getfield 18, 3) := by decide +kernel
theorem dX10_read_147 : decode cX10_read 147 = .ok (.aload_n 0, 1) := by decide +kernel
theorem dX10_read_148 : decode cX10_read 148 = .ok (.getfield 22, 3) := by decide +kernel
theorem dX10_read_151 : decode cX10_read 151 = .ok (.lconst 0, 1) := by decide +kernel
theorem dX10_read_152 : decode cX10_read 152 = .ok (.lastore, 1) := by decide +kernel
theorem dX10_read_153 : decode cX10_read 153 = .ok (.aload_n 0, 1) := by decide +kernel
theorem dX10_read_154 : decode cX10_read 154 = .ok (.iconst (-1), 1) := by decide +kernel
theorem dX10_read_155 : decode cX10_read 155 = .ok (.putfield 26, 3) := by decide +kernel
theorem dX10_read_158 : decode cX10_read 158 = .ok (.aload_n 0, 1) := by decide +kernel
theorem dX10_read_159 : decode cX10_read 159 = .ok (.invokevirtual 59, 3) := by decide +kernel
theorem dX10_read_162 : decode cX10_read 162 = .ok (.return_, 1) := by decide +kernel
theorem dX10_readSign_0 : decode cX10_readSign 0 = .ok (.aload_n 1, 1) := by decide +kernel
theorem dX10_readSign_1 : decode cX10_readSign 1 = .ok (.iload_n 2, 1) := by decide +kernel
theorem dX10_readSign_2 : decode cX10_readSign 2 = .ok (.baload, 1) := by decide +kernel
theorem dX10_readSign_3 : decode cX10_readSign 3 = .ok (.sipush 255, 3) := by decide +kernel
theorem dX10_readSign_6 : decode cX10_readSign 6 = .ok (.iand, 1) := by decide +kernel
theorem dX10_readSign_7 : decode cX10_readSign 7 = .ok (.istore 4, 2) := by decide +kernel
theorem dX10_readSign_9 : decode cX10_readSign 9 = .ok (.aload_n 0, 1) := by decide +kernel
theorem dX10_readSign_10 : decode cX10_readSign 10 = .ok (.getfield 18, 3) := by decide +kernel
theorem dX10_readSign_13 : decode cX10_readSign 13 = .ok (.aload_n 0, 1) := by decide +kernel
theorem dX10_readSign_14 : decode cX10_readSign 14 = .ok (.getfield 22, 3) := by decide +kernel
theorem dX10_readSign_17 : decode cX10_readSign 17 = .ok (.lconst 0, 1) := by decide +kernel
theorem dX10_readSign_18 : decode cX10_readSign 18 = .ok (.lastore, 1) := by decide +kernel
theorem dX10_readSign_19 : decode cX10_readSign 19 = .ok (.iload 4, 2) := by decide +kernel
theorem dX10_readSign_21 : decode cX10_readSign 21 = .ok (.bipush 45, 2) := by decide +kernel
theorem dX10_readSign_23 : decode cX10_readSign 23 = .ok (.if_icmp .ne 36, 3) := by decide +kernel
theorem dX10_readSign_26 : decode cX10_readSign 26 = .ok (.iload_n 2, 1) := by decide +kernel
theorem dX10_readSign_27 : decode cX10_readSign 27 = .ok (.iconst 1, 1) := by decide +kernel
theorem dX10_readSign_28 : decode cX10_readSign 28 = .ok (.iadd, 1) := by decide +kernel
theorem dX10_readSign_29 : decode cX10_readSign 29 = .ok (.iload_n 3, 1) := by decide +kernel
theorem dX10_readSign_30 : decode cX10_readSign 30 = .ok (.if_icmp .ge 29, 3) := by decide +kernel
theorem dX10_readSign_33 : decode cX10_readSign 33 = .ok (.aload_n 1, 1) := by decide +kernel
theorem dX10_readSign_34 : decode cX10_readSign 34 = .ok (.iload_n 2, 1) := by decide +kernel
theorem dX10_readSign_35 : decode cX10_readSign 35 = .ok (.iconst 1, 1) := by decide +kernel
theorem dX10_readSign_36 : decode cX10_readSign 36 = .ok (.iadd, 1) := by decide +kernel
theorem dX10_readSign_37 : decode cX10_readSign 37 = .ok (.baload, 1) := by decide +kernel
theorem dX10_readSign_38 : decode cX10_readSign 38 = .ok (.bipush 62, 2) := by decide +kernel
theorem dX10_readSign_40 : decode cX10_readSign 40 = .ok (.if_icmp .ne 19, 3) := by decide +kernel
theorem dX10_readSign_43 : decode cX10_readSign 43 = .ok (.aload_n 0, 1) := by decide +kernel
theorem dX10_readSign_44 : decode cX10_readSign 44 = .ok (.getfield 9, 3) := by decide +kernel
theorem dX10_readSign_47 : decode cX10_readSign 47 = .ok (.aload_n 0, 1) := by decide +kernel
theorem dX10_readSign_48 : decode cX10_readSign 48 = .ok (.getfield 22, 3) := by decide +kernel
theorem dX10_readSign_51 : decode cX10_readSign 51 = .ok (.sipush 261, 3) := by decide +kernel
theorem dX10_readSign_54 : decode cX10_readSign 54 = .ok (.iastore, 1) := by decide +kernel
theorem dX10_readSign_55 : decode cX10_readSign 55 = .ok (.iload_n 2, 1) := by decide +kernel
theorem dX10_readSign_56 : decode cX10_readSign 56 = .ok (.iconst 2, 1) := by decide +kernel
theorem dX10_readSign_57 : decode cX10_readSign 57 = .ok (.iadd, 1) := by decide +kernel
theorem dX10_readSign_58 : decode cX10_readSign 58 = .ok (.ireturn, 1) := by decide +kernel
theorem dX10_readSign_59 : decode cX10_readSign 59 = .ok (.aload_n 0, 1) := by decide +kernel
theorem dX10_readSign_60 : decode cX10_readSign 60 = .ok (.getfield 9, 3) := by decide +kernel
theorem dX10_readSign_63 : decode cX10_readSign 63 = .ok (.aload_n 0, 1) := by decide +kernel
theorem dX10_readSign_64 : decode cX10_readSign 64 = .ok (.getfield 22, 3) := by decide +kernel
theorem dX10_readSign_67 : decode cX10_readSign 67 = .ok (.ldc 89, 2) := by decide +kernel
theorem dX10_readSign_69 : decode cX10_readSign 69 = .ok (.iload 4, 2) := by decide +kernel
theorem dX10_readSign_71 : decode cX10_readSign 71 = .ok (.i2c, 1) := by decide +kernel
theorem dX10_readSign_72 : decode cX10_readSign 72 = .ok (.invokevirtual 91, 3) := by decide +kernel
theorem dX10_readSign_75 : decode cX10_readSign 75 = .ok (.ifCond .lt 8, 3) := by decide +kernel
theorem dX10_readSign_78 : decode cX10_readSign 78 = .ok (.iload 4, 2) := by decide +kernel
theorem dX10_readSign_80 : decode cX10_readSign 80 = .ok (.goto 6, 3) := by decide +kernel
theorem dX10_readSign_83 : decode cX10_readSign 83 = .ok (.sipush 257, 3) := by decide +kernel
theorem dX10_readSign_86 : decode cX10_readSign 86 = .ok (.iastore, 1) := by decide +kernel
theorem dX10_readSign_87 : decode cX10_readSign 87 = .ok (.iload_n 2, 1) := by decide +kernel
theorem dX10_readSign_88 : decode cX10_readSign 88 = .ok (.iconst 1, 1) := by decide +kernel
theorem dX10_readSign_89 : decode cX10_readSign 89 = .ok (.iadd, 1) := by decide +kernel
theorem dX10_readSign_90 : decode cX10_readSign 90 = .ok (.ireturn, 1) := by decide +kernel

end
section
theorem wi_921 : Cond.code yX2_append cX2_append 5 (some .int) ∈ zw := zw_in (List.mem_of_getElem? (i := 921) (by decide +kernel)) (by decide +kernel)
theorem wi_918 : Cond.methodLink RX7 141 yX2_append ∈ zw := zw_in (List.mem_of_getElem? (i := 918) (by decide +kernel)) (by decide +kernel)
theorem wi_919 : Cond.instanceMethod yX2_append ∈ zw := zw_in (List.mem_of_getElem? (i := 919) (by decide +kernel)) (by decide +kernel)
theorem wi_920 : Cond.selects RX2 yX2_append yX2_append ∈ zw := zw_in (List.mem_of_getElem? (i := 920) (by decide +kernel)) (by decide +kernel)
theorem wi_314 : Cond.fieldLink RX7 194 "ReuseHouse$Program" "arms" "LReuseHouse$Arms;" ∈ zw := zw_in (List.mem_of_getElem? (i := 314) (by decide +kernel)) (by decide +kernel)
theorem wi_233 : Cond.fieldLink RX7 212 "ReuseHouse$Arms" "next" "[I" ∈ zw := zw_in (List.mem_of_getElem? (i := 233) (by decide +kernel)) (by decide +kernel)
theorem wi_229 : Cond.fieldLink RX7 198 "ReuseHouse$Arms" "kind" "[I" ∈ zw := zw_in (List.mem_of_getElem? (i := 229) (by decide +kernel)) (by decide +kernel)
theorem wi_240 : Cond.fieldLink RX7 209 "ReuseHouse$Arms" "leave" "[I" ∈ zw := zw_in (List.mem_of_getElem? (i := 240) (by decide +kernel)) (by decide +kernel)
theorem wi_201 : Cond.fieldLink RX7 187 "ReuseHouse$Code" "tail" "I" ∈ zw := zw_in (List.mem_of_getElem? (i := 201) (by decide +kernel)) (by decide +kernel)
theorem dX7_joinArms_0 : decode cX7_joinArms 0 = .ok (.aload_n 0, 1) := by decide +kernel
theorem dX7_joinArms_1 : decode cX7_joinArms 1 = .ok (.getfield 40, 3) := by decide +kernel
theorem dX7_joinArms_4 : decode cX7_joinArms 4 = .ok (.getfield 137, 3) := by decide +kernel
theorem dX7_joinArms_7 : decode cX7_joinArms 7 = .ok (.getfield 206, 3) := by decide +kernel
theorem dX7_joinArms_10 : decode cX7_joinArms 10 = .ok (.iload_n 1, 1) := by decide +kernel
theorem dX7_joinArms_11 : decode cX7_joinArms 11 = .ok (.iaload, 1) := by decide +kernel
theorem dX7_joinArms_12 : decode cX7_joinArms 12 = .ok (.istore_n 2, 1) := by decide +kernel
theorem dX7_joinArms_13 : decode cX7_joinArms 13 = .ok (.iconst 0, 1) := by decide +kernel
theorem dX7_joinArms_14 : decode cX7_joinArms 14 = .ok (.istore_n 3, 1) := by decide +kernel
theorem dX7_joinArms_15 : decode cX7_joinArms 15 = .ok (.iload_n 3, 1) := by decide +kernel
theorem dX7_joinArms_16 : decode cX7_joinArms 16 = .ok (.bipush 8, 2) := by decide +kernel
theorem dX7_joinArms_18 : decode cX7_joinArms 18 = .ok (.if_icmp .ge 60, 3) := by decide +kernel
theorem dX7_joinArms_21 : decode cX7_joinArms 21 = .ok (.iload_n 2, 1) := by decide +kernel
theorem dX7_joinArms_22 : decode cX7_joinArms 22 = .ok (.iconst (-1), 1) := by decide +kernel
theorem dX7_joinArms_23 : decode cX7_joinArms 23 = .ok (.if_icmp .eq 55, 3) := by decide +kernel
theorem dX7_joinArms_26 : decode cX7_joinArms 26 = .ok (.aload_n 0, 1) := by decide +kernel
theorem dX7_joinArms_27 : decode cX7_joinArms 27 = .ok (.getfield 40, 3) := by decide +kernel
theorem dX7_joinArms_30 : decode cX7_joinArms 30 = .ok (.getfield 137, 3) := by decide +kernel
theorem dX7_joinArms_33 : decode cX7_joinArms 33 = .ok (.getfield 184, 3) := by decide +kernel
theorem dX7_joinArms_36 : decode cX7_joinArms 36 = .ok (.aload_n 0, 1) := by decide +kernel
theorem dX7_joinArms_37 : decode cX7_joinArms 37 = .ok (.getfield 40, 3) := by decide +kernel
theorem dX7_joinArms_40 : decode cX7_joinArms 40 = .ok (.getfield 194, 3) := by decide +kernel
theorem dX7_joinArms_43 : decode cX7_joinArms 43 = .ok (.getfield 209, 3) := by decide +kernel
theorem dX7_joinArms_46 : decode cX7_joinArms 46 = .ok (.iload_n 2, 1) := by decide +kernel
theorem dX7_joinArms_47 : decode cX7_joinArms 47 = .ok (.iaload, 1) := by decide +kernel
theorem dX7_joinArms_48 : decode cX7_joinArms 48 = .ok (.aload_n 0, 1) := by decide +kernel
theorem dX7_joinArms_49 : decode cX7_joinArms 49 = .ok (.getfield 40, 3) := by decide +kernel
theorem dX7_joinArms_52 : decode cX7_joinArms 52 = .ok (.getfield 137, 3) := by decide +kernel
theorem dX7_joinArms_55 : decode cX7_joinArms 55 = .ok (.getfield 187, 3) := by decide +kernel
theorem dX7_joinArms_58 : decode cX7_joinArms 58 = .ok (.iastore, 1) := by decide +kernel
theorem dX7_joinArms_59 : decode cX7_joinArms 59 = .ok (.aload_n 0, 1) := by decide +kernel
theorem dX7_joinArms_60 : decode cX7_joinArms 60 = .ok (.getfield 40, 3) := by decide +kernel
theorem dX7_joinArms_63 : decode cX7_joinArms 63 = .ok (.getfield 194, 3) := by decide +kernel
theorem dX7_joinArms_66 : decode cX7_joinArms 66 = .ok (.getfield 212, 3) := by decide +kernel
theorem dX7_joinArms_69 : decode cX7_joinArms 69 = .ok (.iload_n 2, 1) := by decide +kernel
theorem dX7_joinArms_70 : decode cX7_joinArms 70 = .ok (.iaload, 1) := by decide +kernel
theorem dX7_joinArms_71 : decode cX7_joinArms 71 = .ok (.istore_n 2, 1) := by decide +kernel
theorem dX7_joinArms_72 : decode cX7_joinArms 72 = .ok (.iinc 3 1, 3) := by decide +kernel
theorem dX7_joinArms_75 : decode cX7_joinArms 75 = .ok (.goto (-60), 3) := by decide +kernel
theorem dX7_joinArms_78 : decode cX7_joinArms 78 = .ok (.return_, 1) := by decide +kernel
theorem dX7_refuseKindTwice_0 : decode cX7_refuseKindTwice 0 = .ok (.aload_n 0, 1) := by decide +kernel
theorem dX7_refuseKindTwice_1 : decode cX7_refuseKindTwice 1 = .ok (.getfield 40, 3) := by decide +kernel
theorem dX7_refuseKindTwice_4 : decode cX7_refuseKindTwice 4 = .ok (.getfield 91, 3) := by decide +kernel
theorem dX7_refuseKindTwice_7 : decode cX7_refuseKindTwice 7 = .ok (.aload_n 0, 1) := by decide +kernel
theorem dX7_refuseKindTwice_8 : decode cX7_refuseKindTwice 8 = .ok (.getfield 12, 3) := by decide +kernel
theorem dX7_refuseKindTwice_11 : decode cX7_refuseKindTwice 11 = .ok (.getfield 95, 3) := by decide +kernel
theorem dX7_refuseKindTwice_14 : decode cX7_refuseKindTwice 14 = .ok (.invokevirtual 99, 3) := by decide +kernel
theorem dX7_refuseKindTwice_17 : decode cX7_refuseKindTwice 17 = .ok (.istore_n 2, 1) := by decide +kernel
theorem dX7_refuseKindTwice_18 : decode cX7_refuseKindTwice 18 = .ok (.aload_n 0, 1) := by decide +kernel
theorem dX7_refuseKindTwice_19 : decode cX7_refuseKindTwice 19 = .ok (.getfield 40, 3) := by decide +kernel
theorem dX7_refuseKindTwice_22 : decode cX7_refuseKindTwice 22 = .ok (.getfield 137, 3) := by decide +kernel
theorem dX7_refuseKindTwice_25 : decode cX7_refuseKindTwice 25 = .ok (.getfield 206, 3) := by decide +kernel
theorem dX7_refuseKindTwice_28 : decode cX7_refuseKindTwice 28 = .ok (.iload_n 1, 1) := by decide +kernel
theorem dX7_refuseKindTwice_29 : decode cX7_refuseKindTwice 29 = .ok (.iaload, 1) := by decide +kernel
theorem dX7_refuseKindTwice_30 : decode cX7_refuseKindTwice 30 = .ok (.istore_n 3, 1) := by decide +kernel
theorem dX7_refuseKindTwice_31 : decode cX7_refuseKindTwice 31 = .ok (.iconst 0, 1) := by decide +kernel
theorem dX7_refuseKindTwice_32 : decode cX7_refuseKindTwice 32 = .ok (.istore 4, 2) := by decide +kernel
theorem dX7_refuseKindTwice_34 : decode cX7_refuseKindTwice 34 = .ok (.iload 4, 2) := by decide +kernel
theorem dX7_refuseKindTwice_36 : decode cX7_refuseKindTwice 36 = .ok (.bipush 8, 2) := by decide +kernel
theorem dX7_refuseKindTwice_38 : decode cX7_refuseKindTwice 38 = .ok (.if_icmp .ge 60, 3) := by decide +kernel
theorem dX7_refuseKindTwice_41 : decode cX7_refuseKindTwice 41 = .ok (.iload_n 3, 1) := by decide +kernel
theorem dX7_refuseKindTwice_42 : decode cX7_refuseKindTwice 42 = .ok (.iconst (-1), 1) := by decide +kernel
theorem dX7_refuseKindTwice_43 : decode cX7_refuseKindTwice 43 = .ok (.if_icmp .eq 55, 3) := by decide +kernel
theorem dX7_refuseKindTwice_46 : decode cX7_refuseKindTwice 46 = .ok (.iload_n 2, 1) := by decide +kernel
theorem dX7_refuseKindTwice_47 : decode cX7_refuseKindTwice 47 = .ok (.iconst (-1), 1) := by decide +kernel
theorem dX7_refuseKindTwice_48 : decode cX7_refuseKindTwice 48 = .ok (.if_icmp .eq 31, 3) := by decide +kernel
theorem dX7_refuseKindTwice_51 : decode cX7_refuseKindTwice 51 = .ok (.aload_n 0, 1) := by decide +kernel
theorem dX7_refuseKindTwice_52 : decode cX7_refuseKindTwice 52 = .ok (.getfield 40, 3) := by decide +kernel
theorem dX7_refuseKindTwice_55 : decode cX7_refuseKindTwice 55 = .ok (.getfield 194, 3) := by decide +kernel
theorem dX7_refuseKindTwice_58 : decode cX7_refuseKindTwice 58 = .ok (.getfield 198, 3) := by decide +kernel
theorem dX7_refuseKindTwice_61 : decode cX7_refuseKindTwice 61 = .ok (.iload_n 3, 1) := by decide +kernel
theorem dX7_refuseKindTwice_62 : decode cX7_refuseKindTwice 62 = .ok (.iaload, 1) := by decide +kernel
theorem dX7_refuseKindTwice_63 : decode cX7_refuseKindTwice 63 = .ok (.iload_n 2, 1) := by decide +kernel
theorem dX7_refuseKindTwice_64 : decode cX7_refuseKindTwice 64 = .ok (.if_icmp .ne 15, 3) := by decide +kernel
theorem dX7_refuseKindTwice_67 : decode cX7_refuseKindTwice 67 = .ok (.aload_n 0, 1) := by decide +kernel
theorem dX7_refuseKindTwice_68 : decode cX7_refuseKindTwice 68 = .ok (.iconst 3, 1) := by decide +kernel
theorem dX7_refuseKindTwice_69 : decode cX7_refuseKindTwice 69 = .ok (.aload_n 0, 1) := by decide +kernel
theorem dX7_refuseKindTwice_70 : decode cX7_refuseKindTwice 70 = .ok (.getfield 12, 3) := by decide +kernel
theorem dX7_refuseKindTwice_73 : decode cX7_refuseKindTwice 73 = .ok (.getfield 80, 3) := by decide +kernel
theorem dX7_refuseKindTwice_76 : decode cX7_refuseKindTwice 76 = .ok (.invokevirtual 83, 3) := by decide +kernel
theorem dX7_refuseKindTwice_79 : decode cX7_refuseKindTwice 79 = .ok (.aload_n 0, 1) := by decide +kernel
theorem dX7_refuseKindTwice_80 : decode cX7_refuseKindTwice 80 = .ok (.getfield 40, 3) := by decide +kernel
theorem dX7_refuseKindTwice_83 : decode cX7_refuseKindTwice 83 = .ok (.getfield 194, 3) := by decide +kernel
theorem dX7_refuseKindTwice_86 : decode cX7_refuseKindTwice 86 = .ok (.getfield 212, 3) := by decide +kernel
theorem dX7_refuseKindTwice_89 : decode cX7_refuseKindTwice 89 = .ok (.iload_n 3, 1) := by decide +kernel
theorem dX7_refuseKindTwice_90 : decode cX7_refuseKindTwice 90 = .ok (.iaload, 1) := by decide +kernel
theorem dX7_refuseKindTwice_91 : decode cX7_refuseKindTwice 91 = .ok (.istore_n 3, 1) := by decide +kernel
theorem dX7_refuseKindTwice_92 : decode cX7_refuseKindTwice 92 = .ok (.iinc 4 1, 3) := by decide +kernel
theorem dX7_refuseKindTwice_95 : decode cX7_refuseKindTwice 95 = .ok (.goto (-61), 3) := by decide +kernel
theorem dX7_refuseKindTwice_98 : decode cX7_refuseKindTwice 98 = .ok (.return_, 1) := by decide +kernel
theorem dX7_writeCall_0 : decode cX7_writeCall 0 = .ok (.aload_n 0, 1) := by decide +kernel
theorem dX7_writeCall_1 : decode cX7_writeCall 1 = .ok (.getfield 40, 3) := by decide +kernel
theorem dX7_writeCall_4 : decode cX7_writeCall 4 = .ok (.getfield 137, 3) := by decide +kernel
theorem dX7_writeCall_7 : decode cX7_writeCall 7 = .ok (.getfield 206, 3) := by decide +kernel
theorem dX7_writeCall_10 : decode cX7_writeCall 10 = .ok (.aload_n 0, 1) := by decide +kernel
theorem dX7_writeCall_11 : decode cX7_writeCall 11 = .ok (.getfield 40, 3) := by decide +kernel
theorem dX7_writeCall_14 : decode cX7_writeCall 14 = .ok (.getfield 137, 3) := by decide +kernel
theorem dX7_writeCall_17 : decode cX7_writeCall 17 = .ok (.iload_n 1, 1) := by decide +kernel
theorem dX7_writeCall_18 : decode cX7_writeCall 18 = .ok (.iload_n 2, 1) := by decide +kernel
theorem dX7_writeCall_19 : decode cX7_writeCall 19 = .ok (.iload_n 3, 1) := by decide +kernel
theorem dX7_writeCall_20 : decode cX7_writeCall 20 = .ok (.invokevirtual 141, 3) := by decide +kernel
theorem dX7_writeCall_23 : decode cX7_writeCall 23 = .ok (.iload 4, 2) := by decide +kernel
theorem dX7_writeCall_25 : decode cX7_writeCall 25 = .ok (.iastore, 1) := by decide +kernel
theorem dX7_writeCall_26 : decode cX7_writeCall 26 = .ok (.return_, 1) := by decide +kernel

end
section
theorem wi_1149 : Cond.constantLong RX1 72 (2) ∈ zw := zw_in (List.mem_of_getElem? (i := 1149) (by decide +kernel)) (by decide +kernel)
theorem wi_1104 : Cond.constantLong RX1 66 (4294967295) ∈ zw := zw_in (List.mem_of_getElem? (i := 1104) (by decide +kernel)) (by decide +kernel)
theorem wi_1192 : Cond.constantLong RX1 68 (4294967296) ∈ zw := zw_in (List.mem_of_getElem? (i := 1192) (by decide +kernel)) (by decide +kernel)
theorem wi_1214 : Cond.constantLong RX1 70 (8589934592) ∈ zw := zw_in (List.mem_of_getElem? (i := 1214) (by decide +kernel)) (by decide +kernel)
theorem wi_439 : Cond.fieldLink RX1 59 "ReuseHouse$Cells" "kinds" "LReuseHouse$Kinds;" ∈ zw := zw_in (List.mem_of_getElem? (i := 439) (by decide +kernel)) (by decide +kernel)
theorem wi_435 : Cond.fieldLink RX1 45 "ReuseHouse$Cells" "kind" "[I" ∈ zw := zw_in (List.mem_of_getElem? (i := 435) (by decide +kernel)) (by decide +kernel)
theorem wi_1092 : Cond.methodLink RX1 63 Lib.Math.min.name ∈ zw := zw_in (List.mem_of_getElem? (i := 1092) (by decide +kernel)) (by decide +kernel)
theorem wi_441 : Cond.fieldLink RX1 9 "ReuseHouse$Cells" "limit" "I" ∈ zw := zw_in (List.mem_of_getElem? (i := 441) (by decide +kernel)) (by decide +kernel)
theorem wi_442 : Cond.fieldLink RX1 15 "ReuseHouse$Cells" "fresh" "I" ∈ zw := zw_in (List.mem_of_getElem? (i := 442) (by decide +kernel)) (by decide +kernel)
theorem wi_443 : Cond.fieldLink RX1 18 "ReuseHouse$Cells" "firstFree" "I" ∈ zw := zw_in (List.mem_of_getElem? (i := 443) (by decide +kernel)) (by decide +kernel)
theorem wi_444 : Cond.fieldLink RX1 21 "ReuseHouse$Cells" "held" "I" ∈ zw := zw_in (List.mem_of_getElem? (i := 444) (by decide +kernel)) (by decide +kernel)
theorem wi_446 : Cond.fieldLink RX1 24 "ReuseHouse$Cells" "mostHeld" "I" ∈ zw := zw_in (List.mem_of_getElem? (i := 446) (by decide +kernel)) (by decide +kernel)
theorem wi_448 : Cond.fieldLink RX1 27 "ReuseHouse$Cells" "made" "I" ∈ zw := zw_in (List.mem_of_getElem? (i := 448) (by decide +kernel)) (by decide +kernel)
theorem wi_450 : Cond.fieldLink RX1 30 "ReuseHouse$Cells" "reused" "I" ∈ zw := zw_in (List.mem_of_getElem? (i := 450) (by decide +kernel)) (by decide +kernel)
theorem wi_453 : Cond.fieldLink RX1 33 "ReuseHouse$Cells" "freed" "I" ∈ zw := zw_in (List.mem_of_getElem? (i := 453) (by decide +kernel)) (by decide +kernel)
theorem wi_455 : Cond.fieldLink RX1 36 "ReuseHouse$Cells" "doubled" "I" ∈ zw := zw_in (List.mem_of_getElem? (i := 455) (by decide +kernel)) (by decide +kernel)
theorem wi_1154 : Cond.methodLink RX1 81 yX4_fieldsOf ∈ zw := zw_in (List.mem_of_getElem? (i := 1154) (by decide +kernel)) (by decide +kernel)
theorem wi_438 : Cond.fieldLink RX1 52 "ReuseHouse$Cells" "fields" "[J" ∈ zw := zw_in (List.mem_of_getElem? (i := 438) (by decide +kernel)) (by decide +kernel)
theorem dX1_begin_0 : decode cX1_begin 0 = .ok (.aload_n 0, 1) := by decide +kernel
theorem dX1_begin_1 : decode cX1_begin 1 = .ok (.aload_n 1, 1) := by decide +kernel
theorem dX1_begin_2 : decode cX1_begin 2 = .ok (.putfield 59, 3) := by decide +kernel
theorem dX1_begin_5 : decode cX1_begin 5 = .ok (.aload_n 0, 1) := by decide +kernel
theorem dX1_begin_6 : decode cX1_begin 6 = .ok (.iload_n 2, 1) := by decide +kernel
theorem dX1_begin_7 : decode cX1_begin 7 = .ok (.aload_n 0, 1) := by decide +kernel
theorem dX1_begin_8 : decode cX1_begin 8 = .ok (.getfield 45, 3) := by decide +kernel
theorem dX1_begin_11 : decode cX1_begin 11 = .ok (.arraylength, 1) := by decide +kernel
theorem dX1_begin_12 : decode cX1_begin 12 = .ok (.invokestatic 63, 3) := by decide +kernel
theorem dX1_begin_15 : decode cX1_begin 15 = .ok (.putfield 9, 3) := by decide +kernel
theorem dX1_begin_18 : decode cX1_begin 18 = .ok (.aload_n 0, 1) := by decide +kernel
theorem dX1_begin_19 : decode cX1_begin 19 = .ok (.iconst 0, 1) := by decide +kernel
theorem dX1_begin_20 : decode cX1_begin 20 = .ok (.putfield 15, 3) := by decide +kernel
theorem dX1_begin_23 : decode cX1_begin 23 = .ok (.aload_n 0, 1) := by decide +kernel
theorem dX1_begin_24 : decode cX1_begin 24 = .ok (.iconst (-1), 1) := by decide +kernel
theorem dX1_begin_25 : decode cX1_begin 25 = .ok (.putfield 18, 3) := by decide +kernel
theorem dX1_begin_28 : decode cX1_begin 28 = .ok (.aload_n 0, 1) := by decide +kernel
theorem dX1_begin_29 : decode cX1_begin 29 = .ok (.iconst 0, 1) := by decide +kernel
theorem dX1_begin_30 : decode cX1_begin 30 = .ok (.putfield 21, 3) := by decide +kernel
theorem dX1_begin_33 : decode cX1_begin 33 = .ok (.aload_n 0, 1) := by decide +kernel
theorem dX1_begin_34 : decode cX1_begin 34 = .ok (.iconst 0, 1) := by decide +kernel
theorem dX1_begin_35 : decode cX1_begin 35 = .ok (.putfield 24, 3) := by decide +kernel
theorem dX1_begin_38 : decode cX1_begin 38 = .ok (.aload_n 0, 1) := by decide +kernel
theorem dX1_begin_39 : decode cX1_begin 39 = .ok (.iconst 0, 1) := by decide +kernel
theorem dX1_begin_40 : decode cX1_begin 40 = .ok (.putfield 27, 3) := by decide +kernel
theorem dX1_begin_43 : decode cX1_begin 43 = .ok (.aload_n 0, 1) := by decide +kernel
theorem dX1_begin_44 : decode cX1_begin 44 = .ok (.iconst 0, 1) := by decide +kernel
theorem dX1_begin_45 : decode cX1_begin 45 = .ok (.putfield 30, 3) := by decide +kernel
theorem dX1_begin_48 : decode cX1_begin 48 = .ok (.aload_n 0, 1) := by decide +kernel
theorem dX1_begin_49 : decode cX1_begin 49 = .ok (.iconst 0, 1) := by decide +kernel
theorem dX1_begin_50 : decode cX1_begin 50 = .ok (.putfield 33, 3) := by decide +kernel
theorem dX1_begin_53 : decode cX1_begin 53 = .ok (.aload_n 0, 1) := by decide +kernel
theorem dX1_begin_54 : decode cX1_begin 54 = .ok (.iconst 0, 1) := by decide +kernel
theorem dX1_begin_55 : decode cX1_begin 55 = .ok (.putfield 36, 3) := by decide +kernel
theorem dX1_begin_58 : decode cX1_begin 58 = .ok (.return_, 1) := by decide +kernel
theorem dX1_field_0 : decode cX1_field 0 = .ok (.aload_n 0, 1) := by decide +kernel
theorem dX1_field_1 : decode cX1_field 1 = .ok (.getfield 52, 3) := by decide +kernel
theorem dX1_field_4 : decode cX1_field 4 = .ok (.iload_n 1, 1) := by decide +kernel
theorem dX1_field_5 : decode cX1_field 5 = .ok (.iconst 3, 1) := by decide +kernel
theorem dX1_field_6 : decode cX1_field 6 = .ok (.imul, 1) := by decide +kernel
theorem dX1_field_7 : decode cX1_field 7 = .ok (.iload_n 2, 1) := by decide +kernel
theorem dX1_field_8 : decode cX1_field 8 = .ok (.iadd, 1) := by decide +kernel
theorem dX1_field_9 : decode cX1_field 9 = .ok (.laload, 1) := by decide +kernel
theorem dX1_field_10 : decode cX1_field 10 = .ok (.lreturn, 1) := by decide +kernel
theorem dX1_isCell_0 : decode cX1_isCell 0 = .ok (.lload_n 0, 1) := by decide +kernel
theorem dX1_isCell_1 : decode cX1_isCell 1 = .ok (.bipush 32, 2) := by decide +kernel
theorem dX1_isCell_3 : decode cX1_isCell 3 = .ok (.lushr, 1) := by decide +kernel
theorem dX1_isCell_4 : decode cX1_isCell 4 = .ok (.ldc2_w 72, 3) := by decide +kernel
theorem dX1_isCell_7 : decode cX1_isCell 7 = .ok (.lcmp, 1) := by decide +kernel
theorem dX1_isCell_8 : decode cX1_isCell 8 = .ok (.ifCond .ne 7, 3) := by decide +kernel
theorem dX1_isCell_11 : decode cX1_isCell 11 = .ok (.iconst 1, 1) := by decide +kernel
theorem dX1_isCell_12 : decode cX1_isCell 12 = .ok (.goto 4, 3) := by decide +kernel
theorem dX1_isCell_15 : decode cX1_isCell 15 = .ok (.iconst 0, 1) := by decide +kernel
theorem dX1_isCell_16 : decode cX1_isCell 16 = .ok (.ireturn, 1) := by decide +kernel
theorem dX1_isInt_0 : decode cX1_isInt 0 = .ok (.lload_n 0, 1) := by decide +kernel
theorem dX1_isInt_1 : decode cX1_isInt 1 = .ok (.bipush 32, 2) := by decide +kernel
theorem dX1_isInt_3 : decode cX1_isInt 3 = .ok (.lushr, 1) := by decide +kernel
theorem dX1_isInt_4 : decode cX1_isInt 4 = .ok (.lconst 0, 1) := by decide +kernel
theorem dX1_isInt_5 : decode cX1_isInt 5 = .ok (.lcmp, 1) := by decide +kernel
theorem dX1_isInt_6 : decode cX1_isInt 6 = .ok (.ifCond .ne 7, 3) := by decide +kernel
theorem dX1_isInt_9 : decode cX1_isInt 9 = .ok (.iconst 1, 1) := by decide +kernel
theorem dX1_isInt_10 : decode cX1_isInt 10 = .ok (.goto 4, 3) := by decide +kernel
theorem dX1_isInt_13 : decode cX1_isInt 13 = .ok (.iconst 0, 1) := by decide +kernel
theorem dX1_isInt_14 : decode cX1_isInt 14 = .ok (.ireturn, 1) := by decide +kernel
theorem dX1_ofCell_0 : decode cX1_ofCell 0 = .ok (.ldc2_w 70, 3) := by decide +kernel
theorem dX1_ofCell_3 : decode cX1_ofCell 3 = .ok (.iload_n 0, 1) := by decide +kernel
theorem dX1_ofCell_4 : decode cX1_ofCell 4 = .ok (.i2l, 1) := by decide +kernel
theorem dX1_ofCell_5 : decode cX1_ofCell 5 = .ok (.ldc2_w 66, 3) := by decide +kernel
theorem dX1_ofCell_8 : decode cX1_ofCell 8 = .ok (.land, 1) := by decide +kernel
theorem dX1_ofCell_9 : decode cX1_ofCell 9 = .ok (.lor, 1) := by decide +kernel
theorem dX1_ofCell_10 : decode cX1_ofCell 10 = .ok (.lreturn, 1) := by decide +kernel
theorem dX1_ofInt_0 : decode cX1_ofInt 0 = .ok (.iload_n 0, 1) := by decide +kernel
theorem dX1_ofInt_1 : decode cX1_ofInt 1 = .ok (.i2l, 1) := by decide +kernel
theorem dX1_ofInt_2 : decode cX1_ofInt 2 = .ok (.ldc2_w 66, 3) := by decide +kernel
theorem dX1_ofInt_5 : decode cX1_ofInt 5 = .ok (.land, 1) := by decide +kernel
theorem dX1_ofInt_6 : decode cX1_ofInt 6 = .ok (.lreturn, 1) := by decide +kernel
theorem dX1_ofKind_0 : decode cX1_ofKind 0 = .ok (.ldc2_w 68, 3) := by decide +kernel
theorem dX1_ofKind_3 : decode cX1_ofKind 3 = .ok (.iload_n 0, 1) := by decide +kernel
theorem dX1_ofKind_4 : decode cX1_ofKind 4 = .ok (.i2l, 1) := by decide +kernel
theorem dX1_ofKind_5 : decode cX1_ofKind 5 = .ok (.ldc2_w 66, 3) := by decide +kernel
theorem dX1_ofKind_8 : decode cX1_ofKind 8 = .ok (.land, 1) := by decide +kernel
theorem dX1_ofKind_9 : decode cX1_ofKind 9 = .ok (.lor, 1) := by decide +kernel
theorem dX1_ofKind_10 : decode cX1_ofKind 10 = .ok (.lreturn, 1) := by decide +kernel
theorem dX1_width_0 : decode cX1_width 0 = .ok (.aload_n 0, 1) := by decide +kernel
theorem dX1_width_1 : decode cX1_width 1 = .ok (.getfield 59, 3) := by decide +kernel
theorem dX1_width_4 : decode cX1_width 4 = .ok (.aload_n 0, 1) := by decide +kernel
theorem dX1_width_5 : decode cX1_width 5 = .ok (.getfield 45, 3) := by decide +kernel
theorem dX1_width_8 : decode cX1_width 8 = .ok (.iload_n 1, 1) := by decide +kernel
theorem dX1_width_9 : decode cX1_width 9 = .ok (.iaload, 1) := by decide +kernel
theorem dX1_width_10 : decode cX1_width 10 = .ok (.invokevirtual 81, 3) := by decide +kernel
theorem dX1_width_13 : decode cX1_width 13 = .ok (.ireturn, 1) := by decide +kernel
theorem dX4_wordOf_0 : decode cX4_wordOf 0 = .ok (.iload_n 1, 1) := by decide +kernel
theorem dX4_wordOf_1 : decode cX4_wordOf 1 = .ok (.ifCond .lt 20, 3) := by decide +kernel
theorem dX4_wordOf_4 : decode cX4_wordOf 4 = .ok (.iload_n 1, 1) := by decide +kernel
theorem dX4_wordOf_5 : decode cX4_wordOf 5 = .ok (.aload_n 0, 1) := by decide +kernel
theorem dX4_wordOf_6 : decode cX4_wordOf 6 = .ok (.getfield 19, 3) := by decide +kernel
theorem dX4_wordOf_9 : decode cX4_wordOf 9 = .ok (.if_icmp .ge 12, 3) := by decide +kernel
theorem dX4_wordOf_12 : decode cX4_wordOf 12 = .ok (.aload_n 0, 1) := by decide +kernel
theorem dX4_wordOf_13 : decode cX4_wordOf 13 = .ok (.getfield 9, 3) := by decide +kernel
theorem dX4_wordOf_16 : decode cX4_wordOf 16 = .ok (.iload_n 1, 1) := by decide +kernel
theorem dX4_wordOf_17 : decode cX4_wordOf 17 = .ok (.laload, 1) := by decide +kernel
theorem dX4_wordOf_18 : decode cX4_wordOf 18 = .ok (.goto 4, 3) := by decide +kernel
theorem dX4_wordOf_21 : decode cX4_wordOf 21 = .ok (.lconst 0, 1) := by decide +kernel
theorem dX4_wordOf_22 : decode cX4_wordOf 22 = .ok (.lreturn, 1) := by decide +kernel
set_option maxHeartbeats 4000000 in
set_option maxRecDepth 100000 in
theorem c_X4_wordOf (l : Launch) (dC : Nat → ClassId) (dI : Nat → Nat → Nat) (aK aV : Nat → Nat) (h0 : Nat) (kw : Nat) (kf : Nat) (k1 : ClassId) (k2 : ClassId) (z : Int32) (gw : Nat → Int64) (gf : Nat → Int32) (k : Int32) (sz : Nat) (hz0 : 0 ≤ z.toInt) (hz1 : z.toInt ≤ 20) : Met l yX4_wordOf (Cond.code yX4_wordOf cX4_wordOf 2 (some .long) :: zw) ({ frames := 8, cells := 0, slots := 0, locals := 200 }) (va_Pc [.ref h0, .int k] (zP dC dI aK aV sz [(k1, .long), (k2, .int)] [(h0, .inr (4, [.ref kw, .ref kf, .int z])), (kw, .inl (k1, 20, .inr (.inl gw))), (kf, .inl (k2, 20, .inl gf))])) (va_Ql (fun (r : Int64) (u : Unit) => True) (fun u => zQ dC dI (va_A [(h0, .inr (4, [.ref kw, .ref kf, .int z])), (kw, .inl (k1, 20, .inr (.inl gw))), (kf, .inl (k2, 20, .inl gf))] sz) [(k1, .long), (k2, .int)] [(h0, .inr (4, [.ref kw, .ref kf, .int z])), (kw, .inl (k1, 20, .inr (.inl gw))), (kf, .inl (k2, 20, .inl gf))]) (va_A [(h0, .inr (4, [.ref kw, .ref kf, .int z])), (kw, .inl (k1, 20, .inr (.inl gw))), (kf, .inl (k2, 20, .inl gf))] sz)) 0 0 (va_A [(h0, .inr (4, [.ref kw, .ref kf, .int z])), (kw, .inl (k1, 20, .inr (.inl gw))), (kf, .inl (k2, 20, .inl gf))] sz) := by
  refine Met.ofW (cc := cX4_wordOf) (maxL := 2) (ret := (some .long)) (by decide) rfl ?_
  intro p e s m args below meth c s₁ B hml hv
  obtain ⟨rfl, hsz, hP, hK, hD0, hN, hT⟩ := hv
  have hx := B.exec
  have hb := B.bytes
  have hr := B.returns
  have hts := atoms_spec (ws := Cond.code yX4_wordOf cX4_wordOf 2 (some .long) :: zw) B.pre
  have hA : ∀ w ∈ zw, w.before _ s = true := fun w h => hts w (List.mem_cons_of_mem _ h)
  have hown : s.vm.findClass RX4 = some m.cls := findClass_of_methodNamed B.named
  have hlocks := B.notSynchronized
  subst hsz
  have hD := hD0.self (sz := s.heap.size)
  generalize hAe : va_A [(h0, .inr (4, [.ref kw, .ref kf, .int z])), (kw, .inl (k1, 20, .inr (.inl gw))), (kf, .inl (k2, 20, .inl gf))] s.heap.size = A at hD hT ⊢
  have hAA : ∀ q : Nat, s.heap.size ≤ q → A q := fun q h => by rw [← hAe]; exact Or.inr h
  have hS : va_S A s.heap s.heap [] := va_S.rf
  have hl := lv_entry ([.ref h0, .int k]) (n := 2) (Nat.le_of_ble_eq_true rfl)
  rw [lg_entry_eq]
  generalize (lg_sl ([.ref h0, .int k]) ++ List.replicate (2 - (lg_sl ([.ref h0, .int k])).length) Slot.unset).toArray = ls at hl ⊢
  have hl : lv_has ls 2 [(0, .ref h0), (1, .int k)] := hl
  refine lv_iload_n hx hb dX4_wordOf_0 rfl (lv_at hl 1 rfl) ?_
  refine lv_if_lt (tgt := 21) hx hb dX4_wordOf_1 (by decide) (fun c_1 => ?_) (fun c_1 => ?_)
  · have ic_1 : k.toInt < 0 := zi_lt c_1
    refine lv_lconst (v := 0) hx hb dX4_wordOf_21 (by decide) ?_
    have hP9 := hP.sub (ws' := [(h0, .inr (4, [.ref kw, .ref kf, .int z])), (kw, .inl (k1, 20, .inr (.inl gw))), (kf, .inl (k2, 20, .inl gf))]) [0, 1, 2] rfl
    have hD9 := hD.sub (ws' := [(h0, .inr (4, [.ref kw, .ref kf, .int z])), (kw, .inl (k1, 20, .inr (.inl gw))), (kf, .inl (k2, 20, .inl gf))]) [0, 1, 2] (by decide) rfl
    have hK9 := hK.sub (tys' := [(k1, .long), (k2, .int)]) [0, 1] rfl
    exact W.lret (v := 0) hx hb hr (fun t ht hW => ⟨⟨0, (), rfl, trivial, by rw [ht]; exact hP9, va_K.moved hW.alike hK9, hD9⟩, hS.F ht⟩) hS.2.2 dX4_wordOf_22
  · have ic_1 : 0 ≤ k.toInt := zi_nlt c_1
    refine lv_iload_n hx hb dX4_wordOf_4 rfl (lv_at hl 1 rfl) ?_
    refine lv_aload_n hx hb dX4_wordOf_5 rfl (lv_at hl 0 rfl) ?_
    refine va_get (D := (dC, dI)) (ci := 4) (v := .int z) (C := RX4) (T := TX4) (N := 3) hx hb hA zin_X4 hown hK hP 0 rfl rfl 2 (by decide) (hA _ wi_273) (fun _ h9 => h9) rfl dX4_wordOf_6 ?_
    refine lv_icmp_ge (tgt := 21) hx hb dX4_wordOf_9 (by decide) (fun c_2 => ?_) (fun c_2 => ?_)
    · have ic_2 : z.toInt ≤ k.toInt := zi_le c_2
      refine lv_lconst (v := 0) hx hb dX4_wordOf_21 (by decide) ?_
      have hP9 := hP.sub (ws' := [(h0, .inr (4, [.ref kw, .ref kf, .int z])), (kw, .inl (k1, 20, .inr (.inl gw))), (kf, .inl (k2, 20, .inl gf))]) [0, 1, 2] rfl
      have hD9 := hD.sub (ws' := [(h0, .inr (4, [.ref kw, .ref kf, .int z])), (kw, .inl (k1, 20, .inr (.inl gw))), (kf, .inl (k2, 20, .inl gf))]) [0, 1, 2] (by decide) rfl
      have hK9 := hK.sub (tys' := [(k1, .long), (k2, .int)]) [0, 1] rfl
      exact W.lret (v := 0) hx hb hr (fun t ht hW => ⟨⟨0, (), rfl, trivial, by rw [ht]; exact hP9, va_K.moved hW.alike hK9, hD9⟩, hS.F ht⟩) hS.2.2 dX4_wordOf_22
    · have ic_2 : k.toInt < z.toInt := zi_nle c_2
      refine lv_aload_n hx hb dX4_wordOf_12 rfl (lv_at hl 0 rfl) ?_
      refine va_get (D := (dC, dI)) (ci := 4) (v := .ref kw) (C := RX4) (T := TX4) (N := 3) hx hb hA zin_X4 hown hK hP 0 rfl rfl 0 (by decide) (hA _ wi_270) (fun _ h9 => h9) rfl dX4_wordOf_13 ?_
      refine lv_iload_n hx hb dX4_wordOf_16 rfl (lv_at hl 1 rfl) ?_
      refine va_lald hx hb hK hP 1 0 rfl rfl (vp_in_iff.mpr ⟨by omega, by omega⟩) dX4_wordOf_17 ?_
      refine lv_topl (fun x_3 ex_3 => ?_)
      refine lv_goto (tgt := 22) hx hb dX4_wordOf_18 (by decide) ?_
      have hP9 := hP.sub (ws' := [(h0, .inr (4, [.ref kw, .ref kf, .int z])), (kw, .inl (k1, 20, .inr (.inl gw))), (kf, .inl (k2, 20, .inl gf))]) [0, 1, 2] rfl
      have hD9 := hD.sub (ws' := [(h0, .inr (4, [.ref kw, .ref kf, .int z])), (kw, .inl (k1, 20, .inr (.inl gw))), (kf, .inl (k2, 20, .inl gf))]) [0, 1, 2] (by decide) rfl
      have hK9 := hK.sub (tys' := [(k1, .long), (k2, .int)]) [0, 1] rfl
      exact W.lret (v := x_3) hx hb hr (fun t ht hW => ⟨⟨x_3, (), rfl, trivial, by rw [ht]; exact hP9, va_K.moved hW.alike hK9, hD9⟩, hS.F ht⟩) hS.2.2 dX4_wordOf_22

end
section
theorem wi_560 : Cond.fieldLink RX8 15 "ReuseHouse$Printer" "size" "I" ∈ zw := zw_in (List.mem_of_getElem? (i := 560) (by decide +kernel)) (by decide +kernel)
theorem wi_562 : Cond.fieldLink RX8 22 "ReuseHouse$Printer" "spareSize" "I" ∈ zw := zw_in (List.mem_of_getElem? (i := 562) (by decide +kernel)) (by decide +kernel)
theorem wi_563 : Cond.fieldLink RX8 25 "ReuseHouse$Printer" "tooLong" "Z" ∈ zw := zw_in (List.mem_of_getElem? (i := 563) (by decide +kernel)) (by decide +kernel)
theorem wi_561 : Cond.fieldLink RX8 19 "ReuseHouse$Printer" "spare" "[B" ∈ zw := zw_in (List.mem_of_getElem? (i := 561) (by decide +kernel)) (by decide +kernel)
theorem dX8_has_0 : decode cX8_has 0 = .ok (.iload_n 1, 1) := by decide +kernel
theorem dX8_has_1 : decode cX8_has 1 = .ok (.ifCond .lt 15, 3) := by decide +kernel
theorem dX8_has_4 : decode cX8_has 4 = .ok (.iload_n 1, 1) := by decide +kernel
theorem dX8_has_5 : decode cX8_has 5 = .ok (.aload_n 0, 1) := by decide +kernel
theorem dX8_has_6 : decode cX8_has 6 = .ok (.getfield 15, 3) := by decide +kernel
theorem dX8_has_9 : decode cX8_has 9 = .ok (.if_icmp .ge 7, 3) := by decide +kernel
theorem dX8_has_12 : decode cX8_has 12 = .ok (.iconst 1, 1) := by decide +kernel
theorem dX8_has_13 : decode cX8_has 13 = .ok (.goto 4, 3) := by decide +kernel
theorem dX8_has_16 : decode cX8_has 16 = .ok (.iconst 0, 1) := by decide +kernel
theorem dX8_has_17 : decode cX8_has 17 = .ok (.ireturn, 1) := by decide +kernel
theorem dX8_put_0 : decode cX8_put 0 = .ok (.aload_n 0, 1) := by decide +kernel
theorem dX8_put_1 : decode cX8_put 1 = .ok (.getfield 22, 3) := by decide +kernel
theorem dX8_put_4 : decode cX8_put 4 = .ok (.sipush 4000, 3) := by decide +kernel
theorem dX8_put_7 : decode cX8_put 7 = .ok (.if_icmp .ge 27, 3) := by decide +kernel
theorem dX8_put_10 : decode cX8_put 10 = .ok (.aload_n 0, 1) := by decide +kernel
theorem dX8_put_11 : decode cX8_put 11 = .ok (.getfield 19, 3) := by decide +kernel
theorem dX8_put_14 : decode cX8_put 14 = .ok (.aload_n 0, 1) := by decide +kernel
theorem dX8_put_15 : decode cX8_put 15 = .ok (.getfield 22, 3) := by decide +kernel
theorem dX8_put_18 : decode cX8_put 18 = .ok (.iload_n 1, 1) := by decide +kernel
theorem dX8_put_19 : decode cX8_put 19 = .ok (.i2b, 1) := by decide +kernel
theorem dX8_put_20 : decode cX8_put 20 = .ok (.bastore, 1) := by decide +kernel
theorem dX8_put_21 : decode cX8_put 21 = .ok (.aload_n 0, 1) := by decide +kernel
theorem dX8_put_22 : decode cX8_put 22 = .ok (.dup, 1) := by decide +kernel
theorem dX8_put_23 : decode cX8_put 23 = .ok (.getfield 22, 3) := by decide +kernel
theorem dX8_put_26 : decode cX8_put 26 = .ok (.iconst 1, 1) := by decide +kernel
theorem dX8_put_27 : decode cX8_put 27 = .ok (.iadd, 1) := by decide +kernel
theorem dX8_put_28 : decode cX8_put 28 = .ok (.putfield 22, 3) := by decide +kernel
theorem dX8_put_31 : decode cX8_put 31 = .ok (.goto 8, 3) := by decide +kernel
theorem dX8_put_34 : decode cX8_put 34 = .ok (.aload_n 0, 1) := by decide +kernel
theorem dX8_put_35 : decode cX8_put 35 = .ok (.iconst 1, 1) := by decide +kernel
theorem dX8_put_36 : decode cX8_put 36 = .ok (.putfield 25, 3) := by decide +kernel
theorem dX8_put_39 : decode cX8_put 39 = .ok (.return_, 1) := by decide +kernel
set_option maxHeartbeats 4000000 in
set_option maxRecDepth 100000 in
theorem c_X8_put (l : Launch) (dC : Nat → ClassId) (dI : Nat → Nat → Nat) (aK aV : Nat → Nat) (h0 : Nat) (pb : Nat) (psp : Nat) (poc : Nat) (pof : Nat) (pz : Int32) (ps : Int32) (tl : Int32) (po : Int32) (p2 : ClassId) (gsp : Nat → Int32) (ch : Int32) (sz : Nat) (hps0 : 0 ≤ ps.toInt) (hps1 : ps.toInt ≤ 4000) (hpo0 : 0 ≤ po.toInt) (hpo1 : po.toInt ≤ 2000) : Met l yX8_put (Cond.code yX8_put cX8_put 2 none :: zw) ({ frames := 8, cells := 0, slots := 0, locals := 200 }) (va_Pc [.ref h0, .int ch] (zP dC dI aK aV sz [(p2, .byte)] [(h0, .inr (8, [.ref pb, .int pz, .ref psp, .int ps, .int tl, .ref poc, .ref pof, .int po])), (psp, .inl (p2, 4000, .inl gsp))])) (va_Qv (fun u : Int32 × Int32 × (Nat → Int32) => match u with | (ps2, tl2, gsp2) => (0 ≤ ps2.toInt) ∧ (ps2.toInt ≤ 4000) ∧ (ps.toInt ≤ ps2.toInt)) (fun u => match u with | (ps2, tl2, gsp2) => zQ dC dI (va_A [(h0, .inr (8, [.ref pb, .int pz, .ref psp, .int ps, .int tl, .ref poc, .ref pof, .int po])), (psp, .inl (p2, 4000, .inl gsp))] sz) [(p2, .byte)] [(h0, .inr (8, [.ref pb, .int pz, .ref psp, .int ps2, .int tl2, .ref poc, .ref pof, .int po])), (psp, .inl (p2, 4000, .inl gsp2))]) (va_A [(h0, .inr (8, [.ref pb, .int pz, .ref psp, .int ps, .int tl, .ref poc, .ref pof, .int po])), (psp, .inl (p2, 4000, .inl gsp))] sz)) 0 0 (va_A [(h0, .inr (8, [.ref pb, .int pz, .ref psp, .int ps, .int tl, .ref poc, .ref pof, .int po])), (psp, .inl (p2, 4000, .inl gsp))] sz) := by
  refine Met.ofW (cc := cX8_put) (maxL := 2) (ret := none) (by decide) rfl ?_
  intro p e s m args below meth c s₁ B hml hv
  obtain ⟨rfl, hsz, hP, hK, hD0, hN, hT⟩ := hv
  have hx := B.exec
  have hb := B.bytes
  have hr := B.returns
  have hts := atoms_spec (ws := Cond.code yX8_put cX8_put 2 none :: zw) B.pre
  have hA : ∀ w ∈ zw, w.before _ s = true := fun w h => hts w (List.mem_cons_of_mem _ h)
  have hown : s.vm.findClass RX8 = some m.cls := findClass_of_methodNamed B.named
  have hlocks := B.notSynchronized
  subst hsz
  have hD := hD0.self (sz := s.heap.size)
  generalize hAe : va_A [(h0, .inr (8, [.ref pb, .int pz, .ref psp, .int ps, .int tl, .ref poc, .ref pof, .int po])), (psp, .inl (p2, 4000, .inl gsp))] s.heap.size = A at hD hT ⊢
  have hAA : ∀ q : Nat, s.heap.size ≤ q → A q := fun q h => by rw [← hAe]; exact Or.inr h
  have hS : va_S A s.heap s.heap [] := va_S.rf
  have hl := lv_entry ([.ref h0, .int ch]) (n := 2) (Nat.le_of_ble_eq_true rfl)
  rw [lg_entry_eq]
  generalize (lg_sl ([.ref h0, .int ch]) ++ List.replicate (2 - (lg_sl ([.ref h0, .int ch])).length) Slot.unset).toArray = ls at hl ⊢
  have hl : lv_has ls 2 [(0, .ref h0), (1, .int ch)] := hl
  refine lv_aload_n hx hb dX8_put_0 rfl (lv_at hl 0 rfl) ?_
  refine va_get (D := (dC, dI)) (ci := 8) (v := .int ps) (C := RX8) (T := TX8) (N := 8) hx hb hA zin_X8 hown hK hP 0 rfl rfl 3 (by decide) (hA _ wi_562) (fun _ h9 => h9) rfl dX8_put_1 ?_
  refine lv_sipush (v := 4000) hx hb dX8_put_4 (by decide) ?_
  refine lv_icmp_ge (tgt := 34) hx hb dX8_put_7 (by decide) (fun c_1 => ?_) (fun c_1 => ?_)
  · have ic_1 : 4000 ≤ ps.toInt := zi_le c_1
    refine lv_aload_n hx hb dX8_put_34 rfl (lv_at hl 0 rfl) ?_
    refine lv_iconst (v := 1) hx hb dX8_put_35 (by decide) ?_
    refine va_put (D := (dC, dI)) (ci := 8) (v := .int 1) (ty := .boolean) (C := RX8) (T := TX8) (N := 8) hx hb hA zin_X8 tyX8 tyX8_ok nmX8 hown hK hP hD hS 0 rfl rfl 4 (by decide) (hA _ wi_563) (fun _ h9 => h9) rfl (by decide +kernel) rfl rfl (Nat.le_of_ble_eq_true rfl) dX8_put_36 (fun H locs hP hD hS => ?_)
    have hP : va_P (dC, dI) vwCl [(h0, .inr (8, [.ref pb, .int pz, .ref psp, .int ps, .int 1, .ref poc, .ref pof, .int po])), (psp, .inl (p2, 4000, .inl gsp))] H := hP
    have hD : va_D A [(h0, .inr (8, [.ref pb, .int pz, .ref psp, .int ps, .int 1, .ref poc, .ref pof, .int po])), (psp, .inl (p2, 4000, .inl gsp))] := hD
    have hP9 := hP.sub (ws' := [(h0, .inr (8, [.ref pb, .int pz, .ref psp, .int ps, .int 1, .ref poc, .ref pof, .int po])), (psp, .inl (p2, 4000, .inl gsp))]) [0, 1] rfl
    have hD9 := hD.sub (ws' := [(h0, .inr (8, [.ref pb, .int pz, .ref psp, .int ps, .int 1, .ref poc, .ref pof, .int po])), (psp, .inl (p2, 4000, .inl gsp))]) [0, 1] (by decide) rfl
    have hK9 := hK.sub (tys' := [(p2, .byte)]) [0] rfl
    exact W.vret hx hb hr (fun t ht hW => ⟨⟨(ps, 1, gsp), rfl, ⟨by omega, by omega, by omega⟩, by rw [ht]; exact hP9, va_K.moved hW.alike hK9, hD9⟩, hS.F ht⟩) hS.2.2 dX8_put_39
  · have ic_1 : ps.toInt < 4000 := zi_nle c_1
    refine lv_aload_n hx hb dX8_put_10 rfl (lv_at hl 0 rfl) ?_
    refine va_get (D := (dC, dI)) (ci := 8) (v := .ref psp) (C := RX8) (T := TX8) (N := 8) hx hb hA zin_X8 hown hK hP 0 rfl rfl 2 (by decide) (hA _ wi_561) (fun _ h9 => h9) rfl dX8_put_11 ?_
    refine lv_aload_n hx hb dX8_put_14 rfl (lv_at hl 0 rfl) ?_
    refine va_get (D := (dC, dI)) (ci := 8) (v := .int ps) (C := RX8) (T := TX8) (N := 8) hx hb hA zin_X8 hown hK hP 0 rfl rfl 3 (by decide) (hA _ wi_562) (fun _ h9 => h9) rfl dX8_put_15 ?_
    refine lv_iload_n hx hb dX8_put_18 rfl (lv_at hl 1 rfl) ?_
    obtain ⟨x_2, ex_2⟩ : ∃ z : Int32, z = (Int32.toInt8 ch).toInt32 := ⟨_, rfl⟩
    refine lv_i2b (v := x_2) hx hb dX8_put_19 ex_2.symm ?_
    refine va_bast hx hb hK hP hD hS 1 0 rfl rfl (vp_in_iff.mpr ⟨by omega, by omega⟩) dX8_put_20 (fun H locs hP hD hS => ?_)
    obtain ⟨f_3, ef_3⟩ : ∃ gz9 : Nat → Int32, gz9 = upd gsp (Int32.toNatClampNeg ps) (vp_nar .byte x_2) := ⟨_, rfl⟩
    rw [← ef_3] at hP hD
    have hP : va_P (dC, dI) vwCl [(h0, .inr (8, [.ref pb, .int pz, .ref psp, .int ps, .int tl, .ref poc, .ref pof, .int po])), (psp, .inl (p2, 4000, .inl f_3))] H := hP
    have hD : va_D A [(h0, .inr (8, [.ref pb, .int pz, .ref psp, .int ps, .int tl, .ref poc, .ref pof, .int po])), (psp, .inl (p2, 4000, .inl f_3))] := hD
    refine lv_aload_n hx hb dX8_put_21 rfl (lv_at hl 0 rfl) ?_
    refine lv_dup hx hb dX8_put_22 rfl ?_
    refine va_get (D := (dC, dI)) (ci := 8) (v := .int ps) (C := RX8) (T := TX8) (N := 8) hx hb hA zin_X8 hown hK hP 0 rfl rfl 3 (by decide) (hA _ wi_562) (fun _ h9 => h9) rfl dX8_put_23 ?_
    refine lv_iconst (v := 1) hx hb dX8_put_26 (by decide) ?_
    refine lv_iadd hx hb dX8_put_27 ?_
    refine lv_topi (fun x_4 ex_4 => ?_)
    have ix_4 : x_4.toInt = ps.toInt + 1 := by rw [ex_4]; exact zi_addc (by decide) (by omega) (by omega)
    refine va_put (D := (dC, dI)) (ci := 8) (v := .int x_4) (ty := .int) (C := RX8) (T := TX8) (N := 8) hx hb hA zin_X8 tyX8 tyX8_ok nmX8 hown hK hP hD hS 0 rfl rfl 3 (by decide) (hA _ wi_562) (fun _ h9 => h9) rfl (by decide +kernel) rfl rfl (Nat.le_of_ble_eq_true rfl) dX8_put_28 (fun H locs hP hD hS => ?_)
    have hP : va_P (dC, dI) vwCl [(h0, .inr (8, [.ref pb, .int pz, .ref psp, .int x_4, .int tl, .ref poc, .ref pof, .int po])), (psp, .inl (p2, 4000, .inl f_3))] H := hP
    have hD : va_D A [(h0, .inr (8, [.ref pb, .int pz, .ref psp, .int x_4, .int tl, .ref poc, .ref pof, .int po])), (psp, .inl (p2, 4000, .inl f_3))] := hD
    refine lv_goto (tgt := 39) hx hb dX8_put_31 (by decide) ?_
    have hP9 := hP.sub (ws' := [(h0, .inr (8, [.ref pb, .int pz, .ref psp, .int x_4, .int tl, .ref poc, .ref pof, .int po])), (psp, .inl (p2, 4000, .inl f_3))]) [0, 1] rfl
    have hD9 := hD.sub (ws' := [(h0, .inr (8, [.ref pb, .int pz, .ref psp, .int x_4, .int tl, .ref poc, .ref pof, .int po])), (psp, .inl (p2, 4000, .inl f_3))]) [0, 1] (by decide) rfl
    have hK9 := hK.sub (tys' := [(p2, .byte)]) [0] rfl
    exact W.vret hx hb hr (fun t ht hW => ⟨⟨(x_4, tl, f_3), rfl, ⟨by omega, by omega, by omega⟩, by rw [ht]; exact hP9, va_K.moved hW.alike hK9, hD9⟩, hS.F ht⟩) hS.2.2 dX8_put_39

end
section
theorem wi_566 : Cond.fieldLink RX8 36 "ReuseHouse$Printer" "open" "I" ∈ zw := zw_in (List.mem_of_getElem? (i := 566) (by decide +kernel)) (by decide +kernel)
theorem wi_564 : Cond.fieldLink RX8 29 "ReuseHouse$Printer" "openCell" "[I" ∈ zw := zw_in (List.mem_of_getElem? (i := 564) (by decide +kernel)) (by decide +kernel)
theorem wi_565 : Cond.fieldLink RX8 33 "ReuseHouse$Printer" "openField" "[I" ∈ zw := zw_in (List.mem_of_getElem? (i := 565) (by decide +kernel)) (by decide +kernel)
theorem wi_1311 : Cond.code yX8_put cX8_put 2 none ∈ zw := zw_in (List.mem_of_getElem? (i := 1311) (by decide +kernel)) (by decide +kernel)
theorem wi_1308 : Cond.methodLink RX8 53 yX8_put ∈ zw := zw_in (List.mem_of_getElem? (i := 1308) (by decide +kernel)) (by decide +kernel)
theorem wi_1310 : Cond.instanceMethod yX8_put ∈ zw := zw_in (List.mem_of_getElem? (i := 1310) (by decide +kernel)) (by decide +kernel)
theorem wi_69 : Cond.selects RX8 yX8_put yX8_put ∈ zw := zw_in (List.mem_of_getElem? (i := 69) (by decide +kernel)) (by decide +kernel)
theorem wi_142 : Cond.initialized RX8 ∈ zw := zw_in (List.mem_of_getElem? (i := 142) (by decide +kernel)) (by decide +kernel)
theorem dX8_openFields_0 : decode cX8_openFields 0 = .ok (.aload_n 0, 1) := by decide +kernel
theorem dX8_openFields_1 : decode cX8_openFields 1 = .ok (.getfield 36, 3) := by decide +kernel
theorem dX8_openFields_4 : decode cX8_openFields 4 = .ok (.sipush 2000, 3) := by decide +kernel
theorem dX8_openFields_7 : decode cX8_openFields 7 = .ok (.if_icmp .lt 9, 3) := by decide +kernel
theorem dX8_openFields_10 : decode cX8_openFields 10 = .ok (.aload_n 0, 1) := by decide +kernel
theorem dX8_openFields_11 : decode cX8_openFields 11 = .ok (.iconst 1, 1) := by decide +kernel
theorem dX8_openFields_12 : decode cX8_openFields 12 = .ok (.putfield 25, 3) := by decide +kernel
theorem dX8_openFields_15 : decode cX8_openFields 15 = .ok (.return_, 1) := by decide +kernel
theorem dX8_openFields_16 : decode cX8_openFields 16 = .ok (.aload_n 0, 1) := by decide +kernel
theorem dX8_openFields_17 : decode cX8_openFields 17 = .ok (.getfield 29, 3) := by decide +kernel
theorem dX8_openFields_20 : decode cX8_openFields 20 = .ok (.aload_n 0, 1) := by decide +kernel
theorem dX8_openFields_21 : decode cX8_openFields 21 = .ok (.getfield 36, 3) := by decide +kernel
theorem dX8_openFields_24 : decode cX8_openFields 24 = .ok (.iload_n 1, 1) := by decide +kernel
theorem dX8_openFields_25 : decode cX8_openFields 25 = .ok (.iastore, 1) := by decide +kernel
theorem dX8_openFields_26 : decode cX8_openFields 26 = .ok (.aload_n 0, 1) := by decide +kernel
theorem dX8_openFields_27 : decode cX8_openFields 27 = .ok (.getfield 33, 3) := by decide +kernel
theorem dX8_openFields_30 : decode cX8_openFields 30 = .ok (.aload_n 0, 1) := by decide +kernel
theorem dX8_openFields_31 : decode cX8_openFields 31 = .ok (.getfield 36, 3) := by decide +kernel
theorem dX8_openFields_34 : decode cX8_openFields 34 = .ok (.iconst 0, 1) := by decide +kernel
theorem dX8_openFields_35 : decode cX8_openFields 35 = .ok (.iastore, 1) := by decide +kernel
theorem dX8_openFields_36 : decode cX8_openFields 36 = .ok (.aload_n 0, 1) := by decide +kernel
theorem dX8_openFields_37 : decode cX8_openFields 37 = .ok (.dup, 1) := by decide +kernel
theorem dX8_openFields_38 : decode cX8_openFields 38 = .ok (.getfield 36, 3) := by decide +kernel
theorem dX8_openFields_41 : decode cX8_openFields 41 = .ok (.iconst 1, 1) := by decide +kernel
theorem dX8_openFields_42 : decode cX8_openFields 42 = .ok (.iadd, 1) := by decide +kernel
theorem dX8_openFields_43 : decode cX8_openFields 43 = .ok (.putfield 36, 3) := by decide +kernel
theorem dX8_openFields_46 : decode cX8_openFields 46 = .ok (.return_, 1) := by decide +kernel
theorem dX8_putKind_0 : decode cX8_putKind 0 = .ok (.bipush 56, 2) := by decide +kernel
theorem dX8_putKind_2 : decode cX8_putKind 2 = .ok (.istore_n 3, 1) := by decide +kernel
theorem dX8_putKind_3 : decode cX8_putKind 3 = .ok (.iload_n 3, 1) := by decide +kernel
theorem dX8_putKind_4 : decode cX8_putKind 4 = .ok (.ifCond .lt 30, 3) := by decide +kernel
theorem dX8_putKind_7 : decode cX8_putKind 7 = .ok (.lload_n 1, 1) := by decide +kernel
theorem dX8_putKind_8 : decode cX8_putKind 8 = .ok (.iload_n 3, 1) := by decide +kernel
theorem dX8_putKind_9 : decode cX8_putKind 9 = .ok (.lushr, 1) := by decide +kernel
theorem dX8_putKind_10 : decode cX8_putKind 10 = .ok (.l2i, 1) := by decide +kernel
theorem dX8_putKind_11 : decode cX8_putKind 11 = .ok (.sipush 255, 3) := by decide +kernel
theorem dX8_putKind_14 : decode cX8_putKind 14 = .ok (.iand, 1) := by decide +kernel
theorem dX8_putKind_15 : decode cX8_putKind 15 = .ok (.istore 4, 2) := by decide +kernel
theorem dX8_putKind_17 : decode cX8_putKind 17 = .ok (.iload 4, 2) := by decide +kernel
theorem dX8_putKind_19 : decode cX8_putKind 19 = .ok (.ifCond .eq 9, 3) := by decide +kernel
theorem dX8_putKind_22 : decode cX8_putKind 22 = .ok (.aload_n 0, 1) := by decide +kernel
theorem dX8_putKind_23 : decode cX8_putKind 23 = .ok (.iload 4, 2) := by decide +kernel
theorem dX8_putKind_25 : decode cX8_putKind 25 = .ok (.invokevirtual 53, 3) := by decide +kernel
theorem dX8_putKind_28 : decode cX8_putKind 28 = .ok (.iinc 3 (-8), 3) := by decide +kernel
theorem dX8_putKind_31 : decode cX8_putKind 31 = .ok (.goto (-28), 3) := by decide +kernel
theorem dX8_putKind_34 : decode cX8_putKind 34 = .ok (.return_, 1) := by decide +kernel
set_option maxHeartbeats 4000000 in
set_option maxRecDepth 100000 in
theorem c_X8_putKind (l : Launch) (dC : Nat → ClassId) (dI : Nat → Nat → Nat) (aK aV : Nat → Nat) (h0 : Nat) (pb : Nat) (psp : Nat) (poc : Nat) (pof : Nat) (pz : Int32) (ps : Int32) (tl : Int32) (po : Int32) (p2 : ClassId) (gsp : Nat → Int32) (wo : Int64) (sz : Nat) (hps0 : 0 ≤ ps.toInt) (hps1 : ps.toInt ≤ 4000) (hpo0 : 0 ≤ po.toInt) (hpo1 : po.toInt ≤ 2000) : Met l yX8_putKind (Cond.code yX8_putKind cX8_putKind 5 none :: zw) ({ frames := 10, cells := 0, slots := 0, locals := 300 }) (va_Pc [.ref h0, .long wo] (zP dC dI aK aV sz [(p2, .byte)] [(h0, .inr (8, [.ref pb, .int pz, .ref psp, .int ps, .int tl, .ref poc, .ref pof, .int po])), (psp, .inl (p2, 4000, .inl gsp))])) (va_Qv (fun u : Int32 × Int32 × (Nat → Int32) => match u with | (ps2, tl2, gsp2) => (0 ≤ ps2.toInt) ∧ (ps2.toInt ≤ 4000) ∧ (ps.toInt ≤ ps2.toInt)) (fun u => match u with | (ps2, tl2, gsp2) => zQ dC dI (va_A [(h0, .inr (8, [.ref pb, .int pz, .ref psp, .int ps, .int tl, .ref poc, .ref pof, .int po])), (psp, .inl (p2, 4000, .inl gsp))] sz) [(p2, .byte)] [(h0, .inr (8, [.ref pb, .int pz, .ref psp, .int ps2, .int tl2, .ref poc, .ref pof, .int po])), (psp, .inl (p2, 4000, .inl gsp2))]) (va_A [(h0, .inr (8, [.ref pb, .int pz, .ref psp, .int ps, .int tl, .ref poc, .ref pof, .int po])), (psp, .inl (p2, 4000, .inl gsp))] sz)) 0 0 (va_A [(h0, .inr (8, [.ref pb, .int pz, .ref psp, .int ps, .int tl, .ref poc, .ref pof, .int po])), (psp, .inl (p2, 4000, .inl gsp))] sz) := by
  refine Met.ofW (cc := cX8_putKind) (maxL := 5) (ret := none) (by decide) rfl ?_
  intro p e s m args below meth c s₁ B hml hv
  obtain ⟨rfl, hsz, hP, hK, hD0, hN, hT⟩ := hv
  have hx := B.exec
  have hb := B.bytes
  have hr := B.returns
  have hts := atoms_spec (ws := Cond.code yX8_putKind cX8_putKind 5 none :: zw) B.pre
  have hA : ∀ w ∈ zw, w.before _ s = true := fun w h => hts w (List.mem_cons_of_mem _ h)
  have hown : s.vm.findClass RX8 = some m.cls := findClass_of_methodNamed B.named
  have hlocks := B.notSynchronized
  subst hsz
  have hD := hD0.self (sz := s.heap.size)
  generalize hAe : va_A [(h0, .inr (8, [.ref pb, .int pz, .ref psp, .int ps, .int tl, .ref poc, .ref pof, .int po])), (psp, .inl (p2, 4000, .inl gsp))] s.heap.size = A at hD hT ⊢
  have hAA : ∀ q : Nat, s.heap.size ≤ q → A q := fun q h => by rw [← hAe]; exact Or.inr h
  have hS : va_S A s.heap s.heap [] := va_S.rf
  have hl := lv_entry ([.ref h0, .long wo]) (n := 5) (Nat.le_of_ble_eq_true rfl)
  rw [lg_entry_eq]
  generalize (lg_sl ([.ref h0, .long wo]) ++ List.replicate (5 - (lg_sl ([.ref h0, .long wo])).length) Slot.unset).toArray = ls at hl ⊢
  have hl : lv_has ls 5 [(0, .ref h0), (1, .long wo)] := hl
  refine lv_bipush (v := 56) hx hb dX8_putKind_0 (by decide) ?_
  refine lv_istore_n (lv' := [(3, .int 56), (0, .ref h0), (1, .long wo)]) hx hb dX8_putKind_2 rfl hl (by decide) rfl (fun ls hl => ?_)
  have loop_3 : ∀ (n9 : Nat) (sh : Int32) (lps : Int32) (ltl : Int32) (lgs : Nat → Int32) (H : Heap) (locs : List Loc) (ls : Array Slot), (sh.toInt + 9).toNat ≤ n9 → -8 ≤ sh.toInt → sh.toInt ≤ 56 → 0 ≤ lps.toInt → lps.toInt ≤ 4000 → ps.toInt ≤ lps.toInt → va_P (dC, dI) vwCl [(h0, .inr (8, [.ref pb, .int pz, .ref psp, .int lps, .int ltl, .ref poc, .ref pof, .int po])), (psp, .inl (p2, 4000, .inl lgs))] H → va_D A [(h0, .inr (8, [.ref pb, .int pz, .ref psp, .int lps, .int ltl, .ref poc, .ref pof, .int po])), (psp, .inl (p2, 4000, .inl lgs))] → va_S A s.heap H locs → lv_has ls 5 [(3, .int sh), (0, .ref h0), (1, .long wo)] → W p l e (headSpec (Cond.code yX8_putKind cX8_putKind 5 none :: zw) ({ frames := 10, cells := 0, slots := 0, locals := 300 })).room s m #[.ref h0, .long wo] below meth c H locs 0 0 (MQ below (va_Qv (fun u : Int32 × Int32 × (Nat → Int32) => match u with | (ps2, tl2, gsp2) => (0 ≤ ps2.toInt) ∧ (ps2.toInt ≤ 4000) ∧ (ps.toInt ≤ ps2.toInt)) (fun u => match u with | (ps2, tl2, gsp2) => zQ dC dI A [(p2, .byte)] [(h0, .inr (8, [.ref pb, .int pz, .ref psp, .int ps2, .int tl2, .ref poc, .ref pof, .int po])), (psp, .inl (p2, 4000, .inl gsp2))]) A) #[.ref h0, .long wo] s 0 0 A) (F0 m 3 ls []) := by
    intro n9
    induction n9 with
    | zero => intro sh lps ltl lgs H locs ls hm hsh0 hsh1 hl0 hl1 hl2; exfalso; omega
    | succ n9 ih =>
      intro sh lps ltl lgs H locs ls hm hsh0 hsh1 hl0 hl1 hl2 hP hD hS hl
      refine lv_iload_n hx hb dX8_putKind_3 rfl (lv_at hl 0 rfl) ?_
      refine lv_if_lt (tgt := 34) hx hb dX8_putKind_4 (by decide) (fun c_1 => ?_) (fun c_1 => ?_)
      · have ic_1 : sh.toInt < 0 := zi_lt c_1
        have hP9 := hP.sub (ws' := [(h0, .inr (8, [.ref pb, .int pz, .ref psp, .int lps, .int ltl, .ref poc, .ref pof, .int po])), (psp, .inl (p2, 4000, .inl lgs))]) [0, 1] rfl
        have hD9 := hD.sub (ws' := [(h0, .inr (8, [.ref pb, .int pz, .ref psp, .int lps, .int ltl, .ref poc, .ref pof, .int po])), (psp, .inl (p2, 4000, .inl lgs))]) [0, 1] (by decide) rfl
        have hK9 := hK.sub (tys' := [(p2, .byte)]) [0] rfl
        exact W.vret hx hb hr (fun t ht hW => ⟨⟨(lps, ltl, lgs), rfl, ⟨by omega, by omega, by omega⟩, by rw [ht]; exact hP9, va_K.moved hW.alike hK9, hD9⟩, hS.F ht⟩) hS.2.2 dX8_putKind_34
      · have ic_1 : 0 ≤ sh.toInt := zi_nlt c_1
        refine lv_lload_n hx hb dX8_putKind_7 rfl (lv_at hl 2 rfl) ?_
        refine lv_iload_n hx hb dX8_putKind_8 rfl (lv_at hl 0 rfl) ?_
        refine lv_lushr hx hb dX8_putKind_9 rfl ?_
        refine lv_topl (fun x_2 ex_2 => ?_)
        refine lv_l2i hx hb dX8_putKind_10 rfl ?_
        refine lv_topi (fun x_3 ex_3 => ?_)
        refine lv_sipush (v := 255) hx hb dX8_putKind_11 (by decide) ?_
        refine lv_iand hx hb dX8_putKind_14 ?_
        refine lv_topi (fun x_4 ex_4 => ?_)
        refine lv_istore (lv' := [(4, .int x_4), (3, .int sh), (0, .ref h0), (1, .long wo)]) hx hb dX8_putKind_15 hl (by decide) rfl (fun ls hl => ?_)
        refine lv_iload hx hb dX8_putKind_17 (lv_at hl 0 rfl) ?_
        refine lv_if_eq (tgt := 28) hx hb dX8_putKind_19 (by decide) (fun c_5 => ?_) (fun c_5 => ?_)
        · have ic_5 : x_4.toInt = 0 := zi_eq c_5
          obtain ⟨x_6, ex_6⟩ : ∃ y : Int32, y = sh + Int32.ofInt (-8) := ⟨_, rfl⟩
          refine lv_iinc (v := x_6) (lv' := [(3, .int x_6), (4, .int x_4), (0, .ref h0), (1, .long wo)]) hx hb dX8_putKind_28 hl (k := 1) rfl (by rw [ex_6]) (by decide) rfl (fun ls hl => ?_)
          have ix_6 : x_6.toInt = sh.toInt + (-8) := by rw [ex_6]; exact zi_addc (by decide) (by omega) (by omega)
          refine lv_goto (tgt := 3) hx hb dX8_putKind_31 (by decide) ?_
          exact ih x_6 lps ltl lgs _ _ _ (by omega) (by omega) (by omega) (by omega) (by omega) (by omega) (hP.sub [0, 1] rfl) (hD.sub [0, 1] (by decide) rfl) hS (lv_sub hl [0, 2, 3] rfl)
        · have ic_5 : x_4.toInt ≠ 0 := zi_ne c_5
          refine lv_aload_n hx hb dX8_putKind_22 rfl (lv_at hl 2 rfl) ?_
          refine lv_iload hx hb dX8_putKind_23 (lv_at hl 0 rfl) ?_
          have hPc := hP.sub (ws' := [(h0, .inr (8, [.ref pb, .int pz, .ref psp, .int lps, .int ltl, .ref poc, .ref pof, .int po])), (psp, .inl (p2, 4000, .inl lgs))]) [0, 1] rfl
          have hDc := hD.sub (ws' := [(h0, .inr (8, [.ref pb, .int pz, .ref psp, .int lps, .int ltl, .ref poc, .ref pof, .int po])), (psp, .inl (p2, 4000, .inl lgs))]) [0, 1] (by decide) rfl
          have hKc := hK.sub (tys' := [(p2, .byte)]) [0] rfl
          have hFc := va_free (wc := [(h0, .inr (8, [.ref pb, .int pz, .ref psp, .int lps, .int ltl, .ref poc, .ref pof, .int po])), (psp, .inl (p2, 4000, .inl lgs))]) hD hS hAA [0, 1] rfl
          refine va_callv (va_runV (As := [.int x_4]) (rest := []) ⟨hx, hb, hml, hown, hA⟩ (c_X8_put l dC dI aK aV h0 pb psp poc pof pz lps ltl po p2 lgs x_4 H.size (by omega) (by omega) (by omega) (by omega)) (cwV 1 hA (zw_V wi_1308 wi_1310 wi_69 wi_142 (zw_good wi_1311)) rfl rfl rfl (by decide +kernel) ⟨(Nat.le_of_ble_eq_true rfl), (Nat.le_of_ble_eq_true rfl)⟩) ⟨zP_blind, va_recv hKc hPc (ci := 8) (q0 := 0) rfl rfl, zz_pre hKc hPc hDc hN hT hS hFc⟩ rfl rfl hl.1 rfl (lv_room (Nat.le_of_ble_eq_true rfl)) dX8_putKind_25 ⟨(Nat.le_of_ble_eq_true rfl), (Nat.le_of_ble_eq_true rfl)⟩) hS (fun q _ h => hFc q h) hFc (fun u t H1 locs ht hvm hw hB hz1 hk1 hS => ?_)
          obtain ⟨ps_8, tl_9, gsp_10⟩ := u
          obtain ⟨hP1, hK1, hD1⟩ := hB
          rw [ht] at hP1
          have hK1 := va_K.moved hvm.symm hK1
          obtain ⟨hP, hD⟩ := va_join (wr := []) (w1 := [(h0, .inr (8, [.ref pb, .int pz, .ref psp, .int ps_8, .int tl_9, .ref poc, .ref pof, .int po])), (psp, .inl (p2, 4000, .inl gsp_10))]) hP hD [0, 1] [] rfl rfl (by decide) (by decide) hk1 hFc hP1 hD1
          have hK := (hK.sub (tys' := []) [] rfl).app hK1
          generalize H1 = H at hP hS ⊢
          have hP : va_P (dC, dI) vwCl [(h0, .inr (8, [.ref pb, .int pz, .ref psp, .int ps_8, .int tl_9, .ref poc, .ref pof, .int po])), (psp, .inl (p2, 4000, .inl gsp_10))] H := hP
          have hD : va_D A [(h0, .inr (8, [.ref pb, .int pz, .ref psp, .int ps_8, .int tl_9, .ref poc, .ref pof, .int po])), (psp, .inl (p2, 4000, .inl gsp_10))] := hD
          have hK : va_K (dC, dI) vwCl [(p2, .byte)] s := hK
          obtain ⟨hq_11, hq_12, hq_13⟩ := hw
          obtain ⟨x_14, ex_14⟩ : ∃ y : Int32, y = sh + Int32.ofInt (-8) := ⟨_, rfl⟩
          refine lv_iinc (v := x_14) (lv' := [(3, .int x_14), (4, .int x_4), (0, .ref h0), (1, .long wo)]) hx hb dX8_putKind_28 hl (k := 1) rfl (by rw [ex_14]) (by decide) rfl (fun ls hl => ?_)
          have ix_14 : x_14.toInt = sh.toInt + (-8) := by rw [ex_14]; exact zi_addc (by decide) (by omega) (by omega)
          refine lv_goto (tgt := 3) hx hb dX8_putKind_31 (by decide) ?_
          exact ih x_14 ps_8 tl_9 gsp_10 _ _ _ (by omega) (by omega) (by omega) (by omega) (by omega) (by omega) (hP.sub [0, 1] rfl) (hD.sub [0, 1] (by decide) rfl) hS (lv_sub hl [0, 2, 3] rfl)
  exact loop_3 _ 56 ps tl gsp _ _ _ (Nat.le_refl _) (by have h9_0 : Int32.toInt 56 = 56 := (by decide); omega) (by have h9_0 : Int32.toInt 56 = 56 := (by decide); omega) (by have h9_0 : Int32.toInt 56 = 56 := (by decide); omega) (by have h9_0 : Int32.toInt 56 = 56 := (by decide); omega) (by have h9_0 : Int32.toInt 56 = 56 := (by decide); omega) (hP.sub [0, 1] rfl) (hD.sub [0, 1] (by decide) rfl) hS (lv_sub hl [0, 1, 2] rfl)

end
section
theorem wi_585 : Cond.fieldLink RX11 13 "ReuseHouse" "fed" "I" ∈ zw := zw_in (List.mem_of_getElem? (i := 585) (by decide +kernel)) (by decide +kernel)
theorem wi_584 : Cond.fieldLink RX11 9 "ReuseHouse" "tape" "[B" ∈ zw := zw_in (List.mem_of_getElem? (i := 584) (by decide +kernel)) (by decide +kernel)
theorem wi_643 : Cond.code yX11_putFour cX11_putFour 3 none ∈ zw := zw_in (List.mem_of_getElem? (i := 643) (by decide +kernel)) (by decide +kernel)
theorem wi_640 : Cond.methodLink RX11 88 yX11_putFour ∈ zw := zw_in (List.mem_of_getElem? (i := 640) (by decide +kernel)) (by decide +kernel)
theorem wi_642 : Cond.instanceMethod yX11_putFour ∈ zw := zw_in (List.mem_of_getElem? (i := 642) (by decide +kernel)) (by decide +kernel)
theorem wi_0 : Cond.selects RX11 yX11_putFour yX11_putFour ∈ zw := zw_in (List.mem_of_getElem? (i := 0) (by decide +kernel)) (by decide +kernel)
theorem wi_130 : Cond.initialized RX11 ∈ zw := zw_in (List.mem_of_getElem? (i := 130) (by decide +kernel)) (by decide +kernel)
theorem wi_1497 : Cond.fieldLink RX14 105 "ReuseHouseModel" "thrown" "I" ∈ zw := zw_in (List.mem_of_getElem? (i := 1497) (by decide +kernel)) (by decide +kernel)
theorem wi_1500 : Cond.fieldLink RX14 350 "ReuseHouseModel" "taped" "I" ∈ zw := zw_in (List.mem_of_getElem? (i := 1500) (by decide +kernel)) (by decide +kernel)
theorem wi_1499 : Cond.fieldLink RX14 16 "ReuseHouseModel" "tape" "[B" ∈ zw := zw_in (List.mem_of_getElem? (i := 1499) (by decide +kernel)) (by decide +kernel)
theorem dX11_feed_0 : decode cX11_feed 0 = .ok (.aload_n 0, 1) := by decide +kernel
theorem dX11_feed_1 : decode cX11_feed 1 = .ok (.getfield 13, 3) := by decide +kernel
theorem dX11_feed_4 : decode cX11_feed 4 = .ok (.bipush 20, 2) := by decide +kernel
theorem dX11_feed_6 : decode cX11_feed 6 = .ok (.iadd, 1) := by decide +kernel
theorem dX11_feed_7 : decode cX11_feed 7 = .ok (.sipush 2000, 3) := by decide +kernel
theorem dX11_feed_10 : decode cX11_feed 10 = .ok (.if_icmp .le 5, 3) := by decide +kernel
theorem dX11_feed_13 : decode cX11_feed 13 = .ok (.iconst (-1), 1) := by decide +kernel
theorem dX11_feed_14 : decode cX11_feed 14 = .ok (.ireturn, 1) := by decide +kernel
theorem dX11_feed_15 : decode cX11_feed 15 = .ok (.aload_n 0, 1) := by decide +kernel
theorem dX11_feed_16 : decode cX11_feed 16 = .ok (.iload_n 1, 1) := by decide +kernel
theorem dX11_feed_17 : decode cX11_feed 17 = .ok (.invokevirtual 88, 3) := by decide +kernel
theorem dX11_feed_20 : decode cX11_feed 20 = .ok (.aload_n 0, 1) := by decide +kernel
theorem dX11_feed_21 : decode cX11_feed 21 = .ok (.iload_n 2, 1) := by decide +kernel
theorem dX11_feed_22 : decode cX11_feed 22 = .ok (.invokevirtual 88, 3) := by decide +kernel
theorem dX11_feed_25 : decode cX11_feed 25 = .ok (.aload_n 0, 1) := by decide +kernel
theorem dX11_feed_26 : decode cX11_feed 26 = .ok (.iload_n 3, 1) := by decide +kernel
theorem dX11_feed_27 : decode cX11_feed 27 = .ok (.invokevirtual 88, 3) := by decide +kernel
theorem dX11_feed_30 : decode cX11_feed 30 = .ok (.aload_n 0, 1) := by decide +kernel
theorem dX11_feed_31 : decode cX11_feed 31 = .ok (.iload 4, 2) := by decide +kernel
theorem dX11_feed_33 : decode cX11_feed 33 = .ok (.invokevirtual 88, 3) := by decide +kernel
theorem dX11_feed_36 : decode cX11_feed 36 = .ok (.aload_n 0, 1) := by decide +kernel
theorem dX11_feed_37 : decode cX11_feed 37 = .ok (.iload 5, 2) := by decide +kernel
theorem dX11_feed_39 : decode cX11_feed 39 = .ok (.invokevirtual 88, 3) := by decide +kernel
theorem dX11_feed_42 : decode cX11_feed 42 = .ok (.aload_n 0, 1) := by decide +kernel
theorem dX11_feed_43 : decode cX11_feed 43 = .ok (.getfield 13, 3) := by decide +kernel
theorem dX11_feed_46 : decode cX11_feed 46 = .ok (.ireturn, 1) := by decide +kernel
theorem dX11_putFour_0 : decode cX11_putFour 0 = .ok (.bipush 24, 2) := by decide +kernel
theorem dX11_putFour_2 : decode cX11_putFour 2 = .ok (.istore_n 2, 1) := by decide +kernel
theorem dX11_putFour_3 : decode cX11_putFour 3 = .ok (.iload_n 2, 1) := by decide +kernel
theorem dX11_putFour_4 : decode cX11_putFour 4 = .ok (.ifCond .lt 42, 3) := by decide +kernel
theorem dX11_putFour_7 : decode cX11_putFour 7 = .ok (.aload_n 0, 1) := by decide +kernel
theorem dX11_putFour_8 : decode cX11_putFour 8 = .ok (.getfield 13, 3) := by decide +kernel
theorem dX11_putFour_11 : decode cX11_putFour 11 = .ok (.sipush 2000, 3) := by decide +kernel
theorem dX11_putFour_14 : decode cX11_putFour 14 = .ok (.if_icmp .ge 32, 3) := by decide +kernel
theorem dX11_putFour_17 : decode cX11_putFour 17 = .ok (.aload_n 0, 1) := by decide +kernel
theorem dX11_putFour_18 : decode cX11_putFour 18 = .ok (.getfield 9, 3) := by decide +kernel
theorem dX11_putFour_21 : decode cX11_putFour 21 = .ok (.aload_n 0, 1) := by decide +kernel
theorem dX11_putFour_22 : decode cX11_putFour 22 = .ok (.getfield 13, 3) := by decide +kernel
theorem dX11_putFour_25 : decode cX11_putFour 25 = .ok (.iload_n 1, 1) := by decide +kernel
theorem dX11_putFour_26 : decode cX11_putFour 26 = .ok (.iload_n 2, 1) := by decide +kernel
theorem dX11_putFour_27 : decode cX11_putFour 27 = .ok (.iushr, 1) := by decide +kernel
theorem dX11_putFour_28 : decode cX11_putFour 28 = .ok (.i2b, 1) := by decide +kernel
theorem dX11_putFour_29 : decode cX11_putFour 29 = .ok (.bastore, 1) := by decide +kernel
theorem dX11_putFour_30 : decode cX11_putFour 30 = .ok (.aload_n 0, 1) := by decide +kernel
theorem dX11_putFour_31 : decode cX11_putFour 31 = .ok (.dup, 1) := by decide +kernel
theorem dX11_putFour_32 : decode cX11_putFour 32 = .ok (.getfield 13, 3) := by decide +kernel
theorem dX11_putFour_35 : decode cX11_putFour 35 = .ok (.iconst 1, 1) := by decide +kernel
theorem dX11_putFour_36 : decode cX11_putFour 36 = .ok (.iadd, 1) := by decide +kernel
theorem dX11_putFour_37 : decode cX11_putFour 37 = .ok (.putfield 13, 3) := by decide +kernel
theorem dX11_putFour_40 : decode cX11_putFour 40 = .ok (.iinc 2 (-8), 3) := by decide +kernel
theorem dX11_putFour_43 : decode cX11_putFour 43 = .ok (.goto (-40), 3) := by decide +kernel
theorem dX11_putFour_46 : decode cX11_putFour 46 = .ok (.return_, 1) := by decide +kernel
theorem dX14_feed_0 : decode cX14_feed 0 = .ok (.aload_n 0, 1) := by decide +kernel
theorem dX14_feed_1 : decode cX14_feed 1 = .ok (.iconst 0, 1) := by decide +kernel
theorem dX14_feed_2 : decode cX14_feed 2 = .ok (.putfield 105, 3) := by decide +kernel
theorem dX14_feed_5 : decode cX14_feed 5 = .ok (.aload_n 0, 1) := by decide +kernel
theorem dX14_feed_6 : decode cX14_feed 6 = .ok (.getfield 350, 3) := by decide +kernel
theorem dX14_feed_9 : decode cX14_feed 9 = .ok (.bipush 20, 2) := by decide +kernel
theorem dX14_feed_11 : decode cX14_feed 11 = .ok (.iadd, 1) := by decide +kernel
theorem dX14_feed_12 : decode cX14_feed 12 = .ok (.sipush 2000, 3) := by decide +kernel
theorem dX14_feed_15 : decode cX14_feed 15 = .ok (.if_icmp .le 5, 3) := by decide +kernel
theorem dX14_feed_18 : decode cX14_feed 18 = .ok (.iconst (-1), 1) := by decide +kernel
theorem dX14_feed_19 : decode cX14_feed 19 = .ok (.ireturn, 1) := by decide +kernel
theorem dX14_feed_20 : decode cX14_feed 20 = .ok (.iconst 0, 1) := by decide +kernel
theorem dX14_feed_21 : decode cX14_feed 21 = .ok (.istore 6, 2) := by decide +kernel
theorem dX14_feed_23 : decode cX14_feed 23 = .ok (.iload 6, 2) := by decide +kernel
theorem dX14_feed_25 : decode cX14_feed 25 = .ok (.bipush 20, 2) := by decide +kernel
theorem dX14_feed_27 : decode cX14_feed 27 = .ok (.if_icmp .ge 90, 3) := by decide +kernel
theorem dX14_feed_30 : decode cX14_feed 30 = .ok (.iload 6, 2) := by decide +kernel
theorem dX14_feed_32 : decode cX14_feed 32 = .ok (.iconst 4, 1) := by decide +kernel
theorem dX14_feed_33 : decode cX14_feed 33 = .ok (.if_icmp .ge 7, 3) := by decide +kernel
theorem dX14_feed_36 : decode cX14_feed 36 = .ok (.iload_n 1, 1) := by decide +kernel
theorem dX14_feed_37 : decode cX14_feed 37 = .ok (.goto 39, 3) := by decide +kernel
theorem dX14_feed_40 : decode cX14_feed 40 = .ok (.iload 6, 2) := by decide +kernel
theorem dX14_feed_42 : decode cX14_feed 42 = .ok (.bipush 8, 2) := by decide +kernel
theorem dX14_feed_44 : decode cX14_feed 44 = .ok (.if_icmp .ge 7, 3) := by decide +kernel
theorem dX14_feed_47 : decode cX14_feed 47 = .ok (.iload_n 2, 1) := by decide +kernel
theorem dX14_feed_48 : decode cX14_feed 48 = .ok (.goto 28, 3) := by decide +kernel
theorem dX14_feed_51 : decode cX14_feed 51 = .ok (.iload 6, 2) := by decide +kernel
theorem dX14_feed_53 : decode cX14_feed 53 = .ok (.bipush 12, 2) := by decide +kernel
theorem dX14_feed_55 : decode cX14_feed 55 = .ok (.if_icmp .ge 7, 3) := by decide +kernel
theorem dX14_feed_58 : decode cX14_feed 58 = .ok (.iload_n 3, 1) := by decide +kernel
theorem dX14_feed_59 : decode cX14_feed 59 = .ok (.goto 17, 3) := by decide +kernel
theorem dX14_feed_62 : decode cX14_feed 62 = .ok (.iload 6, 2) := by decide +kernel
theorem dX14_feed_64 : decode cX14_feed 64 = .ok (.bipush 16, 2) := by decide +kernel
theorem dX14_feed_66 : decode cX14_feed 66 = .ok (.if_icmp .ge 8, 3) := by decide +kernel
theorem dX14_feed_69 : decode cX14_feed 69 = .ok (.iload 4, 2) := by decide +kernel
theorem dX14_feed_71 : decode cX14_feed 71 = .ok (.goto 5, 3) := by decide +kernel
theorem dX14_feed_74 : decode cX14_feed 74 = .ok (.iload 5, 2) := by decide +kernel
theorem dX14_feed_76 : decode cX14_feed 76 = .ok (.istore 7, 2) := by decide +kernel
theorem dX14_feed_78 : decode cX14_feed 78 = .ok (.aload_n 0, 1) := by decide +kernel
theorem dX14_feed_79 : decode cX14_feed 79 = .ok (.getfield 16, 3) := by decide +kernel
theorem dX14_feed_82 : decode cX14_feed 82 = .ok (.aload_n 0, 1) := by decide +kernel
theorem dX14_feed_83 : decode cX14_feed 83 = .ok (.getfield 350, 3) := by decide +kernel
theorem dX14_feed_86 : decode cX14_feed 86 = .ok (.iload 7, 2) := by decide +kernel
theorem dX14_feed_88 : decode cX14_feed 88 = .ok (.bipush 24, 2) := by decide +kernel
theorem dX14_feed_90 : decode cX14_feed 90 = .ok (.bipush 8, 2) := by decide +kernel
theorem dX14_feed_92 : decode cX14_feed 92 = .ok (.iload 6, 2) := by decide +kernel
theorem dX14_feed_94 : decode cX14_feed 94 = .ok (.iconst 4, 1) := by decide +kernel
theorem dX14_feed_95 : decode cX14_feed 95 = .ok (.irem, 1) := by decide +kernel
theorem dX14_feed_96 : decode cX14_feed 96 = .ok (.imul, 1) := by decide +kernel
theorem dX14_feed_97 : decode cX14_feed 97 = .ok (.isub, 1) := by decide +kernel
theorem dX14_feed_98 : decode cX14_feed 98 = .ok (.ishr, 1) := by decide +kernel
theorem dX14_feed_99 : decode cX14_feed 99 = .ok (.i2b, 1) := by decide +kernel
theorem dX14_feed_100 : decode cX14_feed 100 = .ok (.bastore, 1) := by decide +kernel
theorem dX14_feed_101 : decode cX14_feed 101 = .ok (.aload_n 0, 1) := by decide +kernel
theorem dX14_feed_102 : decode cX14_feed 102 = .ok (.dup, 1) := by decide +kernel
theorem dX14_feed_103 : decode cX14_feed 103 = .ok (.getfield 350, 3) := by decide +kernel
theorem dX14_feed_106 : decode cX14_feed 106 = .ok (.iconst 1, 1) := by decide +kernel
theorem dX14_feed_107 : decode cX14_feed 107 = .ok (.iadd, 1) := by decide +kernel
theorem dX14_feed_108 : decode cX14_feed 108 = .ok (.putfield 350, 3) := by decide +kernel
theorem dX14_feed_111 : decode cX14_feed 111 = .ok (.iinc 6 1, 3) := by decide +kernel
theorem dX14_feed_114 : decode cX14_feed 114 = .ok (.goto (-91), 3) := by decide +kernel
theorem dX14_feed_117 : decode cX14_feed 117 = .ok (.aload_n 0, 1) := by decide +kernel
theorem dX14_feed_118 : decode cX14_feed 118 = .ok (.getfield 350, 3) := by decide +kernel
theorem dX14_feed_121 : decode cX14_feed 121 = .ok (.ireturn, 1) := by decide +kernel

end
section
theorem wi_1920 : Cond.constantLong RX14 379 (2) ∈ zw := zw_in (List.mem_of_getElem? (i := 1920) (by decide +kernel)) (by decide +kernel)
theorem wi_1896 : Cond.constantLong RX14 381 (4294967295) ∈ zw := zw_in (List.mem_of_getElem? (i := 1896) (by decide +kernel)) (by decide +kernel)
theorem wi_1514 : Cond.fieldLink RX14 353 "ReuseHouseModel" "fault" "I" ∈ zw := zw_in (List.mem_of_getElem? (i := 1514) (by decide +kernel)) (by decide +kernel)
theorem wi_592 : Cond.fieldLink RX11 59 "ReuseHouse" "faultNumber" "I" ∈ zw := zw_in (List.mem_of_getElem? (i := 592) (by decide +kernel)) (by decide +kernel)
theorem wi_1515 : Cond.fieldLink RX14 34 "ReuseHouseModel" "where" "I" ∈ zw := zw_in (List.mem_of_getElem? (i := 1515) (by decide +kernel)) (by decide +kernel)
theorem wi_593 : Cond.fieldLink RX11 62 "ReuseHouse" "stopPlace" "I" ∈ zw := zw_in (List.mem_of_getElem? (i := 593) (by decide +kernel)) (by decide +kernel)
theorem wi_1501 : Cond.fieldLink RX14 114 "ReuseHouseModel" "length" "I" ∈ zw := zw_in (List.mem_of_getElem? (i := 1501) (by decide +kernel)) (by decide +kernel)
theorem dX11_fault_0 : decode cX11_fault 0 = .ok (.aload_n 0, 1) := by decide +kernel
theorem dX11_fault_1 : decode cX11_fault 1 = .ok (.getfield 59, 3) := by decide +kernel
theorem dX11_fault_4 : decode cX11_fault 4 = .ok (.ireturn, 1) := by decide +kernel
theorem dX11_where_0 : decode cX11_where 0 = .ok (.aload_n 0, 1) := by decide +kernel
theorem dX11_where_1 : decode cX11_where 1 = .ok (.getfield 62, 3) := by decide +kernel
theorem dX11_where_4 : decode cX11_where 4 = .ok (.ireturn, 1) := by decide +kernel
theorem dX14_bit_0 : decode cX14_bit 0 = .ok (.iconst 1, 1) := by decide +kernel
theorem dX14_bit_1 : decode cX14_bit 1 = .ok (.iload_n 0, 1) := by decide +kernel
theorem dX14_bit_2 : decode cX14_bit 2 = .ok (.ishl, 1) := by decide +kernel
theorem dX14_bit_3 : decode cX14_bit 3 = .ok (.ireturn, 1) := by decide +kernel
theorem dX14_byteAt_0 : decode cX14_byteAt 0 = .ok (.iload_n 1, 1) := by decide +kernel
theorem dX14_byteAt_1 : decode cX14_byteAt 1 = .ok (.aload_n 0, 1) := by decide +kernel
theorem dX14_byteAt_2 : decode cX14_byteAt 2 = .ok (.getfield 114, 3) := by decide +kernel
theorem dX14_byteAt_5 : decode cX14_byteAt 5 = .ok (.if_icmp .ge 16, 3) := by decide +kernel
theorem dX14_byteAt_8 : decode cX14_byteAt 8 = .ok (.aload_n 0, 1) := by decide +kernel
theorem dX14_byteAt_9 : decode cX14_byteAt 9 = .ok (.getfield 16, 3) := by decide +kernel
theorem dX14_byteAt_12 : decode cX14_byteAt 12 = .ok (.iload_n 1, 1) := by decide +kernel
theorem dX14_byteAt_13 : decode cX14_byteAt 13 = .ok (.baload, 1) := by decide +kernel
theorem dX14_byteAt_14 : decode cX14_byteAt 14 = .ok (.sipush 255, 3) := by decide +kernel
theorem dX14_byteAt_17 : decode cX14_byteAt 17 = .ok (.iand, 1) := by decide +kernel
theorem dX14_byteAt_18 : decode cX14_byteAt 18 = .ok (.goto 4, 3) := by decide +kernel
theorem dX14_byteAt_21 : decode cX14_byteAt 21 = .ok (.iconst (-1), 1) := by decide +kernel
theorem dX14_byteAt_22 : decode cX14_byteAt 22 = .ok (.ireturn, 1) := by decide +kernel
theorem dX14_fault_0 : decode cX14_fault 0 = .ok (.aload_n 0, 1) := by decide +kernel
theorem dX14_fault_1 : decode cX14_fault 1 = .ok (.iconst 0, 1) := by decide +kernel
theorem dX14_fault_2 : decode cX14_fault 2 = .ok (.putfield 105, 3) := by decide +kernel
theorem dX14_fault_5 : decode cX14_fault 5 = .ok (.aload_n 0, 1) := by decide +kernel
theorem dX14_fault_6 : decode cX14_fault 6 = .ok (.getfield 353, 3) := by decide +kernel
theorem dX14_fault_9 : decode cX14_fault 9 = .ok (.ireturn, 1) := by decide +kernel
theorem dX14_isCell_0 : decode cX14_isCell 0 = .ok (.lload_n 0, 1) := by decide +kernel
theorem dX14_isCell_1 : decode cX14_isCell 1 = .ok (.bipush 32, 2) := by decide +kernel
theorem dX14_isCell_3 : decode cX14_isCell 3 = .ok (.lshr, 1) := by decide +kernel
theorem dX14_isCell_4 : decode cX14_isCell 4 = .ok (.ldc2_w 379, 3) := by decide +kernel
theorem dX14_isCell_7 : decode cX14_isCell 7 = .ok (.lcmp, 1) := by decide +kernel
theorem dX14_isCell_8 : decode cX14_isCell 8 = .ok (.ifCond .ne 7, 3) := by decide +kernel
theorem dX14_isCell_11 : decode cX14_isCell 11 = .ok (.iconst 1, 1) := by decide +kernel
theorem dX14_isCell_12 : decode cX14_isCell 12 = .ok (.goto 4, 3) := by decide +kernel
theorem dX14_isCell_15 : decode cX14_isCell 15 = .ok (.iconst 0, 1) := by decide +kernel
theorem dX14_isCell_16 : decode cX14_isCell 16 = .ok (.ireturn, 1) := by decide +kernel
theorem dX14_isDigit_0 : decode cX14_isDigit 0 = .ok (.iload_n 0, 1) := by decide +kernel
theorem dX14_isDigit_1 : decode cX14_isDigit 1 = .ok (.bipush 48, 2) := by decide +kernel
theorem dX14_isDigit_3 : decode cX14_isDigit 3 = .ok (.if_icmp .lt 13, 3) := by decide +kernel
theorem dX14_isDigit_6 : decode cX14_isDigit 6 = .ok (.iload_n 0, 1) := by decide +kernel
theorem dX14_isDigit_7 : decode cX14_isDigit 7 = .ok (.bipush 57, 2) := by decide +kernel
theorem dX14_isDigit_9 : decode cX14_isDigit 9 = .ok (.if_icmp .gt 7, 3) := by decide +kernel
theorem dX14_isDigit_12 : decode cX14_isDigit 12 = .ok (.iconst 1, 1) := by decide +kernel
theorem dX14_isDigit_13 : decode cX14_isDigit 13 = .ok (.goto 4, 3) := by decide +kernel
theorem dX14_isDigit_16 : decode cX14_isDigit 16 = .ok (.iconst 0, 1) := by decide +kernel
theorem dX14_isDigit_17 : decode cX14_isDigit 17 = .ok (.ireturn, 1) := by decide +kernel
theorem dX14_isGreat_0 : decode cX14_isGreat 0 = .ok (.iload_n 0, 1) := by decide +kernel
theorem dX14_isGreat_1 : decode cX14_isGreat 1 = .ok (.bipush 65, 2) := by decide +kernel
theorem dX14_isGreat_3 : decode cX14_isGreat 3 = .ok (.if_icmp .lt 13, 3) := by decide +kernel
theorem dX14_isGreat_6 : decode cX14_isGreat 6 = .ok (.iload_n 0, 1) := by decide +kernel
theorem dX14_isGreat_7 : decode cX14_isGreat 7 = .ok (.bipush 90, 2) := by decide +kernel
theorem dX14_isGreat_9 : decode cX14_isGreat 9 = .ok (.if_icmp .gt 7, 3) := by decide +kernel
theorem dX14_isGreat_12 : decode cX14_isGreat 12 = .ok (.iconst 1, 1) := by decide +kernel
theorem dX14_isGreat_13 : decode cX14_isGreat 13 = .ok (.goto 4, 3) := by decide +kernel
theorem dX14_isGreat_16 : decode cX14_isGreat 16 = .ok (.iconst 0, 1) := by decide +kernel
theorem dX14_isGreat_17 : decode cX14_isGreat 17 = .ok (.ireturn, 1) := by decide +kernel
theorem dX14_isInt_0 : decode cX14_isInt 0 = .ok (.lload_n 0, 1) := by decide +kernel
theorem dX14_isInt_1 : decode cX14_isInt 1 = .ok (.bipush 32, 2) := by decide +kernel
theorem dX14_isInt_3 : decode cX14_isInt 3 = .ok (.lshr, 1) := by decide +kernel
theorem dX14_isInt_4 : decode cX14_isInt 4 = .ok (.lconst 0, 1) := by decide +kernel
theorem dX14_isInt_5 : decode cX14_isInt 5 = .ok (.lcmp, 1) := by decide +kernel
theorem dX14_isInt_6 : decode cX14_isInt 6 = .ok (.ifCond .ne 7, 3) := by decide +kernel
theorem dX14_isInt_9 : decode cX14_isInt 9 = .ok (.iconst 1, 1) := by decide +kernel
theorem dX14_isInt_10 : decode cX14_isInt 10 = .ok (.goto 4, 3) := by decide +kernel
theorem dX14_isInt_13 : decode cX14_isInt 13 = .ok (.iconst 0, 1) := by decide +kernel
theorem dX14_isInt_14 : decode cX14_isInt 14 = .ok (.ireturn, 1) := by decide +kernel
theorem dX14_isSmall_0 : decode cX14_isSmall 0 = .ok (.iload_n 0, 1) := by decide +kernel
theorem dX14_isSmall_1 : decode cX14_isSmall 1 = .ok (.bipush 97, 2) := by decide +kernel
theorem dX14_isSmall_3 : decode cX14_isSmall 3 = .ok (.if_icmp .lt 13, 3) := by decide +kernel
theorem dX14_isSmall_6 : decode cX14_isSmall 6 = .ok (.iload_n 0, 1) := by decide +kernel
theorem dX14_isSmall_7 : decode cX14_isSmall 7 = .ok (.bipush 122, 2) := by decide +kernel
theorem dX14_isSmall_9 : decode cX14_isSmall 9 = .ok (.if_icmp .gt 7, 3) := by decide +kernel
theorem dX14_isSmall_12 : decode cX14_isSmall 12 = .ok (.iconst 1, 1) := by decide +kernel
theorem dX14_isSmall_13 : decode cX14_isSmall 13 = .ok (.goto 4, 3) := by decide +kernel
theorem dX14_isSmall_16 : decode cX14_isSmall 16 = .ok (.iconst 0, 1) := by decide +kernel
theorem dX14_isSmall_17 : decode cX14_isSmall 17 = .ok (.ireturn, 1) := by decide +kernel
theorem dX14_ofInt_0 : decode cX14_ofInt 0 = .ok (.iload_n 0, 1) := by decide +kernel
theorem dX14_ofInt_1 : decode cX14_ofInt 1 = .ok (.i2l, 1) := by decide +kernel
theorem dX14_ofInt_2 : decode cX14_ofInt 2 = .ok (.ldc2_w 381, 3) := by decide +kernel
theorem dX14_ofInt_5 : decode cX14_ofInt 5 = .ok (.land, 1) := by decide +kernel
theorem dX14_ofInt_6 : decode cX14_ofInt 6 = .ok (.lreturn, 1) := by decide +kernel
theorem dX14_where_0 : decode cX14_where 0 = .ok (.aload_n 0, 1) := by decide +kernel
theorem dX14_where_1 : decode cX14_where 1 = .ok (.iconst 0, 1) := by decide +kernel
theorem dX14_where_2 : decode cX14_where 2 = .ok (.putfield 105, 3) := by decide +kernel
theorem dX14_where_5 : decode cX14_where 5 = .ok (.aload_n 0, 1) := by decide +kernel
theorem dX14_where_6 : decode cX14_where 6 = .ok (.getfield 34, 3) := by decide +kernel
theorem dX14_where_9 : decode cX14_where 9 = .ok (.ireturn, 1) := by decide +kernel
set_option maxHeartbeats 4000000 in
set_option maxRecDepth 100000 in
theorem c_X14_fault (l : Launch) (dC : Nat → ClassId) (dI : Nat → Nat → Nat) (aK aV : Nat → Nat) (h0 : Nat) (m_thrown : Int32) (m_stop : Nat) (m_tape : Nat) (m_taped : Int32) (m_length : Int32) (m_at : Int32) (m_sort : Int32) (m_place : Int32) (m_sign : Int32) (m_letters : Int64) (m_p : Nat) (m_spare : Nat) (m_isTaken : Int32) (m_scope : Nat) (m_scoped : Int32) (m_deep : Int32) (m_counted : Int32) (m_fault : Int32) (m_where : Int32) (m_cellKind : Nat) (m_cellCount : Nat) (m_free : Nat) (m_pile : Nat) (m_cellField : Nat) (m_freeCount : Int32) (m_given : Int32) (m_nextPlain : Int32) (m_otherKind : Nat) (m_otherField : Nat) (m_isPlain : Int32) (m_hasRun : Int32) (m_hasValue : Int32) (m_hasOther : Int32) (m_value : Int64) (m_other : Int64) (m_steps : Int32) (m_made : Int32) (m_reused : Int32) (m_freed : Int32) (m_most : Int32) (m_doubled : Int32) (m_openMost : Int32) (m_taskWhat : Nat) (m_taskPart : Nat) (m_values : Nat) (m_tasks : Int32) (m_valued : Int32) (m_open : Int32) (m_slots : Nat) (m_present : Nat) (m_shell : Nat) (m_shellArm : Nat) (m_shellCall : Nat) (m_shells : Int32) (m_keptCounts : Nat) (m_asideKind : Nat) (m_asideCount : Nat) (m_asideField : Nat) (m_out : Nat) (m_side : Nat) (m_outs : Int32) (m_sides : Int32) (m_saying : Nat) (sz : Nat)  : Met l yX14_fault (Cond.code yX14_fault cX14_fault 1 (some .int) :: zw) ({ frames := 8, cells := 0, slots := 0, locals := 200 }) (va_Pc [.ref h0] (zP dC dI aK aV sz [] [(h0, .inr (14, [.int m_thrown, .ref m_stop, .ref m_tape, .int m_taped, .int m_length, .int m_at, .int m_sort, .int m_place, .int m_sign, .long m_letters, .ref m_p, .ref m_spare, .int m_isTaken, .ref m_scope, .int m_scoped, .int m_deep, .int m_counted, .int m_fault, .int m_where, .ref m_cellKind, .ref m_cellCount, .ref m_free, .ref m_pile, .ref m_cellField, .int m_freeCount, .int m_given, .int m_nextPlain, .ref m_otherKind, .ref m_otherField, .int m_isPlain, .int m_hasRun, .int m_hasValue, .int m_hasOther, .long m_value, .long m_other, .int m_steps, .int m_made, .int m_reused, .int m_freed, .int m_most, .int m_doubled, .int m_openMost, .ref m_taskWhat, .ref m_taskPart, .ref m_values, .int m_tasks, .int m_valued, .int m_open, .ref m_slots, .ref m_present, .ref m_shell, .ref m_shellArm, .ref m_shellCall, .int m_shells, .ref m_keptCounts, .ref m_asideKind, .ref m_asideCount, .ref m_asideField, .ref m_out, .ref m_side, .int m_outs, .int m_sides, .ref m_saying]))])) (va_Qi (fun (r : Int32) (u : Unit) => (r = m_fault)) (fun u => zQ dC dI (va_A [(h0, .inr (14, [.int m_thrown, .ref m_stop, .ref m_tape, .int m_taped, .int m_length, .int m_at, .int m_sort, .int m_place, .int m_sign, .long m_letters, .ref m_p, .ref m_spare, .int m_isTaken, .ref m_scope, .int m_scoped, .int m_deep, .int m_counted, .int m_fault, .int m_where, .ref m_cellKind, .ref m_cellCount, .ref m_free, .ref m_pile, .ref m_cellField, .int m_freeCount, .int m_given, .int m_nextPlain, .ref m_otherKind, .ref m_otherField, .int m_isPlain, .int m_hasRun, .int m_hasValue, .int m_hasOther, .long m_value, .long m_other, .int m_steps, .int m_made, .int m_reused, .int m_freed, .int m_most, .int m_doubled, .int m_openMost, .ref m_taskWhat, .ref m_taskPart, .ref m_values, .int m_tasks, .int m_valued, .int m_open, .ref m_slots, .ref m_present, .ref m_shell, .ref m_shellArm, .ref m_shellCall, .int m_shells, .ref m_keptCounts, .ref m_asideKind, .ref m_asideCount, .ref m_asideField, .ref m_out, .ref m_side, .int m_outs, .int m_sides, .ref m_saying]))] sz) [] [(h0, .inr (14, [.int 0, .ref m_stop, .ref m_tape, .int m_taped, .int m_length, .int m_at, .int m_sort, .int m_place, .int m_sign, .long m_letters, .ref m_p, .ref m_spare, .int m_isTaken, .ref m_scope, .int m_scoped, .int m_deep, .int m_counted, .int m_fault, .int m_where, .ref m_cellKind, .ref m_cellCount, .ref m_free, .ref m_pile, .ref m_cellField, .int m_freeCount, .int m_given, .int m_nextPlain, .ref m_otherKind, .ref m_otherField, .int m_isPlain, .int m_hasRun, .int m_hasValue, .int m_hasOther, .long m_value, .long m_other, .int m_steps, .int m_made, .int m_reused, .int m_freed, .int m_most, .int m_doubled, .int m_openMost, .ref m_taskWhat, .ref m_taskPart, .ref m_values, .int m_tasks, .int m_valued, .int m_open, .ref m_slots, .ref m_present, .ref m_shell, .ref m_shellArm, .ref m_shellCall, .int m_shells, .ref m_keptCounts, .ref m_asideKind, .ref m_asideCount, .ref m_asideField, .ref m_out, .ref m_side, .int m_outs, .int m_sides, .ref m_saying]))]) (va_A [(h0, .inr (14, [.int m_thrown, .ref m_stop, .ref m_tape, .int m_taped, .int m_length, .int m_at, .int m_sort, .int m_place, .int m_sign, .long m_letters, .ref m_p, .ref m_spare, .int m_isTaken, .ref m_scope, .int m_scoped, .int m_deep, .int m_counted, .int m_fault, .int m_where, .ref m_cellKind, .ref m_cellCount, .ref m_free, .ref m_pile, .ref m_cellField, .int m_freeCount, .int m_given, .int m_nextPlain, .ref m_otherKind, .ref m_otherField, .int m_isPlain, .int m_hasRun, .int m_hasValue, .int m_hasOther, .long m_value, .long m_other, .int m_steps, .int m_made, .int m_reused, .int m_freed, .int m_most, .int m_doubled, .int m_openMost, .ref m_taskWhat, .ref m_taskPart, .ref m_values, .int m_tasks, .int m_valued, .int m_open, .ref m_slots, .ref m_present, .ref m_shell, .ref m_shellArm, .ref m_shellCall, .int m_shells, .ref m_keptCounts, .ref m_asideKind, .ref m_asideCount, .ref m_asideField, .ref m_out, .ref m_side, .int m_outs, .int m_sides, .ref m_saying]))] sz)) 0 0 (va_A [(h0, .inr (14, [.int m_thrown, .ref m_stop, .ref m_tape, .int m_taped, .int m_length, .int m_at, .int m_sort, .int m_place, .int m_sign, .long m_letters, .ref m_p, .ref m_spare, .int m_isTaken, .ref m_scope, .int m_scoped, .int m_deep, .int m_counted, .int m_fault, .int m_where, .ref m_cellKind, .ref m_cellCount, .ref m_free, .ref m_pile, .ref m_cellField, .int m_freeCount, .int m_given, .int m_nextPlain, .ref m_otherKind, .ref m_otherField, .int m_isPlain, .int m_hasRun, .int m_hasValue, .int m_hasOther, .long m_value, .long m_other, .int m_steps, .int m_made, .int m_reused, .int m_freed, .int m_most, .int m_doubled, .int m_openMost, .ref m_taskWhat, .ref m_taskPart, .ref m_values, .int m_tasks, .int m_valued, .int m_open, .ref m_slots, .ref m_present, .ref m_shell, .ref m_shellArm, .ref m_shellCall, .int m_shells, .ref m_keptCounts, .ref m_asideKind, .ref m_asideCount, .ref m_asideField, .ref m_out, .ref m_side, .int m_outs, .int m_sides, .ref m_saying]))] sz) := by
  refine Met.ofW (cc := cX14_fault) (maxL := 1) (ret := (some .int)) (by decide) rfl ?_
  intro p e s m args below meth c s₁ B hml hv
  obtain ⟨rfl, hsz, hP, hK, hD0, hN, hT⟩ := hv
  have hx := B.exec
  have hb := B.bytes
  have hr := B.returns
  have hts := atoms_spec (ws := Cond.code yX14_fault cX14_fault 1 (some .int) :: zw) B.pre
  have hA : ∀ w ∈ zw, w.before _ s = true := fun w h => hts w (List.mem_cons_of_mem _ h)
  have hown : s.vm.findClass RX14 = some m.cls := findClass_of_methodNamed B.named
  have hlocks := B.notSynchronized
  subst hsz
  have hD := hD0.self (sz := s.heap.size)
  generalize hAe : va_A [(h0, .inr (14, [.int m_thrown, .ref m_stop, .ref m_tape, .int m_taped, .int m_length, .int m_at, .int m_sort, .int m_place, .int m_sign, .long m_letters, .ref m_p, .ref m_spare, .int m_isTaken, .ref m_scope, .int m_scoped, .int m_deep, .int m_counted, .int m_fault, .int m_where, .ref m_cellKind, .ref m_cellCount, .ref m_free, .ref m_pile, .ref m_cellField, .int m_freeCount, .int m_given, .int m_nextPlain, .ref m_otherKind, .ref m_otherField, .int m_isPlain, .int m_hasRun, .int m_hasValue, .int m_hasOther, .long m_value, .long m_other, .int m_steps, .int m_made, .int m_reused, .int m_freed, .int m_most, .int m_doubled, .int m_openMost, .ref m_taskWhat, .ref m_taskPart, .ref m_values, .int m_tasks, .int m_valued, .int m_open, .ref m_slots, .ref m_present, .ref m_shell, .ref m_shellArm, .ref m_shellCall, .int m_shells, .ref m_keptCounts, .ref m_asideKind, .ref m_asideCount, .ref m_asideField, .ref m_out, .ref m_side, .int m_outs, .int m_sides, .ref m_saying]))] s.heap.size = A at hD hT ⊢
  have hAA : ∀ q : Nat, s.heap.size ≤ q → A q := fun q h => by rw [← hAe]; exact Or.inr h
  have hS : va_S A s.heap s.heap [] := va_S.rf
  have hl := lv_entry ([.ref h0]) (n := 1) (Nat.le_of_ble_eq_true rfl)
  rw [lg_entry_eq]
  generalize (lg_sl ([.ref h0]) ++ List.replicate (1 - (lg_sl ([.ref h0])).length) Slot.unset).toArray = ls at hl ⊢
  have hl : lv_has ls 1 [(0, .ref h0)] := hl
  refine lv_aload_n hx hb dX14_fault_0 rfl (lv_at hl 0 rfl) ?_
  refine lv_iconst (v := 0) hx hb dX14_fault_1 (by decide) ?_
  refine va_put (D := (dC, dI)) (ci := 14) (v := .int 0) (ty := .int) (C := RX14) (T := TX14) (N := 63) hx hb hA zin_X14 tyX14 tyX14_ok nmX14 hown hK hP hD hS 0 rfl rfl 0 (by decide) (hA _ wi_1497) (fun _ h9 => h9) rfl (by decide +kernel) rfl rfl (Nat.le_of_ble_eq_true rfl) dX14_fault_2 (fun H locs hP hD hS => ?_)
  have hP : va_P (dC, dI) vwCl [(h0, .inr (14, [.int 0, .ref m_stop, .ref m_tape, .int m_taped, .int m_length, .int m_at, .int m_sort, .int m_place, .int m_sign, .long m_letters, .ref m_p, .ref m_spare, .int m_isTaken, .ref m_scope, .int m_scoped, .int m_deep, .int m_counted, .int m_fault, .int m_where, .ref m_cellKind, .ref m_cellCount, .ref m_free, .ref m_pile, .ref m_cellField, .int m_freeCount, .int m_given, .int m_nextPlain, .ref m_otherKind, .ref m_otherField, .int m_isPlain, .int m_hasRun, .int m_hasValue, .int m_hasOther, .long m_value, .long m_other, .int m_steps, .int m_made, .int m_reused, .int m_freed, .int m_most, .int m_doubled, .int m_openMost, .ref m_taskWhat, .ref m_taskPart, .ref m_values, .int m_tasks, .int m_valued, .int m_open, .ref m_slots, .ref m_present, .ref m_shell, .ref m_shellArm, .ref m_shellCall, .int m_shells, .ref m_keptCounts, .ref m_asideKind, .ref m_asideCount, .ref m_asideField, .ref m_out, .ref m_side, .int m_outs, .int m_sides, .ref m_saying]))] H := hP
  have hD : va_D A [(h0, .inr (14, [.int 0, .ref m_stop, .ref m_tape, .int m_taped, .int m_length, .int m_at, .int m_sort, .int m_place, .int m_sign, .long m_letters, .ref m_p, .ref m_spare, .int m_isTaken, .ref m_scope, .int m_scoped, .int m_deep, .int m_counted, .int m_fault, .int m_where, .ref m_cellKind, .ref m_cellCount, .ref m_free, .ref m_pile, .ref m_cellField, .int m_freeCount, .int m_given, .int m_nextPlain, .ref m_otherKind, .ref m_otherField, .int m_isPlain, .int m_hasRun, .int m_hasValue, .int m_hasOther, .long m_value, .long m_other, .int m_steps, .int m_made, .int m_reused, .int m_freed, .int m_most, .int m_doubled, .int m_openMost, .ref m_taskWhat, .ref m_taskPart, .ref m_values, .int m_tasks, .int m_valued, .int m_open, .ref m_slots, .ref m_present, .ref m_shell, .ref m_shellArm, .ref m_shellCall, .int m_shells, .ref m_keptCounts, .ref m_asideKind, .ref m_asideCount, .ref m_asideField, .ref m_out, .ref m_side, .int m_outs, .int m_sides, .ref m_saying]))] := hD
  refine lv_aload_n hx hb dX14_fault_5 rfl (lv_at hl 0 rfl) ?_
  refine va_get (D := (dC, dI)) (ci := 14) (v := .int m_fault) (C := RX14) (T := TX14) (N := 63) hx hb hA zin_X14 hown hK hP 0 rfl rfl 17 (by decide) (hA _ wi_1514) (fun _ h9 => h9) rfl dX14_fault_6 ?_
  have hP9 := hP.sub (ws' := [(h0, .inr (14, [.int 0, .ref m_stop, .ref m_tape, .int m_taped, .int m_length, .int m_at, .int m_sort, .int m_place, .int m_sign, .long m_letters, .ref m_p, .ref m_spare, .int m_isTaken, .ref m_scope, .int m_scoped, .int m_deep, .int m_counted, .int m_fault, .int m_where, .ref m_cellKind, .ref m_cellCount, .ref m_free, .ref m_pile, .ref m_cellField, .int m_freeCount, .int m_given, .int m_nextPlain, .ref m_otherKind, .ref m_otherField, .int m_isPlain, .int m_hasRun, .int m_hasValue, .int m_hasOther, .long m_value, .long m_other, .int m_steps, .int m_made, .int m_reused, .int m_freed, .int m_most, .int m_doubled, .int m_openMost, .ref m_taskWhat, .ref m_taskPart, .ref m_values, .int m_tasks, .int m_valued, .int m_open, .ref m_slots, .ref m_present, .ref m_shell, .ref m_shellArm, .ref m_shellCall, .int m_shells, .ref m_keptCounts, .ref m_asideKind, .ref m_asideCount, .ref m_asideField, .ref m_out, .ref m_side, .int m_outs, .int m_sides, .ref m_saying]))]) [0] rfl
  have hD9 := hD.sub (ws' := [(h0, .inr (14, [.int 0, .ref m_stop, .ref m_tape, .int m_taped, .int m_length, .int m_at, .int m_sort, .int m_place, .int m_sign, .long m_letters, .ref m_p, .ref m_spare, .int m_isTaken, .ref m_scope, .int m_scoped, .int m_deep, .int m_counted, .int m_fault, .int m_where, .ref m_cellKind, .ref m_cellCount, .ref m_free, .ref m_pile, .ref m_cellField, .int m_freeCount, .int m_given, .int m_nextPlain, .ref m_otherKind, .ref m_otherField, .int m_isPlain, .int m_hasRun, .int m_hasValue, .int m_hasOther, .long m_value, .long m_other, .int m_steps, .int m_made, .int m_reused, .int m_freed, .int m_most, .int m_doubled, .int m_openMost, .ref m_taskWhat, .ref m_taskPart, .ref m_values, .int m_tasks, .int m_valued, .int m_open, .ref m_slots, .ref m_present, .ref m_shell, .ref m_shellArm, .ref m_shellCall, .int m_shells, .ref m_keptCounts, .ref m_asideKind, .ref m_asideCount, .ref m_asideField, .ref m_out, .ref m_side, .int m_outs, .int m_sides, .ref m_saying]))]) [0] (by decide) rfl
  have hK9 := hK.sub (tys' := []) [] rfl
  exact W.iret (v := m_fault) hx hb hr (fun t ht hW => ⟨⟨m_fault, (), rfl, rfl, by rw [ht]; exact hP9, va_K.moved hW.alike hK9, hD9⟩, hS.F ht⟩) hS.2.2 dX14_fault_9
set_option maxHeartbeats 4000000 in
set_option maxRecDepth 100000 in
theorem c_X11_fault (l : Launch) (dC : Nat → ClassId) (dI : Nat → Nat → Nat) (aK aV : Nat → Nat) (h0 : Nat) (h_tape : Nat) (h_fed : Int32) (h_taken : Nat) (h_parser : Nat) (h_machine : Nat) (h_countedCells : Nat) (h_plainCells : Nat) (h_printer : Nat) (h_faultNumber : Int32) (h_stopPlace : Int32) (h_wasRun : Int32) (h_runSteps : Int32) (h_runCalls : Int32) (h_hasValue : Int32) (h_value : Int64) (h_hasOther : Int32) (h_otherValue : Int64) (sz : Nat)  : Met l yX11_fault (Cond.code yX11_fault cX11_fault 1 (some .int) :: zw) ({ frames := 8, cells := 0, slots := 0, locals := 200 }) (va_Pc [.ref h0] (zP dC dI aK aV sz [] [(h0, .inr (11, [.ref h_tape, .int h_fed, .ref h_taken, .ref h_parser, .ref h_machine, .ref h_countedCells, .ref h_plainCells, .ref h_printer, .int h_faultNumber, .int h_stopPlace, .int h_wasRun, .int h_runSteps, .int h_runCalls, .int h_hasValue, .long h_value, .int h_hasOther, .long h_otherValue]))])) (va_Qi (fun (r : Int32) (u : Unit) => (r = h_faultNumber)) (fun u => zQ dC dI (va_A [(h0, .inr (11, [.ref h_tape, .int h_fed, .ref h_taken, .ref h_parser, .ref h_machine, .ref h_countedCells, .ref h_plainCells, .ref h_printer, .int h_faultNumber, .int h_stopPlace, .int h_wasRun, .int h_runSteps, .int h_runCalls, .int h_hasValue, .long h_value, .int h_hasOther, .long h_otherValue]))] sz) [] [(h0, .inr (11, [.ref h_tape, .int h_fed, .ref h_taken, .ref h_parser, .ref h_machine, .ref h_countedCells, .ref h_plainCells, .ref h_printer, .int h_faultNumber, .int h_stopPlace, .int h_wasRun, .int h_runSteps, .int h_runCalls, .int h_hasValue, .long h_value, .int h_hasOther, .long h_otherValue]))]) (va_A [(h0, .inr (11, [.ref h_tape, .int h_fed, .ref h_taken, .ref h_parser, .ref h_machine, .ref h_countedCells, .ref h_plainCells, .ref h_printer, .int h_faultNumber, .int h_stopPlace, .int h_wasRun, .int h_runSteps, .int h_runCalls, .int h_hasValue, .long h_value, .int h_hasOther, .long h_otherValue]))] sz)) 0 0 (va_A [(h0, .inr (11, [.ref h_tape, .int h_fed, .ref h_taken, .ref h_parser, .ref h_machine, .ref h_countedCells, .ref h_plainCells, .ref h_printer, .int h_faultNumber, .int h_stopPlace, .int h_wasRun, .int h_runSteps, .int h_runCalls, .int h_hasValue, .long h_value, .int h_hasOther, .long h_otherValue]))] sz) := by
  refine Met.ofW (cc := cX11_fault) (maxL := 1) (ret := (some .int)) (by decide) rfl ?_
  intro p e s m args below meth c s₁ B hml hv
  obtain ⟨rfl, hsz, hP, hK, hD0, hN, hT⟩ := hv
  have hx := B.exec
  have hb := B.bytes
  have hr := B.returns
  have hts := atoms_spec (ws := Cond.code yX11_fault cX11_fault 1 (some .int) :: zw) B.pre
  have hA : ∀ w ∈ zw, w.before _ s = true := fun w h => hts w (List.mem_cons_of_mem _ h)
  have hown : s.vm.findClass RX11 = some m.cls := findClass_of_methodNamed B.named
  have hlocks := B.notSynchronized
  subst hsz
  have hD := hD0.self (sz := s.heap.size)
  generalize hAe : va_A [(h0, .inr (11, [.ref h_tape, .int h_fed, .ref h_taken, .ref h_parser, .ref h_machine, .ref h_countedCells, .ref h_plainCells, .ref h_printer, .int h_faultNumber, .int h_stopPlace, .int h_wasRun, .int h_runSteps, .int h_runCalls, .int h_hasValue, .long h_value, .int h_hasOther, .long h_otherValue]))] s.heap.size = A at hD hT ⊢
  have hAA : ∀ q : Nat, s.heap.size ≤ q → A q := fun q h => by rw [← hAe]; exact Or.inr h
  have hS : va_S A s.heap s.heap [] := va_S.rf
  have hl := lv_entry ([.ref h0]) (n := 1) (Nat.le_of_ble_eq_true rfl)
  rw [lg_entry_eq]
  generalize (lg_sl ([.ref h0]) ++ List.replicate (1 - (lg_sl ([.ref h0])).length) Slot.unset).toArray = ls at hl ⊢
  have hl : lv_has ls 1 [(0, .ref h0)] := hl
  refine lv_aload_n hx hb dX11_fault_0 rfl (lv_at hl 0 rfl) ?_
  refine va_get (D := (dC, dI)) (ci := 11) (v := .int h_faultNumber) (C := RX11) (T := TX11) (N := 17) hx hb hA zin_X11 hown hK hP 0 rfl rfl 8 (by decide) (hA _ wi_592) (fun _ h9 => h9) rfl dX11_fault_1 ?_
  have hP9 := hP.sub (ws' := [(h0, .inr (11, [.ref h_tape, .int h_fed, .ref h_taken, .ref h_parser, .ref h_machine, .ref h_countedCells, .ref h_plainCells, .ref h_printer, .int h_faultNumber, .int h_stopPlace, .int h_wasRun, .int h_runSteps, .int h_runCalls, .int h_hasValue, .long h_value, .int h_hasOther, .long h_otherValue]))]) [0] rfl
  have hD9 := hD.sub (ws' := [(h0, .inr (11, [.ref h_tape, .int h_fed, .ref h_taken, .ref h_parser, .ref h_machine, .ref h_countedCells, .ref h_plainCells, .ref h_printer, .int h_faultNumber, .int h_stopPlace, .int h_wasRun, .int h_runSteps, .int h_runCalls, .int h_hasValue, .long h_value, .int h_hasOther, .long h_otherValue]))]) [0] (by decide) rfl
  have hK9 := hK.sub (tys' := []) [] rfl
  exact W.iret (v := h_faultNumber) hx hb hr (fun t ht hW => ⟨⟨h_faultNumber, (), rfl, rfl, by rw [ht]; exact hP9, va_K.moved hW.alike hK9, hD9⟩, hS.F ht⟩) hS.2.2 dX11_fault_4
set_option maxHeartbeats 4000000 in
set_option maxRecDepth 100000 in
theorem c_X14_where (l : Launch) (dC : Nat → ClassId) (dI : Nat → Nat → Nat) (aK aV : Nat → Nat) (h0 : Nat) (m_thrown : Int32) (m_stop : Nat) (m_tape : Nat) (m_taped : Int32) (m_length : Int32) (m_at : Int32) (m_sort : Int32) (m_place : Int32) (m_sign : Int32) (m_letters : Int64) (m_p : Nat) (m_spare : Nat) (m_isTaken : Int32) (m_scope : Nat) (m_scoped : Int32) (m_deep : Int32) (m_counted : Int32) (m_fault : Int32) (m_where : Int32) (m_cellKind : Nat) (m_cellCount : Nat) (m_free : Nat) (m_pile : Nat) (m_cellField : Nat) (m_freeCount : Int32) (m_given : Int32) (m_nextPlain : Int32) (m_otherKind : Nat) (m_otherField : Nat) (m_isPlain : Int32) (m_hasRun : Int32) (m_hasValue : Int32) (m_hasOther : Int32) (m_value : Int64) (m_other : Int64) (m_steps : Int32) (m_made : Int32) (m_reused : Int32) (m_freed : Int32) (m_most : Int32) (m_doubled : Int32) (m_openMost : Int32) (m_taskWhat : Nat) (m_taskPart : Nat) (m_values : Nat) (m_tasks : Int32) (m_valued : Int32) (m_open : Int32) (m_slots : Nat) (m_present : Nat) (m_shell : Nat) (m_shellArm : Nat) (m_shellCall : Nat) (m_shells : Int32) (m_keptCounts : Nat) (m_asideKind : Nat) (m_asideCount : Nat) (m_asideField : Nat) (m_out : Nat) (m_side : Nat) (m_outs : Int32) (m_sides : Int32) (m_saying : Nat) (sz : Nat)  : Met l yX14_where (Cond.code yX14_where cX14_where 1 (some .int) :: zw) ({ frames := 8, cells := 0, slots := 0, locals := 200 }) (va_Pc [.ref h0] (zP dC dI aK aV sz [] [(h0, .inr (14, [.int m_thrown, .ref m_stop, .ref m_tape, .int m_taped, .int m_length, .int m_at, .int m_sort, .int m_place, .int m_sign, .long m_letters, .ref m_p, .ref m_spare, .int m_isTaken, .ref m_scope, .int m_scoped, .int m_deep, .int m_counted, .int m_fault, .int m_where, .ref m_cellKind, .ref m_cellCount, .ref m_free, .ref m_pile, .ref m_cellField, .int m_freeCount, .int m_given, .int m_nextPlain, .ref m_otherKind, .ref m_otherField, .int m_isPlain, .int m_hasRun, .int m_hasValue, .int m_hasOther, .long m_value, .long m_other, .int m_steps, .int m_made, .int m_reused, .int m_freed, .int m_most, .int m_doubled, .int m_openMost, .ref m_taskWhat, .ref m_taskPart, .ref m_values, .int m_tasks, .int m_valued, .int m_open, .ref m_slots, .ref m_present, .ref m_shell, .ref m_shellArm, .ref m_shellCall, .int m_shells, .ref m_keptCounts, .ref m_asideKind, .ref m_asideCount, .ref m_asideField, .ref m_out, .ref m_side, .int m_outs, .int m_sides, .ref m_saying]))])) (va_Qi (fun (r : Int32) (u : Unit) => (r = m_where)) (fun u => zQ dC dI (va_A [(h0, .inr (14, [.int m_thrown, .ref m_stop, .ref m_tape, .int m_taped, .int m_length, .int m_at, .int m_sort, .int m_place, .int m_sign, .long m_letters, .ref m_p, .ref m_spare, .int m_isTaken, .ref m_scope, .int m_scoped, .int m_deep, .int m_counted, .int m_fault, .int m_where, .ref m_cellKind, .ref m_cellCount, .ref m_free, .ref m_pile, .ref m_cellField, .int m_freeCount, .int m_given, .int m_nextPlain, .ref m_otherKind, .ref m_otherField, .int m_isPlain, .int m_hasRun, .int m_hasValue, .int m_hasOther, .long m_value, .long m_other, .int m_steps, .int m_made, .int m_reused, .int m_freed, .int m_most, .int m_doubled, .int m_openMost, .ref m_taskWhat, .ref m_taskPart, .ref m_values, .int m_tasks, .int m_valued, .int m_open, .ref m_slots, .ref m_present, .ref m_shell, .ref m_shellArm, .ref m_shellCall, .int m_shells, .ref m_keptCounts, .ref m_asideKind, .ref m_asideCount, .ref m_asideField, .ref m_out, .ref m_side, .int m_outs, .int m_sides, .ref m_saying]))] sz) [] [(h0, .inr (14, [.int 0, .ref m_stop, .ref m_tape, .int m_taped, .int m_length, .int m_at, .int m_sort, .int m_place, .int m_sign, .long m_letters, .ref m_p, .ref m_spare, .int m_isTaken, .ref m_scope, .int m_scoped, .int m_deep, .int m_counted, .int m_fault, .int m_where, .ref m_cellKind, .ref m_cellCount, .ref m_free, .ref m_pile, .ref m_cellField, .int m_freeCount, .int m_given, .int m_nextPlain, .ref m_otherKind, .ref m_otherField, .int m_isPlain, .int m_hasRun, .int m_hasValue, .int m_hasOther, .long m_value, .long m_other, .int m_steps, .int m_made, .int m_reused, .int m_freed, .int m_most, .int m_doubled, .int m_openMost, .ref m_taskWhat, .ref m_taskPart, .ref m_values, .int m_tasks, .int m_valued, .int m_open, .ref m_slots, .ref m_present, .ref m_shell, .ref m_shellArm, .ref m_shellCall, .int m_shells, .ref m_keptCounts, .ref m_asideKind, .ref m_asideCount, .ref m_asideField, .ref m_out, .ref m_side, .int m_outs, .int m_sides, .ref m_saying]))]) (va_A [(h0, .inr (14, [.int m_thrown, .ref m_stop, .ref m_tape, .int m_taped, .int m_length, .int m_at, .int m_sort, .int m_place, .int m_sign, .long m_letters, .ref m_p, .ref m_spare, .int m_isTaken, .ref m_scope, .int m_scoped, .int m_deep, .int m_counted, .int m_fault, .int m_where, .ref m_cellKind, .ref m_cellCount, .ref m_free, .ref m_pile, .ref m_cellField, .int m_freeCount, .int m_given, .int m_nextPlain, .ref m_otherKind, .ref m_otherField, .int m_isPlain, .int m_hasRun, .int m_hasValue, .int m_hasOther, .long m_value, .long m_other, .int m_steps, .int m_made, .int m_reused, .int m_freed, .int m_most, .int m_doubled, .int m_openMost, .ref m_taskWhat, .ref m_taskPart, .ref m_values, .int m_tasks, .int m_valued, .int m_open, .ref m_slots, .ref m_present, .ref m_shell, .ref m_shellArm, .ref m_shellCall, .int m_shells, .ref m_keptCounts, .ref m_asideKind, .ref m_asideCount, .ref m_asideField, .ref m_out, .ref m_side, .int m_outs, .int m_sides, .ref m_saying]))] sz)) 0 0 (va_A [(h0, .inr (14, [.int m_thrown, .ref m_stop, .ref m_tape, .int m_taped, .int m_length, .int m_at, .int m_sort, .int m_place, .int m_sign, .long m_letters, .ref m_p, .ref m_spare, .int m_isTaken, .ref m_scope, .int m_scoped, .int m_deep, .int m_counted, .int m_fault, .int m_where, .ref m_cellKind, .ref m_cellCount, .ref m_free, .ref m_pile, .ref m_cellField, .int m_freeCount, .int m_given, .int m_nextPlain, .ref m_otherKind, .ref m_otherField, .int m_isPlain, .int m_hasRun, .int m_hasValue, .int m_hasOther, .long m_value, .long m_other, .int m_steps, .int m_made, .int m_reused, .int m_freed, .int m_most, .int m_doubled, .int m_openMost, .ref m_taskWhat, .ref m_taskPart, .ref m_values, .int m_tasks, .int m_valued, .int m_open, .ref m_slots, .ref m_present, .ref m_shell, .ref m_shellArm, .ref m_shellCall, .int m_shells, .ref m_keptCounts, .ref m_asideKind, .ref m_asideCount, .ref m_asideField, .ref m_out, .ref m_side, .int m_outs, .int m_sides, .ref m_saying]))] sz) := by
  refine Met.ofW (cc := cX14_where) (maxL := 1) (ret := (some .int)) (by decide) rfl ?_
  intro p e s m args below meth c s₁ B hml hv
  obtain ⟨rfl, hsz, hP, hK, hD0, hN, hT⟩ := hv
  have hx := B.exec
  have hb := B.bytes
  have hr := B.returns
  have hts := atoms_spec (ws := Cond.code yX14_where cX14_where 1 (some .int) :: zw) B.pre
  have hA : ∀ w ∈ zw, w.before _ s = true := fun w h => hts w (List.mem_cons_of_mem _ h)
  have hown : s.vm.findClass RX14 = some m.cls := findClass_of_methodNamed B.named
  have hlocks := B.notSynchronized
  subst hsz
  have hD := hD0.self (sz := s.heap.size)
  generalize hAe : va_A [(h0, .inr (14, [.int m_thrown, .ref m_stop, .ref m_tape, .int m_taped, .int m_length, .int m_at, .int m_sort, .int m_place, .int m_sign, .long m_letters, .ref m_p, .ref m_spare, .int m_isTaken, .ref m_scope, .int m_scoped, .int m_deep, .int m_counted, .int m_fault, .int m_where, .ref m_cellKind, .ref m_cellCount, .ref m_free, .ref m_pile, .ref m_cellField, .int m_freeCount, .int m_given, .int m_nextPlain, .ref m_otherKind, .ref m_otherField, .int m_isPlain, .int m_hasRun, .int m_hasValue, .int m_hasOther, .long m_value, .long m_other, .int m_steps, .int m_made, .int m_reused, .int m_freed, .int m_most, .int m_doubled, .int m_openMost, .ref m_taskWhat, .ref m_taskPart, .ref m_values, .int m_tasks, .int m_valued, .int m_open, .ref m_slots, .ref m_present, .ref m_shell, .ref m_shellArm, .ref m_shellCall, .int m_shells, .ref m_keptCounts, .ref m_asideKind, .ref m_asideCount, .ref m_asideField, .ref m_out, .ref m_side, .int m_outs, .int m_sides, .ref m_saying]))] s.heap.size = A at hD hT ⊢
  have hAA : ∀ q : Nat, s.heap.size ≤ q → A q := fun q h => by rw [← hAe]; exact Or.inr h
  have hS : va_S A s.heap s.heap [] := va_S.rf
  have hl := lv_entry ([.ref h0]) (n := 1) (Nat.le_of_ble_eq_true rfl)
  rw [lg_entry_eq]
  generalize (lg_sl ([.ref h0]) ++ List.replicate (1 - (lg_sl ([.ref h0])).length) Slot.unset).toArray = ls at hl ⊢
  have hl : lv_has ls 1 [(0, .ref h0)] := hl
  refine lv_aload_n hx hb dX14_where_0 rfl (lv_at hl 0 rfl) ?_
  refine lv_iconst (v := 0) hx hb dX14_where_1 (by decide) ?_
  refine va_put (D := (dC, dI)) (ci := 14) (v := .int 0) (ty := .int) (C := RX14) (T := TX14) (N := 63) hx hb hA zin_X14 tyX14 tyX14_ok nmX14 hown hK hP hD hS 0 rfl rfl 0 (by decide) (hA _ wi_1497) (fun _ h9 => h9) rfl (by decide +kernel) rfl rfl (Nat.le_of_ble_eq_true rfl) dX14_where_2 (fun H locs hP hD hS => ?_)
  have hP : va_P (dC, dI) vwCl [(h0, .inr (14, [.int 0, .ref m_stop, .ref m_tape, .int m_taped, .int m_length, .int m_at, .int m_sort, .int m_place, .int m_sign, .long m_letters, .ref m_p, .ref m_spare, .int m_isTaken, .ref m_scope, .int m_scoped, .int m_deep, .int m_counted, .int m_fault, .int m_where, .ref m_cellKind, .ref m_cellCount, .ref m_free, .ref m_pile, .ref m_cellField, .int m_freeCount, .int m_given, .int m_nextPlain, .ref m_otherKind, .ref m_otherField, .int m_isPlain, .int m_hasRun, .int m_hasValue, .int m_hasOther, .long m_value, .long m_other, .int m_steps, .int m_made, .int m_reused, .int m_freed, .int m_most, .int m_doubled, .int m_openMost, .ref m_taskWhat, .ref m_taskPart, .ref m_values, .int m_tasks, .int m_valued, .int m_open, .ref m_slots, .ref m_present, .ref m_shell, .ref m_shellArm, .ref m_shellCall, .int m_shells, .ref m_keptCounts, .ref m_asideKind, .ref m_asideCount, .ref m_asideField, .ref m_out, .ref m_side, .int m_outs, .int m_sides, .ref m_saying]))] H := hP
  have hD : va_D A [(h0, .inr (14, [.int 0, .ref m_stop, .ref m_tape, .int m_taped, .int m_length, .int m_at, .int m_sort, .int m_place, .int m_sign, .long m_letters, .ref m_p, .ref m_spare, .int m_isTaken, .ref m_scope, .int m_scoped, .int m_deep, .int m_counted, .int m_fault, .int m_where, .ref m_cellKind, .ref m_cellCount, .ref m_free, .ref m_pile, .ref m_cellField, .int m_freeCount, .int m_given, .int m_nextPlain, .ref m_otherKind, .ref m_otherField, .int m_isPlain, .int m_hasRun, .int m_hasValue, .int m_hasOther, .long m_value, .long m_other, .int m_steps, .int m_made, .int m_reused, .int m_freed, .int m_most, .int m_doubled, .int m_openMost, .ref m_taskWhat, .ref m_taskPart, .ref m_values, .int m_tasks, .int m_valued, .int m_open, .ref m_slots, .ref m_present, .ref m_shell, .ref m_shellArm, .ref m_shellCall, .int m_shells, .ref m_keptCounts, .ref m_asideKind, .ref m_asideCount, .ref m_asideField, .ref m_out, .ref m_side, .int m_outs, .int m_sides, .ref m_saying]))] := hD
  refine lv_aload_n hx hb dX14_where_5 rfl (lv_at hl 0 rfl) ?_
  refine va_get (D := (dC, dI)) (ci := 14) (v := .int m_where) (C := RX14) (T := TX14) (N := 63) hx hb hA zin_X14 hown hK hP 0 rfl rfl 18 (by decide) (hA _ wi_1515) (fun _ h9 => h9) rfl dX14_where_6 ?_
  have hP9 := hP.sub (ws' := [(h0, .inr (14, [.int 0, .ref m_stop, .ref m_tape, .int m_taped, .int m_length, .int m_at, .int m_sort, .int m_place, .int m_sign, .long m_letters, .ref m_p, .ref m_spare, .int m_isTaken, .ref m_scope, .int m_scoped, .int m_deep, .int m_counted, .int m_fault, .int m_where, .ref m_cellKind, .ref m_cellCount, .ref m_free, .ref m_pile, .ref m_cellField, .int m_freeCount, .int m_given, .int m_nextPlain, .ref m_otherKind, .ref m_otherField, .int m_isPlain, .int m_hasRun, .int m_hasValue, .int m_hasOther, .long m_value, .long m_other, .int m_steps, .int m_made, .int m_reused, .int m_freed, .int m_most, .int m_doubled, .int m_openMost, .ref m_taskWhat, .ref m_taskPart, .ref m_values, .int m_tasks, .int m_valued, .int m_open, .ref m_slots, .ref m_present, .ref m_shell, .ref m_shellArm, .ref m_shellCall, .int m_shells, .ref m_keptCounts, .ref m_asideKind, .ref m_asideCount, .ref m_asideField, .ref m_out, .ref m_side, .int m_outs, .int m_sides, .ref m_saying]))]) [0] rfl
  have hD9 := hD.sub (ws' := [(h0, .inr (14, [.int 0, .ref m_stop, .ref m_tape, .int m_taped, .int m_length, .int m_at, .int m_sort, .int m_place, .int m_sign, .long m_letters, .ref m_p, .ref m_spare, .int m_isTaken, .ref m_scope, .int m_scoped, .int m_deep, .int m_counted, .int m_fault, .int m_where, .ref m_cellKind, .ref m_cellCount, .ref m_free, .ref m_pile, .ref m_cellField, .int m_freeCount, .int m_given, .int m_nextPlain, .ref m_otherKind, .ref m_otherField, .int m_isPlain, .int m_hasRun, .int m_hasValue, .int m_hasOther, .long m_value, .long m_other, .int m_steps, .int m_made, .int m_reused, .int m_freed, .int m_most, .int m_doubled, .int m_openMost, .ref m_taskWhat, .ref m_taskPart, .ref m_values, .int m_tasks, .int m_valued, .int m_open, .ref m_slots, .ref m_present, .ref m_shell, .ref m_shellArm, .ref m_shellCall, .int m_shells, .ref m_keptCounts, .ref m_asideKind, .ref m_asideCount, .ref m_asideField, .ref m_out, .ref m_side, .int m_outs, .int m_sides, .ref m_saying]))]) [0] (by decide) rfl
  have hK9 := hK.sub (tys' := []) [] rfl
  exact W.iret (v := m_where) hx hb hr (fun t ht hW => ⟨⟨m_where, (), rfl, rfl, by rw [ht]; exact hP9, va_K.moved hW.alike hK9, hD9⟩, hS.F ht⟩) hS.2.2 dX14_where_9
set_option maxHeartbeats 4000000 in
set_option maxRecDepth 100000 in
theorem c_X11_where (l : Launch) (dC : Nat → ClassId) (dI : Nat → Nat → Nat) (aK aV : Nat → Nat) (h0 : Nat) (h_tape : Nat) (h_fed : Int32) (h_taken : Nat) (h_parser : Nat) (h_machine : Nat) (h_countedCells : Nat) (h_plainCells : Nat) (h_printer : Nat) (h_faultNumber : Int32) (h_stopPlace : Int32) (h_wasRun : Int32) (h_runSteps : Int32) (h_runCalls : Int32) (h_hasValue : Int32) (h_value : Int64) (h_hasOther : Int32) (h_otherValue : Int64) (sz : Nat)  : Met l yX11_where (Cond.code yX11_where cX11_where 1 (some .int) :: zw) ({ frames := 8, cells := 0, slots := 0, locals := 200 }) (va_Pc [.ref h0] (zP dC dI aK aV sz [] [(h0, .inr (11, [.ref h_tape, .int h_fed, .ref h_taken, .ref h_parser, .ref h_machine, .ref h_countedCells, .ref h_plainCells, .ref h_printer, .int h_faultNumber, .int h_stopPlace, .int h_wasRun, .int h_runSteps, .int h_runCalls, .int h_hasValue, .long h_value, .int h_hasOther, .long h_otherValue]))])) (va_Qi (fun (r : Int32) (u : Unit) => (r = h_stopPlace)) (fun u => zQ dC dI (va_A [(h0, .inr (11, [.ref h_tape, .int h_fed, .ref h_taken, .ref h_parser, .ref h_machine, .ref h_countedCells, .ref h_plainCells, .ref h_printer, .int h_faultNumber, .int h_stopPlace, .int h_wasRun, .int h_runSteps, .int h_runCalls, .int h_hasValue, .long h_value, .int h_hasOther, .long h_otherValue]))] sz) [] [(h0, .inr (11, [.ref h_tape, .int h_fed, .ref h_taken, .ref h_parser, .ref h_machine, .ref h_countedCells, .ref h_plainCells, .ref h_printer, .int h_faultNumber, .int h_stopPlace, .int h_wasRun, .int h_runSteps, .int h_runCalls, .int h_hasValue, .long h_value, .int h_hasOther, .long h_otherValue]))]) (va_A [(h0, .inr (11, [.ref h_tape, .int h_fed, .ref h_taken, .ref h_parser, .ref h_machine, .ref h_countedCells, .ref h_plainCells, .ref h_printer, .int h_faultNumber, .int h_stopPlace, .int h_wasRun, .int h_runSteps, .int h_runCalls, .int h_hasValue, .long h_value, .int h_hasOther, .long h_otherValue]))] sz)) 0 0 (va_A [(h0, .inr (11, [.ref h_tape, .int h_fed, .ref h_taken, .ref h_parser, .ref h_machine, .ref h_countedCells, .ref h_plainCells, .ref h_printer, .int h_faultNumber, .int h_stopPlace, .int h_wasRun, .int h_runSteps, .int h_runCalls, .int h_hasValue, .long h_value, .int h_hasOther, .long h_otherValue]))] sz) := by
  refine Met.ofW (cc := cX11_where) (maxL := 1) (ret := (some .int)) (by decide) rfl ?_
  intro p e s m args below meth c s₁ B hml hv
  obtain ⟨rfl, hsz, hP, hK, hD0, hN, hT⟩ := hv
  have hx := B.exec
  have hb := B.bytes
  have hr := B.returns
  have hts := atoms_spec (ws := Cond.code yX11_where cX11_where 1 (some .int) :: zw) B.pre
  have hA : ∀ w ∈ zw, w.before _ s = true := fun w h => hts w (List.mem_cons_of_mem _ h)
  have hown : s.vm.findClass RX11 = some m.cls := findClass_of_methodNamed B.named
  have hlocks := B.notSynchronized
  subst hsz
  have hD := hD0.self (sz := s.heap.size)
  generalize hAe : va_A [(h0, .inr (11, [.ref h_tape, .int h_fed, .ref h_taken, .ref h_parser, .ref h_machine, .ref h_countedCells, .ref h_plainCells, .ref h_printer, .int h_faultNumber, .int h_stopPlace, .int h_wasRun, .int h_runSteps, .int h_runCalls, .int h_hasValue, .long h_value, .int h_hasOther, .long h_otherValue]))] s.heap.size = A at hD hT ⊢
  have hAA : ∀ q : Nat, s.heap.size ≤ q → A q := fun q h => by rw [← hAe]; exact Or.inr h
  have hS : va_S A s.heap s.heap [] := va_S.rf
  have hl := lv_entry ([.ref h0]) (n := 1) (Nat.le_of_ble_eq_true rfl)
  rw [lg_entry_eq]
  generalize (lg_sl ([.ref h0]) ++ List.replicate (1 - (lg_sl ([.ref h0])).length) Slot.unset).toArray = ls at hl ⊢
  have hl : lv_has ls 1 [(0, .ref h0)] := hl
  refine lv_aload_n hx hb dX11_where_0 rfl (lv_at hl 0 rfl) ?_
  refine va_get (D := (dC, dI)) (ci := 11) (v := .int h_stopPlace) (C := RX11) (T := TX11) (N := 17) hx hb hA zin_X11 hown hK hP 0 rfl rfl 9 (by decide) (hA _ wi_593) (fun _ h9 => h9) rfl dX11_where_1 ?_
  have hP9 := hP.sub (ws' := [(h0, .inr (11, [.ref h_tape, .int h_fed, .ref h_taken, .ref h_parser, .ref h_machine, .ref h_countedCells, .ref h_plainCells, .ref h_printer, .int h_faultNumber, .int h_stopPlace, .int h_wasRun, .int h_runSteps, .int h_runCalls, .int h_hasValue, .long h_value, .int h_hasOther, .long h_otherValue]))]) [0] rfl
  have hD9 := hD.sub (ws' := [(h0, .inr (11, [.ref h_tape, .int h_fed, .ref h_taken, .ref h_parser, .ref h_machine, .ref h_countedCells, .ref h_plainCells, .ref h_printer, .int h_faultNumber, .int h_stopPlace, .int h_wasRun, .int h_runSteps, .int h_runCalls, .int h_hasValue, .long h_value, .int h_hasOther, .long h_otherValue]))]) [0] (by decide) rfl
  have hK9 := hK.sub (tys' := []) [] rfl
  exact W.iret (v := h_stopPlace) hx hb hr (fun t ht hW => ⟨⟨h_stopPlace, (), rfl, rfl, by rw [ht]; exact hP9, va_K.moved hW.alike hK9, hD9⟩, hS.F ht⟩) hS.2.2 dX11_where_4

end
