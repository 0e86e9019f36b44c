theorem wi_247 : Cond.fieldLink RX0 30 "ReuseHouse$Arms" "size" "I" ∈ zw := zw_in (List.mem_of_getElem? (i := 247) (by decide +kernel)) (by decide +kernel)
theorem wi_227 : Cond.fieldLink RX0 9 "ReuseHouse$Arms" "kind" "[I" ∈ zw := zw_in (List.mem_of_getElem? (i := 227) (by decide +kernel)) (by decide +kernel)
theorem wi_231 : Cond.fieldLink RX0 15 "ReuseHouse$Arms" "next" "[I" ∈ zw := zw_in (List.mem_of_getElem? (i := 231) (by decide +kernel)) (by decide +kernel)
theorem wi_235 : Cond.fieldLink RX0 18 "ReuseHouse$Arms" "before" "[I" ∈ zw := zw_in (List.mem_of_getElem? (i := 235) (by decide +kernel)) (by decide +kernel)
theorem wi_239 : Cond.fieldLink RX0 21 "ReuseHouse$Arms" "leave" "[I" ∈ zw := zw_in (List.mem_of_getElem? (i := 239) (by decide +kernel)) (by decide +kernel)
theorem wi_241 : Cond.fieldLink RX0 24 "ReuseHouse$Arms" "firstSlot" "[I" ∈ zw := zw_in (List.mem_of_getElem? (i := 241) (by decide +kernel)) (by decide +kernel)
theorem wi_244 : Cond.fieldLink RX0 27 "ReuseHouse$Arms" "builds" "[I" ∈ zw := zw_in (List.mem_of_getElem? (i := 244) (by decide +kernel)) (by decide +kernel)
theorem dX0_add_0 : decode cX0_add 0 = .ok (.aload_n 0, 1) := by decide +kernel
theorem dX0_add_1 : decode cX0_add 1 = .ok (.getfield 30, 3) := by decide +kernel
theorem dX0_add_4 : decode cX0_add 4 = .ok (.sipush 400, 3) := by decide +kernel
theorem dX0_add_7 : decode cX0_add 7 = .ok (.if_icmp .lt 7, 3) := by decide +kernel
theorem dX0_add_10 : decode cX0_add 10 = .ok (.sipush 399, 3) := by decide +kernel
theorem dX0_add_13 : decode cX0_add 13 = .ok (.ireturn, 1) := by decide +kernel
theorem dX0_add_14 : decode cX0_add 14 = .ok (.aload_n 0, 1) := by decide +kernel
theorem dX0_add_15 : decode cX0_add 15 = .ok (.getfield 30, 3) := by decide +kernel
theorem dX0_add_18 : decode cX0_add 18 = .ok (.istore_n 3, 1) := by decide +kernel
theorem dX0_add_19 : decode cX0_add 19 = .ok (.aload_n 0, 1) := by decide +kernel
theorem dX0_add_20 : decode cX0_add 20 = .ok (.dup, 1) := by decide +kernel
theorem dX0_add_21 : decode cX0_add 21 = .ok (.getfield 30, 3) := by decide +kernel
theorem dX0_add_24 : decode cX0_add 24 = .ok (.iconst 1, 1) := by decide +kernel
theorem dX0_add_25 : decode cX0_add 25 = .ok (.iadd, 1) := by decide +kernel
theorem dX0_add_26 : decode cX0_add 26 = .ok (.putfield 30, 3) := by decide +kernel
theorem dX0_add_29 : decode cX0_add 29 = .ok (.aload_n 0, 1) := by decide +kernel
theorem dX0_add_30 : decode cX0_add 30 = .ok (.getfield 9, 3) := by decide +kernel
theorem dX0_add_33 : decode cX0_add 33 = .ok (.iload_n 3, 1) := by decide +kernel
theorem dX0_add_34 : decode cX0_add 34 = .ok (.iload_n 1, 1) := by decide +kernel
theorem dX0_add_35 : decode cX0_add 35 = .ok (.iastore, 1) := by decide +kernel
theorem dX0_add_36 : decode cX0_add 36 = .ok (.aload_n 0, 1) := by decide +kernel
theorem dX0_add_37 : decode cX0_add 37 = .ok (.getfield 15, 3) := by decide +kernel
theorem dX0_add_40 : decode cX0_add 40 = .ok (.iload_n 3, 1) := by decide +kernel
theorem dX0_add_41 : decode cX0_add 41 = .ok (.iconst (-1), 1) := by decide +kernel
theorem dX0_add_42 : decode cX0_add 42 = .ok (.iastore, 1) := by decide +kernel
theorem dX0_add_43 : decode cX0_add 43 = .ok (.aload_n 0, 1) := by decide +kernel
theorem dX0_add_44 : decode cX0_add 44 = .ok (.getfield 18, 3) := by decide +kernel
theorem dX0_add_47 : decode cX0_add 47 = .ok (.iload_n 3, 1) := by decide +kernel
theorem dX0_add_48 : decode cX0_add 48 = .ok (.iconst (-1), 1) := by decide +kernel
theorem dX0_add_49 : decode cX0_add 49 = .ok (.iastore, 1) := by decide +kernel
theorem dX0_add_50 : decode cX0_add 50 = .ok (.aload_n 0, 1) := by decide +kernel
theorem dX0_add_51 : decode cX0_add 51 = .ok (.getfield 21, 3) := by decide +kernel
theorem dX0_add_54 : decode cX0_add 54 = .ok (.iload_n 3, 1) := by decide +kernel
theorem dX0_add_55 : decode cX0_add 55 = .ok (.iconst (-1), 1) := by decide +kernel
theorem dX0_add_56 : decode cX0_add 56 = .ok (.iastore, 1) := by decide +kernel
theorem dX0_add_57 : decode cX0_add 57 = .ok (.aload_n 0, 1) := by decide +kernel
theorem dX0_add_58 : decode cX0_add 58 = .ok (.getfield 24, 3) := by decide +kernel
theorem dX0_add_61 : decode cX0_add 61 = .ok (.iload_n 3, 1) := by decide +kernel
theorem dX0_add_62 : decode cX0_add 62 = .ok (.iload_n 2, 1) := by decide +kernel
theorem dX0_add_63 : decode cX0_add 63 = .ok (.iastore, 1) := by decide +kernel
theorem dX0_add_64 : decode cX0_add 64 = .ok (.aload_n 0, 1) := by decide +kernel
theorem dX0_add_65 : decode cX0_add 65 = .ok (.getfield 27, 3) := by decide +kernel
theorem dX0_add_68 : decode cX0_add 68 = .ok (.iload_n 3, 1) := by decide +kernel
theorem dX0_add_69 : decode cX0_add 69 = .ok (.iconst 0, 1) := by decide +kernel
theorem dX0_add_70 : decode cX0_add 70 = .ok (.iastore, 1) := by decide +kernel
theorem dX0_add_71 : decode cX0_add 71 = .ok (.iload_n 3, 1) := by decide +kernel
theorem dX0_add_72 : decode cX0_add 72 = .ok (.ireturn, 1) := by decide +kernel
set_option maxHeartbeats 4000000 in
set_option maxRecDepth 100000 in
theorem c_X0_add (l : Launch) (dC : Nat → ClassId) (dI : Nat → Nat → Nat) (aK aV : Nat → Nat) (h0 : Nat) (akind : Nat) (anext : Nat) (abefore : Nat) (aleave : Nat) (afirstSlot : Nat) (abuilds : Nat) (akkind : ClassId) (aknext : ClassId) (akbefore : ClassId) (akleave : ClassId) (akfirstSlot : ClassId) (akbuilds : ClassId) (z : Int32) (gkind : Nat → Int32) (gnext : Nat → Int32) (gbefore : Nat → Int32) (gleave : Nat → Int32) (gfirstSlot : Nat → Int32) (gbuilds : Nat → Int32) (ki : Int32) (sl : Int32) (sz : Nat) (hz0 : 0 ≤ z.toInt) (hz1 : z.toInt ≤ 400) (hgn : zx 400 gnext) (hgb : zx 3000 gbefore) (hgl : zx 3000 gleave) (hgs : zx 24 gfirstSlot) (hs0 : -1 ≤ sl.toInt) (hs1 : sl.toInt < 24) : Met l yX0_add (Cond.code yX0_add cX0_add 4 (some .int) :: zw) ({ frames := 8, cells := 0, slots := 0, locals := 200 }) (va_Pc [.ref h0, .int ki, .int sl] (zP dC dI aK aV sz [(akkind, .int), (aknext, .int), (akbefore, .int), (akleave, .int), (akfirstSlot, .int), (akbuilds, .int)] [(h0, .inr (0, [.ref akind, .ref anext, .ref abefore, .ref aleave, .ref afirstSlot, .ref abuilds, .int z])), (akind, .inl (akkind, 400, .inl gkind)), (anext, .inl (aknext, 400, .inl gnext)), (abefore, .inl (akbefore, 400, .inl gbefore)), (aleave, .inl (akleave, 400, .inl gleave)), (afirstSlot, .inl (akfirstSlot, 400, .inl gfirstSlot)), (abuilds, .inl (akbuilds, 400, .inl gbuilds))])) (va_Qi (fun (r : Int32) (u : Int32 × (Nat → Int32) × (Nat → Int32) × (Nat → Int32) × (Nat → Int32) × (Nat → Int32) × (Nat → Int32)) => match u with | (z2, nkind, nnext, nbefore, nleave, nfirstSlot, nbuilds) => (0 ≤ r.toInt) ∧ (r.toInt < 400) ∧ (z.toInt ≤ z2.toInt) ∧ (z2.toInt ≤ 400) ∧ (zx 400 nnext) ∧ (zx 3000 nbefore) ∧ (zx 3000 nleave) ∧ (zx 24 nfirstSlot)) (fun u => match u with | (z2, nkind, nnext, nbefore, nleave, nfirstSlot, nbuilds) => zQ dC dI (va_A [(h0, .inr (0, [.ref akind, .ref anext, .ref abefore, .ref aleave, .ref afirstSlot, .ref abuilds, .int z])), (akind, .inl (akkind, 400, .inl gkind)), (anext, .inl (aknext, 400, .inl gnext)), (abefore, .inl (akbefore, 400, .inl gbefore)), (aleave, .inl (akleave, 400, .inl gleave)), (afirstSlot, .inl (akfirstSlot, 400, .inl gfirstSlot)), (abuilds, .inl (akbuilds, 400, .inl gbuilds))] sz) [(akkind, .int), (aknext, .int), (akbefore, .int), (akleave, .int), (akfirstSlot, .int), (akbuilds, .int)] [(h0, .inr (0, [.ref akind, .ref anext, .ref abefore, .ref aleave, .ref afirstSlot, .ref abuilds, .int z2])), (akind, .inl (akkind, 400, .inl nkind)), (anext, .inl (aknext, 400, .inl nnext)), (abefore, .inl (akbefore, 400, .inl nbefore)), (aleave, .inl (akleave, 400, .inl nleave)), (afirstSlot, .inl (akfirstSlot, 400, .inl nfirstSlot)), (abuilds, .inl (akbuilds, 400, .inl nbuilds))]) (va_A [(h0, .inr (0, [.ref akind, .ref anext, .ref abefore, .ref aleave, .ref afirstSlot, .ref abuilds, .int z])), (akind, .inl (akkind, 400, .inl gkind)), (anext, .inl (aknext, 400, .inl gnext)), (abefore, .inl (akbefore, 400, .inl gbefore)), (aleave, .inl (akleave, 400, .inl gleave)), (afirstSlot, .inl (akfirstSlot, 400, .inl gfirstSlot)), (abuilds, .inl (akbuilds, 400, .inl gbuilds))] sz)) 0 0 (va_A [(h0, .inr (0, [.ref akind, .ref anext, .ref abefore, .ref aleave, .ref afirstSlot, .ref abuilds, .int z])), (akind, .inl (akkind, 400, .inl gkind)), (anext, .inl (aknext, 400, .inl gnext)), (abefore, .inl (akbefore, 400, .inl gbefore)), (aleave, .inl (akleave, 400, .inl gleave)), (afirstSlot, .inl (akfirstSlot, 400, .inl gfirstSlot)), (abuilds, .inl (akbuilds, 400, .inl gbuilds))] sz) := by
  refine Met.ofW (cc := cX0_add) (maxL := 4) (ret := (some .int)) (by decide) rfl ?_
  intro p e s m args below meth c s₁ B hml hv
  obtain ⟨rfl, hsz, hP, hK, hD0, hN, hT⟩ := hv
  have hx := B.exec
  have hb := B.bytes
  have hr := B.returns
  have hts := atoms_spec (ws := Cond.code yX0_add cX0_add 4 (some .int) :: zw) B.pre
  have hA : ∀ w ∈ zw, w.before _ s = true := fun w h => hts w (List.mem_cons_of_mem _ h)
  have hown : s.vm.findClass RX0 = some m.cls := findClass_of_methodNamed B.named
  have hlocks := B.notSynchronized
  subst hsz
  have hD := hD0.self (sz := s.heap.size)
  generalize hAe : va_A [(h0, .inr (0, [.ref akind, .ref anext, .ref abefore, .ref aleave, .ref afirstSlot, .ref abuilds, .int z])), (akind, .inl (akkind, 400, .inl gkind)), (anext, .inl (aknext, 400, .inl gnext)), (abefore, .inl (akbefore, 400, .inl gbefore)), (aleave, .inl (akleave, 400, .inl gleave)), (afirstSlot, .inl (akfirstSlot, 400, .inl gfirstSlot)), (abuilds, .inl (akbuilds, 400, .inl gbuilds))] s.heap.size = A at hD hT ⊢
  have hAA : ∀ q : Nat, s.heap.size ≤ q → A q := fun q h => by rw [← hAe]; exact Or.inr h
  have hS : va_S A s.heap s.heap [] := va_S.rf
  have hl := lv_entry ([.ref h0, .int ki, .int sl]) (n := 4) (Nat.le_of_ble_eq_true rfl)
  rw [lg_entry_eq]
  generalize (lg_sl ([.ref h0, .int ki, .int sl]) ++ List.replicate (4 - (lg_sl ([.ref h0, .int ki, .int sl])).length) Slot.unset).toArray = ls at hl ⊢
  have hl : lv_has ls 4 [(0, .ref h0), (1, .int ki), (2, .int sl)] := hl
  refine lv_aload_n hx hb dX0_add_0 rfl (lv_at hl 0 rfl) ?_
  refine va_get (D := (dC, dI)) (ci := 0) (v := .int z) (C := RX0) (T := TX0) (N := 7) hx hb hA zin_X0 hown hK hP 0 rfl rfl 6 (by decide) (hA _ wi_247) (fun _ h9 => h9) rfl dX0_add_1 ?_
  refine lv_sipush (v := 400) hx hb dX0_add_4 (by decide) ?_
  refine lv_icmp_lt (tgt := 14) hx hb dX0_add_7 (by decide) (fun c_1 => ?_) (fun c_1 => ?_)
  · have ic_1 : z.toInt < 400 := zi_lt c_1
    refine lv_aload_n hx hb dX0_add_14 rfl (lv_at hl 0 rfl) ?_
    refine va_get (D := (dC, dI)) (ci := 0) (v := .int z) (C := RX0) (T := TX0) (N := 7) hx hb hA zin_X0 hown hK hP 0 rfl rfl 6 (by decide) (hA _ wi_247) (fun _ h9 => h9) rfl dX0_add_15 ?_
    refine lv_istore_n (lv' := [(3, .int z), (0, .ref h0), (1, .int ki), (2, .int sl)]) hx hb dX0_add_18 rfl hl (by decide) rfl (fun ls hl => ?_)
    refine lv_aload_n hx hb dX0_add_19 rfl (lv_at hl 1 rfl) ?_
    refine lv_dup hx hb dX0_add_20 rfl ?_
    refine va_get (D := (dC, dI)) (ci := 0) (v := .int z) (C := RX0) (T := TX0) (N := 7) hx hb hA zin_X0 hown hK hP 0 rfl rfl 6 (by decide) (hA _ wi_247) (fun _ h9 => h9) rfl dX0_add_21 ?_
    refine lv_iconst (v := 1) hx hb dX0_add_24 (by decide) ?_
    refine lv_iadd hx hb dX0_add_25 ?_
    refine lv_topi (fun x_2 ex_2 => ?_)
    have ix_2 : x_2.toInt = z.toInt + 1 := by rw [ex_2]; exact zi_addc (by decide) (by omega) (by omega)
    refine va_put (D := (dC, dI)) (ci := 0) (v := .int x_2) (ty := .int) (C := RX0) (T := TX0) (N := 7) hx hb hA zin_X0 tyX0 tyX0_ok nmX0 hown hK hP hD hS 0 rfl rfl 6 (by decide) (hA _ wi_247) (fun _ h9 => h9) rfl (by decide +kernel) rfl rfl (Nat.le_of_ble_eq_true rfl) dX0_add_26 (fun H locs hP hD hS => ?_)
    have hP : va_P (dC, dI) vwCl [(h0, .inr (0, [.ref akind, .ref anext, .ref abefore, .ref aleave, .ref afirstSlot, .ref abuilds, .int x_2])), (akind, .inl (akkind, 400, .inl gkind)), (anext, .inl (aknext, 400, .inl gnext)), (abefore, .inl (akbefore, 400, .inl gbefore)), (aleave, .inl (akleave, 400, .inl gleave)), (afirstSlot, .inl (akfirstSlot, 400, .inl gfirstSlot)), (abuilds, .inl (akbuilds, 400, .inl gbuilds))] H := hP
    have hD : va_D A [(h0, .inr (0, [.ref akind, .ref anext, .ref abefore, .ref aleave, .ref afirstSlot, .ref abuilds, .int x_2])), (akind, .inl (akkind, 400, .inl gkind)), (anext, .inl (aknext, 400, .inl gnext)), (abefore, .inl (akbefore, 400, .inl gbefore)), (aleave, .inl (akleave, 400, .inl gleave)), (afirstSlot, .inl (akfirstSlot, 400, .inl gfirstSlot)), (abuilds, .inl (akbuilds, 400, .inl gbuilds))] := hD
    refine lv_aload_n hx hb dX0_add_29 rfl (lv_at hl 1 rfl) ?_
    refine va_get (D := (dC, dI)) (ci := 0) (v := .ref akind) (C := RX0) (T := TX0) (N := 7) hx hb hA zin_X0 hown hK hP 0 rfl rfl 0 (by decide) (hA _ wi_227) (fun _ h9 => h9) rfl dX0_add_30 ?_
    refine lv_iload_n hx hb dX0_add_33 rfl (lv_at hl 0 rfl) ?_
    refine lv_iload_n hx hb dX0_add_34 rfl (lv_at hl 2 rfl) ?_
    refine va_iast hx hb hK hP hD hS 1 0 rfl rfl (vp_in_iff.mpr ⟨by omega, by omega⟩) dX0_add_35 (fun H locs hP hD hS => ?_)
    obtain ⟨f_3, ef_3⟩ : ∃ gz9 : Nat → Int32, gz9 = upd gkind (Int32.toNatClampNeg z) ki := ⟨_, rfl⟩
    rw [← ef_3] at hP hD
    have hP : va_P (dC, dI) vwCl [(h0, .inr (0, [.ref akind, .ref anext, .ref abefore, .ref aleave, .ref afirstSlot, .ref abuilds, .int x_2])), (akind, .inl (akkind, 400, .inl f_3)), (anext, .inl (aknext, 400, .inl gnext)), (abefore, .inl (akbefore, 400, .inl gbefore)), (aleave, .inl (akleave, 400, .inl gleave)), (afirstSlot, .inl (akfirstSlot, 400, .inl gfirstSlot)), (abuilds, .inl (akbuilds, 400, .inl gbuilds))] H := hP
    have hD : va_D A [(h0, .inr (0, [.ref akind, .ref anext, .ref abefore, .ref aleave, .ref afirstSlot, .ref abuilds, .int x_2])), (akind, .inl (akkind, 400, .inl f_3)), (anext, .inl (aknext, 400, .inl gnext)), (abefore, .inl (akbefore, 400, .inl gbefore)), (aleave, .inl (akleave, 400, .inl gleave)), (afirstSlot, .inl (akfirstSlot, 400, .inl gfirstSlot)), (abuilds, .inl (akbuilds, 400, .inl gbuilds))] := hD
    refine lv_aload_n hx hb dX0_add_36 rfl (lv_at hl 1 rfl) ?_
    refine va_get (D := (dC, dI)) (ci := 0) (v := .ref anext) (C := RX0) (T := TX0) (N := 7) hx hb hA zin_X0 hown hK hP 0 rfl rfl 1 (by decide) (hA _ wi_231) (fun _ h9 => h9) rfl dX0_add_37 ?_
    refine lv_iload_n hx hb dX0_add_40 rfl (lv_at hl 0 rfl) ?_
    refine lv_iconst (v := (-1)) hx hb dX0_add_41 (by decide) ?_
    refine va_iast hx hb hK hP hD hS 2 1 rfl rfl (vp_in_iff.mpr ⟨by omega, by omega⟩) dX0_add_42 (fun H locs hP hD hS => ?_)
    obtain ⟨f_4, ef_4⟩ : ∃ gz9 : Nat → Int32, gz9 = upd gnext (Int32.toNatClampNeg z) (-1) := ⟨_, rfl⟩
    rw [← ef_4] at hP hD
    have hp_f_4 : zx 400 f_4 := by rw [ef_4]; exact zx_upd hgn (by have h9 : Int32.toInt (-1) = (-1) := (by decide); omega) (by have h9 : Int32.toInt (-1) = (-1) := (by decide); omega)
    have hP : va_P (dC, dI) vwCl [(h0, .inr (0, [.ref akind, .ref anext, .ref abefore, .ref aleave, .ref afirstSlot, .ref abuilds, .int x_2])), (akind, .inl (akkind, 400, .inl f_3)), (anext, .inl (aknext, 400, .inl f_4)), (abefore, .inl (akbefore, 400, .inl gbefore)), (aleave, .inl (akleave, 400, .inl gleave)), (afirstSlot, .inl (akfirstSlot, 400, .inl gfirstSlot)), (abuilds, .inl (akbuilds, 400, .inl gbuilds))] H := hP
    have hD : va_D A [(h0, .inr (0, [.ref akind, .ref anext, .ref abefore, .ref aleave, .ref afirstSlot, .ref abuilds, .int x_2])), (akind, .inl (akkind, 400, .inl f_3)), (anext, .inl (aknext, 400, .inl f_4)), (abefore, .inl (akbefore, 400, .inl gbefore)), (aleave, .inl (akleave, 400, .inl gleave)), (afirstSlot, .inl (akfirstSlot, 400, .inl gfirstSlot)), (abuilds, .inl (akbuilds, 400, .inl gbuilds))] := hD
    refine lv_aload_n hx hb dX0_add_43 rfl (lv_at hl 1 rfl) ?_
    refine va_get (D := (dC, dI)) (ci := 0) (v := .ref abefore) (C := RX0) (T := TX0) (N := 7) hx hb hA zin_X0 hown hK hP 0 rfl rfl 2 (by decide) (hA _ wi_235) (fun _ h9 => h9) rfl dX0_add_44 ?_
    refine lv_iload_n hx hb dX0_add_47 rfl (lv_at hl 0 rfl) ?_
    refine lv_iconst (v := (-1)) hx hb dX0_add_48 (by decide) ?_
    refine va_iast hx hb hK hP hD hS 3 2 rfl rfl (vp_in_iff.mpr ⟨by omega, by omega⟩) dX0_add_49 (fun H locs hP hD hS => ?_)
    obtain ⟨f_5, ef_5⟩ : ∃ gz9 : Nat → Int32, gz9 = upd gbefore (Int32.toNatClampNeg z) (-1) := ⟨_, rfl⟩
    rw [← ef_5] at hP hD
    have hp_f_5 : zx 3000 f_5 := by rw [ef_5]; exact zx_upd hgb (by have h9 : Int32.toInt (-1) = (-1) := (by decide); omega) (by have h9 : Int32.toInt (-1) = (-1) := (by decide); omega)
    have hP : va_P (dC, dI) vwCl [(h0, .inr (0, [.ref akind, .ref anext, .ref abefore, .ref aleave, .ref afirstSlot, .ref abuilds, .int x_2])), (akind, .inl (akkind, 400, .inl f_3)), (anext, .inl (aknext, 400, .inl f_4)), (abefore, .inl (akbefore, 400, .inl f_5)), (aleave, .inl (akleave, 400, .inl gleave)), (afirstSlot, .inl (akfirstSlot, 400, .inl gfirstSlot)), (abuilds, .inl (akbuilds, 400, .inl gbuilds))] H := hP
    have hD : va_D A [(h0, .inr (0, [.ref akind, .ref anext, .ref abefore, .ref aleave, .ref afirstSlot, .ref abuilds, .int x_2])), (akind, .inl (akkind, 400, .inl f_3)), (anext, .inl (aknext, 400, .inl f_4)), (abefore, .inl (akbefore, 400, .inl f_5)), (aleave, .inl (akleave, 400, .inl gleave)), (afirstSlot, .inl (akfirstSlot, 400, .inl gfirstSlot)), (abuilds, .inl (akbuilds, 400, .inl gbuilds))] := hD
    refine lv_aload_n hx hb dX0_add_50 rfl (lv_at hl 1 rfl) ?_
    refine va_get (D := (dC, dI)) (ci := 0) (v := .ref aleave) (C := RX0) (T := TX0) (N := 7) hx hb hA zin_X0 hown hK hP 0 rfl rfl 3 (by decide) (hA _ wi_239) (fun _ h9 => h9) rfl dX0_add_51 ?_
    refine lv_iload_n hx hb dX0_add_54 rfl (lv_at hl 0 rfl) ?_
    refine lv_iconst (v := (-1)) hx hb dX0_add_55 (by decide) ?_
    refine va_iast hx hb hK hP hD hS 4 3 rfl rfl (vp_in_iff.mpr ⟨by omega, by omega⟩) dX0_add_56 (fun H locs hP hD hS => ?_)
    obtain ⟨f_6, ef_6⟩ : ∃ gz9 : Nat → Int32, gz9 = upd gleave (Int32.toNatClampNeg z) (-1) := ⟨_, rfl⟩
    rw [← ef_6] at hP hD
    have hp_f_6 : zx 3000 f_6 := by rw [ef_6]; exact zx_upd hgl (by have h9 : Int32.toInt (-1) = (-1) := (by decide); omega) (by have h9 : Int32.toInt (-1) = (-1) := (by decide); omega)
    have hP : va_P (dC, dI) vwCl [(h0, .inr (0, [.ref akind, .ref anext, .ref abefore, .ref aleave, .ref afirstSlot, .ref abuilds, .int x_2])), (akind, .inl (akkind, 400, .inl f_3)), (anext, .inl (aknext, 400, .inl f_4)), (abefore, .inl (akbefore, 400, .inl f_5)), (aleave, .inl (akleave, 400, .inl f_6)), (afirstSlot, .inl (akfirstSlot, 400, .inl gfirstSlot)), (abuilds, .inl (akbuilds, 400, .inl gbuilds))] H := hP
    have hD : va_D A [(h0, .inr (0, [.ref akind, .ref anext, .ref abefore, .ref aleave, .ref afirstSlot, .ref abuilds, .int x_2])), (akind, .inl (akkind, 400, .inl f_3)), (anext, .inl (aknext, 400, .inl f_4)), (abefore, .inl (akbefore, 400, .inl f_5)), (aleave, .inl (akleave, 400, .inl f_6)), (afirstSlot, .inl (akfirstSlot, 400, .inl gfirstSlot)), (abuilds, .inl (akbuilds, 400, .inl gbuilds))] := hD
    refine lv_aload_n hx hb dX0_add_57 rfl (lv_at hl 1 rfl) ?_
    refine va_get (D := (dC, dI)) (ci := 0) (v := .ref afirstSlot) (C := RX0) (T := TX0) (N := 7) hx hb hA zin_X0 hown hK hP 0 rfl rfl 4 (by decide) (hA _ wi_241) (fun _ h9 => h9) rfl dX0_add_58 ?_
    refine lv_iload_n hx hb dX0_add_61 rfl (lv_at hl 0 rfl) ?_
    refine lv_iload_n hx hb dX0_add_62 rfl (lv_at hl 3 rfl) ?_
    refine va_iast hx hb hK hP hD hS 5 4 rfl rfl (vp_in_iff.mpr ⟨by omega, by omega⟩) dX0_add_63 (fun H locs hP hD hS => ?_)
    obtain ⟨f_7, ef_7⟩ : ∃ gz9 : Nat → Int32, gz9 = upd gfirstSlot (Int32.toNatClampNeg z) sl := ⟨_, rfl⟩
    rw [← ef_7] at hP hD
    have hp_f_7 : zx 24 f_7 := by rw [ef_7]; exact zx_upd hgs (by omega) (by omega)
    have hP : va_P (dC, dI) vwCl [(h0, .inr (0, [.ref akind, .ref anext, .ref abefore, .ref aleave, .ref afirstSlot, .ref abuilds, .int x_2])), (akind, .inl (akkind, 400, .inl f_3)), (anext, .inl (aknext, 400, .inl f_4)), (abefore, .inl (akbefore, 400, .inl f_5)), (aleave, .inl (akleave, 400, .inl f_6)), (afirstSlot, .inl (akfirstSlot, 400, .inl f_7)), (abuilds, .inl (akbuilds, 400, .inl gbuilds))] H := hP
    have hD : va_D A [(h0, .inr (0, [.ref akind, .ref anext, .ref abefore, .ref aleave, .ref afirstSlot, .ref abuilds, .int x_2])), (akind, .inl (akkind, 400, .inl f_3)), (anext, .inl (aknext, 400, .inl f_4)), (abefore, .inl (akbefore, 400, .inl f_5)), (aleave, .inl (akleave, 400, .inl f_6)), (afirstSlot, .inl (akfirstSlot, 400, .inl f_7)), (abuilds, .inl (akbuilds, 400, .inl gbuilds))] := hD
    refine lv_aload_n hx hb dX0_add_64 rfl (lv_at hl 1 rfl) ?_
    refine va_get (D := (dC, dI)) (ci := 0) (v := .ref abuilds) (C := RX0) (T := TX0) (N := 7) hx hb hA zin_X0 hown hK hP 0 rfl rfl 5 (by decide) (hA _ wi_244) (fun _ h9 => h9) rfl dX0_add_65 ?_
    refine lv_iload_n hx hb dX0_add_68 rfl (lv_at hl 0 rfl) ?_
    refine lv_iconst (v := 0) hx hb dX0_add_69 (by decide) ?_
    refine va_iast hx hb hK hP hD hS 6 5 rfl rfl (vp_in_iff.mpr ⟨by omega, by omega⟩) dX0_add_70 (fun H locs hP hD hS => ?_)
    obtain ⟨f_8, ef_8⟩ : ∃ gz9 : Nat → Int32, gz9 = upd gbuilds (Int32.toNatClampNeg z) 0 := ⟨_, rfl⟩
    rw [← ef_8] at hP hD
    have hP : va_P (dC, dI) vwCl [(h0, .inr (0, [.ref akind, .ref anext, .ref abefore, .ref aleave, .ref afirstSlot, .ref abuilds, .int x_2])), (akind, .inl (akkind, 400, .inl f_3)), (anext, .inl (aknext, 400, .inl f_4)), (abefore, .inl (akbefore, 400, .inl f_5)), (aleave, .inl (akleave, 400, .inl f_6)), (afirstSlot, .inl (akfirstSlot, 400, .inl f_7)), (abuilds, .inl (akbuilds, 400, .inl f_8))] H := hP
    have hD : va_D A [(h0, .inr (0, [.ref akind, .ref anext, .ref abefore, .ref aleave, .ref afirstSlot, .ref abuilds, .int x_2])), (akind, .inl (akkind, 400, .inl f_3)), (anext, .inl (aknext, 400, .inl f_4)), (abefore, .inl (akbefore, 400, .inl f_5)), (aleave, .inl (akleave, 400, .inl f_6)), (afirstSlot, .inl (akfirstSlot, 400, .inl f_7)), (abuilds, .inl (akbuilds, 400, .inl f_8))] := hD
    refine lv_iload_n hx hb dX0_add_71 rfl (lv_at hl 0 rfl) ?_
    have hP9 := hP.sub (ws' := [(h0, .inr (0, [.ref akind, .ref anext, .ref abefore, .ref aleave, .ref afirstSlot, .ref abuilds, .int x_2])), (akind, .inl (akkind, 400, .inl f_3)), (anext, .inl (aknext, 400, .inl f_4)), (abefore, .inl (akbefore, 400, .inl f_5)), (aleave, .inl (akleave, 400, .inl f_6)), (afirstSlot, .inl (akfirstSlot, 400, .inl f_7)), (abuilds, .inl (akbuilds, 400, .inl f_8))]) [0, 1, 2, 3, 4, 5, 6] rfl
    have hD9 := hD.sub (ws' := [(h0, .inr (0, [.ref akind, .ref anext, .ref abefore, .ref aleave, .ref afirstSlot, .ref abuilds, .int x_2])), (akind, .inl (akkind, 400, .inl f_3)), (anext, .inl (aknext, 400, .inl f_4)), (abefore, .inl (akbefore, 400, .inl f_5)), (aleave, .inl (akleave, 400, .inl f_6)), (afirstSlot, .inl (akfirstSlot, 400, .inl f_7)), (abuilds, .inl (akbuilds, 400, .inl f_8))]) [0, 1, 2, 3, 4, 5, 6] (by decide) rfl
    have hK9 := hK.sub (tys' := [(akkind, .int), (aknext, .int), (akbefore, .int), (akleave, .int), (akfirstSlot, .int), (akbuilds, .int)]) [0, 1, 2, 3, 4, 5] rfl
    exact W.iret (v := z) hx hb hr (fun t ht hW => ⟨⟨z, (x_2, f_3, f_4, f_5, f_6, f_7, f_8), rfl, ⟨by omega, by omega, by omega, by omega, hp_f_4, hp_f_5, hp_f_6, hp_f_7⟩, by rw [ht]; exact hP9, va_K.moved hW.alike hK9, hD9⟩, hS.F ht⟩) hS.2.2 dX0_add_72
  · have ic_1 : 400 ≤ z.toInt := zi_nlt c_1
    refine lv_sipush (v := 399) hx hb dX0_add_10 (by decide) ?_
    have hlit : Int32.toInt 399 = 399 := by decide
    have hP9 := hP.sub (ws' := [(h0, .inr (0, [.ref akind, .ref anext, .ref abefore, .ref aleave, .ref afirstSlot, .ref abuilds, .int z])), (akind, .inl (akkind, 400, .inl gkind)), (anext, .inl (aknext, 400, .inl gnext)), (abefore, .inl (akbefore, 400, .inl gbefore)), (aleave, .inl (akleave, 400, .inl gleave)), (afirstSlot, .inl (akfirstSlot, 400, .inl gfirstSlot)), (abuilds, .inl (akbuilds, 400, .inl gbuilds))]) [0, 1, 2, 3, 4, 5, 6] rfl
    have hD9 := hD.sub (ws' := [(h0, .inr (0, [.ref akind, .ref anext, .ref abefore, .ref aleave, .ref afirstSlot, .ref abuilds, .int z])), (akind, .inl (akkind, 400, .inl gkind)), (anext, .inl (aknext, 400, .inl gnext)), (abefore, .inl (akbefore, 400, .inl gbefore)), (aleave, .inl (akleave, 400, .inl gleave)), (afirstSlot, .inl (akfirstSlot, 400, .inl gfirstSlot)), (abuilds, .inl (akbuilds, 400, .inl gbuilds))]) [0, 1, 2, 3, 4, 5, 6] (by decide) rfl
    have hK9 := hK.sub (tys' := [(akkind, .int), (aknext, .int), (akbefore, .int), (akleave, .int), (akfirstSlot, .int), (akbuilds, .int)]) [0, 1, 2, 3, 4, 5] rfl
    exact W.iret (v := 399) hx hb hr (fun t ht hW => ⟨⟨399, (z, gkind, gnext, gbefore, gleave, gfirstSlot, gbuilds), rfl, ⟨by omega, by omega, by omega, by omega, hgn, hgb, hgl, hgs⟩, by rw [ht]; exact hP9, va_K.moved hW.alike hK9, hD9⟩, hS.F ht⟩) hS.2.2 dX0_add_13
