set_option maxHeartbeats 4000000 in
set_option maxRecDepth 100000 in
theorem c_X7_tell_x (l : Launch) (dC : Nat → ClassId) (dI : Nat → Nat → Nat) (aK aV : Nat → Nat) (h0 : Nat) (ptok : Nat) (pnee : Nat) (pnam : Nat) (pbui : Nat) (pdra : Nat) (ar : Int32) (fu : Int32) (fn : Int32) (fp : Int32) (nk : ClassId) (gn : Nat → Int64) (gco : Nat) (gar : Nat) (gki : Nat) (gfu : Nat) (fw : Nat) (fe : Nat) (ff : Nat) (f1 : ClassId) (f2 : ClassId) (f3 : ClassId) (fz : Int32) (fgw : Nat → Int64) (fge : Nat → Int32) (fgf : Nat → Int32) (nm : Int64) (sz : Nat) (hn0 : 0 ≤ ar.toInt) (hn1 : ar.toInt ≤ 24) (hf0 : 0 ≤ fz.toInt) (hf1 : fz.toInt ≤ 30) (hfe : zx 3000 fge) (hfu0 : 0 ≤ fu.toInt) (hfu1 : fu.toInt < fz.toInt) (hnm0 : ar.toInt ≤ (fgf (5 * Int32.toNatClampNeg fu + 1)).toInt) (hnm1 : (fgf (5 * Int32.toNatClampNeg fu + 1)).toInt ≤ 24) (har : ar.toInt < 24) : Met l yX7_tell (Cond.code yX7_tell cX7_tell 3 (some .int) :: zw) ({ frames := 12, cells := 0, slots := 0, locals := 400 }) (va_Pc [.ref h0, .long nm] (zP dC dI aK aV sz [(nk, .long), (f1, .long), (f2, .int), (f3, .int)] [(h0, .inr (7, [.ref ptok, .ref pnee, .ref pnam, .int ar, .ref pbui, .ref pdra, .int fu, .int fn, .int fp])), (pnam, .inl (nk, 24, .inr (.inl gn))), (pdra, .inr (9, [.ref gco, .ref gar, .ref gki, .ref gfu])), (gfu, .inr (3, [.ref fw, .ref fe, .ref ff, .int fz])), (fw, .inl (f1, 30, .inr (.inl fgw))), (fe, .inl (f2, 30, .inl fge)), (ff, .inl (f3, 150, .inl fgf))])) (va_Qi (fun (r : Int32) (u : Int32 × (Nat → Int64) × (Nat → Int32)) => match u with | (ar2, gn2, fgf2) => (r.toInt = ar.toInt) ∧ (ar2.toInt = ar.toInt + 1) ∧ (ar2.toInt ≤ (fgf2 (5 * Int32.toNatClampNeg fu + 1)).toInt) ∧ ((fgf2 (5 * Int32.toNatClampNeg fu + 1)).toInt ≤ 24) ∧ (zff fgf fgf2)) (fun u => match u with | (ar2, gn2, fgf2) => zQ dC dI (va_A [(h0, .inr (7, [.ref ptok, .ref pnee, .ref pnam, .int ar, .ref pbui, .ref pdra, .int fu, .int fn, .int fp])), (pnam, .inl (nk, 24, .inr (.inl gn))), (pdra, .inr (9, [.ref gco, .ref gar, .ref gki, .ref gfu])), (gfu, .inr (3, [.ref fw, .ref fe, .ref ff, .int fz])), (fw, .inl (f1, 30, .inr (.inl fgw))), (fe, .inl (f2, 30, .inl fge)), (ff, .inl (f3, 150, .inl fgf))] sz) [(nk, .long), (f1, .long), (f2, .int), (f3, .int)] [(h0, .inr (7, [.ref ptok, .ref pnee, .ref pnam, .int ar2, .ref pbui, .ref pdra, .int fu, .int fn, .int fp])), (pnam, .inl (nk, 24, .inr (.inl gn2))), (pdra, .inr (9, [.ref gco, .ref gar, .ref gki, .ref gfu])), (gfu, .inr (3, [.ref fw, .ref fe, .ref ff, .int fz])), (fw, .inl (f1, 30, .inr (.inl fgw))), (fe, .inl (f2, 30, .inl fge)), (ff, .inl (f3, 150, .inl fgf2))]) (va_A [(h0, .inr (7, [.ref ptok, .ref pnee, .ref pnam, .int ar, .ref pbui, .ref pdra, .int fu, .int fn, .int fp])), (pnam, .inl (nk, 24, .inr (.inl gn))), (pdra, .inr (9, [.ref gco, .ref gar, .ref gki, .ref gfu])), (gfu, .inr (3, [.ref fw, .ref fe, .ref ff, .int fz])), (fw, .inl (f1, 30, .inr (.inl fgw))), (fe, .inl (f2, 30, .inl fge)), (ff, .inl (f3, 150, .inl fgf))] sz)) 0 0 (va_A [(h0, .inr (7, [.ref ptok, .ref pnee, .ref pnam, .int ar, .ref pbui, .ref pdra, .int fu, .int fn, .int fp])), (pnam, .inl (nk, 24, .inr (.inl gn))), (pdra, .inr (9, [.ref gco, .ref gar, .ref gki, .ref gfu])), (gfu, .inr (3, [.ref fw, .ref fe, .ref ff, .int fz])), (fw, .inl (f1, 30, .inr (.inl fgw))), (fe, .inl (f2, 30, .inl fge)), (ff, .inl (f3, 150, .inl fgf))] sz) := by
  refine Met.ofW (cc := cX7_tell) (maxL := 3) (ret := (some .int)) (by decide) rfl ?_
  intro p e s m args below meth c s₁ B hml hv
  obtain ⟨rfl, hsz, hP, hK, hD0, hN, hT⟩ := hv
  have hx := B.exec
  have hb := B.bytes
  have hr := B.returns
  have hts := atoms_spec (ws := Cond.code yX7_tell cX7_tell 3 (some .int) :: zw) B.pre
  have hA : ∀ w ∈ zw, w.before _ s = true := fun w h => hts w (List.mem_cons_of_mem _ h)
  have hown : s.vm.findClass RX7 = some m.cls := findClass_of_methodNamed B.named
  have hlocks := B.notSynchronized
  subst hsz
  have hD := hD0.self (sz := s.heap.size)
  generalize hAe : va_A [(h0, .inr (7, [.ref ptok, .ref pnee, .ref pnam, .int ar, .ref pbui, .ref pdra, .int fu, .int fn, .int fp])), (pnam, .inl (nk, 24, .inr (.inl gn))), (pdra, .inr (9, [.ref gco, .ref gar, .ref gki, .ref gfu])), (gfu, .inr (3, [.ref fw, .ref fe, .ref ff, .int fz])), (fw, .inl (f1, 30, .inr (.inl fgw))), (fe, .inl (f2, 30, .inl fge)), (ff, .inl (f3, 150, .inl fgf))] s.heap.size = A at hD hT ⊢
  have hAA : ∀ q : Nat, s.heap.size ≤ q → A q := fun q h => by rw [← hAe]; exact Or.inr h
  have hS : va_S A s.heap s.heap [] := va_S.rf
  have hl := lv_entry ([.ref h0, .long nm]) (n := 3) (Nat.le_of_ble_eq_true rfl)
  rw [lg_entry_eq]
  generalize (lg_sl ([.ref h0, .long nm]) ++ List.replicate (3 - (lg_sl ([.ref h0, .long nm])).length) Slot.unset).toArray = ls at hl ⊢
  have hl : lv_has ls 3 [(0, .ref h0), (1, .long nm)] := hl
  refine lv_aload_n hx hb dX7_tell_0 rfl (lv_at hl 0 rfl) ?_
  refine va_get (D := (dC, dI)) (ci := 7) (v := .int ar) (C := RX7) (T := TX7) (N := 9) hx hb hA zin_X7 hown hK hP 0 rfl rfl 3 (by decide) (hA _ wi_390) (fun _ h9 => h9) rfl dX7_tell_1 ?_
  refine lv_bipush (v := 24) hx hb dX7_tell_4 (by decide) ?_
  refine lv_icmp_lt (tgt := 12) hx hb dX7_tell_6 (by decide) (fun c_1 => ?_) (fun c_1 => ?_)
  · have ic_1 : ar.toInt < 24 := zi_lt c_1
    refine lv_aload_n hx hb dX7_tell_12 rfl (lv_at hl 0 rfl) ?_
    refine va_get (D := (dC, dI)) (ci := 7) (v := .ref pnam) (C := RX7) (T := TX7) (N := 9) hx hb hA zin_X7 hown hK hP 0 rfl rfl 2 (by decide) (hA _ wi_389) (fun _ h9 => h9) rfl dX7_tell_13 ?_
    refine lv_aload_n hx hb dX7_tell_16 rfl (lv_at hl 0 rfl) ?_
    refine va_get (D := (dC, dI)) (ci := 7) (v := .int ar) (C := RX7) (T := TX7) (N := 9) hx hb hA zin_X7 hown hK hP 0 rfl rfl 3 (by decide) (hA _ wi_390) (fun _ h9 => h9) rfl dX7_tell_17 ?_
    refine lv_lload_n hx hb dX7_tell_20 rfl (lv_at hl 1 rfl) ?_
    refine va_last hx hb hK hP hD hS 1 0 rfl rfl (vp_in_iff.mpr ⟨by omega, by omega⟩) dX7_tell_21 (fun H locs hP hD hS => ?_)
    obtain ⟨f_2, ef_2⟩ : ∃ gz9 : Nat → Int64, gz9 = vp_updL gn (Int32.toNatClampNeg ar) nm := ⟨_, rfl⟩
    rw [← ef_2] at hP hD
    have hP : va_P (dC, dI) vwCl [(h0, .inr (7, [.ref ptok, .ref pnee, .ref pnam, .int ar, .ref pbui, .ref pdra, .int fu, .int fn, .int fp])), (pnam, .inl (nk, 24, .inr (.inl f_2))), (pdra, .inr (9, [.ref gco, .ref gar, .ref gki, .ref gfu])), (gfu, .inr (3, [.ref fw, .ref fe, .ref ff, .int fz])), (fw, .inl (f1, 30, .inr (.inl fgw))), (fe, .inl (f2, 30, .inl fge)), (ff, .inl (f3, 150, .inl fgf))] H := hP
    have hD : va_D A [(h0, .inr (7, [.ref ptok, .ref pnee, .ref pnam, .int ar, .ref pbui, .ref pdra, .int fu, .int fn, .int fp])), (pnam, .inl (nk, 24, .inr (.inl f_2))), (pdra, .inr (9, [.ref gco, .ref gar, .ref gki, .ref gfu])), (gfu, .inr (3, [.ref fw, .ref fe, .ref ff, .int fz])), (fw, .inl (f1, 30, .inr (.inl fgw))), (fe, .inl (f2, 30, .inl fge)), (ff, .inl (f3, 150, .inl fgf))] := hD
    refine lv_aload_n hx hb dX7_tell_22 rfl (lv_at hl 0 rfl) ?_
    refine lv_dup hx hb dX7_tell_23 rfl ?_
    refine va_get (D := (dC, dI)) (ci := 7) (v := .int ar) (C := RX7) (T := TX7) (N := 9) hx hb hA zin_X7 hown hK hP 0 rfl rfl 3 (by decide) (hA _ wi_390) (fun _ h9 => h9) rfl dX7_tell_24 ?_
    refine lv_iconst (v := 1) hx hb dX7_tell_27 (by decide) ?_
    refine lv_iadd hx hb dX7_tell_28 ?_
    refine lv_topi (fun x_3 ex_3 => ?_)
    have ix_3 : x_3.toInt = ar.toInt + 1 := by rw [ex_3]; exact zi_addc (by decide) (by omega) (by omega)
    refine va_put (D := (dC, dI)) (ci := 7) (v := .int x_3) (ty := .int) (C := RX7) (T := TX7) (N := 9) hx hb hA zin_X7 tyX7 tyX7_ok nmX7 hown hK hP hD hS 0 rfl rfl 3 (by decide) (hA _ wi_390) (fun _ h9 => h9) rfl (by decide +kernel) rfl rfl (Nat.le_of_ble_eq_true rfl) dX7_tell_29 (fun H locs hP hD hS => ?_)
    have hP : va_P (dC, dI) vwCl [(h0, .inr (7, [.ref ptok, .ref pnee, .ref pnam, .int x_3, .ref pbui, .ref pdra, .int fu, .int fn, .int fp])), (pnam, .inl (nk, 24, .inr (.inl f_2))), (pdra, .inr (9, [.ref gco, .ref gar, .ref gki, .ref gfu])), (gfu, .inr (3, [.ref fw, .ref fe, .ref ff, .int fz])), (fw, .inl (f1, 30, .inr (.inl fgw))), (fe, .inl (f2, 30, .inl fge)), (ff, .inl (f3, 150, .inl fgf))] H := hP
    have hD : va_D A [(h0, .inr (7, [.ref ptok, .ref pnee, .ref pnam, .int x_3, .ref pbui, .ref pdra, .int fu, .int fn, .int fp])), (pnam, .inl (nk, 24, .inr (.inl f_2))), (pdra, .inr (9, [.ref gco, .ref gar, .ref gki, .ref gfu])), (gfu, .inr (3, [.ref fw, .ref fe, .ref ff, .int fz])), (fw, .inl (f1, 30, .inr (.inl fgw))), (fe, .inl (f2, 30, .inl fge)), (ff, .inl (f3, 150, .inl fgf))] := hD
    refine lv_aload_n hx hb dX7_tell_32 rfl (lv_at hl 0 rfl) ?_
    refine va_get (D := (dC, dI)) (ci := 7) (v := .int x_3) (C := RX7) (T := TX7) (N := 9) hx hb hA zin_X7 hown hK hP 0 rfl rfl 3 (by decide) (hA _ wi_390) (fun _ h9 => h9) rfl dX7_tell_33 ?_
    refine lv_aload_n hx hb dX7_tell_36 rfl (lv_at hl 0 rfl) ?_
    refine va_get (D := (dC, dI)) (ci := 7) (v := .ref pdra) (C := RX7) (T := TX7) (N := 9) hx hb hA zin_X7 hown hK hP 0 rfl rfl 5 (by decide) (hA _ wi_392) (fun _ h9 => h9) rfl dX7_tell_37 ?_
    refine va_get (D := (dC, dI)) (ci := 9) (v := .ref gfu) (C := RX9) (T := TX9) (N := 4) hx hb hA zin_X9 hown hK hP 2 rfl rfl 3 (by decide) (hA _ wi_323) (fun _ h9 => h9) rfl dX7_tell_40 ?_
    refine lv_aload_n hx hb dX7_tell_43 rfl (lv_at hl 0 rfl) ?_
    refine va_get (D := (dC, dI)) (ci := 7) (v := .int fu) (C := RX7) (T := TX7) (N := 9) hx hb hA zin_X7 hown hK hP 0 rfl rfl 6 (by decide) (hA _ wi_394) (fun _ h9 => h9) rfl dX7_tell_44 ?_
    refine lv_iconst (v := 1) hx hb dX7_tell_47 (by decide) ?_
    have hPc := hP.sub (ws' := [(gfu, .inr (3, [.ref fw, .ref fe, .ref ff, .int fz])), (fw, .inl (f1, 30, .inr (.inl fgw))), (fe, .inl (f2, 30, .inl fge)), (ff, .inl (f3, 150, .inl fgf))]) [3, 4, 5, 6] rfl
    have hDc := hD.sub (ws' := [(gfu, .inr (3, [.ref fw, .ref fe, .ref ff, .int fz])), (fw, .inl (f1, 30, .inr (.inl fgw))), (fe, .inl (f2, 30, .inl fge)), (ff, .inl (f3, 150, .inl fgf))]) [3, 4, 5, 6] (by decide) rfl
    have hKc := hK.sub (tys' := [(f1, .long), (f2, .int), (f3, .int)]) [1, 2, 3] rfl
    have hFc := va_free (wc := [(gfu, .inr (3, [.ref fw, .ref fe, .ref ff, .int fz])), (fw, .inl (f1, 30, .inr (.inl fgw))), (fe, .inl (f2, 30, .inl fge)), (ff, .inl (f3, 150, .inl fgf))]) hD hS hAA [3, 4, 5, 6] rfl
    refine va_calli (va_runV (As := [.int fu, .int 1]) (rest := [.int x_3]) ⟨hx, hb, hml, hown, hA⟩ (c_X3_fact_x l dC dI aK aV gfu fw fe ff f1 f2 f3 fz fgw fge fgf fu 1 H.size (by omega) (by omega) (by omega) (by omega) (by have h9_0 : Int32.toInt 1 = 1 := (by decide); omega) (by have h9_0 : Int32.toInt 1 = 1 := (by decide); omega)) (cwV 2 hA (zw_V wi_906 wi_907 wi_908 wi_135 (zw_good wi_909)) rfl rfl rfl (by decide +kernel) ⟨(Nat.le_of_ble_eq_true rfl), (Nat.le_of_ble_eq_true rfl)⟩) ⟨zP_blind, va_recv hKc hPc (ci := 3) (q0 := 0) rfl rfl, zz_pre hKc hPc hDc hN hT hS hFc⟩ rfl rfl hl.1 rfl (lv_room (Nat.le_of_ble_eq_true rfl)) dX7_tell_48 ⟨(Nat.le_of_ble_eq_true rfl), (Nat.le_of_ble_eq_true rfl)⟩) hS (fun q _ h => hFc q h) hFc (fun r_4 u t H1 locs ht hvm hw hB hz1 hk1 hS => ?_)
    obtain ⟨hP1, hK1, hD1⟩ := hB
    rw [ht] at hP1
    have hK1 := va_K.moved hvm.symm hK1
    obtain ⟨hP, hD⟩ := va_join (wr := [(h0, .inr (7, [.ref ptok, .ref pnee, .ref pnam, .int x_3, .ref pbui, .ref pdra, .int fu, .int fn, .int fp])), (pnam, .inl (nk, 24, .inr (.inl f_2))), (pdra, .inr (9, [.ref gco, .ref gar, .ref gki, .ref gfu]))]) (w1 := [(gfu, .inr (3, [.ref fw, .ref fe, .ref ff, .int fz])), (fw, .inl (f1, 30, .inr (.inl fgw))), (fe, .inl (f2, 30, .inl fge)), (ff, .inl (f3, 150, .inl fgf))]) hP hD [3, 4, 5, 6] [0, 1, 2] rfl rfl (by decide) (by decide) hk1 hFc hP1 hD1
    have hK := (hK.sub (tys' := [(nk, .long)]) [0] rfl).app hK1
    generalize H1 = H at hP hS ⊢
    have hP : va_P (dC, dI) vwCl [(h0, .inr (7, [.ref ptok, .ref pnee, .ref pnam, .int x_3, .ref pbui, .ref pdra, .int fu, .int fn, .int fp])), (pnam, .inl (nk, 24, .inr (.inl f_2))), (pdra, .inr (9, [.ref gco, .ref gar, .ref gki, .ref gfu])), (gfu, .inr (3, [.ref fw, .ref fe, .ref ff, .int fz])), (fw, .inl (f1, 30, .inr (.inl fgw))), (fe, .inl (f2, 30, .inl fge)), (ff, .inl (f3, 150, .inl fgf))] H := hP
    have hD : va_D A [(h0, .inr (7, [.ref ptok, .ref pnee, .ref pnam, .int x_3, .ref pbui, .ref pdra, .int fu, .int fn, .int fp])), (pnam, .inl (nk, 24, .inr (.inl f_2))), (pdra, .inr (9, [.ref gco, .ref gar, .ref gki, .ref gfu])), (gfu, .inr (3, [.ref fw, .ref fe, .ref ff, .int fz])), (fw, .inl (f1, 30, .inr (.inl fgw))), (fe, .inl (f2, 30, .inl fge)), (ff, .inl (f3, 150, .inl fgf))] := hD
    have hK : va_K (dC, dI) vwCl [(nk, .long), (f1, .long), (f2, .int), (f3, .int)] s := hK
    have hw_r_4 := hw
    try dsimp only at hw_r_4
    have hq_5 := hw
    have hnr : r_4.toInt = (fgf (5 * Int32.toNatClampNeg fu + 1)).toInt := by rw [hq_5]; rfl
    refine lv_icmp_le (tgt := 69) hx hb dX7_tell_51 (by decide) (fun c_6 => ?_) (fun c_6 => ?_)
    · have ic_6 : x_3.toInt ≤ r_4.toInt := zi_le c_6
      refine lv_aload_n hx hb dX7_tell_69 rfl (lv_at hl 0 rfl) ?_
      refine va_get (D := (dC, dI)) (ci := 7) (v := .int x_3) (C := RX7) (T := TX7) (N := 9) hx hb hA zin_X7 hown hK hP 0 rfl rfl 3 (by decide) (hA _ wi_390) (fun _ h9 => h9) rfl dX7_tell_70 ?_
      refine lv_iconst (v := 1) hx hb dX7_tell_73 (by decide) ?_
      refine lv_isub hx hb dX7_tell_74 ?_
      refine lv_topi (fun x_7 ex_7 => ?_)
      have ix_7 : x_7.toInt = x_3.toInt - 1 := by rw [ex_7]; exact zi_subc (by decide) (by omega) (by omega)
      have hP9 := hP.sub (ws' := [(h0, .inr (7, [.ref ptok, .ref pnee, .ref pnam, .int x_3, .ref pbui, .ref pdra, .int fu, .int fn, .int fp])), (pnam, .inl (nk, 24, .inr (.inl f_2))), (pdra, .inr (9, [.ref gco, .ref gar, .ref gki, .ref gfu])), (gfu, .inr (3, [.ref fw, .ref fe, .ref ff, .int fz])), (fw, .inl (f1, 30, .inr (.inl fgw))), (fe, .inl (f2, 30, .inl fge)), (ff, .inl (f3, 150, .inl fgf))]) [0, 1, 2, 3, 4, 5, 6] rfl
      have hD9 := hD.sub (ws' := [(h0, .inr (7, [.ref ptok, .ref pnee, .ref pnam, .int x_3, .ref pbui, .ref pdra, .int fu, .int fn, .int fp])), (pnam, .inl (nk, 24, .inr (.inl f_2))), (pdra, .inr (9, [.ref gco, .ref gar, .ref gki, .ref gfu])), (gfu, .inr (3, [.ref fw, .ref fe, .ref ff, .int fz])), (fw, .inl (f1, 30, .inr (.inl fgw))), (fe, .inl (f2, 30, .inl fge)), (ff, .inl (f3, 150, .inl fgf))]) [0, 1, 2, 3, 4, 5, 6] (by decide) rfl
      have hK9 := hK.sub (tys' := [(nk, .long), (f1, .long), (f2, .int), (f3, .int)]) [0, 1, 2, 3] rfl
      exact W.iret (v := x_7) hx hb hr (fun t ht hW => ⟨⟨x_7, (x_3, f_2, fgf), rfl, ⟨by omega, by omega, by omega, by omega, zff_rf⟩, by rw [ht]; exact hP9, va_K.moved hW.alike hK9, hD9⟩, hS.F ht⟩) hS.2.2 dX7_tell_75
    · have ic_6 : r_4.toInt < x_3.toInt := zi_nle c_6
      refine lv_aload_n hx hb dX7_tell_54 rfl (lv_at hl 0 rfl) ?_
      refine va_get (D := (dC, dI)) (ci := 7) (v := .ref pdra) (C := RX7) (T := TX7) (N := 9) hx hb hA zin_X7 hown hK hP 0 rfl rfl 5 (by decide) (hA _ wi_392) (fun _ h9 => h9) rfl dX7_tell_55 ?_
      refine va_get (D := (dC, dI)) (ci := 9) (v := .ref gfu) (C := RX9) (T := TX9) (N := 4) hx hb hA zin_X9 hown hK hP 2 rfl rfl 3 (by decide) (hA _ wi_323) (fun _ h9 => h9) rfl dX7_tell_58 ?_
      refine lv_aload_n hx hb dX7_tell_61 rfl (lv_at hl 0 rfl) ?_
      refine va_get (D := (dC, dI)) (ci := 7) (v := .int fu) (C := RX7) (T := TX7) (N := 9) hx hb hA zin_X7 hown hK hP 0 rfl rfl 6 (by decide) (hA _ wi_394) (fun _ h9 => h9) rfl dX7_tell_62 ?_
      refine lv_iconst (v := 1) hx hb dX7_tell_65 (by decide) ?_
      have hPc := hP.sub (ws' := [(gfu, .inr (3, [.ref fw, .ref fe, .ref ff, .int fz])), (fw, .inl (f1, 30, .inr (.inl fgw))), (fe, .inl (f2, 30, .inl fge)), (ff, .inl (f3, 150, .inl fgf))]) [3, 4, 5, 6] rfl
      have hDc := hD.sub (ws' := [(gfu, .inr (3, [.ref fw, .ref fe, .ref ff, .int fz])), (fw, .inl (f1, 30, .inr (.inl fgw))), (fe, .inl (f2, 30, .inl fge)), (ff, .inl (f3, 150, .inl fgf))]) [3, 4, 5, 6] (by decide) rfl
      have hKc := hK.sub (tys' := [(f1, .long), (f2, .int), (f3, .int)]) [1, 2, 3] rfl
      have hFc := va_free (wc := [(gfu, .inr (3, [.ref fw, .ref fe, .ref ff, .int fz])), (fw, .inl (f1, 30, .inr (.inl fgw))), (fe, .inl (f2, 30, .inl fge)), (ff, .inl (f3, 150, .inl fgf))]) hD hS hAA [3, 4, 5, 6] rfl
      refine va_callv (va_runV (As := [.int fu, .int 1]) (rest := []) ⟨hx, hb, hml, hown, hA⟩ (c_X3_oneMore_x l dC dI aK aV gfu fw fe ff f1 f2 f3 fz fgw fge fgf fu 1 H.size (by omega) (by omega) (by omega) (by omega) (by have h9_0 : Int32.toInt 1 = 1 := (by decide); omega) (by have h9_0 : Int32.toInt 1 = 1 := (by decide); omega)) (cwV 2 hA (zw_V wi_914 wi_915 wi_916 wi_135 (zw_good wi_917)) rfl rfl rfl (by decide +kernel) ⟨(Nat.le_of_ble_eq_true rfl), (Nat.le_of_ble_eq_true rfl)⟩) ⟨zP_blind, va_recv hKc hPc (ci := 3) (q0 := 0) rfl rfl, zz_pre hKc hPc hDc hN hT hS hFc⟩ rfl rfl hl.1 rfl (lv_room (Nat.le_of_ble_eq_true rfl)) dX7_tell_66 ⟨(Nat.le_of_ble_eq_true rfl), (Nat.le_of_ble_eq_true rfl)⟩) hS (fun q _ h => hFc q h) hFc (fun u t H1 locs ht hvm hw hB hz1 hk1 hS => ?_)
      obtain ⟨gf_9, rfl⟩ : ∃ z, z = u := ⟨_, rfl⟩
      obtain ⟨hP1, hK1, hD1⟩ := hB
      rw [ht] at hP1
      have hK1 := va_K.moved hvm.symm hK1
      obtain ⟨hP, hD⟩ := va_join (wr := [(h0, .inr (7, [.ref ptok, .ref pnee, .ref pnam, .int x_3, .ref pbui, .ref pdra, .int fu, .int fn, .int fp])), (pnam, .inl (nk, 24, .inr (.inl f_2))), (pdra, .inr (9, [.ref gco, .ref gar, .ref gki, .ref gfu]))]) (w1 := [(gfu, .inr (3, [.ref fw, .ref fe, .ref ff, .int fz])), (fw, .inl (f1, 30, .inr (.inl fgw))), (fe, .inl (f2, 30, .inl fge)), (ff, .inl (f3, 150, .inl gf_9))]) hP hD [3, 4, 5, 6] [0, 1, 2] rfl rfl (by decide) (by decide) hk1 hFc hP1 hD1
      have hK := (hK.sub (tys' := [(nk, .long)]) [0] rfl).app hK1
      generalize H1 = H at hP hS ⊢
      have hP : va_P (dC, dI) vwCl [(h0, .inr (7, [.ref ptok, .ref pnee, .ref pnam, .int x_3, .ref pbui, .ref pdra, .int fu, .int fn, .int fp])), (pnam, .inl (nk, 24, .inr (.inl f_2))), (pdra, .inr (9, [.ref gco, .ref gar, .ref gki, .ref gfu])), (gfu, .inr (3, [.ref fw, .ref fe, .ref ff, .int fz])), (fw, .inl (f1, 30, .inr (.inl fgw))), (fe, .inl (f2, 30, .inl fge)), (ff, .inl (f3, 150, .inl gf_9))] H := hP
      have hD : va_D A [(h0, .inr (7, [.ref ptok, .ref pnee, .ref pnam, .int x_3, .ref pbui, .ref pdra, .int fu, .int fn, .int fp])), (pnam, .inl (nk, 24, .inr (.inl f_2))), (pdra, .inr (9, [.ref gco, .ref gar, .ref gki, .ref gfu])), (gfu, .inr (3, [.ref fw, .ref fe, .ref ff, .int fz])), (fw, .inl (f1, 30, .inr (.inl fgw))), (fe, .inl (f2, 30, .inl fge)), (ff, .inl (f3, 150, .inl gf_9))] := hD
      have hK : va_K (dC, dI) vwCl [(nk, .long), (f1, .long), (f2, .int), (f3, .int)] s := hK
      have hq_10 := hw
      have hup : gf_9 = upd fgf (5 * Int32.toNatClampNeg fu + 1) (fgf (5 * Int32.toNatClampNeg fu + 1) + 1) := hq_10
      have hov : (fgf (5 * Int32.toNatClampNeg fu + 1) + 1).toInt = (fgf (5 * Int32.toNatClampNeg fu + 1)).toInt + 1 := zi_addc (by decide) (by omega) (by omega)
      have hus : (gf_9 (5 * Int32.toNatClampNeg fu + 1)).toInt = (fgf (5 * Int32.toNatClampNeg fu + 1)).toInt + 1 := by rw [hup, zu_s]; exact hov
      refine lv_aload_n hx hb dX7_tell_69 rfl (lv_at hl 0 rfl) ?_
      refine va_get (D := (dC, dI)) (ci := 7) (v := .int x_3) (C := RX7) (T := TX7) (N := 9) hx hb hA zin_X7 hown hK hP 0 rfl rfl 3 (by decide) (hA _ wi_390) (fun _ h9 => h9) rfl dX7_tell_70 ?_
      refine lv_iconst (v := 1) hx hb dX7_tell_73 (by decide) ?_
      refine lv_isub hx hb dX7_tell_74 ?_
      refine lv_topi (fun x_11 ex_11 => ?_)
      have ix_11 : x_11.toInt = x_3.toInt - 1 := by rw [ex_11]; exact zi_subc (by decide) (by omega) (by omega)
      have hP9 := hP.sub (ws' := [(h0, .inr (7, [.ref ptok, .ref pnee, .ref pnam, .int x_3, .ref pbui, .ref pdra, .int fu, .int fn, .int fp])), (pnam, .inl (nk, 24, .inr (.inl f_2))), (pdra, .inr (9, [.ref gco, .ref gar, .ref gki, .ref gfu])), (gfu, .inr (3, [.ref fw, .ref fe, .ref ff, .int fz])), (fw, .inl (f1, 30, .inr (.inl fgw))), (fe, .inl (f2, 30, .inl fge)), (ff, .inl (f3, 150, .inl gf_9))]) [0, 1, 2, 3, 4, 5, 6] rfl
      have hD9 := hD.sub (ws' := [(h0, .inr (7, [.ref ptok, .ref pnee, .ref pnam, .int x_3, .ref pbui, .ref pdra, .int fu, .int fn, .int fp])), (pnam, .inl (nk, 24, .inr (.inl f_2))), (pdra, .inr (9, [.ref gco, .ref gar, .ref gki, .ref gfu])), (gfu, .inr (3, [.ref fw, .ref fe, .ref ff, .int fz])), (fw, .inl (f1, 30, .inr (.inl fgw))), (fe, .inl (f2, 30, .inl fge)), (ff, .inl (f3, 150, .inl gf_9))]) [0, 1, 2, 3, 4, 5, 6] (by decide) rfl
      have hK9 := hK.sub (tys' := [(nk, .long), (f1, .long), (f2, .int), (f3, .int)]) [0, 1, 2, 3] rfl
      exact W.iret (v := x_11) hx hb hr (fun t ht hW => ⟨⟨x_11, (x_3, f_2, gf_9), rfl, ⟨by omega, by omega, by omega, by omega, zff_1 hup (by omega) (by omega)⟩, by rw [ht]; exact hP9, va_K.moved hW.alike hK9, hD9⟩, hS.F ht⟩) hS.2.2 dX7_tell_75
  · have ic_1 : 24 ≤ ar.toInt := zi_nlt c_1
    exfalso
    omega
set_option maxHeartbeats 4000000 in
set_option maxRecDepth 100000 in
theorem c_X0_add_x (l : Launch) (dC : Nat → ClassId) (dI : Nat → Nat → Nat) (aK aV : Nat → Nat) (h0 : Nat) (akind : Nat) (anext : Nat) (abefore : Nat) (aleave : Nat) (afirstSlot : Nat) (abuilds : Nat) (akkind : ClassId) (aknext : ClassId) (akbefore : ClassId) (akleave : ClassId) (akfirstSlot : ClassId) (akbuilds : ClassId) (z : Int32) (gkind : Nat → Int32) (gnext : Nat → Int32) (gbefore : Nat → Int32) (gleave : Nat → Int32) (gfirstSlot : Nat → Int32) (gbuilds : Nat → Int32) (ki : Int32) (sl : Int32) (sz : Nat) (hz0 : 0 ≤ z.toInt) (hz1 : z.toInt < 400) (hgn : zx 400 gnext) (hgb : zx 3000 gbefore) (hgl : zx 3000 gleave) (hgs : zx 25 gfirstSlot) (hs0 : -1 ≤ sl.toInt) (hs1 : sl.toInt < 25) : Met l yX0_add (Cond.code yX0_add cX0_add 4 (some .int) :: zw) ({ frames := 8, cells := 0, slots := 0, locals := 200 }) (va_Pc [.ref h0, .int ki, .int sl] (zP dC dI aK aV sz [(akkind, .int), (aknext, .int), (akbefore, .int), (akleave, .int), (akfirstSlot, .int), (akbuilds, .int)] [(h0, .inr (0, [.ref akind, .ref anext, .ref abefore, .ref aleave, .ref afirstSlot, .ref abuilds, .int z])), (akind, .inl (akkind, 400, .inl gkind)), (anext, .inl (aknext, 400, .inl gnext)), (abefore, .inl (akbefore, 400, .inl gbefore)), (aleave, .inl (akleave, 400, .inl gleave)), (afirstSlot, .inl (akfirstSlot, 400, .inl gfirstSlot)), (abuilds, .inl (akbuilds, 400, .inl gbuilds))])) (va_Qi (fun (r : Int32) (u : Int32 × (Nat → Int32) × (Nat → Int32) × (Nat → Int32) × (Nat → Int32) × (Nat → Int32) × (Nat → Int32)) => match u with | (z2, nkind, nnext, nbefore, nleave, nfirstSlot, nbuilds) => (r = z) ∧ (z2.toInt = z.toInt + 1) ∧ (zx 400 nnext) ∧ (zx 3000 nbefore) ∧ (zx 3000 nleave) ∧ (zx 25 nfirstSlot) ∧ (nkind = upd gkind (Int32.toNatClampNeg z) ki) ∧ (nnext = upd gnext (Int32.toNatClampNeg z) (-1)) ∧ (nbefore = upd gbefore (Int32.toNatClampNeg z) (-1)) ∧ (nleave = upd gleave (Int32.toNatClampNeg z) (-1)) ∧ (nfirstSlot = upd gfirstSlot (Int32.toNatClampNeg z) sl) ∧ (nbuilds = upd gbuilds (Int32.toNatClampNeg z) 0)) (fun u => match u with | (z2, nkind, nnext, nbefore, nleave, nfirstSlot, nbuilds) => zQ dC dI (va_A [(h0, .inr (0, [.ref akind, .ref anext, .ref abefore, .ref aleave, .ref afirstSlot, .ref abuilds, .int z])), (akind, .inl (akkind, 400, .inl gkind)), (anext, .inl (aknext, 400, .inl gnext)), (abefore, .inl (akbefore, 400, .inl gbefore)), (aleave, .inl (akleave, 400, .inl gleave)), (afirstSlot, .inl (akfirstSlot, 400, .inl gfirstSlot)), (abuilds, .inl (akbuilds, 400, .inl gbuilds))] sz) [(akkind, .int), (aknext, .int), (akbefore, .int), (akleave, .int), (akfirstSlot, .int), (akbuilds, .int)] [(h0, .inr (0, [.ref akind, .ref anext, .ref abefore, .ref aleave, .ref afirstSlot, .ref abuilds, .int z2])), (akind, .inl (akkind, 400, .inl nkind)), (anext, .inl (aknext, 400, .inl nnext)), (abefore, .inl (akbefore, 400, .inl nbefore)), (aleave, .inl (akleave, 400, .inl nleave)), (afirstSlot, .inl (akfirstSlot, 400, .inl nfirstSlot)), (abuilds, .inl (akbuilds, 400, .inl nbuilds))]) (va_A [(h0, .inr (0, [.ref akind, .ref anext, .ref abefore, .ref aleave, .ref afirstSlot, .ref abuilds, .int z])), (akind, .inl (akkind, 400, .inl gkind)), (anext, .inl (aknext, 400, .inl gnext)), (abefore, .inl (akbefore, 400, .inl gbefore)), (aleave, .inl (akleave, 400, .inl gleave)), (afirstSlot, .inl (akfirstSlot, 400, .inl gfirstSlot)), (abuilds, .inl (akbuilds, 400, .inl gbuilds))] sz)) 0 0 (va_A [(h0, .inr (0, [.ref akind, .ref anext, .ref abefore, .ref aleave, .ref afirstSlot, .ref abuilds, .int z])), (akind, .inl (akkind, 400, .inl gkind)), (anext, .inl (aknext, 400, .inl gnext)), (abefore, .inl (akbefore, 400, .inl gbefore)), (aleave, .inl (akleave, 400, .inl gleave)), (afirstSlot, .inl (akfirstSlot, 400, .inl gfirstSlot)), (abuilds, .inl (akbuilds, 400, .inl gbuilds))] sz) := by
  refine Met.ofW (cc := cX0_add) (maxL := 4) (ret := (some .int)) (by decide) rfl ?_
  intro p e s m args below meth c s₁ B hml hv
  obtain ⟨rfl, hsz, hP, hK, hD0, hN, hT⟩ := hv
  have hx := B.exec
  have hb := B.bytes
  have hr := B.returns
  have hts := atoms_spec (ws := Cond.code yX0_add cX0_add 4 (some .int) :: zw) B.pre
  have hA : ∀ w ∈ zw, w.before _ s = true := fun w h => hts w (List.mem_cons_of_mem _ h)
  have hown : s.vm.findClass RX0 = some m.cls := findClass_of_methodNamed B.named
  have hlocks := B.notSynchronized
  subst hsz
  have hD := hD0.self (sz := s.heap.size)
  generalize hAe : va_A [(h0, .inr (0, [.ref akind, .ref anext, .ref abefore, .ref aleave, .ref afirstSlot, .ref abuilds, .int z])), (akind, .inl (akkind, 400, .inl gkind)), (anext, .inl (aknext, 400, .inl gnext)), (abefore, .inl (akbefore, 400, .inl gbefore)), (aleave, .inl (akleave, 400, .inl gleave)), (afirstSlot, .inl (akfirstSlot, 400, .inl gfirstSlot)), (abuilds, .inl (akbuilds, 400, .inl gbuilds))] s.heap.size = A at hD hT ⊢
  have hAA : ∀ q : Nat, s.heap.size ≤ q → A q := fun q h => by rw [← hAe]; exact Or.inr h
  have hS : va_S A s.heap s.heap [] := va_S.rf
  have hl := lv_entry ([.ref h0, .int ki, .int sl]) (n := 4) (Nat.le_of_ble_eq_true rfl)
  rw [lg_entry_eq]
  generalize (lg_sl ([.ref h0, .int ki, .int sl]) ++ List.replicate (4 - (lg_sl ([.ref h0, .int ki, .int sl])).length) Slot.unset).toArray = ls at hl ⊢
  have hl : lv_has ls 4 [(0, .ref h0), (1, .int ki), (2, .int sl)] := hl
  refine lv_aload_n hx hb dX0_add_0 rfl (lv_at hl 0 rfl) ?_
  refine va_get (D := (dC, dI)) (ci := 0) (v := .int z) (C := RX0) (T := TX0) (N := 7) hx hb hA zin_X0 hown hK hP 0 rfl rfl 6 (by decide) (hA _ wi_247) (fun _ h9 => h9) rfl dX0_add_1 ?_
  refine lv_sipush (v := 400) hx hb dX0_add_4 (by decide) ?_
  refine lv_icmp_lt (tgt := 14) hx hb dX0_add_7 (by decide) (fun c_1 => ?_) (fun c_1 => ?_)
  · have ic_1 : z.toInt < 400 := zi_lt c_1
    refine lv_aload_n hx hb dX0_add_14 rfl (lv_at hl 0 rfl) ?_
    refine va_get (D := (dC, dI)) (ci := 0) (v := .int z) (C := RX0) (T := TX0) (N := 7) hx hb hA zin_X0 hown hK hP 0 rfl rfl 6 (by decide) (hA _ wi_247) (fun _ h9 => h9) rfl dX0_add_15 ?_
    refine lv_istore_n (lv' := [(3, .int z), (0, .ref h0), (1, .int ki), (2, .int sl)]) hx hb dX0_add_18 rfl hl (by decide) rfl (fun ls hl => ?_)
    refine lv_aload_n hx hb dX0_add_19 rfl (lv_at hl 1 rfl) ?_
    refine lv_dup hx hb dX0_add_20 rfl ?_
    refine va_get (D := (dC, dI)) (ci := 0) (v := .int z) (C := RX0) (T := TX0) (N := 7) hx hb hA zin_X0 hown hK hP 0 rfl rfl 6 (by decide) (hA _ wi_247) (fun _ h9 => h9) rfl dX0_add_21 ?_
    refine lv_iconst (v := 1) hx hb dX0_add_24 (by decide) ?_
    refine lv_iadd hx hb dX0_add_25 ?_
    refine lv_topi (fun x_2 ex_2 => ?_)
    have ix_2 : x_2.toInt = z.toInt + 1 := by rw [ex_2]; exact zi_addc (by decide) (by omega) (by omega)
    refine va_put (D := (dC, dI)) (ci := 0) (v := .int x_2) (ty := .int) (C := RX0) (T := TX0) (N := 7) hx hb hA zin_X0 tyX0 tyX0_ok nmX0 hown hK hP hD hS 0 rfl rfl 6 (by decide) (hA _ wi_247) (fun _ h9 => h9) rfl (by decide +kernel) rfl rfl (Nat.le_of_ble_eq_true rfl) dX0_add_26 (fun H locs hP hD hS => ?_)
    have hP : va_P (dC, dI) vwCl [(h0, .inr (0, [.ref akind, .ref anext, .ref abefore, .ref aleave, .ref afirstSlot, .ref abuilds, .int x_2])), (akind, .inl (akkind, 400, .inl gkind)), (anext, .inl (aknext, 400, .inl gnext)), (abefore, .inl (akbefore, 400, .inl gbefore)), (aleave, .inl (akleave, 400, .inl gleave)), (afirstSlot, .inl (akfirstSlot, 400, .inl gfirstSlot)), (abuilds, .inl (akbuilds, 400, .inl gbuilds))] H := hP
    have hD : va_D A [(h0, .inr (0, [.ref akind, .ref anext, .ref abefore, .ref aleave, .ref afirstSlot, .ref abuilds, .int x_2])), (akind, .inl (akkind, 400, .inl gkind)), (anext, .inl (aknext, 400, .inl gnext)), (abefore, .inl (akbefore, 400, .inl gbefore)), (aleave, .inl (akleave, 400, .inl gleave)), (afirstSlot, .inl (akfirstSlot, 400, .inl gfirstSlot)), (abuilds, .inl (akbuilds, 400, .inl gbuilds))] := hD
    refine lv_aload_n hx hb dX0_add_29 rfl (lv_at hl 1 rfl) ?_
    refine va_get (D := (dC, dI)) (ci := 0) (v := .ref akind) (C := RX0) (T := TX0) (N := 7) hx hb hA zin_X0 hown hK hP 0 rfl rfl 0 (by decide) (hA _ wi_227) (fun _ h9 => h9) rfl dX0_add_30 ?_
    refine lv_iload_n hx hb dX0_add_33 rfl (lv_at hl 0 rfl) ?_
    refine lv_iload_n hx hb dX0_add_34 rfl (lv_at hl 2 rfl) ?_
    refine va_iast hx hb hK hP hD hS 1 0 rfl rfl (vp_in_iff.mpr ⟨by omega, by omega⟩) dX0_add_35 (fun H locs hP hD hS => ?_)
    obtain ⟨f_3, ef_3⟩ : ∃ gz9 : Nat → Int32, gz9 = upd gkind (Int32.toNatClampNeg z) ki := ⟨_, rfl⟩
    rw [← ef_3] at hP hD
    have hP : va_P (dC, dI) vwCl [(h0, .inr (0, [.ref akind, .ref anext, .ref abefore, .ref aleave, .ref afirstSlot, .ref abuilds, .int x_2])), (akind, .inl (akkind, 400, .inl f_3)), (anext, .inl (aknext, 400, .inl gnext)), (abefore, .inl (akbefore, 400, .inl gbefore)), (aleave, .inl (akleave, 400, .inl gleave)), (afirstSlot, .inl (akfirstSlot, 400, .inl gfirstSlot)), (abuilds, .inl (akbuilds, 400, .inl gbuilds))] H := hP
    have hD : va_D A [(h0, .inr (0, [.ref akind, .ref anext, .ref abefore, .ref aleave, .ref afirstSlot, .ref abuilds, .int x_2])), (akind, .inl (akkind, 400, .inl f_3)), (anext, .inl (aknext, 400, .inl gnext)), (abefore, .inl (akbefore, 400, .inl gbefore)), (aleave, .inl (akleave, 400, .inl gleave)), (afirstSlot, .inl (akfirstSlot, 400, .inl gfirstSlot)), (abuilds, .inl (akbuilds, 400, .inl gbuilds))] := hD
    refine lv_aload_n hx hb dX0_add_36 rfl (lv_at hl 1 rfl) ?_
    refine va_get (D := (dC, dI)) (ci := 0) (v := .ref anext) (C := RX0) (T := TX0) (N := 7) hx hb hA zin_X0 hown hK hP 0 rfl rfl 1 (by decide) (hA _ wi_231) (fun _ h9 => h9) rfl dX0_add_37 ?_
    refine lv_iload_n hx hb dX0_add_40 rfl (lv_at hl 0 rfl) ?_
    refine lv_iconst (v := (-1)) hx hb dX0_add_41 (by decide) ?_
    refine va_iast hx hb hK hP hD hS 2 1 rfl rfl (vp_in_iff.mpr ⟨by omega, by omega⟩) dX0_add_42 (fun H locs hP hD hS => ?_)
    obtain ⟨f_4, ef_4⟩ : ∃ gz9 : Nat → Int32, gz9 = upd gnext (Int32.toNatClampNeg z) (-1) := ⟨_, rfl⟩
    rw [← ef_4] at hP hD
    have hp_f_4 : zx 400 f_4 := by rw [ef_4]; exact zx_upd hgn (by have h9 : Int32.toInt (-1) = (-1) := (by decide); omega) (by have h9 : Int32.toInt (-1) = (-1) := (by decide); omega)
    have hP : va_P (dC, dI) vwCl [(h0, .inr (0, [.ref akind, .ref anext, .ref abefore, .ref aleave, .ref afirstSlot, .ref abuilds, .int x_2])), (akind, .inl (akkind, 400, .inl f_3)), (anext, .inl (aknext, 400, .inl f_4)), (abefore, .inl (akbefore, 400, .inl gbefore)), (aleave, .inl (akleave, 400, .inl gleave)), (afirstSlot, .inl (akfirstSlot, 400, .inl gfirstSlot)), (abuilds, .inl (akbuilds, 400, .inl gbuilds))] H := hP
    have hD : va_D A [(h0, .inr (0, [.ref akind, .ref anext, .ref abefore, .ref aleave, .ref afirstSlot, .ref abuilds, .int x_2])), (akind, .inl (akkind, 400, .inl f_3)), (anext, .inl (aknext, 400, .inl f_4)), (abefore, .inl (akbefore, 400, .inl gbefore)), (aleave, .inl (akleave, 400, .inl gleave)), (afirstSlot, .inl (akfirstSlot, 400, .inl gfirstSlot)), (abuilds, .inl (akbuilds, 400, .inl gbuilds))] := hD
    refine lv_aload_n hx hb dX0_add_43 rfl (lv_at hl 1 rfl) ?_
    refine va_get (D := (dC, dI)) (ci := 0) (v := .ref abefore) (C := RX0) (T := TX0) (N := 7) hx hb hA zin_X0 hown hK hP 0 rfl rfl 2 (by decide) (hA _ wi_235) (fun _ h9 => h9) rfl dX0_add_44 ?_
    refine lv_iload_n hx hb dX0_add_47 rfl (lv_at hl 0 rfl) ?_
    refine lv_iconst (v := (-1)) hx hb dX0_add_48 (by decide) ?_
    refine va_iast hx hb hK hP hD hS 3 2 rfl rfl (vp_in_iff.mpr ⟨by omega, by omega⟩) dX0_add_49 (fun H locs hP hD hS => ?_)
    obtain ⟨f_5, ef_5⟩ : ∃ gz9 : Nat → Int32, gz9 = upd gbefore (Int32.toNatClampNeg z) (-1) := ⟨_, rfl⟩
    rw [← ef_5] at hP hD
    have hp_f_5 : zx 3000 f_5 := by rw [ef_5]; exact zx_upd hgb (by have h9 : Int32.toInt (-1) = (-1) := (by decide); omega) (by have h9 : Int32.toInt (-1) = (-1) := (by decide); omega)
    have hP : va_P (dC, dI) vwCl [(h0, .inr (0, [.ref akind, .ref anext, .ref abefore, .ref aleave, .ref afirstSlot, .ref abuilds, .int x_2])), (akind, .inl (akkind, 400, .inl f_3)), (anext, .inl (aknext, 400, .inl f_4)), (abefore, .inl (akbefore, 400, .inl f_5)), (aleave, .inl (akleave, 400, .inl gleave)), (afirstSlot, .inl (akfirstSlot, 400, .inl gfirstSlot)), (abuilds, .inl (akbuilds, 400, .inl gbuilds))] H := hP
    have hD : va_D A [(h0, .inr (0, [.ref akind, .ref anext, .ref abefore, .ref aleave, .ref afirstSlot, .ref abuilds, .int x_2])), (akind, .inl (akkind, 400, .inl f_3)), (anext, .inl (aknext, 400, .inl f_4)), (abefore, .inl (akbefore, 400, .inl f_5)), (aleave, .inl (akleave, 400, .inl gleave)), (afirstSlot, .inl (akfirstSlot, 400, .inl gfirstSlot)), (abuilds, .inl (akbuilds, 400, .inl gbuilds))] := hD
    refine lv_aload_n hx hb dX0_add_50 rfl (lv_at hl 1 rfl) ?_
    refine va_get (D := (dC, dI)) (ci := 0) (v := .ref aleave) (C := RX0) (T := TX0) (N := 7) hx hb hA zin_X0 hown hK hP 0 rfl rfl 3 (by decide) (hA _ wi_239) (fun _ h9 => h9) rfl dX0_add_51 ?_
    refine lv_iload_n hx hb dX0_add_54 rfl (lv_at hl 0 rfl) ?_
    refine lv_iconst (v := (-1)) hx hb dX0_add_55 (by decide) ?_
    refine va_iast hx hb hK hP hD hS 4 3 rfl rfl (vp_in_iff.mpr ⟨by omega, by omega⟩) dX0_add_56 (fun H locs hP hD hS => ?_)
    obtain ⟨f_6, ef_6⟩ : ∃ gz9 : Nat → Int32, gz9 = upd gleave (Int32.toNatClampNeg z) (-1) := ⟨_, rfl⟩
    rw [← ef_6] at hP hD
    have hp_f_6 : zx 3000 f_6 := by rw [ef_6]; exact zx_upd hgl (by have h9 : Int32.toInt (-1) = (-1) := (by decide); omega) (by have h9 : Int32.toInt (-1) = (-1) := (by decide); omega)
    have hP : va_P (dC, dI) vwCl [(h0, .inr (0, [.ref akind, .ref anext, .ref abefore, .ref aleave, .ref afirstSlot, .ref abuilds, .int x_2])), (akind, .inl (akkind, 400, .inl f_3)), (anext, .inl (aknext, 400, .inl f_4)), (abefore, .inl (akbefore, 400, .inl f_5)), (aleave, .inl (akleave, 400, .inl f_6)), (afirstSlot, .inl (akfirstSlot, 400, .inl gfirstSlot)), (abuilds, .inl (akbuilds, 400, .inl gbuilds))] H := hP
    have hD : va_D A [(h0, .inr (0, [.ref akind, .ref anext, .ref abefore, .ref aleave, .ref afirstSlot, .ref abuilds, .int x_2])), (akind, .inl (akkind, 400, .inl f_3)), (anext, .inl (aknext, 400, .inl f_4)), (abefore, .inl (akbefore, 400, .inl f_5)), (aleave, .inl (akleave, 400, .inl f_6)), (afirstSlot, .inl (akfirstSlot, 400, .inl gfirstSlot)), (abuilds, .inl (akbuilds, 400, .inl gbuilds))] := hD
    refine lv_aload_n hx hb dX0_add_57 rfl (lv_at hl 1 rfl) ?_
    refine va_get (D := (dC, dI)) (ci := 0) (v := .ref afirstSlot) (C := RX0) (T := TX0) (N := 7) hx hb hA zin_X0 hown hK hP 0 rfl rfl 4 (by decide) (hA _ wi_241) (fun _ h9 => h9) rfl dX0_add_58 ?_
    refine lv_iload_n hx hb dX0_add_61 rfl (lv_at hl 0 rfl) ?_
    refine lv_iload_n hx hb dX0_add_62 rfl (lv_at hl 3 rfl) ?_
    refine va_iast hx hb hK hP hD hS 5 4 rfl rfl (vp_in_iff.mpr ⟨by omega, by omega⟩) dX0_add_63 (fun H locs hP hD hS => ?_)
    obtain ⟨f_7, ef_7⟩ : ∃ gz9 : Nat → Int32, gz9 = upd gfirstSlot (Int32.toNatClampNeg z) sl := ⟨_, rfl⟩
    rw [← ef_7] at hP hD
    have hp_f_7 : zx 25 f_7 := by rw [ef_7]; exact zx_upd hgs (by omega) (by omega)
    have hP : va_P (dC, dI) vwCl [(h0, .inr (0, [.ref akind, .ref anext, .ref abefore, .ref aleave, .ref afirstSlot, .ref abuilds, .int x_2])), (akind, .inl (akkind, 400, .inl f_3)), (anext, .inl (aknext, 400, .inl f_4)), (abefore, .inl (akbefore, 400, .inl f_5)), (aleave, .inl (akleave, 400, .inl f_6)), (afirstSlot, .inl (akfirstSlot, 400, .inl f_7)), (abuilds, .inl (akbuilds, 400, .inl gbuilds))] H := hP
    have hD : va_D A [(h0, .inr (0, [.ref akind, .ref anext, .ref abefore, .ref aleave, .ref afirstSlot, .ref abuilds, .int x_2])), (akind, .inl (akkind, 400, .inl f_3)), (anext, .inl (aknext, 400, .inl f_4)), (abefore, .inl (akbefore, 400, .inl f_5)), (aleave, .inl (akleave, 400, .inl f_6)), (afirstSlot, .inl (akfirstSlot, 400, .inl f_7)), (abuilds, .inl (akbuilds, 400, .inl gbuilds))] := hD
    refine lv_aload_n hx hb dX0_add_64 rfl (lv_at hl 1 rfl) ?_
    refine va_get (D := (dC, dI)) (ci := 0) (v := .ref abuilds) (C := RX0) (T := TX0) (N := 7) hx hb hA zin_X0 hown hK hP 0 rfl rfl 5 (by decide) (hA _ wi_244) (fun _ h9 => h9) rfl dX0_add_65 ?_
    refine lv_iload_n hx hb dX0_add_68 rfl (lv_at hl 0 rfl) ?_
    refine lv_iconst (v := 0) hx hb dX0_add_69 (by decide) ?_
    refine va_iast hx hb hK hP hD hS 6 5 rfl rfl (vp_in_iff.mpr ⟨by omega, by omega⟩) dX0_add_70 (fun H locs hP hD hS => ?_)
    obtain ⟨f_8, ef_8⟩ : ∃ gz9 : Nat → Int32, gz9 = upd gbuilds (Int32.toNatClampNeg z) 0 := ⟨_, rfl⟩
    rw [← ef_8] at hP hD
    have hP : va_P (dC, dI) vwCl [(h0, .inr (0, [.ref akind, .ref anext, .ref abefore, .ref aleave, .ref afirstSlot, .ref abuilds, .int x_2])), (akind, .inl (akkind, 400, .inl f_3)), (anext, .inl (aknext, 400, .inl f_4)), (abefore, .inl (akbefore, 400, .inl f_5)), (aleave, .inl (akleave, 400, .inl f_6)), (afirstSlot, .inl (akfirstSlot, 400, .inl f_7)), (abuilds, .inl (akbuilds, 400, .inl f_8))] H := hP
    have hD : va_D A [(h0, .inr (0, [.ref akind, .ref anext, .ref abefore, .ref aleave, .ref afirstSlot, .ref abuilds, .int x_2])), (akind, .inl (akkind, 400, .inl f_3)), (anext, .inl (aknext, 400, .inl f_4)), (abefore, .inl (akbefore, 400, .inl f_5)), (aleave, .inl (akleave, 400, .inl f_6)), (afirstSlot, .inl (akfirstSlot, 400, .inl f_7)), (abuilds, .inl (akbuilds, 400, .inl f_8))] := hD
    refine lv_iload_n hx hb dX0_add_71 rfl (lv_at hl 0 rfl) ?_
    have hP9 := hP.sub (ws' := [(h0, .inr (0, [.ref akind, .ref anext, .ref abefore, .ref aleave, .ref afirstSlot, .ref abuilds, .int x_2])), (akind, .inl (akkind, 400, .inl f_3)), (anext, .inl (aknext, 400, .inl f_4)), (abefore, .inl (akbefore, 400, .inl f_5)), (aleave, .inl (akleave, 400, .inl f_6)), (afirstSlot, .inl (akfirstSlot, 400, .inl f_7)), (abuilds, .inl (akbuilds, 400, .inl f_8))]) [0, 1, 2, 3, 4, 5, 6] rfl
    have hD9 := hD.sub (ws' := [(h0, .inr (0, [.ref akind, .ref anext, .ref abefore, .ref aleave, .ref afirstSlot, .ref abuilds, .int x_2])), (akind, .inl (akkind, 400, .inl f_3)), (anext, .inl (aknext, 400, .inl f_4)), (abefore, .inl (akbefore, 400, .inl f_5)), (aleave, .inl (akleave, 400, .inl f_6)), (afirstSlot, .inl (akfirstSlot, 400, .inl f_7)), (abuilds, .inl (akbuilds, 400, .inl f_8))]) [0, 1, 2, 3, 4, 5, 6] (by decide) rfl
    have hK9 := hK.sub (tys' := [(akkind, .int), (aknext, .int), (akbefore, .int), (akleave, .int), (akfirstSlot, .int), (akbuilds, .int)]) [0, 1, 2, 3, 4, 5] rfl
    exact W.iret (v := z) hx hb hr (fun t ht hW => ⟨⟨z, (x_2, f_3, f_4, f_5, f_6, f_7, f_8), rfl, ⟨rfl, by omega, hp_f_4, hp_f_5, hp_f_6, hp_f_7, by rw [ef_3], by rw [ef_4], by rw [ef_5], by rw [ef_6], by rw [ef_7], by rw [ef_8]⟩, by rw [ht]; exact hP9, va_K.moved hW.alike hK9, hD9⟩, hS.F ht⟩) hS.2.2 dX0_add_72
  · have ic_1 : 400 ≤ z.toInt := zi_nlt c_1
    exfalso
    omega
set_option maxHeartbeats 4000000 in
set_option maxRecDepth 100000 in
theorem c_X10_advance_x (l : Launch) (dC : Nat → ClassId) (dI : Nat → Nat → Nat) (aK aV : Nat → Nat) (h0 : Nat) (ts : Nat) (tp : Nat) (tw : Nat) (t1 : ClassId) (t2 : ClassId) (t3 : ClassId) (z : Int32) (pa : Int32) (so : Int32) (pl : Int32) (wd : Int64) (gs : Nat → Int32) (gp : Nat → Int32) (gw : Nat → Int64) (sz : Nat) (hz0 : 0 ≤ z.toInt) (hz1 : z.toInt ≤ 2000) (ha0 : 0 ≤ pa.toInt) (ha1 : pa.toInt ≤ z.toInt) (hgz : gs (Int32.toNatClampNeg z) = 256) (hpt : zpt gs gp z pa pl so) : Met l yX10_advance (Cond.code yX10_advance cX10_advance 1 none :: zw) ({ frames := 8, cells := 0, slots := 0, locals := 200 }) (va_Pc [.ref h0] (zP dC dI aK aV sz [(t1, .int), (t2, .int), (t3, .long)] [(h0, .inr (10, [.ref ts, .ref tp, .ref tw, .int z, .int pa, .int so, .int pl, .long wd])), (ts, .inl (t1, 2001, .inl gs)), (tp, .inl (t2, 2001, .inl gp)), (tw, .inl (t3, 2001, .inr (.inl gw)))])) (va_Qv (fun u : Int32 × Int32 × Int32 × Int64 => match u with | (pa2, so2, pl2, wd2) => (0 ≤ pa2.toInt) ∧ (pa2.toInt ≤ z.toInt) ∧ (so2.toInt = 256 ∨ pa2.toInt < z.toInt) ∧ (pa.toInt = z.toInt ∨ pa2.toInt = pa.toInt + 1) ∧ (pa.toInt ≤ pa2.toInt) ∧ (zpt gs gp z pa2 pl2 so2) ∧ (pl.toInt ≤ pl2.toInt) ∧ (pa.toInt = z.toInt ∨ pl.toInt + 1 ≤ pl2.toInt) ∧ (so.toInt ≠ 261 ∨ pl.toInt + 2 ≤ pl2.toInt)) (fun u => match u with | (pa2, so2, pl2, wd2) => zQ dC dI (va_A [(h0, .inr (10, [.ref ts, .ref tp, .ref tw, .int z, .int pa, .int so, .int pl, .long wd])), (ts, .inl (t1, 2001, .inl gs)), (tp, .inl (t2, 2001, .inl gp)), (tw, .inl (t3, 2001, .inr (.inl gw)))] sz) [(t1, .int), (t2, .int), (t3, .long)] [(h0, .inr (10, [.ref ts, .ref tp, .ref tw, .int z, .int pa2, .int so2, .int pl2, .long wd2])), (ts, .inl (t1, 2001, .inl gs)), (tp, .inl (t2, 2001, .inl gp)), (tw, .inl (t3, 2001, .inr (.inl gw)))]) (va_A [(h0, .inr (10, [.ref ts, .ref tp, .ref tw, .int z, .int pa, .int so, .int pl, .long wd])), (ts, .inl (t1, 2001, .inl gs)), (tp, .inl (t2, 2001, .inl gp)), (tw, .inl (t3, 2001, .inr (.inl gw)))] sz)) 0 0 (va_A [(h0, .inr (10, [.ref ts, .ref tp, .ref tw, .int z, .int pa, .int so, .int pl, .long wd])), (ts, .inl (t1, 2001, .inl gs)), (tp, .inl (t2, 2001, .inl gp)), (tw, .inl (t3, 2001, .inr (.inl gw)))] sz) := by
  refine Met.ofW (cc := cX10_advance) (maxL := 1) (ret := none) (by decide) rfl ?_
  intro p e s m args below meth c s₁ B hml hv
  obtain ⟨rfl, hsz, hP, hK, hD0, hN, hT⟩ := hv
  have hx := B.exec
  have hb := B.bytes
  have hr := B.returns
  have hts := atoms_spec (ws := Cond.code yX10_advance cX10_advance 1 none :: zw) B.pre
  have hA : ∀ w ∈ zw, w.before _ s = true := fun w h => hts w (List.mem_cons_of_mem _ h)
  have hown : s.vm.findClass RX10 = some m.cls := findClass_of_methodNamed B.named
  have hlocks := B.notSynchronized
  subst hsz
  have hD := hD0.self (sz := s.heap.size)
  generalize hAe : va_A [(h0, .inr (10, [.ref ts, .ref tp, .ref tw, .int z, .int pa, .int so, .int pl, .long wd])), (ts, .inl (t1, 2001, .inl gs)), (tp, .inl (t2, 2001, .inl gp)), (tw, .inl (t3, 2001, .inr (.inl gw)))] s.heap.size = A at hD hT ⊢
  have hAA : ∀ q : Nat, s.heap.size ≤ q → A q := fun q h => by rw [← hAe]; exact Or.inr h
  have hS : va_S A s.heap s.heap [] := va_S.rf
  have hl := lv_entry ([.ref h0]) (n := 1) (Nat.le_of_ble_eq_true rfl)
  rw [lg_entry_eq]
  generalize (lg_sl ([.ref h0]) ++ List.replicate (1 - (lg_sl ([.ref h0])).length) Slot.unset).toArray = ls at hl ⊢
  have hl : lv_has ls 1 [(0, .ref h0)] := hl
  refine lv_aload_n hx hb dX10_advance_0 rfl (lv_at hl 0 rfl) ?_
  refine lv_aload_n hx hb dX10_advance_1 rfl (lv_at hl 0 rfl) ?_
  refine va_get (D := (dC, dI)) (ci := 10) (v := .int pa) (C := RX10) (T := TX10) (N := 8) hx hb hA zin_X10 hown hK hP 0 rfl rfl 4 (by decide) (hA _ wi_350) (fun _ h9 => h9) rfl dX10_advance_2 ?_
  refine lv_iconst (v := 1) hx hb dX10_advance_5 (by decide) ?_
  refine lv_iadd hx hb dX10_advance_6 ?_
  refine lv_topi (fun x_1 ex_1 => ?_)
  have ix_1 : x_1.toInt = pa.toInt + 1 := by rw [ex_1]; exact zi_addc (by decide) (by omega) (by omega)
  refine lv_aload_n hx hb dX10_advance_7 rfl (lv_at hl 0 rfl) ?_
  refine va_get (D := (dC, dI)) (ci := 10) (v := .int z) (C := RX10) (T := TX10) (N := 8) hx hb hA zin_X10 hown hK hP 0 rfl rfl 3 (by decide) (hA _ wi_349) (fun _ h9 => h9) rfl dX10_advance_8 ?_
  refine va_mmin hx hb (by rw [hml]; exact hl.1.symm) hown (hA _ wi_657) (hA _ wi_658) (hA _ wi_141) (hA _ wi_659) (Nat.le_of_ble_eq_true rfl) (Nat.le_of_ble_eq_true rfl) (Nat.le_of_ble_eq_true rfl) (Nat.le_of_ble_eq_true rfl) dX10_advance_11 ?_
  refine lv_topi (fun x_2 ex_2 => ?_)
  have ix_2 : x_2.toInt ≤ x_1.toInt ∧ x_2.toInt ≤ z.toInt ∧ (x_2.toInt = x_1.toInt ∨ x_2.toInt = z.toInt) := zi_min ex_2 rfl rfl
  refine va_put (D := (dC, dI)) (ci := 10) (v := .int x_2) (ty := .int) (C := RX10) (T := TX10) (N := 8) hx hb hA zin_X10 tyX10 tyX10_ok nmX10 hown hK hP hD hS 0 rfl rfl 4 (by decide) (hA _ wi_350) (fun _ h9 => h9) rfl (by decide +kernel) rfl rfl (Nat.le_of_ble_eq_true rfl) dX10_advance_14 (fun H locs hP hD hS => ?_)
  have hP : va_P (dC, dI) vwCl [(h0, .inr (10, [.ref ts, .ref tp, .ref tw, .int z, .int x_2, .int so, .int pl, .long wd])), (ts, .inl (t1, 2001, .inl gs)), (tp, .inl (t2, 2001, .inl gp)), (tw, .inl (t3, 2001, .inr (.inl gw)))] H := hP
  have hD : va_D A [(h0, .inr (10, [.ref ts, .ref tp, .ref tw, .int z, .int x_2, .int so, .int pl, .long wd])), (ts, .inl (t1, 2001, .inl gs)), (tp, .inl (t2, 2001, .inl gp)), (tw, .inl (t3, 2001, .inr (.inl gw)))] := hD
  refine lv_aload_n hx hb dX10_advance_17 rfl (lv_at hl 0 rfl) ?_
  refine lv_aload_n hx hb dX10_advance_18 rfl (lv_at hl 0 rfl) ?_
  refine va_get (D := (dC, dI)) (ci := 10) (v := .ref ts) (C := RX10) (T := TX10) (N := 8) hx hb hA zin_X10 hown hK hP 0 rfl rfl 0 (by decide) (hA _ wi_346) (fun _ h9 => h9) rfl dX10_advance_19 ?_
  refine lv_aload_n hx hb dX10_advance_22 rfl (lv_at hl 0 rfl) ?_
  refine va_get (D := (dC, dI)) (ci := 10) (v := .int x_2) (C := RX10) (T := TX10) (N := 8) hx hb hA zin_X10 hown hK hP 0 rfl rfl 4 (by decide) (hA _ wi_350) (fun _ h9 => h9) rfl dX10_advance_23 ?_
  refine va_iald hx hb hK hP 1 0 rfl rfl (vp_in_iff.mpr ⟨by omega, by omega⟩) dX10_advance_26 ?_
  refine lv_topi (fun x_3 ex_3 => ?_)
  refine va_put (D := (dC, dI)) (ci := 10) (v := .int x_3) (ty := .int) (C := RX10) (T := TX10) (N := 8) hx hb hA zin_X10 tyX10 tyX10_ok nmX10 hown hK hP hD hS 0 rfl rfl 5 (by decide) (hA _ wi_352) (fun _ h9 => h9) rfl (by decide +kernel) rfl rfl (Nat.le_of_ble_eq_true rfl) dX10_advance_27 (fun H locs hP hD hS => ?_)
  have hP : va_P (dC, dI) vwCl [(h0, .inr (10, [.ref ts, .ref tp, .ref tw, .int z, .int x_2, .int x_3, .int pl, .long wd])), (ts, .inl (t1, 2001, .inl gs)), (tp, .inl (t2, 2001, .inl gp)), (tw, .inl (t3, 2001, .inr (.inl gw)))] H := hP
  have hD : va_D A [(h0, .inr (10, [.ref ts, .ref tp, .ref tw, .int z, .int x_2, .int x_3, .int pl, .long wd])), (ts, .inl (t1, 2001, .inl gs)), (tp, .inl (t2, 2001, .inl gp)), (tw, .inl (t3, 2001, .inr (.inl gw)))] := hD
  refine lv_aload_n hx hb dX10_advance_30 rfl (lv_at hl 0 rfl) ?_
  refine lv_aload_n hx hb dX10_advance_31 rfl (lv_at hl 0 rfl) ?_
  refine va_get (D := (dC, dI)) (ci := 10) (v := .ref tp) (C := RX10) (T := TX10) (N := 8) hx hb hA zin_X10 hown hK hP 0 rfl rfl 1 (by decide) (hA _ wi_347) (fun _ h9 => h9) rfl dX10_advance_32 ?_
  refine lv_aload_n hx hb dX10_advance_35 rfl (lv_at hl 0 rfl) ?_
  refine va_get (D := (dC, dI)) (ci := 10) (v := .int x_2) (C := RX10) (T := TX10) (N := 8) hx hb hA zin_X10 hown hK hP 0 rfl rfl 4 (by decide) (hA _ wi_350) (fun _ h9 => h9) rfl dX10_advance_36 ?_
  refine va_iald hx hb hK hP 2 1 rfl rfl (vp_in_iff.mpr ⟨by omega, by omega⟩) dX10_advance_39 ?_
  refine lv_topi (fun x_4 ex_4 => ?_)
  refine va_put (D := (dC, dI)) (ci := 10) (v := .int x_4) (ty := .int) (C := RX10) (T := TX10) (N := 8) hx hb hA zin_X10 tyX10 tyX10_ok nmX10 hown hK hP hD hS 0 rfl rfl 6 (by decide) (hA _ wi_354) (fun _ h9 => h9) rfl (by decide +kernel) rfl rfl (Nat.le_of_ble_eq_true rfl) dX10_advance_40 (fun H locs hP hD hS => ?_)
  have hP : va_P (dC, dI) vwCl [(h0, .inr (10, [.ref ts, .ref tp, .ref tw, .int z, .int x_2, .int x_3, .int x_4, .long wd])), (ts, .inl (t1, 2001, .inl gs)), (tp, .inl (t2, 2001, .inl gp)), (tw, .inl (t3, 2001, .inr (.inl gw)))] H := hP
  have hD : va_D A [(h0, .inr (10, [.ref ts, .ref tp, .ref tw, .int z, .int x_2, .int x_3, .int x_4, .long wd])), (ts, .inl (t1, 2001, .inl gs)), (tp, .inl (t2, 2001, .inl gp)), (tw, .inl (t3, 2001, .inr (.inl gw)))] := hD
  refine lv_aload_n hx hb dX10_advance_43 rfl (lv_at hl 0 rfl) ?_
  refine lv_aload_n hx hb dX10_advance_44 rfl (lv_at hl 0 rfl) ?_
  refine va_get (D := (dC, dI)) (ci := 10) (v := .ref tw) (C := RX10) (T := TX10) (N := 8) hx hb hA zin_X10 hown hK hP 0 rfl rfl 2 (by decide) (hA _ wi_348) (fun _ h9 => h9) rfl dX10_advance_45 ?_
  refine lv_aload_n hx hb dX10_advance_48 rfl (lv_at hl 0 rfl) ?_
  refine va_get (D := (dC, dI)) (ci := 10) (v := .int x_2) (C := RX10) (T := TX10) (N := 8) hx hb hA zin_X10 hown hK hP 0 rfl rfl 4 (by decide) (hA _ wi_350) (fun _ h9 => h9) rfl dX10_advance_49 ?_
  refine va_lald hx hb hK hP 3 2 rfl rfl (vp_in_iff.mpr ⟨by omega, by omega⟩) dX10_advance_52 ?_
  refine lv_topl (fun x_5 ex_5 => ?_)
  refine va_put (D := (dC, dI)) (ci := 10) (v := .long x_5) (ty := .long) (C := RX10) (T := TX10) (N := 8) hx hb hA zin_X10 tyX10 tyX10_ok nmX10 hown hK hP hD hS 0 rfl rfl 7 (by decide) (hA _ wi_356) (fun _ h9 => h9) rfl (by decide +kernel) rfl rfl (Nat.le_of_ble_eq_true rfl) dX10_advance_53 (fun H locs hP hD hS => ?_)
  have hP : va_P (dC, dI) vwCl [(h0, .inr (10, [.ref ts, .ref tp, .ref tw, .int z, .int x_2, .int x_3, .int x_4, .long x_5])), (ts, .inl (t1, 2001, .inl gs)), (tp, .inl (t2, 2001, .inl gp)), (tw, .inl (t3, 2001, .inr (.inl gw)))] H := hP
  have hD : va_D A [(h0, .inr (10, [.ref ts, .ref tp, .ref tw, .int z, .int x_2, .int x_3, .int x_4, .long x_5])), (ts, .inl (t1, 2001, .inl gs)), (tp, .inl (t2, 2001, .inl gp)), (tw, .inl (t3, 2001, .inr (.inl gw)))] := hD
  obtain ⟨hp1, hp2, hp3, hp4⟩ := zpt_ad hpt ha0 ha1 (pa2 := x_2) (by omega) ex_4 ex_3 (by omega)
  have hP9 := hP.sub (ws' := [(h0, .inr (10, [.ref ts, .ref tp, .ref tw, .int z, .int x_2, .int x_3, .int x_4, .long x_5])), (ts, .inl (t1, 2001, .inl gs)), (tp, .inl (t2, 2001, .inl gp)), (tw, .inl (t3, 2001, .inr (.inl gw)))]) [0, 1, 2, 3] rfl
  have hD9 := hD.sub (ws' := [(h0, .inr (10, [.ref ts, .ref tp, .ref tw, .int z, .int x_2, .int x_3, .int x_4, .long x_5])), (ts, .inl (t1, 2001, .inl gs)), (tp, .inl (t2, 2001, .inl gp)), (tw, .inl (t3, 2001, .inr (.inl gw)))]) [0, 1, 2, 3] (by decide) rfl
  have hK9 := hK.sub (tys' := [(t1, .int), (t2, .int), (t3, .long)]) [0, 1, 2] rfl
  exact W.vret hx hb hr (fun t ht hW => ⟨⟨(x_2, x_3, x_4, x_5), rfl, ⟨by omega, by omega, zt_adv ex_3 hgz (by omega), by omega, by omega, hp1, by omega, by omega, by omega⟩, by rw [ht]; exact hP9, va_K.moved hW.alike hK9, hD9⟩, hS.F ht⟩) hS.2.2 dX10_advance_56
set_option maxHeartbeats 4000000 in
set_option maxRecDepth 100000 in
theorem c_X7_expect_x (l : Launch) (dC : Nat → ClassId) (dI : Nat → Nat → Nat) (aK aV : Nat → Nat) (h0 : Nat) (ptok : Nat) (pnee : Nat) (pnam : Nat) (pbui : Nat) (pdra : Nat) (ar : Int32) (fu : Int32) (fn : Int32) (fp : Int32) (ts : Nat) (tp : Nat) (tw : Nat) (t1 : ClassId) (t2 : ClassId) (t3 : ClassId) (z : Int32) (pa : Int32) (so : Int32) (pl : Int32) (wd : Int64) (gs : Nat → Int32) (gp : Nat → Int32) (gw : Nat → Int64) (sx : Int32) (sz : Nat) (hlt : l.stackTraces = false) (hz0 : 0 ≤ z.toInt) (hz1 : z.toInt ≤ 2000) (ha0 : 0 ≤ pa.toInt) (ha1 : pa.toInt ≤ z.toInt) (hgz : gs (Int32.toNatClampNeg z) = 256) (hpt : zpt gs gp z pa pl so) (hso : so.toInt = 256 ∨ pa.toInt < z.toInt) : vy_Met l yX7_expect (Cond.code yX7_expect cX7_expect 2 none :: zw) ({ frames := 14, cells := 1, slots := 6, locals := 500 }) (va_Pc [.ref h0, .int sx] (zP dC dI aK aV sz [(t1, .int), (t2, .int), (t3, .long)] [(h0, .inr (7, [.ref ptok, .ref pnee, .ref pnam, .int ar, .ref pbui, .ref pdra, .int fu, .int fn, .int fp])), (ptok, .inr (10, [.ref ts, .ref tp, .ref tw, .int z, .int pa, .int so, .int pl, .long wd])), (ts, .inl (t1, 2001, .inl gs)), (tp, .inl (t2, 2001, .inl gp)), (tw, .inl (t3, 2001, .inr (.inl gw)))])) (va_Qv (fun u : Int32 × Int32 × Int32 × Int64 => match u with | (pa2, so2, pl2, wd2) => (0 ≤ pa2.toInt) ∧ (pa2.toInt ≤ z.toInt) ∧ (so2.toInt = 256 ∨ pa2.toInt < z.toInt) ∧ (pa.toInt = z.toInt ∨ pa2.toInt = pa.toInt + 1) ∧ (pa.toInt ≤ pa2.toInt) ∧ (so.toInt = sx.toInt) ∧ (zpt gs gp z pa2 pl2 so2) ∧ (pl.toInt ≤ pl2.toInt) ∧ (pa.toInt = z.toInt ∨ pl.toInt + 1 ≤ pl2.toInt) ∧ (so.toInt ≠ 261 ∨ pl.toInt + 2 ≤ pl2.toInt)) (fun u => match u with | (pa2, so2, pl2, wd2) => zQ dC dI (va_A [(h0, .inr (7, [.ref ptok, .ref pnee, .ref pnam, .int ar, .ref pbui, .ref pdra, .int fu, .int fn, .int fp])), (ptok, .inr (10, [.ref ts, .ref tp, .ref tw, .int z, .int pa, .int so, .int pl, .long wd])), (ts, .inl (t1, 2001, .inl gs)), (tp, .inl (t2, 2001, .inl gp)), (tw, .inl (t3, 2001, .inr (.inl gw)))] sz) [(t1, .int), (t2, .int), (t3, .long)] [(h0, .inr (7, [.ref ptok, .ref pnee, .ref pnam, .int ar, .ref pbui, .ref pdra, .int fu, .int fn, .int fp])), (ptok, .inr (10, [.ref ts, .ref tp, .ref tw, .int z, .int pa2, .int so2, .int pl2, .long wd2])), (ts, .inl (t1, 2001, .inl gs)), (tp, .inl (t2, 2001, .inl gp)), (tw, .inl (t3, 2001, .inr (.inl gw)))]) (va_A [(h0, .inr (7, [.ref ptok, .ref pnee, .ref pnam, .int ar, .ref pbui, .ref pdra, .int fu, .int fn, .int fp])), (ptok, .inr (10, [.ref ts, .ref tp, .ref tw, .int z, .int pa, .int so, .int pl, .long wd])), (ts, .inl (t1, 2001, .inl gs)), (tp, .inl (t2, 2001, .inl gp)), (tw, .inl (t3, 2001, .inr (.inl gw)))] sz)) (vx_X (fun u : Int32 × Int32 => match u with | (fn2, fp2) => True) (fun E u t => E = "java/lang/IllegalStateException" ∧ (match u with | (fn2, fp2) => zQ dC dI (va_A [(h0, .inr (7, [.ref ptok, .ref pnee, .ref pnam, .int ar, .ref pbui, .ref pdra, .int fu, .int fn, .int fp])), (ptok, .inr (10, [.ref ts, .ref tp, .ref tw, .int z, .int pa, .int so, .int pl, .long wd])), (ts, .inl (t1, 2001, .inl gs)), (tp, .inl (t2, 2001, .inl gp)), (tw, .inl (t3, 2001, .inr (.inl gw)))] sz) [(t1, .int), (t2, .int), (t3, .long)] [(h0, .inr (7, [.ref ptok, .ref pnee, .ref pnam, .int ar, .ref pbui, .ref pdra, .int fu, .int fn2, .int fp2])), (ptok, .inr (10, [.ref ts, .ref tp, .ref tw, .int z, .int pa, .int so, .int pl, .long wd])), (ts, .inl (t1, 2001, .inl gs)), (tp, .inl (t2, 2001, .inl gp)), (tw, .inl (t3, 2001, .inr (.inl gw)))] t)) (va_A [(h0, .inr (7, [.ref ptok, .ref pnee, .ref pnam, .int ar, .ref pbui, .ref pdra, .int fu, .int fn, .int fp])), (ptok, .inr (10, [.ref ts, .ref tp, .ref tw, .int z, .int pa, .int so, .int pl, .long wd])), (ts, .inl (t1, 2001, .inl gs)), (tp, .inl (t2, 2001, .inl gp)), (tw, .inl (t3, 2001, .inr (.inl gw)))] sz)) 0 0 1 6 (va_A [(h0, .inr (7, [.ref ptok, .ref pnee, .ref pnam, .int ar, .ref pbui, .ref pdra, .int fu, .int fn, .int fp])), (ptok, .inr (10, [.ref ts, .ref tp, .ref tw, .int z, .int pa, .int so, .int pl, .long wd])), (ts, .inl (t1, 2001, .inl gs)), (tp, .inl (t2, 2001, .inl gp)), (tw, .inl (t3, 2001, .inr (.inl gw)))] sz) := by
  refine vy_ofW (cc := cX7_expect) (maxL := 2) (ret := none) (by decide) rfl ?_
  intro p e s m args below meth c s₁ B hml hnh hv
  obtain ⟨rfl, hsz, hP, hK, hD0, hN, hT⟩ := hv
  have hx := B.exec
  have hb := B.bytes
  have hr := B.returns
  have hts := atoms_spec (ws := Cond.code yX7_expect cX7_expect 2 none :: zw) B.pre
  have hA : ∀ w ∈ zw, w.before _ s = true := fun w h => hts w (List.mem_cons_of_mem _ h)
  have hown : s.vm.findClass RX7 = some m.cls := findClass_of_methodNamed B.named
  have hlocks := B.notSynchronized
  subst hsz
  have hD := hD0.self (sz := s.heap.size)
  generalize hAe : va_A [(h0, .inr (7, [.ref ptok, .ref pnee, .ref pnam, .int ar, .ref pbui, .ref pdra, .int fu, .int fn, .int fp])), (ptok, .inr (10, [.ref ts, .ref tp, .ref tw, .int z, .int pa, .int so, .int pl, .long wd])), (ts, .inl (t1, 2001, .inl gs)), (tp, .inl (t2, 2001, .inl gp)), (tw, .inl (t3, 2001, .inr (.inl gw)))] s.heap.size = A at hD hT ⊢
  have hAA : ∀ q : Nat, s.heap.size ≤ q → A q := fun q h => by rw [← hAe]; exact Or.inr h
  have hS : va_S A s.heap s.heap [] := va_S.rf
  have hl := lv_entry ([.ref h0, .int sx]) (n := 2) (Nat.le_of_ble_eq_true rfl)
  rw [lg_entry_eq]
  generalize (lg_sl ([.ref h0, .int sx]) ++ List.replicate (2 - (lg_sl ([.ref h0, .int sx])).length) Slot.unset).toArray = ls at hl ⊢
  have hl : lv_has ls 2 [(0, .ref h0), (1, .int sx)] := hl
  refine lv_aload_n hx hb dX7_expect_0 rfl (lv_at hl 0 rfl) ?_
  refine va_get (D := (dC, dI)) (ci := 7) (v := .ref ptok) (C := RX7) (T := TX7) (N := 9) hx hb hA zin_X7 hown hK hP 0 rfl rfl 0 (by decide) (hA _ wi_387) (fun _ h9 => h9) rfl dX7_expect_1 ?_
  refine va_get (D := (dC, dI)) (ci := 10) (v := .int so) (C := RX10) (T := TX10) (N := 8) hx hb hA zin_X10 hown hK hP 1 rfl rfl 5 (by decide) (hA _ wi_353) (fun _ h9 => h9) rfl dX7_expect_4 ?_
  refine lv_iload_n hx hb dX7_expect_7 rfl (lv_at hl 1 rfl) ?_
  refine lv_icmp_eq (tgt := 15) hx hb dX7_expect_8 (by decide) (fun c_1 => ?_) (fun c_1 => ?_)
  · have ic_1 : so.toInt = sx.toInt := zi_eq c_1
    refine lv_aload_n hx hb dX7_expect_15 rfl (lv_at hl 0 rfl) ?_
    refine va_get (D := (dC, dI)) (ci := 7) (v := .ref ptok) (C := RX7) (T := TX7) (N := 9) hx hb hA zin_X7 hown hK hP 0 rfl rfl 0 (by decide) (hA _ wi_387) (fun _ h9 => h9) rfl dX7_expect_16 ?_
    have hPc := hP.sub (ws' := [(ptok, .inr (10, [.ref ts, .ref tp, .ref tw, .int z, .int pa, .int so, .int pl, .long wd])), (ts, .inl (t1, 2001, .inl gs)), (tp, .inl (t2, 2001, .inl gp)), (tw, .inl (t3, 2001, .inr (.inl gw)))]) [1, 2, 3, 4] rfl
    have hDc := hD.sub (ws' := [(ptok, .inr (10, [.ref ts, .ref tp, .ref tw, .int z, .int pa, .int so, .int pl, .long wd])), (ts, .inl (t1, 2001, .inl gs)), (tp, .inl (t2, 2001, .inl gp)), (tw, .inl (t3, 2001, .inr (.inl gw)))]) [1, 2, 3, 4] (by decide) rfl
    have hKc := hK.sub (tys' := [(t1, .int), (t2, .int), (t3, .long)]) [0, 1, 2] rfl
    have hFc := va_free (wc := [(ptok, .inr (10, [.ref ts, .ref tp, .ref tw, .int z, .int pa, .int so, .int pl, .long wd])), (ts, .inl (t1, 2001, .inl gs)), (tp, .inl (t2, 2001, .inl gp)), (tw, .inl (t3, 2001, .inr (.inl gw)))]) hD hS hAA [1, 2, 3, 4] rfl
    refine va_callv (va_runV (As := []) (rest := []) ⟨hx, hb, hml, hown, hA⟩ (c_X10_advance_x l dC dI aK aV ptok ts tp tw t1 t2 t3 z pa so pl wd gs gp gw s.heap.size (by omega) (by omega) (by omega) (by omega) hgz hpt) (cwV 0 hA (zw_V wi_881 wi_775 wi_776 wi_137 (zw_good wi_777)) rfl rfl rfl (by decide +kernel) ⟨(Nat.le_of_ble_eq_true rfl), (Nat.le_of_ble_eq_true rfl)⟩) ⟨zP_blind, va_recv hKc hPc (ci := 10) (q0 := 0) rfl rfl, zz_pre hKc hPc hDc hN hT hS hFc⟩ rfl rfl hl.1 rfl (lv_room (Nat.le_of_ble_eq_true rfl)) dX7_expect_19 ⟨(Nat.le_of_ble_eq_true rfl), (Nat.le_of_ble_eq_true rfl)⟩) hS (fun q _ h => hFc q h) hFc (fun u t H1 locs ht hvm hw hB hz1 hk1 hS => ?_)
    obtain ⟨pa_3, so_4, pl_5, wd_6⟩ := u
    obtain ⟨hP1, hK1, hD1⟩ := hB
    rw [ht] at hP1
    have hK1 := va_K.moved hvm.symm hK1
    obtain ⟨hP, hD⟩ := va_join (wr := [(h0, .inr (7, [.ref ptok, .ref pnee, .ref pnam, .int ar, .ref pbui, .ref pdra, .int fu, .int fn, .int fp]))]) (w1 := [(ptok, .inr (10, [.ref ts, .ref tp, .ref tw, .int z, .int pa_3, .int so_4, .int pl_5, .long wd_6])), (ts, .inl (t1, 2001, .inl gs)), (tp, .inl (t2, 2001, .inl gp)), (tw, .inl (t3, 2001, .inr (.inl gw)))]) hP hD [1, 2, 3, 4] [0] rfl rfl (by decide) (by decide) hk1 hFc hP1 hD1
    have hK := (hK.sub (tys' := []) [] rfl).app hK1
    generalize H1 = H at hP hS ⊢
    have hP : va_P (dC, dI) vwCl [(h0, .inr (7, [.ref ptok, .ref pnee, .ref pnam, .int ar, .ref pbui, .ref pdra, .int fu, .int fn, .int fp])), (ptok, .inr (10, [.ref ts, .ref tp, .ref tw, .int z, .int pa_3, .int so_4, .int pl_5, .long wd_6])), (ts, .inl (t1, 2001, .inl gs)), (tp, .inl (t2, 2001, .inl gp)), (tw, .inl (t3, 2001, .inr (.inl gw)))] H := hP
    have hD : va_D A [(h0, .inr (7, [.ref ptok, .ref pnee, .ref pnam, .int ar, .ref pbui, .ref pdra, .int fu, .int fn, .int fp])), (ptok, .inr (10, [.ref ts, .ref tp, .ref tw, .int z, .int pa_3, .int so_4, .int pl_5, .long wd_6])), (ts, .inl (t1, 2001, .inl gs)), (tp, .inl (t2, 2001, .inl gp)), (tw, .inl (t3, 2001, .inr (.inl gw)))] := hD
    have hK : va_K (dC, dI) vwCl [(t1, .int), (t2, .int), (t3, .long)] s := hK
    obtain ⟨hq_7, hq_8, hq_9, hq_10, hq_11, hq_12, hq_13, hq_14, hq_15⟩ := hw
    have hP9 := hP.sub (ws' := [(h0, .inr (7, [.ref ptok, .ref pnee, .ref pnam, .int ar, .ref pbui, .ref pdra, .int fu, .int fn, .int fp])), (ptok, .inr (10, [.ref ts, .ref tp, .ref tw, .int z, .int pa_3, .int so_4, .int pl_5, .long wd_6])), (ts, .inl (t1, 2001, .inl gs)), (tp, .inl (t2, 2001, .inl gp)), (tw, .inl (t3, 2001, .inr (.inl gw)))]) [0, 1, 2, 3, 4] rfl
    have hD9 := hD.sub (ws' := [(h0, .inr (7, [.ref ptok, .ref pnee, .ref pnam, .int ar, .ref pbui, .ref pdra, .int fu, .int fn, .int fp])), (ptok, .inr (10, [.ref ts, .ref tp, .ref tw, .int z, .int pa_3, .int so_4, .int pl_5, .long wd_6])), (ts, .inl (t1, 2001, .inl gs)), (tp, .inl (t2, 2001, .inl gp)), (tw, .inl (t3, 2001, .inr (.inl gw)))]) [0, 1, 2, 3, 4] (by decide) rfl
    have hK9 := hK.sub (tys' := [(t1, .int), (t2, .int), (t3, .long)]) [0, 1, 2] rfl
    exact vy_mono vy_ret (vx_ret (W.vret hx hb hr (fun t ht hW => ⟨⟨(pa_3, so_4, pl_5, wd_6), rfl, ⟨by omega, by omega, by omega, by omega, by omega, by omega, hq_12, by omega, by omega, by omega⟩, by rw [ht]; exact hP9, va_K.moved hW.alike hK9, hD9⟩, hS.F ht⟩) hS.2.2 dX7_expect_22))
  · have ic_1 : so.toInt ≠ sx.toInt := zi_ne c_1
    refine lv_aload_n hx hb dX7_expect_11 rfl (lv_at hl 0 rfl) ?_
    have hPc := hP.sub (ws' := [(h0, .inr (7, [.ref ptok, .ref pnee, .ref pnam, .int ar, .ref pbui, .ref pdra, .int fu, .int fn, .int fp])), (ptok, .inr (10, [.ref ts, .ref tp, .ref tw, .int z, .int pa, .int so, .int pl, .long wd]))]) [0, 1] rfl
    have hDc := hD.sub (ws' := [(h0, .inr (7, [.ref ptok, .ref pnee, .ref pnam, .int ar, .ref pbui, .ref pdra, .int fu, .int fn, .int fp])), (ptok, .inr (10, [.ref ts, .ref tp, .ref tw, .int z, .int pa, .int so, .int pl, .long wd]))]) [0, 1] (by decide) rfl
    have hKc := hK.sub (tys' := []) [] rfl
    have hFc := va_free (wc := [(h0, .inr (7, [.ref ptok, .ref pnee, .ref pnam, .int ar, .ref pbui, .ref pdra, .int fu, .int fn, .int fp])), (ptok, .inr (10, [.ref ts, .ref tp, .ref tw, .int z, .int pa, .int so, .int pl, .long wd]))]) hD hS hAA [0, 1] rfl
    refine vy_callv (vy_runV (As := []) (rest := []) ⟨hx, hb, hml, hown, hA⟩ (c_X7_failForm l dC dI aK aV h0 ptok pnee pnam pbui pdra ar fu fn fp ts tp tw z pa so pl wd s.heap.size hlt) (cwV 0 hA (zw_V wi_877 wi_879 wi_8 wi_136 (zw_good wi_880)) rfl rfl rfl (by decide +kernel) ⟨(Nat.le_of_ble_eq_true rfl), (Nat.le_of_ble_eq_true rfl)⟩) ⟨zP_blind, va_recv hKc hPc (ci := 7) (q0 := 0) rfl rfl, zz_pre hKc hPc hDc hN hT hS hFc⟩ rfl rfl hl.1 rfl (lv_room (Nat.le_of_ble_eq_true rfl)) dX7_expect_12 ⟨(Nat.le_of_ble_eq_true rfl), (Nat.le_of_ble_eq_true rfl)⟩) hS (fun q _ h => hFc q h) hFc (fun q _ h => hFc q h) (fun E9 ce9 q9 u t H1 locs ht hvm hw hB hz1 hk1 hS hcell hcv hcl => ?_) (fun u t H1 locs ht hvm hw hB hz1 hk1 hS => absurd hw id)
    obtain ⟨x_fn2_17, x_fp2_18⟩ := u
    obtain ⟨rfl, hP1, hK1, hD1⟩ := hB
    rw [ht] at hP1
    have hK1 := va_K.moved hvm.symm hK1
    obtain ⟨hP, hD⟩ := va_join (wr := [(ts, .inl (t1, 2001, .inl gs)), (tp, .inl (t2, 2001, .inl gp)), (tw, .inl (t3, 2001, .inr (.inl gw)))]) (w1 := [(h0, .inr (7, [.ref ptok, .ref pnee, .ref pnam, .int ar, .ref pbui, .ref pdra, .int fu, .int x_fn2_17, .int x_fp2_18])), (ptok, .inr (10, [.ref ts, .ref tp, .ref tw, .int z, .int pa, .int so, .int pl, .long wd]))]) hP hD [0, 1] [2, 3, 4] rfl rfl (by decide) (by decide) hk1 hFc hP1 hD1
    have hK := (hK.sub (tys' := [(t1, .int), (t2, .int), (t3, .long)]) [0, 1, 2] rfl).app hK1
    clear hPc hDc hFc hP1 hD1 hk1 hz1 ht hvm
    generalize H1 = H at hP hS hcell ⊢
    have hP : va_P (dC, dI) vwCl [(ts, .inl (t1, 2001, .inl gs)), (tp, .inl (t2, 2001, .inl gp)), (tw, .inl (t3, 2001, .inr (.inl gw))), (h0, .inr (7, [.ref ptok, .ref pnee, .ref pnam, .int ar, .ref pbui, .ref pdra, .int fu, .int x_fn2_17, .int x_fp2_18])), (ptok, .inr (10, [.ref ts, .ref tp, .ref tw, .int z, .int pa, .int so, .int pl, .long wd]))] H := hP
    have hD : va_D A [(ts, .inl (t1, 2001, .inl gs)), (tp, .inl (t2, 2001, .inl gp)), (tw, .inl (t3, 2001, .inr (.inl gw))), (h0, .inr (7, [.ref ptok, .ref pnee, .ref pnam, .int ar, .ref pbui, .ref pdra, .int fu, .int x_fn2_17, .int x_fp2_18])), (ptok, .inr (10, [.ref ts, .ref tp, .ref tw, .int z, .int pa, .int so, .int pl, .long wd]))] := hD
    have hK : va_K (dC, dI) vwCl [(t1, .int), (t2, .int), (t3, .long)] s := hK
    refine vx_widen (k := 1) (n := 6) (Nat.le_of_ble_eq_true rfl) (Nat.le_of_ble_eq_true rfl) ?_
    have hP9 := hP.sub (ws' := [(h0, .inr (7, [.ref ptok, .ref pnee, .ref pnam, .int ar, .ref pbui, .ref pdra, .int fu, .int x_fn2_17, .int x_fp2_18])), (ptok, .inr (10, [.ref ts, .ref tp, .ref tw, .int z, .int pa, .int so, .int pl, .long wd])), (ts, .inl (t1, 2001, .inl gs)), (tp, .inl (t2, 2001, .inl gp)), (tw, .inl (t3, 2001, .inr (.inl gw)))]) [3, 4, 0, 1, 2] rfl
    have hD9 := hD.sub (ws' := [(h0, .inr (7, [.ref ptok, .ref pnee, .ref pnam, .int ar, .ref pbui, .ref pdra, .int fu, .int x_fn2_17, .int x_fp2_18])), (ptok, .inr (10, [.ref ts, .ref tp, .ref tw, .int z, .int pa, .int so, .int pl, .long wd])), (ts, .inl (t1, 2001, .inl gs)), (tp, .inl (t2, 2001, .inl gp)), (tw, .inl (t3, 2001, .inr (.inl gw)))]) [3, 4, 0, 1, 2] (by decide) rfl
    have hK9 := hK.sub (tys' := [(t1, .int), (t2, .int), (t3, .long)]) [0, 1, 2] rfl
    exact vy_monoX vy_thr (vx_out (fun x hx => (hnh x hx).elim) hlocks hcell hcv hcl (fun t ht hvm => ⟨(x_fn2_17, x_fp2_18), trivial, ⟨rfl, by rw [ht]; exact hP9, va_K.moved hvm hK9, hD9⟩, hS.F ht⟩) hS.2.2 (Nat.le_of_ble_eq_true rfl) (Nat.le_of_ble_eq_true rfl))
