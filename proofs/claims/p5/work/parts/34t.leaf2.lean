set_option maxHeartbeats 4000000 in
set_option maxRecDepth 100000 in
theorem c_X4_add_s (l : Launch) (dC : Nat → ClassId) (dI : Nat → Nat → Nat) (aK aV : Nat → Nat) (h0 : Nat) (kw : Nat) (kf : Nat) (k1 : ClassId) (k2 : ClassId) (z : Int32) (gw : Nat → Int64) (gf : Nat → Int32) (nm : Int64) (sz : Nat) (hz0 : 0 ≤ z.toInt) (hz1 : z.toInt < 20) (hgf : zx 4 gf) : Met l yX4_add (Cond.code yX4_add cX4_add 3 (some .int) :: zw) ({ frames := 8, cells := 0, slots := 0, locals := 200 }) (va_Pc [.ref h0, .long nm] (zP dC dI aK aV sz [(k1, .long), (k2, .int)] [(h0, .inr (4, [.ref kw, .ref kf, .int z])), (kw, .inl (k1, 20, .inr (.inl gw))), (kf, .inl (k2, 20, .inl gf))])) (va_Qi (fun (r : Int32) (u : Int32 × (Nat → Int64) × (Nat → Int32)) => match u with | (z2, gw2, gf2) => (r.toInt = z.toInt) ∧ (z2.toInt = z.toInt + 1) ∧ (zx 4 gf2) ∧ (gf2 = upd gf (Int32.toNatClampNeg z) (-1)) ∧ (gw2 = vp_updL gw (Int32.toNatClampNeg z) nm)) (fun u => match u with | (z2, gw2, gf2) => zQ dC dI (va_A [(h0, .inr (4, [.ref kw, .ref kf, .int z])), (kw, .inl (k1, 20, .inr (.inl gw))), (kf, .inl (k2, 20, .inl gf))] sz) [(k1, .long), (k2, .int)] [(h0, .inr (4, [.ref kw, .ref kf, .int z2])), (kw, .inl (k1, 20, .inr (.inl gw2))), (kf, .inl (k2, 20, .inl gf2))]) (va_A [(h0, .inr (4, [.ref kw, .ref kf, .int z])), (kw, .inl (k1, 20, .inr (.inl gw))), (kf, .inl (k2, 20, .inl gf))] sz)) 0 0 (va_A [(h0, .inr (4, [.ref kw, .ref kf, .int z])), (kw, .inl (k1, 20, .inr (.inl gw))), (kf, .inl (k2, 20, .inl gf))] sz) := by
  refine Met.ofW (cc := cX4_add) (maxL := 3) (ret := (some .int)) (by decide) rfl ?_
  intro p e s m args below meth c s₁ B hml hv
  obtain ⟨rfl, hsz, hP, hK, hD0, hN, hT⟩ := hv
  have hx := B.exec
  have hb := B.bytes
  have hr := B.returns
  have hts := atoms_spec (ws := Cond.code yX4_add cX4_add 3 (some .int) :: zw) B.pre
  have hA : ∀ w ∈ zw, w.before _ s = true := fun w h => hts w (List.mem_cons_of_mem _ h)
  have hown : s.vm.findClass RX4 = some m.cls := findClass_of_methodNamed B.named
  have hlocks := B.notSynchronized
  subst hsz
  have hD := hD0.self (sz := s.heap.size)
  generalize hAe : va_A [(h0, .inr (4, [.ref kw, .ref kf, .int z])), (kw, .inl (k1, 20, .inr (.inl gw))), (kf, .inl (k2, 20, .inl gf))] s.heap.size = A at hD hT ⊢
  have hAA : ∀ q : Nat, s.heap.size ≤ q → A q := fun q h => by rw [← hAe]; exact Or.inr h
  have hS : va_S A s.heap s.heap [] := va_S.rf
  have hl := lv_entry ([.ref h0, .long nm]) (n := 3) (Nat.le_of_ble_eq_true rfl)
  rw [lg_entry_eq]
  generalize (lg_sl ([.ref h0, .long nm]) ++ List.replicate (3 - (lg_sl ([.ref h0, .long nm])).length) Slot.unset).toArray = ls at hl ⊢
  have hl : lv_has ls 3 [(0, .ref h0), (1, .long nm)] := hl
  refine lv_aload_n hx hb dX4_add_0 rfl (lv_at hl 0 rfl) ?_
  refine va_get (D := (dC, dI)) (ci := 4) (v := .int z) (C := RX4) (T := TX4) (N := 3) hx hb hA zin_X4 hown hK hP 0 rfl rfl 2 (by decide) (hA _ wi_273) (fun _ h9 => h9) rfl dX4_add_1 ?_
  refine lv_bipush (v := 20) hx hb dX4_add_4 (by decide) ?_
  refine lv_icmp_lt (tgt := 12) hx hb dX4_add_6 (by decide) (fun c_1 => ?_) (fun c_1 => ?_)
  · have ic_1 : z.toInt < 20 := zi_lt c_1
    refine lv_aload_n hx hb dX4_add_12 rfl (lv_at hl 0 rfl) ?_
    refine va_get (D := (dC, dI)) (ci := 4) (v := .ref kw) (C := RX4) (T := TX4) (N := 3) hx hb hA zin_X4 hown hK hP 0 rfl rfl 0 (by decide) (hA _ wi_270) (fun _ h9 => h9) rfl dX4_add_13 ?_
    refine lv_aload_n hx hb dX4_add_16 rfl (lv_at hl 0 rfl) ?_
    refine va_get (D := (dC, dI)) (ci := 4) (v := .int z) (C := RX4) (T := TX4) (N := 3) hx hb hA zin_X4 hown hK hP 0 rfl rfl 2 (by decide) (hA _ wi_273) (fun _ h9 => h9) rfl dX4_add_17 ?_
    refine lv_lload_n hx hb dX4_add_20 rfl (lv_at hl 1 rfl) ?_
    refine va_last hx hb hK hP hD hS 1 0 rfl rfl (vp_in_iff.mpr ⟨by omega, by omega⟩) dX4_add_21 (fun H locs hP hD hS => ?_)
    obtain ⟨f_2, ef_2⟩ : ∃ gz9 : Nat → Int64, gz9 = vp_updL gw (Int32.toNatClampNeg z) nm := ⟨_, rfl⟩
    rw [← ef_2] at hP hD
    have hP : va_P (dC, dI) vwCl [(h0, .inr (4, [.ref kw, .ref kf, .int z])), (kw, .inl (k1, 20, .inr (.inl f_2))), (kf, .inl (k2, 20, .inl gf))] H := hP
    have hD : va_D A [(h0, .inr (4, [.ref kw, .ref kf, .int z])), (kw, .inl (k1, 20, .inr (.inl f_2))), (kf, .inl (k2, 20, .inl gf))] := hD
    refine lv_aload_n hx hb dX4_add_22 rfl (lv_at hl 0 rfl) ?_
    refine va_get (D := (dC, dI)) (ci := 4) (v := .ref kf) (C := RX4) (T := TX4) (N := 3) hx hb hA zin_X4 hown hK hP 0 rfl rfl 1 (by decide) (hA _ wi_271) (fun _ h9 => h9) rfl dX4_add_23 ?_
    refine lv_aload_n hx hb dX4_add_26 rfl (lv_at hl 0 rfl) ?_
    refine va_get (D := (dC, dI)) (ci := 4) (v := .int z) (C := RX4) (T := TX4) (N := 3) hx hb hA zin_X4 hown hK hP 0 rfl rfl 2 (by decide) (hA _ wi_273) (fun _ h9 => h9) rfl dX4_add_27 ?_
    refine lv_iconst (v := (-1)) hx hb dX4_add_30 (by decide) ?_
    refine va_iast hx hb hK hP hD hS 2 1 rfl rfl (vp_in_iff.mpr ⟨by omega, by omega⟩) dX4_add_31 (fun H locs hP hD hS => ?_)
    obtain ⟨f_3, ef_3⟩ : ∃ gz9 : Nat → Int32, gz9 = upd gf (Int32.toNatClampNeg z) (-1) := ⟨_, rfl⟩
    rw [← ef_3] at hP hD
    have hp_f_3 : zx 4 f_3 := by rw [ef_3]; exact zx_upd hgf (by have h9 : Int32.toInt (-1) = (-1) := (by decide); omega) (by have h9 : Int32.toInt (-1) = (-1) := (by decide); omega)
    have hP : va_P (dC, dI) vwCl [(h0, .inr (4, [.ref kw, .ref kf, .int z])), (kw, .inl (k1, 20, .inr (.inl f_2))), (kf, .inl (k2, 20, .inl f_3))] H := hP
    have hD : va_D A [(h0, .inr (4, [.ref kw, .ref kf, .int z])), (kw, .inl (k1, 20, .inr (.inl f_2))), (kf, .inl (k2, 20, .inl f_3))] := hD
    refine lv_aload_n hx hb dX4_add_32 rfl (lv_at hl 0 rfl) ?_
    refine lv_dup hx hb dX4_add_33 rfl ?_
    refine va_get (D := (dC, dI)) (ci := 4) (v := .int z) (C := RX4) (T := TX4) (N := 3) hx hb hA zin_X4 hown hK hP 0 rfl rfl 2 (by decide) (hA _ wi_273) (fun _ h9 => h9) rfl dX4_add_34 ?_
    refine lv_iconst (v := 1) hx hb dX4_add_37 (by decide) ?_
    refine lv_iadd hx hb dX4_add_38 ?_
    refine lv_topi (fun x_4 ex_4 => ?_)
    have ix_4 : x_4.toInt = z.toInt + 1 := by rw [ex_4]; exact zi_addc (by decide) (by omega) (by omega)
    refine va_put (D := (dC, dI)) (ci := 4) (v := .int x_4) (ty := .int) (C := RX4) (T := TX4) (N := 3) hx hb hA zin_X4 tyX4 tyX4_ok nmX4 hown hK hP hD hS 0 rfl rfl 2 (by decide) (hA _ wi_273) (fun _ h9 => h9) rfl (by decide +kernel) rfl rfl (Nat.le_of_ble_eq_true rfl) dX4_add_39 (fun H locs hP hD hS => ?_)
    have hP : va_P (dC, dI) vwCl [(h0, .inr (4, [.ref kw, .ref kf, .int x_4])), (kw, .inl (k1, 20, .inr (.inl f_2))), (kf, .inl (k2, 20, .inl f_3))] H := hP
    have hD : va_D A [(h0, .inr (4, [.ref kw, .ref kf, .int x_4])), (kw, .inl (k1, 20, .inr (.inl f_2))), (kf, .inl (k2, 20, .inl f_3))] := hD
    refine lv_aload_n hx hb dX4_add_42 rfl (lv_at hl 0 rfl) ?_
    refine va_get (D := (dC, dI)) (ci := 4) (v := .int x_4) (C := RX4) (T := TX4) (N := 3) hx hb hA zin_X4 hown hK hP 0 rfl rfl 2 (by decide) (hA _ wi_273) (fun _ h9 => h9) rfl dX4_add_43 ?_
    refine lv_iconst (v := 1) hx hb dX4_add_46 (by decide) ?_
    refine lv_isub hx hb dX4_add_47 ?_
    refine lv_topi (fun x_5 ex_5 => ?_)
    have ix_5 : x_5.toInt = x_4.toInt - 1 := by rw [ex_5]; exact zi_subc (by decide) (by omega) (by omega)
    have hP9 := hP.sub (ws' := [(h0, .inr (4, [.ref kw, .ref kf, .int x_4])), (kw, .inl (k1, 20, .inr (.inl f_2))), (kf, .inl (k2, 20, .inl f_3))]) [0, 1, 2] rfl
    have hD9 := hD.sub (ws' := [(h0, .inr (4, [.ref kw, .ref kf, .int x_4])), (kw, .inl (k1, 20, .inr (.inl f_2))), (kf, .inl (k2, 20, .inl f_3))]) [0, 1, 2] (by decide) rfl
    have hK9 := hK.sub (tys' := [(k1, .long), (k2, .int)]) [0, 1] rfl
    exact W.iret (v := x_5) hx hb hr (fun t ht hW => ⟨⟨x_5, (x_4, f_2, f_3), rfl, ⟨by omega, by omega, hp_f_3, by rw [ef_3], by rw [ef_2]⟩, by rw [ht]; exact hP9, va_K.moved hW.alike hK9, hD9⟩, hS.F ht⟩) hS.2.2 dX4_add_48
  · have ic_1 : 20 ≤ z.toInt := zi_nlt c_1
    exfalso
    omega
set_option maxHeartbeats 4000000 in
set_option maxRecDepth 100000 in
theorem c_X7_kindAtHand_s (l : Launch) (dC : Nat → ClassId) (dI : Nat → Nat → Nat) (aK aV : Nat → Nat) (h0 : Nat) (ptok : Nat) (pnee : Nat) (pnam : Nat) (pbui : Nat) (pdra : Nat) (ar : Int32) (fu : Int32) (fn : Int32) (fp : Int32) (ts : Nat) (tp : Nat) (tw : Nat) (t1 : ClassId) (t2 : ClassId) (t3 : ClassId) (z : Int32) (pa : Int32) (so : Int32) (pl : Int32) (wd : Int64) (gs : Nat → Int32) (gp : Nat → Int32) (gw : Nat → Int64) (gco : Nat) (gar : Nat) (gki : Nat) (gfu : Nat) (kw : Nat) (kf : Nat) (k1 : ClassId) (k2 : ClassId) (kz : Int32) (kgw : Nat → Int64) (kgf : Nat → Int32) (sz : Nat) (hlt : l.stackTraces = false) (hz0 : 0 ≤ z.toInt) (hz1 : z.toInt ≤ 2000) (ha0 : -1 ≤ pa.toInt) (ha1 : pa.toInt ≤ z.toInt) (hgz : gs (Int32.toNatClampNeg z) = 256) (hk0 : 0 ≤ kz.toInt) (hk1 : kz.toInt ≤ 20) (hkf : zx 4 kgf) : vy_Met l yX7_kindAtHand (Cond.code yX7_kindAtHand cX7_kindAtHand 2 (some .int) :: zw) ({ frames := 16, cells := 1, slots := 6, locals := 600 }) (va_Pc [.ref h0] (zP dC dI aK aV sz [(t1, .int), (t2, .int), (t3, .long), (k1, .long), (k2, .int)] [(h0, .inr (7, [.ref ptok, .ref pnee, .ref pnam, .int ar, .ref pbui, .ref pdra, .int fu, .int fn, .int fp])), (ptok, .inr (10, [.ref ts, .ref tp, .ref tw, .int z, .int pa, .int so, .int pl, .long wd])), (ts, .inl (t1, 2001, .inl gs)), (tp, .inl (t2, 2001, .inl gp)), (tw, .inl (t3, 2001, .inr (.inl gw))), (pdra, .inr (9, [.ref gco, .ref gar, .ref gki, .ref gfu])), (gki, .inr (4, [.ref kw, .ref kf, .int kz])), (kw, .inl (k1, 20, .inr (.inl kgw))), (kf, .inl (k2, 20, .inl kgf))])) (va_Qi (fun (r : Int32) (u : Int32 × (Nat → Int64) × (Nat → Int32)) => match u with | (kz2, kgw2, kgf2) => (0 ≤ r.toInt) ∧ (r.toInt < kz2.toInt) ∧ (kz.toInt ≤ kz2.toInt) ∧ (kz2.toInt ≤ 20) ∧ (zx 4 kgf2) ∧ (zkk kz kz2 kgf kgf2) ∧ (sp_kh wd kz kgw kgf (some (r, kz2, kgw2, kgf2)))) (fun u => match u with | (kz2, kgw2, kgf2) => zQ dC dI (va_A [(h0, .inr (7, [.ref ptok, .ref pnee, .ref pnam, .int ar, .ref pbui, .ref pdra, .int fu, .int fn, .int fp])), (ptok, .inr (10, [.ref ts, .ref tp, .ref tw, .int z, .int pa, .int so, .int pl, .long wd])), (ts, .inl (t1, 2001, .inl gs)), (tp, .inl (t2, 2001, .inl gp)), (tw, .inl (t3, 2001, .inr (.inl gw))), (pdra, .inr (9, [.ref gco, .ref gar, .ref gki, .ref gfu])), (gki, .inr (4, [.ref kw, .ref kf, .int kz])), (kw, .inl (k1, 20, .inr (.inl kgw))), (kf, .inl (k2, 20, .inl kgf))] sz) [(t1, .int), (t2, .int), (t3, .long), (k1, .long), (k2, .int)] [(h0, .inr (7, [.ref ptok, .ref pnee, .ref pnam, .int ar, .ref pbui, .ref pdra, .int fu, .int fn, .int fp])), (ptok, .inr (10, [.ref ts, .ref tp, .ref tw, .int z, .int pa, .int so, .int pl, .long wd])), (ts, .inl (t1, 2001, .inl gs)), (tp, .inl (t2, 2001, .inl gp)), (tw, .inl (t3, 2001, .inr (.inl gw))), (pdra, .inr (9, [.ref gco, .ref gar, .ref gki, .ref gfu])), (gki, .inr (4, [.ref kw, .ref kf, .int kz2])), (kw, .inl (k1, 20, .inr (.inl kgw2))), (kf, .inl (k2, 20, .inl kgf2))]) (va_A [(h0, .inr (7, [.ref ptok, .ref pnee, .ref pnam, .int ar, .ref pbui, .ref pdra, .int fu, .int fn, .int fp])), (ptok, .inr (10, [.ref ts, .ref tp, .ref tw, .int z, .int pa, .int so, .int pl, .long wd])), (ts, .inl (t1, 2001, .inl gs)), (tp, .inl (t2, 2001, .inl gp)), (tw, .inl (t3, 2001, .inr (.inl gw))), (pdra, .inr (9, [.ref gco, .ref gar, .ref gki, .ref gfu])), (gki, .inr (4, [.ref kw, .ref kf, .int kz])), (kw, .inl (k1, 20, .inr (.inl kgw))), (kf, .inl (k2, 20, .inl kgf))] sz)) (vx_X (fun u : Int32 × Int32 => match u with | (fn2, fp2) => (fp2.toInt = pl.toInt) ∧ (sp_kh wd kz kgw kgf none)) (fun E u t => E = "java/lang/IllegalStateException" ∧ (match u with | (fn2, fp2) => zQ dC dI (va_A [(h0, .inr (7, [.ref ptok, .ref pnee, .ref pnam, .int ar, .ref pbui, .ref pdra, .int fu, .int fn, .int fp])), (ptok, .inr (10, [.ref ts, .ref tp, .ref tw, .int z, .int pa, .int so, .int pl, .long wd])), (ts, .inl (t1, 2001, .inl gs)), (tp, .inl (t2, 2001, .inl gp)), (tw, .inl (t3, 2001, .inr (.inl gw))), (pdra, .inr (9, [.ref gco, .ref gar, .ref gki, .ref gfu])), (gki, .inr (4, [.ref kw, .ref kf, .int kz])), (kw, .inl (k1, 20, .inr (.inl kgw))), (kf, .inl (k2, 20, .inl kgf))] sz) [(t1, .int), (t2, .int), (t3, .long), (k1, .long), (k2, .int)] [(h0, .inr (7, [.ref ptok, .ref pnee, .ref pnam, .int ar, .ref pbui, .ref pdra, .int fu, .int fn2, .int fp2])), (ptok, .inr (10, [.ref ts, .ref tp, .ref tw, .int z, .int pa, .int so, .int pl, .long wd])), (ts, .inl (t1, 2001, .inl gs)), (tp, .inl (t2, 2001, .inl gp)), (tw, .inl (t3, 2001, .inr (.inl gw))), (pdra, .inr (9, [.ref gco, .ref gar, .ref gki, .ref gfu])), (gki, .inr (4, [.ref kw, .ref kf, .int kz])), (kw, .inl (k1, 20, .inr (.inl kgw))), (kf, .inl (k2, 20, .inl kgf))] t)) (va_A [(h0, .inr (7, [.ref ptok, .ref pnee, .ref pnam, .int ar, .ref pbui, .ref pdra, .int fu, .int fn, .int fp])), (ptok, .inr (10, [.ref ts, .ref tp, .ref tw, .int z, .int pa, .int so, .int pl, .long wd])), (ts, .inl (t1, 2001, .inl gs)), (tp, .inl (t2, 2001, .inl gp)), (tw, .inl (t3, 2001, .inr (.inl gw))), (pdra, .inr (9, [.ref gco, .ref gar, .ref gki, .ref gfu])), (gki, .inr (4, [.ref kw, .ref kf, .int kz])), (kw, .inl (k1, 20, .inr (.inl kgw))), (kf, .inl (k2, 20, .inl kgf))] sz)) 0 0 1 6 (va_A [(h0, .inr (7, [.ref ptok, .ref pnee, .ref pnam, .int ar, .ref pbui, .ref pdra, .int fu, .int fn, .int fp])), (ptok, .inr (10, [.ref ts, .ref tp, .ref tw, .int z, .int pa, .int so, .int pl, .long wd])), (ts, .inl (t1, 2001, .inl gs)), (tp, .inl (t2, 2001, .inl gp)), (tw, .inl (t3, 2001, .inr (.inl gw))), (pdra, .inr (9, [.ref gco, .ref gar, .ref gki, .ref gfu])), (gki, .inr (4, [.ref kw, .ref kf, .int kz])), (kw, .inl (k1, 20, .inr (.inl kgw))), (kf, .inl (k2, 20, .inl kgf))] sz) := by
  refine vy_ofW (cc := cX7_kindAtHand) (maxL := 2) (ret := (some .int)) (by decide) rfl ?_
  intro p e s m args below meth c s₁ B hml hnh hv
  obtain ⟨rfl, hsz, hP, hK, hD0, hN, hT⟩ := hv
  have hx := B.exec
  have hb := B.bytes
  have hr := B.returns
  have hts := atoms_spec (ws := Cond.code yX7_kindAtHand cX7_kindAtHand 2 (some .int) :: zw) B.pre
  have hA : ∀ w ∈ zw, w.before _ s = true := fun w h => hts w (List.mem_cons_of_mem _ h)
  have hown : s.vm.findClass RX7 = some m.cls := findClass_of_methodNamed B.named
  have hlocks := B.notSynchronized
  subst hsz
  have hD := hD0.self (sz := s.heap.size)
  generalize hAe : va_A [(h0, .inr (7, [.ref ptok, .ref pnee, .ref pnam, .int ar, .ref pbui, .ref pdra, .int fu, .int fn, .int fp])), (ptok, .inr (10, [.ref ts, .ref tp, .ref tw, .int z, .int pa, .int so, .int pl, .long wd])), (ts, .inl (t1, 2001, .inl gs)), (tp, .inl (t2, 2001, .inl gp)), (tw, .inl (t3, 2001, .inr (.inl gw))), (pdra, .inr (9, [.ref gco, .ref gar, .ref gki, .ref gfu])), (gki, .inr (4, [.ref kw, .ref kf, .int kz])), (kw, .inl (k1, 20, .inr (.inl kgw))), (kf, .inl (k2, 20, .inl kgf))] s.heap.size = A at hD hT ⊢
  have hAA : ∀ q : Nat, s.heap.size ≤ q → A q := fun q h => by rw [← hAe]; exact Or.inr h
  have hS : va_S A s.heap s.heap [] := va_S.rf
  have hl := lv_entry ([.ref h0]) (n := 2) (Nat.le_of_ble_eq_true rfl)
  rw [lg_entry_eq]
  generalize (lg_sl ([.ref h0]) ++ List.replicate (2 - (lg_sl ([.ref h0])).length) Slot.unset).toArray = ls at hl ⊢
  have hl : lv_has ls 2 [(0, .ref h0)] := hl
  refine lv_aload_n hx hb dX7_kindAtHand_0 rfl (lv_at hl 0 rfl) ?_
  refine va_get (D := (dC, dI)) (ci := 7) (v := .ref pdra) (C := RX7) (T := TX7) (N := 9) hx hb hA zin_X7 hown hK hP 0 rfl rfl 5 (by decide) (hA _ wi_392) (fun _ h9 => h9) rfl dX7_kindAtHand_1 ?_
  refine va_get (D := (dC, dI)) (ci := 9) (v := .ref gki) (C := RX9) (T := TX9) (N := 4) hx hb hA zin_X9 hown hK hP 5 rfl rfl 2 (by decide) (hA _ wi_317) (fun _ h9 => h9) rfl dX7_kindAtHand_4 ?_
  refine lv_aload_n hx hb dX7_kindAtHand_7 rfl (lv_at hl 0 rfl) ?_
  refine va_get (D := (dC, dI)) (ci := 7) (v := .ref ptok) (C := RX7) (T := TX7) (N := 9) hx hb hA zin_X7 hown hK hP 0 rfl rfl 0 (by decide) (hA _ wi_387) (fun _ h9 => h9) rfl dX7_kindAtHand_8 ?_
  refine va_get (D := (dC, dI)) (ci := 10) (v := .long wd) (C := RX10) (T := TX10) (N := 8) hx hb hA zin_X10 hown hK hP 1 rfl rfl 7 (by decide) (hA _ wi_357) (fun _ h9 => h9) rfl dX7_kindAtHand_11 ?_
  have hPc := hP.sub (ws' := [(gki, .inr (4, [.ref kw, .ref kf, .int kz])), (kw, .inl (k1, 20, .inr (.inl kgw))), (kf, .inl (k2, 20, .inl kgf))]) [6, 7, 8] rfl
  have hDc := hD.sub (ws' := [(gki, .inr (4, [.ref kw, .ref kf, .int kz])), (kw, .inl (k1, 20, .inr (.inl kgw))), (kf, .inl (k2, 20, .inl kgf))]) [6, 7, 8] (by decide) rfl
  have hKc := hK.sub (tys' := [(k1, .long), (k2, .int)]) [3, 4] rfl
  have hFc := va_free (wc := [(gki, .inr (4, [.ref kw, .ref kf, .int kz])), (kw, .inl (k1, 20, .inr (.inl kgw))), (kf, .inl (k2, 20, .inl kgf))]) hD hS hAA [6, 7, 8] rfl
  refine va_calli (va_runV (As := [.long wd]) (rest := []) ⟨hx, hb, hml, hown, hA⟩ (c_X4_find_s l dC dI aK aV gki kw kf k1 k2 kz kgw kgf wd s.heap.size (by omega) (by omega)) (cwV 1 hA (zw_V wi_798 wi_799 wi_800 wi_134 (zw_good wi_801)) rfl rfl rfl (by decide +kernel) ⟨(Nat.le_of_ble_eq_true rfl), (Nat.le_of_ble_eq_true rfl)⟩) ⟨zP_blind, va_recv hKc hPc (ci := 4) (q0 := 0) rfl rfl, zz_pre hKc hPc hDc hN hT hS hFc⟩ rfl rfl hl.1 rfl (lv_room (Nat.le_of_ble_eq_true rfl)) dX7_kindAtHand_14 ⟨(Nat.le_of_ble_eq_true rfl), (Nat.le_of_ble_eq_true rfl)⟩) hS (fun q _ h => hFc q h) hFc (fun r_1 u t H1 locs ht hvm hw hB hz1 hk1 hS => ?_)
  obtain ⟨hP1, hK1, hD1⟩ := hB
  rw [ht] at hP1
  have hK1 := va_K.moved hvm.symm hK1
  obtain ⟨hP, hD⟩ := va_join (wr := [(h0, .inr (7, [.ref ptok, .ref pnee, .ref pnam, .int ar, .ref pbui, .ref pdra, .int fu, .int fn, .int fp])), (ptok, .inr (10, [.ref ts, .ref tp, .ref tw, .int z, .int pa, .int so, .int pl, .long wd])), (ts, .inl (t1, 2001, .inl gs)), (tp, .inl (t2, 2001, .inl gp)), (tw, .inl (t3, 2001, .inr (.inl gw))), (pdra, .inr (9, [.ref gco, .ref gar, .ref gki, .ref gfu]))]) (w1 := [(gki, .inr (4, [.ref kw, .ref kf, .int kz])), (kw, .inl (k1, 20, .inr (.inl kgw))), (kf, .inl (k2, 20, .inl kgf))]) hP hD [6, 7, 8] [0, 1, 2, 3, 4, 5] rfl rfl (by decide) (by decide) hk1 hFc hP1 hD1
  have hK := (hK.sub (tys' := [(t1, .int), (t2, .int), (t3, .long)]) [0, 1, 2] rfl).app hK1
  generalize H1 = H at hP hS ⊢
  have hP : va_P (dC, dI) vwCl [(h0, .inr (7, [.ref ptok, .ref pnee, .ref pnam, .int ar, .ref pbui, .ref pdra, .int fu, .int fn, .int fp])), (ptok, .inr (10, [.ref ts, .ref tp, .ref tw, .int z, .int pa, .int so, .int pl, .long wd])), (ts, .inl (t1, 2001, .inl gs)), (tp, .inl (t2, 2001, .inl gp)), (tw, .inl (t3, 2001, .inr (.inl gw))), (pdra, .inr (9, [.ref gco, .ref gar, .ref gki, .ref gfu])), (gki, .inr (4, [.ref kw, .ref kf, .int kz])), (kw, .inl (k1, 20, .inr (.inl kgw))), (kf, .inl (k2, 20, .inl kgf))] H := hP
  have hD : va_D A [(h0, .inr (7, [.ref ptok, .ref pnee, .ref pnam, .int ar, .ref pbui, .ref pdra, .int fu, .int fn, .int fp])), (ptok, .inr (10, [.ref ts, .ref tp, .ref tw, .int z, .int pa, .int so, .int pl, .long wd])), (ts, .inl (t1, 2001, .inl gs)), (tp, .inl (t2, 2001, .inl gp)), (tw, .inl (t3, 2001, .inr (.inl gw))), (pdra, .inr (9, [.ref gco, .ref gar, .ref gki, .ref gfu])), (gki, .inr (4, [.ref kw, .ref kf, .int kz])), (kw, .inl (k1, 20, .inr (.inl kgw))), (kf, .inl (k2, 20, .inl kgf))] := hD
  have hK : va_K (dC, dI) vwCl [(t1, .int), (t2, .int), (t3, .long), (k1, .long), (k2, .int)] s := hK
  have hw_r_1 := hw
  try dsimp only at hw_r_1
  obtain ⟨hq_2, hq_3, hq_4⟩ := hw
  refine lv_istore_n (lv' := [(1, .int r_1), (0, .ref h0)]) hx hb dX7_kindAtHand_17 rfl hl (by decide) rfl (fun ls hl => ?_)
  refine lv_iload_n hx hb dX7_kindAtHand_18 rfl (lv_at hl 0 rfl) ?_
  refine lv_iconst (v := (-1)) hx hb dX7_kindAtHand_19 (by decide) ?_
  refine lv_icmp_ne (tgt := 42) hx hb dX7_kindAtHand_20 (by decide) (fun c_5 => ?_) (fun c_5 => ?_)
  · have ic_5 : r_1.toInt ≠ (-1) := zi_ne c_5
    refine lv_iload_n hx hb dX7_kindAtHand_42 rfl (lv_at hl 0 rfl) ?_
    refine lv_iconst (v := (-1)) hx hb dX7_kindAtHand_43 (by decide) ?_
    refine lv_icmp_ne (tgt := 67) hx hb dX7_kindAtHand_44 (by decide) (fun c_6 => ?_) (fun c_6 => ?_)
    · have ic_6 : r_1.toInt ≠ (-1) := zi_ne c_6
      refine lv_iload_n hx hb dX7_kindAtHand_67 rfl (lv_at hl 0 rfl) ?_
      have hP9 := hP.sub (ws' := [(h0, .inr (7, [.ref ptok, .ref pnee, .ref pnam, .int ar, .ref pbui, .ref pdra, .int fu, .int fn, .int fp])), (ptok, .inr (10, [.ref ts, .ref tp, .ref tw, .int z, .int pa, .int so, .int pl, .long wd])), (ts, .inl (t1, 2001, .inl gs)), (tp, .inl (t2, 2001, .inl gp)), (tw, .inl (t3, 2001, .inr (.inl gw))), (pdra, .inr (9, [.ref gco, .ref gar, .ref gki, .ref gfu])), (gki, .inr (4, [.ref kw, .ref kf, .int kz])), (kw, .inl (k1, 20, .inr (.inl kgw))), (kf, .inl (k2, 20, .inl kgf))]) [0, 1, 2, 3, 4, 5, 6, 7, 8] rfl
      have hD9 := hD.sub (ws' := [(h0, .inr (7, [.ref ptok, .ref pnee, .ref pnam, .int ar, .ref pbui, .ref pdra, .int fu, .int fn, .int fp])), (ptok, .inr (10, [.ref ts, .ref tp, .ref tw, .int z, .int pa, .int so, .int pl, .long wd])), (ts, .inl (t1, 2001, .inl gs)), (tp, .inl (t2, 2001, .inl gp)), (tw, .inl (t3, 2001, .inr (.inl gw))), (pdra, .inr (9, [.ref gco, .ref gar, .ref gki, .ref gfu])), (gki, .inr (4, [.ref kw, .ref kf, .int kz])), (kw, .inl (k1, 20, .inr (.inl kgw))), (kf, .inl (k2, 20, .inl kgf))]) [0, 1, 2, 3, 4, 5, 6, 7, 8] (by decide) rfl
      have hK9 := hK.sub (tys' := [(t1, .int), (t2, .int), (t3, .long), (k1, .long), (k2, .int)]) [0, 1, 2, 3, 4] rfl
      exact vy_mono vy_ret (vx_ret (W.iret (v := r_1) hx hb hr (fun t ht hW => ⟨⟨r_1, (kz, kgw, kgf), rfl, ⟨by omega, by omega, by omega, by omega, hkf, zkk_rf, sp_kh_y hq_4 (by omega) (by omega)⟩, by rw [ht]; exact hP9, va_K.moved hW.alike hK9, hD9⟩, hS.F ht⟩) hS.2.2 dX7_kindAtHand_68))
    · have ic_6 : r_1.toInt = (-1) := zi_eq c_6
      refine lv_aload_n hx hb dX7_kindAtHand_47 rfl (lv_at hl 1 rfl) ?_
      refine va_get (D := (dC, dI)) (ci := 7) (v := .ref pdra) (C := RX7) (T := TX7) (N := 9) hx hb hA zin_X7 hown hK hP 0 rfl rfl 5 (by decide) (hA _ wi_392) (fun _ h9 => h9) rfl dX7_kindAtHand_48 ?_
      refine va_get (D := (dC, dI)) (ci := 9) (v := .ref gki) (C := RX9) (T := TX9) (N := 4) hx hb hA zin_X9 hown hK hP 5 rfl rfl 2 (by decide) (hA _ wi_317) (fun _ h9 => h9) rfl dX7_kindAtHand_51 ?_
      refine lv_aload_n hx hb dX7_kindAtHand_54 rfl (lv_at hl 1 rfl) ?_
      refine va_get (D := (dC, dI)) (ci := 7) (v := .ref ptok) (C := RX7) (T := TX7) (N := 9) hx hb hA zin_X7 hown hK hP 0 rfl rfl 0 (by decide) (hA _ wi_387) (fun _ h9 => h9) rfl dX7_kindAtHand_55 ?_
      refine va_get (D := (dC, dI)) (ci := 10) (v := .long wd) (C := RX10) (T := TX10) (N := 8) hx hb hA zin_X10 hown hK hP 1 rfl rfl 7 (by decide) (hA _ wi_357) (fun _ h9 => h9) rfl dX7_kindAtHand_58 ?_
      have hPc := hP.sub (ws' := [(gki, .inr (4, [.ref kw, .ref kf, .int kz])), (kw, .inl (k1, 20, .inr (.inl kgw))), (kf, .inl (k2, 20, .inl kgf))]) [6, 7, 8] rfl
      have hDc := hD.sub (ws' := [(gki, .inr (4, [.ref kw, .ref kf, .int kz])), (kw, .inl (k1, 20, .inr (.inl kgw))), (kf, .inl (k2, 20, .inl kgf))]) [6, 7, 8] (by decide) rfl
      have hKc := hK.sub (tys' := [(k1, .long), (k2, .int)]) [3, 4] rfl
      have hFc := va_free (wc := [(gki, .inr (4, [.ref kw, .ref kf, .int kz])), (kw, .inl (k1, 20, .inr (.inl kgw))), (kf, .inl (k2, 20, .inl kgf))]) hD hS hAA [6, 7, 8] rfl
      refine va_calli (va_runV (As := [.long wd]) (rest := []) ⟨hx, hb, hml, hown, hA⟩ (c_X4_add_s l dC dI aK aV gki kw kf k1 k2 kz kgw kgf wd H.size (by omega) (by omega) hkf) (cwV 1 hA (zw_V wi_962 wi_963 wi_964 wi_134 (zw_good wi_965)) rfl rfl rfl (by decide +kernel) ⟨(Nat.le_of_ble_eq_true rfl), (Nat.le_of_ble_eq_true rfl)⟩) ⟨zP_blind, va_recv hKc hPc (ci := 4) (q0 := 0) rfl rfl, zz_pre hKc hPc hDc hN hT hS hFc⟩ rfl rfl hl.1 rfl (lv_room (Nat.le_of_ble_eq_true rfl)) dX7_kindAtHand_61 ⟨(Nat.le_of_ble_eq_true rfl), (Nat.le_of_ble_eq_true rfl)⟩) hS (fun q _ h => hFc q h) hFc (fun r_7 u t H1 locs ht hvm hw hB hz1 hk1 hS => ?_)
      obtain ⟨z_8, gw_9, gf_10⟩ := u
      obtain ⟨hP1, hK1, hD1⟩ := hB
      rw [ht] at hP1
      have hK1 := va_K.moved hvm.symm hK1
      obtain ⟨hP, hD⟩ := va_join (wr := [(h0, .inr (7, [.ref ptok, .ref pnee, .ref pnam, .int ar, .ref pbui, .ref pdra, .int fu, .int fn, .int fp])), (ptok, .inr (10, [.ref ts, .ref tp, .ref tw, .int z, .int pa, .int so, .int pl, .long wd])), (ts, .inl (t1, 2001, .inl gs)), (tp, .inl (t2, 2001, .inl gp)), (tw, .inl (t3, 2001, .inr (.inl gw))), (pdra, .inr (9, [.ref gco, .ref gar, .ref gki, .ref gfu]))]) (w1 := [(gki, .inr (4, [.ref kw, .ref kf, .int z_8])), (kw, .inl (k1, 20, .inr (.inl gw_9))), (kf, .inl (k2, 20, .inl gf_10))]) hP hD [6, 7, 8] [0, 1, 2, 3, 4, 5] rfl rfl (by decide) (by decide) hk1 hFc hP1 hD1
      have hK := (hK.sub (tys' := [(t1, .int), (t2, .int), (t3, .long)]) [0, 1, 2] rfl).app hK1
      generalize H1 = H at hP hS ⊢
      have hP : va_P (dC, dI) vwCl [(h0, .inr (7, [.ref ptok, .ref pnee, .ref pnam, .int ar, .ref pbui, .ref pdra, .int fu, .int fn, .int fp])), (ptok, .inr (10, [.ref ts, .ref tp, .ref tw, .int z, .int pa, .int so, .int pl, .long wd])), (ts, .inl (t1, 2001, .inl gs)), (tp, .inl (t2, 2001, .inl gp)), (tw, .inl (t3, 2001, .inr (.inl gw))), (pdra, .inr (9, [.ref gco, .ref gar, .ref gki, .ref gfu])), (gki, .inr (4, [.ref kw, .ref kf, .int z_8])), (kw, .inl (k1, 20, .inr (.inl gw_9))), (kf, .inl (k2, 20, .inl gf_10))] H := hP
      have hD : va_D A [(h0, .inr (7, [.ref ptok, .ref pnee, .ref pnam, .int ar, .ref pbui, .ref pdra, .int fu, .int fn, .int fp])), (ptok, .inr (10, [.ref ts, .ref tp, .ref tw, .int z, .int pa, .int so, .int pl, .long wd])), (ts, .inl (t1, 2001, .inl gs)), (tp, .inl (t2, 2001, .inl gp)), (tw, .inl (t3, 2001, .inr (.inl gw))), (pdra, .inr (9, [.ref gco, .ref gar, .ref gki, .ref gfu])), (gki, .inr (4, [.ref kw, .ref kf, .int z_8])), (kw, .inl (k1, 20, .inr (.inl gw_9))), (kf, .inl (k2, 20, .inl gf_10))] := hD
      have hK : va_K (dC, dI) vwCl [(t1, .int), (t2, .int), (t3, .long), (k1, .long), (k2, .int)] s := hK
      have hw_r_7 := hw
      try dsimp only at hw_r_7
      obtain ⟨hq_11, hq_12, hq_13, hq_14, hq_15⟩ := hw
      refine lv_goto (tgt := 68) hx hb dX7_kindAtHand_64 (by decide) ?_
      have hP9 := hP.sub (ws' := [(h0, .inr (7, [.ref ptok, .ref pnee, .ref pnam, .int ar, .ref pbui, .ref pdra, .int fu, .int fn, .int fp])), (ptok, .inr (10, [.ref ts, .ref tp, .ref tw, .int z, .int pa, .int so, .int pl, .long wd])), (ts, .inl (t1, 2001, .inl gs)), (tp, .inl (t2, 2001, .inl gp)), (tw, .inl (t3, 2001, .inr (.inl gw))), (pdra, .inr (9, [.ref gco, .ref gar, .ref gki, .ref gfu])), (gki, .inr (4, [.ref kw, .ref kf, .int z_8])), (kw, .inl (k1, 20, .inr (.inl gw_9))), (kf, .inl (k2, 20, .inl gf_10))]) [0, 1, 2, 3, 4, 5, 6, 7, 8] rfl
      have hD9 := hD.sub (ws' := [(h0, .inr (7, [.ref ptok, .ref pnee, .ref pnam, .int ar, .ref pbui, .ref pdra, .int fu, .int fn, .int fp])), (ptok, .inr (10, [.ref ts, .ref tp, .ref tw, .int z, .int pa, .int so, .int pl, .long wd])), (ts, .inl (t1, 2001, .inl gs)), (tp, .inl (t2, 2001, .inl gp)), (tw, .inl (t3, 2001, .inr (.inl gw))), (pdra, .inr (9, [.ref gco, .ref gar, .ref gki, .ref gfu])), (gki, .inr (4, [.ref kw, .ref kf, .int z_8])), (kw, .inl (k1, 20, .inr (.inl gw_9))), (kf, .inl (k2, 20, .inl gf_10))]) [0, 1, 2, 3, 4, 5, 6, 7, 8] (by decide) rfl
      have hK9 := hK.sub (tys' := [(t1, .int), (t2, .int), (t3, .long), (k1, .long), (k2, .int)]) [0, 1, 2, 3, 4] rfl
      exact vy_mono vy_ret (vx_ret (W.iret (v := r_7) hx hb hr (fun t ht hW => ⟨⟨r_7, (z_8, gw_9, gf_10), rfl, ⟨by omega, by omega, by omega, by omega, hq_13, zkk_add (by omega) hq_14 (by omega), sp_kh_a hq_4 (by omega) (by omega) (by omega) (by omega) (by omega) hq_15 hq_14⟩, by rw [ht]; exact hP9, va_K.moved hW.alike hK9, hD9⟩, hS.F ht⟩) hS.2.2 dX7_kindAtHand_68))
  · have ic_5 : r_1.toInt = (-1) := zi_eq c_5
    refine lv_aload_n hx hb dX7_kindAtHand_23 rfl (lv_at hl 1 rfl) ?_
    refine va_get (D := (dC, dI)) (ci := 7) (v := .ref pdra) (C := RX7) (T := TX7) (N := 9) hx hb hA zin_X7 hown hK hP 0 rfl rfl 5 (by decide) (hA _ wi_392) (fun _ h9 => h9) rfl dX7_kindAtHand_24 ?_
    refine va_get (D := (dC, dI)) (ci := 9) (v := .ref gki) (C := RX9) (T := TX9) (N := 4) hx hb hA zin_X9 hown hK hP 5 rfl rfl 2 (by decide) (hA _ wi_317) (fun _ h9 => h9) rfl dX7_kindAtHand_27 ?_
    refine va_get (D := (dC, dI)) (ci := 4) (v := .int kz) (C := RX4) (T := TX4) (N := 3) hx hb hA zin_X4 hown hK hP 6 rfl rfl 2 (by decide) (hA _ wi_275) (fun _ h9 => h9) rfl dX7_kindAtHand_30 ?_
    refine lv_bipush (v := 20) hx hb dX7_kindAtHand_33 (by decide) ?_
    refine lv_icmp_lt (tgt := 42) hx hb dX7_kindAtHand_35 (by decide) (fun c_16 => ?_) (fun c_16 => ?_)
    · have ic_16 : kz.toInt < 20 := zi_lt c_16
      refine lv_iload_n hx hb dX7_kindAtHand_42 rfl (lv_at hl 0 rfl) ?_
      refine lv_iconst (v := (-1)) hx hb dX7_kindAtHand_43 (by decide) ?_
      refine lv_icmp_ne (tgt := 67) hx hb dX7_kindAtHand_44 (by decide) (fun c_17 => ?_) (fun c_17 => ?_)
      · have ic_17 : r_1.toInt ≠ (-1) := zi_ne c_17
        refine lv_iload_n hx hb dX7_kindAtHand_67 rfl (lv_at hl 0 rfl) ?_
        have hP9 := hP.sub (ws' := [(h0, .inr (7, [.ref ptok, .ref pnee, .ref pnam, .int ar, .ref pbui, .ref pdra, .int fu, .int fn, .int fp])), (ptok, .inr (10, [.ref ts, .ref tp, .ref tw, .int z, .int pa, .int so, .int pl, .long wd])), (ts, .inl (t1, 2001, .inl gs)), (tp, .inl (t2, 2001, .inl gp)), (tw, .inl (t3, 2001, .inr (.inl gw))), (pdra, .inr (9, [.ref gco, .ref gar, .ref gki, .ref gfu])), (gki, .inr (4, [.ref kw, .ref kf, .int kz])), (kw, .inl (k1, 20, .inr (.inl kgw))), (kf, .inl (k2, 20, .inl kgf))]) [0, 1, 2, 3, 4, 5, 6, 7, 8] rfl
        have hD9 := hD.sub (ws' := [(h0, .inr (7, [.ref ptok, .ref pnee, .ref pnam, .int ar, .ref pbui, .ref pdra, .int fu, .int fn, .int fp])), (ptok, .inr (10, [.ref ts, .ref tp, .ref tw, .int z, .int pa, .int so, .int pl, .long wd])), (ts, .inl (t1, 2001, .inl gs)), (tp, .inl (t2, 2001, .inl gp)), (tw, .inl (t3, 2001, .inr (.inl gw))), (pdra, .inr (9, [.ref gco, .ref gar, .ref gki, .ref gfu])), (gki, .inr (4, [.ref kw, .ref kf, .int kz])), (kw, .inl (k1, 20, .inr (.inl kgw))), (kf, .inl (k2, 20, .inl kgf))]) [0, 1, 2, 3, 4, 5, 6, 7, 8] (by decide) rfl
        have hK9 := hK.sub (tys' := [(t1, .int), (t2, .int), (t3, .long), (k1, .long), (k2, .int)]) [0, 1, 2, 3, 4] rfl
        exact vy_mono vy_ret (vx_ret (W.iret (v := r_1) hx hb hr (fun t ht hW => ⟨⟨r_1, (kz, kgw, kgf), rfl, ⟨by omega, by omega, by omega, by omega, hkf, zkk_rf, sp_kh_y hq_4 (by omega) (by omega)⟩, by rw [ht]; exact hP9, va_K.moved hW.alike hK9, hD9⟩, hS.F ht⟩) hS.2.2 dX7_kindAtHand_68))
      · have ic_17 : r_1.toInt = (-1) := zi_eq c_17
        refine lv_aload_n hx hb dX7_kindAtHand_47 rfl (lv_at hl 1 rfl) ?_
        refine va_get (D := (dC, dI)) (ci := 7) (v := .ref pdra) (C := RX7) (T := TX7) (N := 9) hx hb hA zin_X7 hown hK hP 0 rfl rfl 5 (by decide) (hA _ wi_392) (fun _ h9 => h9) rfl dX7_kindAtHand_48 ?_
        refine va_get (D := (dC, dI)) (ci := 9) (v := .ref gki) (C := RX9) (T := TX9) (N := 4) hx hb hA zin_X9 hown hK hP 5 rfl rfl 2 (by decide) (hA _ wi_317) (fun _ h9 => h9) rfl dX7_kindAtHand_51 ?_
        refine lv_aload_n hx hb dX7_kindAtHand_54 rfl (lv_at hl 1 rfl) ?_
        refine va_get (D := (dC, dI)) (ci := 7) (v := .ref ptok) (C := RX7) (T := TX7) (N := 9) hx hb hA zin_X7 hown hK hP 0 rfl rfl 0 (by decide) (hA _ wi_387) (fun _ h9 => h9) rfl dX7_kindAtHand_55 ?_
        refine va_get (D := (dC, dI)) (ci := 10) (v := .long wd) (C := RX10) (T := TX10) (N := 8) hx hb hA zin_X10 hown hK hP 1 rfl rfl 7 (by decide) (hA _ wi_357) (fun _ h9 => h9) rfl dX7_kindAtHand_58 ?_
        have hPc := hP.sub (ws' := [(gki, .inr (4, [.ref kw, .ref kf, .int kz])), (kw, .inl (k1, 20, .inr (.inl kgw))), (kf, .inl (k2, 20, .inl kgf))]) [6, 7, 8] rfl
        have hDc := hD.sub (ws' := [(gki, .inr (4, [.ref kw, .ref kf, .int kz])), (kw, .inl (k1, 20, .inr (.inl kgw))), (kf, .inl (k2, 20, .inl kgf))]) [6, 7, 8] (by decide) rfl
        have hKc := hK.sub (tys' := [(k1, .long), (k2, .int)]) [3, 4] rfl
        have hFc := va_free (wc := [(gki, .inr (4, [.ref kw, .ref kf, .int kz])), (kw, .inl (k1, 20, .inr (.inl kgw))), (kf, .inl (k2, 20, .inl kgf))]) hD hS hAA [6, 7, 8] rfl
        refine va_calli (va_runV (As := [.long wd]) (rest := []) ⟨hx, hb, hml, hown, hA⟩ (c_X4_add_s l dC dI aK aV gki kw kf k1 k2 kz kgw kgf wd H.size (by omega) (by omega) hkf) (cwV 1 hA (zw_V wi_962 wi_963 wi_964 wi_134 (zw_good wi_965)) rfl rfl rfl (by decide +kernel) ⟨(Nat.le_of_ble_eq_true rfl), (Nat.le_of_ble_eq_true rfl)⟩) ⟨zP_blind, va_recv hKc hPc (ci := 4) (q0 := 0) rfl rfl, zz_pre hKc hPc hDc hN hT hS hFc⟩ rfl rfl hl.1 rfl (lv_room (Nat.le_of_ble_eq_true rfl)) dX7_kindAtHand_61 ⟨(Nat.le_of_ble_eq_true rfl), (Nat.le_of_ble_eq_true rfl)⟩) hS (fun q _ h => hFc q h) hFc (fun r_18 u t H1 locs ht hvm hw hB hz1 hk1 hS => ?_)
        obtain ⟨z_19, gw_20, gf_21⟩ := u
        obtain ⟨hP1, hK1, hD1⟩ := hB
        rw [ht] at hP1
        have hK1 := va_K.moved hvm.symm hK1
        obtain ⟨hP, hD⟩ := va_join (wr := [(h0, .inr (7, [.ref ptok, .ref pnee, .ref pnam, .int ar, .ref pbui, .ref pdra, .int fu, .int fn, .int fp])), (ptok, .inr (10, [.ref ts, .ref tp, .ref tw, .int z, .int pa, .int so, .int pl, .long wd])), (ts, .inl (t1, 2001, .inl gs)), (tp, .inl (t2, 2001, .inl gp)), (tw, .inl (t3, 2001, .inr (.inl gw))), (pdra, .inr (9, [.ref gco, .ref gar, .ref gki, .ref gfu]))]) (w1 := [(gki, .inr (4, [.ref kw, .ref kf, .int z_19])), (kw, .inl (k1, 20, .inr (.inl gw_20))), (kf, .inl (k2, 20, .inl gf_21))]) hP hD [6, 7, 8] [0, 1, 2, 3, 4, 5] rfl rfl (by decide) (by decide) hk1 hFc hP1 hD1
        have hK := (hK.sub (tys' := [(t1, .int), (t2, .int), (t3, .long)]) [0, 1, 2] rfl).app hK1
        generalize H1 = H at hP hS ⊢
        have hP : va_P (dC, dI) vwCl [(h0, .inr (7, [.ref ptok, .ref pnee, .ref pnam, .int ar, .ref pbui, .ref pdra, .int fu, .int fn, .int fp])), (ptok, .inr (10, [.ref ts, .ref tp, .ref tw, .int z, .int pa, .int so, .int pl, .long wd])), (ts, .inl (t1, 2001, .inl gs)), (tp, .inl (t2, 2001, .inl gp)), (tw, .inl (t3, 2001, .inr (.inl gw))), (pdra, .inr (9, [.ref gco, .ref gar, .ref gki, .ref gfu])), (gki, .inr (4, [.ref kw, .ref kf, .int z_19])), (kw, .inl (k1, 20, .inr (.inl gw_20))), (kf, .inl (k2, 20, .inl gf_21))] H := hP
        have hD : va_D A [(h0, .inr (7, [.ref ptok, .ref pnee, .ref pnam, .int ar, .ref pbui, .ref pdra, .int fu, .int fn, .int fp])), (ptok, .inr (10, [.ref ts, .ref tp, .ref tw, .int z, .int pa, .int so, .int pl, .long wd])), (ts, .inl (t1, 2001, .inl gs)), (tp, .inl (t2, 2001, .inl gp)), (tw, .inl (t3, 2001, .inr (.inl gw))), (pdra, .inr (9, [.ref gco, .ref gar, .ref gki, .ref gfu])), (gki, .inr (4, [.ref kw, .ref kf, .int z_19])), (kw, .inl (k1, 20, .inr (.inl gw_20))), (kf, .inl (k2, 20, .inl gf_21))] := hD
        have hK : va_K (dC, dI) vwCl [(t1, .int), (t2, .int), (t3, .long), (k1, .long), (k2, .int)] s := hK
        have hw_r_18 := hw
        try dsimp only at hw_r_18
        obtain ⟨hq_22, hq_23, hq_24, hq_25, hq_26⟩ := hw
        refine lv_goto (tgt := 68) hx hb dX7_kindAtHand_64 (by decide) ?_
        have hP9 := hP.sub (ws' := [(h0, .inr (7, [.ref ptok, .ref pnee, .ref pnam, .int ar, .ref pbui, .ref pdra, .int fu, .int fn, .int fp])), (ptok, .inr (10, [.ref ts, .ref tp, .ref tw, .int z, .int pa, .int so, .int pl, .long wd])), (ts, .inl (t1, 2001, .inl gs)), (tp, .inl (t2, 2001, .inl gp)), (tw, .inl (t3, 2001, .inr (.inl gw))), (pdra, .inr (9, [.ref gco, .ref gar, .ref gki, .ref gfu])), (gki, .inr (4, [.ref kw, .ref kf, .int z_19])), (kw, .inl (k1, 20, .inr (.inl gw_20))), (kf, .inl (k2, 20, .inl gf_21))]) [0, 1, 2, 3, 4, 5, 6, 7, 8] rfl
        have hD9 := hD.sub (ws' := [(h0, .inr (7, [.ref ptok, .ref pnee, .ref pnam, .int ar, .ref pbui, .ref pdra, .int fu, .int fn, .int fp])), (ptok, .inr (10, [.ref ts, .ref tp, .ref tw, .int z, .int pa, .int so, .int pl, .long wd])), (ts, .inl (t1, 2001, .inl gs)), (tp, .inl (t2, 2001, .inl gp)), (tw, .inl (t3, 2001, .inr (.inl gw))), (pdra, .inr (9, [.ref gco, .ref gar, .ref gki, .ref gfu])), (gki, .inr (4, [.ref kw, .ref kf, .int z_19])), (kw, .inl (k1, 20, .inr (.inl gw_20))), (kf, .inl (k2, 20, .inl gf_21))]) [0, 1, 2, 3, 4, 5, 6, 7, 8] (by decide) rfl
        have hK9 := hK.sub (tys' := [(t1, .int), (t2, .int), (t3, .long), (k1, .long), (k2, .int)]) [0, 1, 2, 3, 4] rfl
        exact vy_mono vy_ret (vx_ret (W.iret (v := r_18) hx hb hr (fun t ht hW => ⟨⟨r_18, (z_19, gw_20, gf_21), rfl, ⟨by omega, by omega, by omega, by omega, hq_24, zkk_add (by omega) hq_25 (by omega), sp_kh_a hq_4 (by omega) (by omega) (by omega) (by omega) (by omega) hq_26 hq_25⟩, by rw [ht]; exact hP9, va_K.moved hW.alike hK9, hD9⟩, hS.F ht⟩) hS.2.2 dX7_kindAtHand_68))
    · have ic_16 : 20 ≤ kz.toInt := zi_nlt c_16
      refine lv_aload_n hx hb dX7_kindAtHand_38 rfl (lv_at hl 1 rfl) ?_
      have hPc := hP.sub (ws' := [(h0, .inr (7, [.ref ptok, .ref pnee, .ref pnam, .int ar, .ref pbui, .ref pdra, .int fu, .int fn, .int fp])), (ptok, .inr (10, [.ref ts, .ref tp, .ref tw, .int z, .int pa, .int so, .int pl, .long wd])), (ts, .inl (t1, 2001, .inl gs)), (tp, .inl (t2, 2001, .inl gp)), (tw, .inl (t3, 2001, .inr (.inl gw))), (pdra, .inr (9, [.ref gco, .ref gar, .ref gki, .ref gfu])), (gki, .inr (4, [.ref kw, .ref kf, .int kz])), (kw, .inl (k1, 20, .inr (.inl kgw))), (kf, .inl (k2, 20, .inl kgf))]) [0, 1, 2, 3, 4, 5, 6, 7, 8] rfl
      have hDc := hD.sub (ws' := [(h0, .inr (7, [.ref ptok, .ref pnee, .ref pnam, .int ar, .ref pbui, .ref pdra, .int fu, .int fn, .int fp])), (ptok, .inr (10, [.ref ts, .ref tp, .ref tw, .int z, .int pa, .int so, .int pl, .long wd])), (ts, .inl (t1, 2001, .inl gs)), (tp, .inl (t2, 2001, .inl gp)), (tw, .inl (t3, 2001, .inr (.inl gw))), (pdra, .inr (9, [.ref gco, .ref gar, .ref gki, .ref gfu])), (gki, .inr (4, [.ref kw, .ref kf, .int kz])), (kw, .inl (k1, 20, .inr (.inl kgw))), (kf, .inl (k2, 20, .inl kgf))]) [0, 1, 2, 3, 4, 5, 6, 7, 8] (by decide) rfl
      have hKc := hK.sub (tys' := [(t1, .int), (t2, .int), (t3, .long), (k1, .long), (k2, .int)]) [0, 1, 2, 3, 4] rfl
      have hFc := va_free (wc := [(h0, .inr (7, [.ref ptok, .ref pnee, .ref pnam, .int ar, .ref pbui, .ref pdra, .int fu, .int fn, .int fp])), (ptok, .inr (10, [.ref ts, .ref tp, .ref tw, .int z, .int pa, .int so, .int pl, .long wd])), (ts, .inl (t1, 2001, .inl gs)), (tp, .inl (t2, 2001, .inl gp)), (tw, .inl (t3, 2001, .inr (.inl gw))), (pdra, .inr (9, [.ref gco, .ref gar, .ref gki, .ref gfu])), (gki, .inr (4, [.ref kw, .ref kf, .int kz])), (kw, .inl (k1, 20, .inr (.inl kgw))), (kf, .inl (k2, 20, .inl kgf))]) hD hS hAA [0, 1, 2, 3, 4, 5, 6, 7, 8] rfl
      refine vy_callv (vy_runV (As := []) (rest := []) ⟨hx, hb, hml, hown, hA⟩ (c_X7_failMany l dC dI aK aV h0 ptok pnee pnam pbui pdra ar fu fn fp ts tp tw t1 t2 t3 z pa so pl wd gs gp gw gco gar gki gfu kw kf k1 k2 kz kgw kgf H.size hlt (by omega) (by omega) (by omega) (by omega) hgz (by omega) (by omega) hkf) (cwV 0 hA (zw_V wi_790 wi_792 wi_4 wi_136 (zw_good wi_793)) rfl rfl rfl (by decide +kernel) ⟨(Nat.le_of_ble_eq_true rfl), (Nat.le_of_ble_eq_true rfl)⟩) ⟨zP_blind, va_recv hKc hPc (ci := 7) (q0 := 0) rfl rfl, zz_pre hKc hPc hDc hN hT hS hFc⟩ rfl rfl hl.1 rfl (lv_room (Nat.le_of_ble_eq_true rfl)) dX7_kindAtHand_39 ⟨(Nat.le_of_ble_eq_true rfl), (Nat.le_of_ble_eq_true rfl)⟩) hS (fun q _ h => hFc q h) hFc (fun q _ h => hFc q h) (fun E9 ce9 q9 u t H1 locs ht hvm hw hB hz1 hk1 hS hcell hcv hcl => ?_) (fun u t H1 locs ht hvm hw hB hz1 hk1 hS => absurd hw id)
      obtain ⟨x_fn2_28, x_fp2_29⟩ := u
      obtain ⟨rfl, hP1, hK1, hD1⟩ := hB
      rw [ht] at hP1
      have hK1 := va_K.moved hvm.symm hK1
      obtain ⟨hP, hD⟩ := va_join (wr := []) (w1 := [(h0, .inr (7, [.ref ptok, .ref pnee, .ref pnam, .int ar, .ref pbui, .ref pdra, .int fu, .int x_fn2_28, .int x_fp2_29])), (ptok, .inr (10, [.ref ts, .ref tp, .ref tw, .int z, .int pa, .int so, .int pl, .long wd])), (ts, .inl (t1, 2001, .inl gs)), (tp, .inl (t2, 2001, .inl gp)), (tw, .inl (t3, 2001, .inr (.inl gw))), (pdra, .inr (9, [.ref gco, .ref gar, .ref gki, .ref gfu])), (gki, .inr (4, [.ref kw, .ref kf, .int kz])), (kw, .inl (k1, 20, .inr (.inl kgw))), (kf, .inl (k2, 20, .inl kgf))]) hP hD [0, 1, 2, 3, 4, 5, 6, 7, 8] [] rfl rfl (by decide) (by decide) hk1 hFc hP1 hD1
      have hK := (hK.sub (tys' := []) [] rfl).app hK1
      clear hPc hDc hFc hP1 hD1 hk1 hz1 ht hvm
      generalize H1 = H at hP hS hcell ⊢
      have hP : va_P (dC, dI) vwCl [(h0, .inr (7, [.ref ptok, .ref pnee, .ref pnam, .int ar, .ref pbui, .ref pdra, .int fu, .int x_fn2_28, .int x_fp2_29])), (ptok, .inr (10, [.ref ts, .ref tp, .ref tw, .int z, .int pa, .int so, .int pl, .long wd])), (ts, .inl (t1, 2001, .inl gs)), (tp, .inl (t2, 2001, .inl gp)), (tw, .inl (t3, 2001, .inr (.inl gw))), (pdra, .inr (9, [.ref gco, .ref gar, .ref gki, .ref gfu])), (gki, .inr (4, [.ref kw, .ref kf, .int kz])), (kw, .inl (k1, 20, .inr (.inl kgw))), (kf, .inl (k2, 20, .inl kgf))] H := hP
      have hD : va_D A [(h0, .inr (7, [.ref ptok, .ref pnee, .ref pnam, .int ar, .ref pbui, .ref pdra, .int fu, .int x_fn2_28, .int x_fp2_29])), (ptok, .inr (10, [.ref ts, .ref tp, .ref tw, .int z, .int pa, .int so, .int pl, .long wd])), (ts, .inl (t1, 2001, .inl gs)), (tp, .inl (t2, 2001, .inl gp)), (tw, .inl (t3, 2001, .inr (.inl gw))), (pdra, .inr (9, [.ref gco, .ref gar, .ref gki, .ref gfu])), (gki, .inr (4, [.ref kw, .ref kf, .int kz])), (kw, .inl (k1, 20, .inr (.inl kgw))), (kf, .inl (k2, 20, .inl kgf))] := hD
      have hK : va_K (dC, dI) vwCl [(t1, .int), (t2, .int), (t3, .long), (k1, .long), (k2, .int)] s := hK
      have hq_30 := hw
      try dsimp only at hq_30
      refine vx_widen (k := 1) (n := 6) (Nat.le_of_ble_eq_true rfl) (Nat.le_of_ble_eq_true rfl) ?_
      have hP9 := hP.sub (ws' := [(h0, .inr (7, [.ref ptok, .ref pnee, .ref pnam, .int ar, .ref pbui, .ref pdra, .int fu, .int x_fn2_28, .int x_fp2_29])), (ptok, .inr (10, [.ref ts, .ref tp, .ref tw, .int z, .int pa, .int so, .int pl, .long wd])), (ts, .inl (t1, 2001, .inl gs)), (tp, .inl (t2, 2001, .inl gp)), (tw, .inl (t3, 2001, .inr (.inl gw))), (pdra, .inr (9, [.ref gco, .ref gar, .ref gki, .ref gfu])), (gki, .inr (4, [.ref kw, .ref kf, .int kz])), (kw, .inl (k1, 20, .inr (.inl kgw))), (kf, .inl (k2, 20, .inl kgf))]) [0, 1, 2, 3, 4, 5, 6, 7, 8] rfl
      have hD9 := hD.sub (ws' := [(h0, .inr (7, [.ref ptok, .ref pnee, .ref pnam, .int ar, .ref pbui, .ref pdra, .int fu, .int x_fn2_28, .int x_fp2_29])), (ptok, .inr (10, [.ref ts, .ref tp, .ref tw, .int z, .int pa, .int so, .int pl, .long wd])), (ts, .inl (t1, 2001, .inl gs)), (tp, .inl (t2, 2001, .inl gp)), (tw, .inl (t3, 2001, .inr (.inl gw))), (pdra, .inr (9, [.ref gco, .ref gar, .ref gki, .ref gfu])), (gki, .inr (4, [.ref kw, .ref kf, .int kz])), (kw, .inl (k1, 20, .inr (.inl kgw))), (kf, .inl (k2, 20, .inl kgf))]) [0, 1, 2, 3, 4, 5, 6, 7, 8] (by decide) rfl
      have hK9 := hK.sub (tys' := [(t1, .int), (t2, .int), (t3, .long), (k1, .long), (k2, .int)]) [0, 1, 2, 3, 4] rfl
      exact vy_monoX vy_thr (vx_out (fun x hx => (hnh x hx).elim) hlocks hcell hcv hcl (fun t ht hvm => ⟨(x_fn2_28, x_fp2_29), ⟨by omega, sp_kh_x hq_4 (by omega) (by omega)⟩, ⟨rfl, by rw [ht]; exact hP9, va_K.moved hvm hK9, hD9⟩, hS.F ht⟩) hS.2.2 (Nat.le_of_ble_eq_true rfl) (Nat.le_of_ble_eq_true rfl))
set_option maxHeartbeats 4000000 in
set_option maxRecDepth 100000 in
theorem c_X7_toldToEnd_s (l : Launch) (dC : Nat → ClassId) (dI : Nat → Nat → Nat) (aK aV : Nat → Nat) (h0 : Nat) (ptok : Nat) (pnee : Nat) (pnam : Nat) (pbui : Nat) (pdra : Nat) (ar : Int32) (fu : Int32) (fn : Int32) (fp : Int32) (gco : Nat) (gar : Nat) (gki : Nat) (gfu : Nat) (kw : Nat) (kf : Nat) (k1 : ClassId) (k2 : ClassId) (kz : Int32) (kgw : Nat → Int64) (kgf : Nat → Int32) (ki : Int32) (fi : Int32) (wh : Int32) (sz : Nat) (hlt : l.stackTraces = false) (hk0 : 0 ≤ kz.toInt) (hk1 : kz.toInt ≤ 20) (hkf : zx 4 kgf) (hi0 : 0 ≤ ki.toInt) (hi1 : ki.toInt < 20) (hi2 : 0 ≤ fi.toInt) (hi3 : fi.toInt ≤ 3) : vy_Met l yX7_toldToEnd (Cond.code yX7_toldToEnd cX7_toldToEnd 4 none :: zw) ({ frames := 12, cells := 1, slots := 6, locals := 400 }) (va_Pc [.ref h0, .int ki, .int fi, .int wh] (zP dC dI aK aV sz [(k1, .long), (k2, .int)] [(h0, .inr (7, [.ref ptok, .ref pnee, .ref pnam, .int ar, .ref pbui, .ref pdra, .int fu, .int fn, .int fp])), (pdra, .inr (9, [.ref gco, .ref gar, .ref gki, .ref gfu])), (gki, .inr (4, [.ref kw, .ref kf, .int kz])), (kw, .inl (k1, 20, .inr (.inl kgw))), (kf, .inl (k2, 20, .inl kgf))])) (va_Qv (fun u : (Nat → Int32) => match u with | kgf2 => (zx 4 kgf2) ∧ (kgf2 (Int32.toNatClampNeg ki) = fi) ∧ (zkt kgf kgf2) ∧ (sp_td ki fi kgf (some kgf2))) (fun u => match u with | kgf2 => zQ dC dI (va_A [(h0, .inr (7, [.ref ptok, .ref pnee, .ref pnam, .int ar, .ref pbui, .ref pdra, .int fu, .int fn, .int fp])), (pdra, .inr (9, [.ref gco, .ref gar, .ref gki, .ref gfu])), (gki, .inr (4, [.ref kw, .ref kf, .int kz])), (kw, .inl (k1, 20, .inr (.inl kgw))), (kf, .inl (k2, 20, .inl kgf))] sz) [(k1, .long), (k2, .int)] [(h0, .inr (7, [.ref ptok, .ref pnee, .ref pnam, .int ar, .ref pbui, .ref pdra, .int fu, .int fn, .int fp])), (pdra, .inr (9, [.ref gco, .ref gar, .ref gki, .ref gfu])), (gki, .inr (4, [.ref kw, .ref kf, .int kz])), (kw, .inl (k1, 20, .inr (.inl kgw))), (kf, .inl (k2, 20, .inl kgf2))]) (va_A [(h0, .inr (7, [.ref ptok, .ref pnee, .ref pnam, .int ar, .ref pbui, .ref pdra, .int fu, .int fn, .int fp])), (pdra, .inr (9, [.ref gco, .ref gar, .ref gki, .ref gfu])), (gki, .inr (4, [.ref kw, .ref kf, .int kz])), (kw, .inl (k1, 20, .inr (.inl kgw))), (kf, .inl (k2, 20, .inl kgf))] sz)) (vx_X (fun u : Int32 × Int32 => match u with | (fn2, fp2) => (fp2.toInt = wh.toInt) ∧ (sp_td ki fi kgf none)) (fun E u t => E = "java/lang/IllegalStateException" ∧ (match u with | (fn2, fp2) => zQ dC dI (va_A [(h0, .inr (7, [.ref ptok, .ref pnee, .ref pnam, .int ar, .ref pbui, .ref pdra, .int fu, .int fn, .int fp])), (pdra, .inr (9, [.ref gco, .ref gar, .ref gki, .ref gfu])), (gki, .inr (4, [.ref kw, .ref kf, .int kz])), (kw, .inl (k1, 20, .inr (.inl kgw))), (kf, .inl (k2, 20, .inl kgf))] sz) [(k1, .long), (k2, .int)] [(h0, .inr (7, [.ref ptok, .ref pnee, .ref pnam, .int ar, .ref pbui, .ref pdra, .int fu, .int fn2, .int fp2])), (pdra, .inr (9, [.ref gco, .ref gar, .ref gki, .ref gfu])), (gki, .inr (4, [.ref kw, .ref kf, .int kz])), (kw, .inl (k1, 20, .inr (.inl kgw))), (kf, .inl (k2, 20, .inl kgf))] t)) (va_A [(h0, .inr (7, [.ref ptok, .ref pnee, .ref pnam, .int ar, .ref pbui, .ref pdra, .int fu, .int fn, .int fp])), (pdra, .inr (9, [.ref gco, .ref gar, .ref gki, .ref gfu])), (gki, .inr (4, [.ref kw, .ref kf, .int kz])), (kw, .inl (k1, 20, .inr (.inl kgw))), (kf, .inl (k2, 20, .inl kgf))] sz)) 0 0 1 6 (va_A [(h0, .inr (7, [.ref ptok, .ref pnee, .ref pnam, .int ar, .ref pbui, .ref pdra, .int fu, .int fn, .int fp])), (pdra, .inr (9, [.ref gco, .ref gar, .ref gki, .ref gfu])), (gki, .inr (4, [.ref kw, .ref kf, .int kz])), (kw, .inl (k1, 20, .inr (.inl kgw))), (kf, .inl (k2, 20, .inl kgf))] sz) := by
  refine vy_ofW (cc := cX7_toldToEnd) (maxL := 4) (ret := none) (by decide) rfl ?_
  intro p e s m args below meth c s₁ B hml hnh hv
  obtain ⟨rfl, hsz, hP, hK, hD0, hN, hT⟩ := hv
  have hx := B.exec
  have hb := B.bytes
  have hr := B.returns
  have hts := atoms_spec (ws := Cond.code yX7_toldToEnd cX7_toldToEnd 4 none :: zw) B.pre
  have hA : ∀ w ∈ zw, w.before _ s = true := fun w h => hts w (List.mem_cons_of_mem _ h)
  have hown : s.vm.findClass RX7 = some m.cls := findClass_of_methodNamed B.named
  have hlocks := B.notSynchronized
  subst hsz
  have hD := hD0.self (sz := s.heap.size)
  generalize hAe : va_A [(h0, .inr (7, [.ref ptok, .ref pnee, .ref pnam, .int ar, .ref pbui, .ref pdra, .int fu, .int fn, .int fp])), (pdra, .inr (9, [.ref gco, .ref gar, .ref gki, .ref gfu])), (gki, .inr (4, [.ref kw, .ref kf, .int kz])), (kw, .inl (k1, 20, .inr (.inl kgw))), (kf, .inl (k2, 20, .inl kgf))] s.heap.size = A at hD hT ⊢
  have hAA : ∀ q : Nat, s.heap.size ≤ q → A q := fun q h => by rw [← hAe]; exact Or.inr h
  have hS : va_S A s.heap s.heap [] := va_S.rf
  have hl := lv_entry ([.ref h0, .int ki, .int fi, .int wh]) (n := 4) (Nat.le_of_ble_eq_true rfl)
  rw [lg_entry_eq]
  generalize (lg_sl ([.ref h0, .int ki, .int fi, .int wh]) ++ List.replicate (4 - (lg_sl ([.ref h0, .int ki, .int fi, .int wh])).length) Slot.unset).toArray = ls at hl ⊢
  have hl : lv_has ls 4 [(0, .ref h0), (1, .int ki), (2, .int fi), (3, .int wh)] := hl
  refine lv_aload_n hx hb dX7_toldToEnd_0 rfl (lv_at hl 0 rfl) ?_
  refine va_get (D := (dC, dI)) (ci := 7) (v := .ref pdra) (C := RX7) (T := TX7) (N := 9) hx hb hA zin_X7 hown hK hP 0 rfl rfl 5 (by decide) (hA _ wi_392) (fun _ h9 => h9) rfl dX7_toldToEnd_1 ?_
  refine va_get (D := (dC, dI)) (ci := 9) (v := .ref gki) (C := RX9) (T := TX9) (N := 4) hx hb hA zin_X9 hown hK hP 1 rfl rfl 2 (by decide) (hA _ wi_317) (fun _ h9 => h9) rfl dX7_toldToEnd_4 ?_
  refine va_get (D := (dC, dI)) (ci := 4) (v := .ref kf) (C := RX4) (T := TX4) (N := 3) hx hb hA zin_X4 hown hK hP 2 rfl rfl 1 (by decide) (hA _ wi_272) (fun _ h9 => h9) rfl dX7_toldToEnd_7 ?_
  refine lv_iload_n hx hb dX7_toldToEnd_10 rfl (lv_at hl 1 rfl) ?_
  refine va_iald hx hb hK hP 4 1 rfl rfl (vp_in_iff.mpr ⟨by omega, by omega⟩) dX7_toldToEnd_11 ?_
  refine lv_topi (fun x_1 ex_1 => ?_)
  have ix_1 : -1 ≤ x_1.toInt ∧ x_1.toInt < 4 := by rw [ex_1]; exact hkf _
  refine lv_iconst (v := (-1)) hx hb dX7_toldToEnd_12 (by decide) ?_
  refine lv_icmp_ne (tgt := 32) hx hb dX7_toldToEnd_13 (by decide) (fun c_2 => ?_) (fun c_2 => ?_)
  · have ic_2 : x_1.toInt ≠ (-1) := zi_ne c_2
    refine lv_aload_n hx hb dX7_toldToEnd_32 rfl (lv_at hl 0 rfl) ?_
    refine va_get (D := (dC, dI)) (ci := 7) (v := .ref pdra) (C := RX7) (T := TX7) (N := 9) hx hb hA zin_X7 hown hK hP 0 rfl rfl 5 (by decide) (hA _ wi_392) (fun _ h9 => h9) rfl dX7_toldToEnd_33 ?_
    refine va_get (D := (dC, dI)) (ci := 9) (v := .ref gki) (C := RX9) (T := TX9) (N := 4) hx hb hA zin_X9 hown hK hP 1 rfl rfl 2 (by decide) (hA _ wi_317) (fun _ h9 => h9) rfl dX7_toldToEnd_36 ?_
    refine va_get (D := (dC, dI)) (ci := 4) (v := .ref kf) (C := RX4) (T := TX4) (N := 3) hx hb hA zin_X4 hown hK hP 2 rfl rfl 1 (by decide) (hA _ wi_272) (fun _ h9 => h9) rfl dX7_toldToEnd_39 ?_
    refine lv_iload_n hx hb dX7_toldToEnd_42 rfl (lv_at hl 1 rfl) ?_
    refine va_iald hx hb hK hP 4 1 rfl rfl (vp_in_iff.mpr ⟨by omega, by omega⟩) dX7_toldToEnd_43 ?_
    refine lv_topi (fun x_3 ex_3 => ?_)
    have jx_3 : x_3.toInt = x_1.toInt := by rw [ex_3, ex_1]
    have ix_3 : -1 ≤ x_3.toInt ∧ x_3.toInt < 4 := by rw [ex_3]; exact hkf _
    refine lv_iload_n hx hb dX7_toldToEnd_44 rfl (lv_at hl 2 rfl) ?_
    refine lv_icmp_eq (tgt := 54) hx hb dX7_toldToEnd_45 (by decide) (fun c_4 => ?_) (fun c_4 => ?_)
    · have ic_4 : x_3.toInt = fi.toInt := zi_eq c_4
      have hP9 := hP.sub (ws' := [(h0, .inr (7, [.ref ptok, .ref pnee, .ref pnam, .int ar, .ref pbui, .ref pdra, .int fu, .int fn, .int fp])), (pdra, .inr (9, [.ref gco, .ref gar, .ref gki, .ref gfu])), (gki, .inr (4, [.ref kw, .ref kf, .int kz])), (kw, .inl (k1, 20, .inr (.inl kgw))), (kf, .inl (k2, 20, .inl kgf))]) [0, 1, 2, 3, 4] rfl
      have hD9 := hD.sub (ws' := [(h0, .inr (7, [.ref ptok, .ref pnee, .ref pnam, .int ar, .ref pbui, .ref pdra, .int fu, .int fn, .int fp])), (pdra, .inr (9, [.ref gco, .ref gar, .ref gki, .ref gfu])), (gki, .inr (4, [.ref kw, .ref kf, .int kz])), (kw, .inl (k1, 20, .inr (.inl kgw))), (kf, .inl (k2, 20, .inl kgf))]) [0, 1, 2, 3, 4] (by decide) rfl
      have hK9 := hK.sub (tys' := [(k1, .long), (k2, .int)]) [0, 1] rfl
      exact vy_mono vy_ret (vx_ret (W.vret hx hb hr (fun t ht hW => ⟨⟨(kgf), rfl, ⟨hkf, (show kgf (Int32.toNatClampNeg ki) = fi from Int32.toInt_inj.mp (by rw [← ex_3]; omega)), zkt_rf, sp_td_2 (by rw [← ex_3]; omega) (by rw [← ex_3]; omega)⟩, by rw [ht]; exact hP9, va_K.moved hW.alike hK9, hD9⟩, hS.F ht⟩) hS.2.2 dX7_toldToEnd_54))
    · have ic_4 : x_3.toInt ≠ fi.toInt := zi_ne c_4
      refine lv_aload_n hx hb dX7_toldToEnd_48 rfl (lv_at hl 0 rfl) ?_
      refine lv_iconst (v := 4) hx hb dX7_toldToEnd_49 (by decide) ?_
      refine lv_iload_n hx hb dX7_toldToEnd_50 rfl (lv_at hl 3 rfl) ?_
      have hPc := hP.sub (ws' := [(h0, .inr (7, [.ref ptok, .ref pnee, .ref pnam, .int ar, .ref pbui, .ref pdra, .int fu, .int fn, .int fp]))]) [0] rfl
      have hDc := hD.sub (ws' := [(h0, .inr (7, [.ref ptok, .ref pnee, .ref pnam, .int ar, .ref pbui, .ref pdra, .int fu, .int fn, .int fp]))]) [0] (by decide) rfl
      have hKc := hK.sub (tys' := []) [] rfl
      have hFc := va_free (wc := [(h0, .inr (7, [.ref ptok, .ref pnee, .ref pnam, .int ar, .ref pbui, .ref pdra, .int fu, .int fn, .int fp]))]) hD hS hAA [0] rfl
      refine vy_callv (vy_runV (As := [.int 4, .int wh]) (rest := []) ⟨hx, hb, hml, hown, hA⟩ (c_X7_fail l dC dI aK aV h0 ptok pnee pnam pbui pdra ar fu fn fp 4 wh s.heap.size hlt) (cwV 2 hA (zw_V wi_806 wi_808 wi_5 wi_136 (zw_good wi_809)) rfl rfl rfl (by decide +kernel) ⟨(Nat.le_of_ble_eq_true rfl), (Nat.le_of_ble_eq_true rfl)⟩) ⟨zP_blind, va_recv hKc hPc (ci := 7) (q0 := 0) rfl rfl, zz_pre hKc hPc hDc hN hT hS hFc⟩ rfl rfl hl.1 rfl (lv_room (Nat.le_of_ble_eq_true rfl)) dX7_toldToEnd_51 ⟨(Nat.le_of_ble_eq_true rfl), (Nat.le_of_ble_eq_true rfl)⟩) hS (fun q _ h => hFc q h) hFc (fun q _ h => hFc q h) (fun E9 ce9 q9 u t H1 locs ht hvm hw hB hz1 hk1 hS hcell hcv hcl => ?_) (fun u t H1 locs ht hvm hw hB hz1 hk1 hS => absurd hw id)
      obtain ⟨x_fn2_6, x_fp2_7⟩ := u
      obtain ⟨rfl, hP1, hK1, hD1⟩ := hB
      rw [ht] at hP1
      have hK1 := va_K.moved hvm.symm hK1
      obtain ⟨hP, hD⟩ := va_join (wr := [(pdra, .inr (9, [.ref gco, .ref gar, .ref gki, .ref gfu])), (gki, .inr (4, [.ref kw, .ref kf, .int kz])), (kw, .inl (k1, 20, .inr (.inl kgw))), (kf, .inl (k2, 20, .inl kgf))]) (w1 := [(h0, .inr (7, [.ref ptok, .ref pnee, .ref pnam, .int ar, .ref pbui, .ref pdra, .int fu, .int x_fn2_6, .int x_fp2_7]))]) hP hD [0] [1, 2, 3, 4] rfl rfl (by decide) (by decide) hk1 hFc hP1 hD1
      have hK := (hK.sub (tys' := [(k1, .long), (k2, .int)]) [0, 1] rfl).app hK1
      clear hPc hDc hFc hP1 hD1 hk1 hz1 ht hvm
      generalize H1 = H at hP hS hcell ⊢
      have hP : va_P (dC, dI) vwCl [(pdra, .inr (9, [.ref gco, .ref gar, .ref gki, .ref gfu])), (gki, .inr (4, [.ref kw, .ref kf, .int kz])), (kw, .inl (k1, 20, .inr (.inl kgw))), (kf, .inl (k2, 20, .inl kgf)), (h0, .inr (7, [.ref ptok, .ref pnee, .ref pnam, .int ar, .ref pbui, .ref pdra, .int fu, .int x_fn2_6, .int x_fp2_7]))] H := hP
      have hD : va_D A [(pdra, .inr (9, [.ref gco, .ref gar, .ref gki, .ref gfu])), (gki, .inr (4, [.ref kw, .ref kf, .int kz])), (kw, .inl (k1, 20, .inr (.inl kgw))), (kf, .inl (k2, 20, .inl kgf)), (h0, .inr (7, [.ref ptok, .ref pnee, .ref pnam, .int ar, .ref pbui, .ref pdra, .int fu, .int x_fn2_6, .int x_fp2_7]))] := hD
      have hK : va_K (dC, dI) vwCl [(k1, .long), (k2, .int)] s := hK
      have hq_8 := hw
      try dsimp only at hq_8
      refine vx_widen (k := 1) (n := 6) (Nat.le_of_ble_eq_true rfl) (Nat.le_of_ble_eq_true rfl) ?_
      have hP9 := hP.sub (ws' := [(h0, .inr (7, [.ref ptok, .ref pnee, .ref pnam, .int ar, .ref pbui, .ref pdra, .int fu, .int x_fn2_6, .int x_fp2_7])), (pdra, .inr (9, [.ref gco, .ref gar, .ref gki, .ref gfu])), (gki, .inr (4, [.ref kw, .ref kf, .int kz])), (kw, .inl (k1, 20, .inr (.inl kgw))), (kf, .inl (k2, 20, .inl kgf))]) [4, 0, 1, 2, 3] rfl
      have hD9 := hD.sub (ws' := [(h0, .inr (7, [.ref ptok, .ref pnee, .ref pnam, .int ar, .ref pbui, .ref pdra, .int fu, .int x_fn2_6, .int x_fp2_7])), (pdra, .inr (9, [.ref gco, .ref gar, .ref gki, .ref gfu])), (gki, .inr (4, [.ref kw, .ref kf, .int kz])), (kw, .inl (k1, 20, .inr (.inl kgw))), (kf, .inl (k2, 20, .inl kgf))]) [4, 0, 1, 2, 3] (by decide) rfl
      have hK9 := hK.sub (tys' := [(k1, .long), (k2, .int)]) [0, 1] rfl
      exact vy_monoX vy_thr (vx_out (fun x hx => (hnh x hx).elim) hlocks hcell hcv hcl (fun t ht hvm => ⟨(x_fn2_6, x_fp2_7), ⟨by omega, sp_td_x (by rw [← ex_3]; omega) (by rw [← ex_3]; omega)⟩, ⟨rfl, by rw [ht]; exact hP9, va_K.moved hvm hK9, hD9⟩, hS.F ht⟩) hS.2.2 (Nat.le_of_ble_eq_true rfl) (Nat.le_of_ble_eq_true rfl))
  · have ic_2 : x_1.toInt = (-1) := zi_eq c_2
    refine lv_aload_n hx hb dX7_toldToEnd_16 rfl (lv_at hl 0 rfl) ?_
    refine va_get (D := (dC, dI)) (ci := 7) (v := .ref pdra) (C := RX7) (T := TX7) (N := 9) hx hb hA zin_X7 hown hK hP 0 rfl rfl 5 (by decide) (hA _ wi_392) (fun _ h9 => h9) rfl dX7_toldToEnd_17 ?_
    refine va_get (D := (dC, dI)) (ci := 9) (v := .ref gki) (C := RX9) (T := TX9) (N := 4) hx hb hA zin_X9 hown hK hP 1 rfl rfl 2 (by decide) (hA _ wi_317) (fun _ h9 => h9) rfl dX7_toldToEnd_20 ?_
    refine va_get (D := (dC, dI)) (ci := 4) (v := .ref kf) (C := RX4) (T := TX4) (N := 3) hx hb hA zin_X4 hown hK hP 2 rfl rfl 1 (by decide) (hA _ wi_272) (fun _ h9 => h9) rfl dX7_toldToEnd_23 ?_
    refine lv_iload_n hx hb dX7_toldToEnd_26 rfl (lv_at hl 1 rfl) ?_
    refine lv_iload_n hx hb dX7_toldToEnd_27 rfl (lv_at hl 2 rfl) ?_
    refine va_iast hx hb hK hP hD hS 4 1 rfl rfl (vp_in_iff.mpr ⟨by omega, by omega⟩) dX7_toldToEnd_28 (fun H locs hP hD hS => ?_)
    obtain ⟨f_9, ef_9⟩ : ∃ gz9 : Nat → Int32, gz9 = upd kgf (Int32.toNatClampNeg ki) fi := ⟨_, rfl⟩
    rw [← ef_9] at hP hD
    have hp_f_9 : zx 4 f_9 := by rw [ef_9]; exact zx_upd hkf (by omega) (by omega)
    have hP : va_P (dC, dI) vwCl [(h0, .inr (7, [.ref ptok, .ref pnee, .ref pnam, .int ar, .ref pbui, .ref pdra, .int fu, .int fn, .int fp])), (pdra, .inr (9, [.ref gco, .ref gar, .ref gki, .ref gfu])), (gki, .inr (4, [.ref kw, .ref kf, .int kz])), (kw, .inl (k1, 20, .inr (.inl kgw))), (kf, .inl (k2, 20, .inl f_9))] H := hP
    have hD : va_D A [(h0, .inr (7, [.ref ptok, .ref pnee, .ref pnam, .int ar, .ref pbui, .ref pdra, .int fu, .int fn, .int fp])), (pdra, .inr (9, [.ref gco, .ref gar, .ref gki, .ref gfu])), (gki, .inr (4, [.ref kw, .ref kf, .int kz])), (kw, .inl (k1, 20, .inr (.inl kgw))), (kf, .inl (k2, 20, .inl f_9))] := hD
    refine lv_goto (tgt := 54) hx hb dX7_toldToEnd_29 (by decide) ?_
    have hP9 := hP.sub (ws' := [(h0, .inr (7, [.ref ptok, .ref pnee, .ref pnam, .int ar, .ref pbui, .ref pdra, .int fu, .int fn, .int fp])), (pdra, .inr (9, [.ref gco, .ref gar, .ref gki, .ref gfu])), (gki, .inr (4, [.ref kw, .ref kf, .int kz])), (kw, .inl (k1, 20, .inr (.inl kgw))), (kf, .inl (k2, 20, .inl f_9))]) [0, 1, 2, 3, 4] rfl
    have hD9 := hD.sub (ws' := [(h0, .inr (7, [.ref ptok, .ref pnee, .ref pnam, .int ar, .ref pbui, .ref pdra, .int fu, .int fn, .int fp])), (pdra, .inr (9, [.ref gco, .ref gar, .ref gki, .ref gfu])), (gki, .inr (4, [.ref kw, .ref kf, .int kz])), (kw, .inl (k1, 20, .inr (.inl kgw))), (kf, .inl (k2, 20, .inl f_9))]) [0, 1, 2, 3, 4] (by decide) rfl
    have hK9 := hK.sub (tys' := [(k1, .long), (k2, .int)]) [0, 1] rfl
    exact vy_mono vy_ret (vx_ret (W.vret hx hb hr (fun t ht hW => ⟨⟨(f_9), rfl, ⟨hp_f_9, by rw [ef_9]; exact pk_us, zkt_up ef_9 (by rw [← ex_1]; omega), sp_td_1 (by rw [← ex_1]; omega) ef_9⟩, by rw [ht]; exact hP9, va_K.moved hW.alike hK9, hD9⟩, hS.F ht⟩) hS.2.2 dX7_toldToEnd_54))
set_option maxHeartbeats 4000000 in
set_option maxRecDepth 100000 in
theorem c_X7_tell_s (l : Launch) (dC : Nat → ClassId) (dI : Nat → Nat → Nat) (aK aV : Nat → Nat) (h0 : Nat) (ptok : Nat) (pnee : Nat) (pnam : Nat) (pbui : Nat) (pdra : Nat) (ar : Int32) (fu : Int32) (fn : Int32) (fp : Int32) (nk : ClassId) (gn : Nat → Int64) (gco : Nat) (gar : Nat) (gki : Nat) (gfu : Nat) (fw : Nat) (fe : Nat) (ff : Nat) (f1 : ClassId) (f2 : ClassId) (f3 : ClassId) (fz : Int32) (fgw : Nat → Int64) (fge : Nat → Int32) (fgf : Nat → Int32) (nm : Int64) (gN : List Int64) (sz : Nat) (hn0 : 0 ≤ ar.toInt) (hn1 : ar.toInt ≤ 24) (hf0 : 0 ≤ fz.toInt) (hf1 : fz.toInt ≤ 30) (hfe : zx 3000 fge) (hfu0 : 0 ≤ fu.toInt) (hfu1 : fu.toInt < fz.toInt) (hnm0 : ar.toInt ≤ (fgf (5 * Int32.toNatClampNeg fu + 1)).toInt) (hnm1 : (fgf (5 * Int32.toNatClampNeg fu + 1)).toInt ≤ 24) (har : ar.toInt < 24) (hnl : sp_nl gn ar gN) : Met l yX7_tell (Cond.code yX7_tell cX7_tell 3 (some .int) :: zw) ({ frames := 12, cells := 0, slots := 0, locals := 400 }) (va_Pc [.ref h0, .long nm] (zP dC dI aK aV sz [(nk, .long), (f1, .long), (f2, .int), (f3, .int)] [(h0, .inr (7, [.ref ptok, .ref pnee, .ref pnam, .int ar, .ref pbui, .ref pdra, .int fu, .int fn, .int fp])), (pnam, .inl (nk, 24, .inr (.inl gn))), (pdra, .inr (9, [.ref gco, .ref gar, .ref gki, .ref gfu])), (gfu, .inr (3, [.ref fw, .ref fe, .ref ff, .int fz])), (fw, .inl (f1, 30, .inr (.inl fgw))), (fe, .inl (f2, 30, .inl fge)), (ff, .inl (f3, 150, .inl fgf))])) (va_Qi (fun (r : Int32) (u : Int32 × (Nat → Int64) × (Nat → Int32)) => match u with | (ar2, gn2, fgf2) => (r.toInt = ar.toInt) ∧ (ar2.toInt = ar.toInt + 1) ∧ (ar2.toInt ≤ (fgf2 (5 * Int32.toNatClampNeg fu + 1)).toInt) ∧ ((fgf2 (5 * Int32.toNatClampNeg fu + 1)).toInt ≤ 24) ∧ (zff fgf fgf2) ∧ (sp_nl gn2 ar2 (gN ++ [nm])) ∧ (cF fgf fgf2 (Int32.toNatClampNeg fu) 0 0 (Int32.toInt ar2))) (fun u => match u with | (ar2, gn2, fgf2) => zQ dC dI (va_A [(h0, .inr (7, [.ref ptok, .ref pnee, .ref pnam, .int ar, .ref pbui, .ref pdra, .int fu, .int fn, .int fp])), (pnam, .inl (nk, 24, .inr (.inl gn))), (pdra, .inr (9, [.ref gco, .ref gar, .ref gki, .ref gfu])), (gfu, .inr (3, [.ref fw, .ref fe, .ref ff, .int fz])), (fw, .inl (f1, 30, .inr (.inl fgw))), (fe, .inl (f2, 30, .inl fge)), (ff, .inl (f3, 150, .inl fgf))] sz) [(nk, .long), (f1, .long), (f2, .int), (f3, .int)] [(h0, .inr (7, [.ref ptok, .ref pnee, .ref pnam, .int ar2, .ref pbui, .ref pdra, .int fu, .int fn, .int fp])), (pnam, .inl (nk, 24, .inr (.inl gn2))), (pdra, .inr (9, [.ref gco, .ref gar, .ref gki, .ref gfu])), (gfu, .inr (3, [.ref fw, .ref fe, .ref ff, .int fz])), (fw, .inl (f1, 30, .inr (.inl fgw))), (fe, .inl (f2, 30, .inl fge)), (ff, .inl (f3, 150, .inl fgf2))]) (va_A [(h0, .inr (7, [.ref ptok, .ref pnee, .ref pnam, .int ar, .ref pbui, .ref pdra, .int fu, .int fn, .int fp])), (pnam, .inl (nk, 24, .inr (.inl gn))), (pdra, .inr (9, [.ref gco, .ref gar, .ref gki, .ref gfu])), (gfu, .inr (3, [.ref fw, .ref fe, .ref ff, .int fz])), (fw, .inl (f1, 30, .inr (.inl fgw))), (fe, .inl (f2, 30, .inl fge)), (ff, .inl (f3, 150, .inl fgf))] sz)) 0 0 (va_A [(h0, .inr (7, [.ref ptok, .ref pnee, .ref pnam, .int ar, .ref pbui, .ref pdra, .int fu, .int fn, .int fp])), (pnam, .inl (nk, 24, .inr (.inl gn))), (pdra, .inr (9, [.ref gco, .ref gar, .ref gki, .ref gfu])), (gfu, .inr (3, [.ref fw, .ref fe, .ref ff, .int fz])), (fw, .inl (f1, 30, .inr (.inl fgw))), (fe, .inl (f2, 30, .inl fge)), (ff, .inl (f3, 150, .inl fgf))] sz) := by
  refine Met.ofW (cc := cX7_tell) (maxL := 3) (ret := (some .int)) (by decide) rfl ?_
  intro p e s m args below meth c s₁ B hml hv
  obtain ⟨rfl, hsz, hP, hK, hD0, hN, hT⟩ := hv
  have hx := B.exec
  have hb := B.bytes
  have hr := B.returns
  have hts := atoms_spec (ws := Cond.code yX7_tell cX7_tell 3 (some .int) :: zw) B.pre
  have hA : ∀ w ∈ zw, w.before _ s = true := fun w h => hts w (List.mem_cons_of_mem _ h)
  have hown : s.vm.findClass RX7 = some m.cls := findClass_of_methodNamed B.named
  have hlocks := B.notSynchronized
  subst hsz
  have hD := hD0.self (sz := s.heap.size)
  generalize hAe : va_A [(h0, .inr (7, [.ref ptok, .ref pnee, .ref pnam, .int ar, .ref pbui, .ref pdra, .int fu, .int fn, .int fp])), (pnam, .inl (nk, 24, .inr (.inl gn))), (pdra, .inr (9, [.ref gco, .ref gar, .ref gki, .ref gfu])), (gfu, .inr (3, [.ref fw, .ref fe, .ref ff, .int fz])), (fw, .inl (f1, 30, .inr (.inl fgw))), (fe, .inl (f2, 30, .inl fge)), (ff, .inl (f3, 150, .inl fgf))] s.heap.size = A at hD hT ⊢
  have hAA : ∀ q : Nat, s.heap.size ≤ q → A q := fun q h => by rw [← hAe]; exact Or.inr h
  have hS : va_S A s.heap s.heap [] := va_S.rf
  have hl := lv_entry ([.ref h0, .long nm]) (n := 3) (Nat.le_of_ble_eq_true rfl)
  rw [lg_entry_eq]
  generalize (lg_sl ([.ref h0, .long nm]) ++ List.replicate (3 - (lg_sl ([.ref h0, .long nm])).length) Slot.unset).toArray = ls at hl ⊢
  have hl : lv_has ls 3 [(0, .ref h0), (1, .long nm)] := hl
  refine lv_aload_n hx hb dX7_tell_0 rfl (lv_at hl 0 rfl) ?_
  refine va_get (D := (dC, dI)) (ci := 7) (v := .int ar) (C := RX7) (T := TX7) (N := 9) hx hb hA zin_X7 hown hK hP 0 rfl rfl 3 (by decide) (hA _ wi_390) (fun _ h9 => h9) rfl dX7_tell_1 ?_
  refine lv_bipush (v := 24) hx hb dX7_tell_4 (by decide) ?_
  refine lv_icmp_lt (tgt := 12) hx hb dX7_tell_6 (by decide) (fun c_1 => ?_) (fun c_1 => ?_)
  · have ic_1 : ar.toInt < 24 := zi_lt c_1
    refine lv_aload_n hx hb dX7_tell_12 rfl (lv_at hl 0 rfl) ?_
    refine va_get (D := (dC, dI)) (ci := 7) (v := .ref pnam) (C := RX7) (T := TX7) (N := 9) hx hb hA zin_X7 hown hK hP 0 rfl rfl 2 (by decide) (hA _ wi_389) (fun _ h9 => h9) rfl dX7_tell_13 ?_
    refine lv_aload_n hx hb dX7_tell_16 rfl (lv_at hl 0 rfl) ?_
    refine va_get (D := (dC, dI)) (ci := 7) (v := .int ar) (C := RX7) (T := TX7) (N := 9) hx hb hA zin_X7 hown hK hP 0 rfl rfl 3 (by decide) (hA _ wi_390) (fun _ h9 => h9) rfl dX7_tell_17 ?_
    refine lv_lload_n hx hb dX7_tell_20 rfl (lv_at hl 1 rfl) ?_
    refine va_last hx hb hK hP hD hS 1 0 rfl rfl (vp_in_iff.mpr ⟨by omega, by omega⟩) dX7_tell_21 (fun H locs hP hD hS => ?_)
    obtain ⟨f_2, ef_2⟩ : ∃ gz9 : Nat → Int64, gz9 = vp_updL gn (Int32.toNatClampNeg ar) nm := ⟨_, rfl⟩
    rw [← ef_2] at hP hD
    have hP : va_P (dC, dI) vwCl [(h0, .inr (7, [.ref ptok, .ref pnee, .ref pnam, .int ar, .ref pbui, .ref pdra, .int fu, .int fn, .int fp])), (pnam, .inl (nk, 24, .inr (.inl f_2))), (pdra, .inr (9, [.ref gco, .ref gar, .ref gki, .ref gfu])), (gfu, .inr (3, [.ref fw, .ref fe, .ref ff, .int fz])), (fw, .inl (f1, 30, .inr (.inl fgw))), (fe, .inl (f2, 30, .inl fge)), (ff, .inl (f3, 150, .inl fgf))] H := hP
    have hD : va_D A [(h0, .inr (7, [.ref ptok, .ref pnee, .ref pnam, .int ar, .ref pbui, .ref pdra, .int fu, .int fn, .int fp])), (pnam, .inl (nk, 24, .inr (.inl f_2))), (pdra, .inr (9, [.ref gco, .ref gar, .ref gki, .ref gfu])), (gfu, .inr (3, [.ref fw, .ref fe, .ref ff, .int fz])), (fw, .inl (f1, 30, .inr (.inl fgw))), (fe, .inl (f2, 30, .inl fge)), (ff, .inl (f3, 150, .inl fgf))] := hD
    refine lv_aload_n hx hb dX7_tell_22 rfl (lv_at hl 0 rfl) ?_
    refine lv_dup hx hb dX7_tell_23 rfl ?_
    refine va_get (D := (dC, dI)) (ci := 7) (v := .int ar) (C := RX7) (T := TX7) (N := 9) hx hb hA zin_X7 hown hK hP 0 rfl rfl 3 (by decide) (hA _ wi_390) (fun _ h9 => h9) rfl dX7_tell_24 ?_
    refine lv_iconst (v := 1) hx hb dX7_tell_27 (by decide) ?_
    refine lv_iadd hx hb dX7_tell_28 ?_
    refine lv_topi (fun x_3 ex_3 => ?_)
    have ix_3 : x_3.toInt = ar.toInt + 1 := by rw [ex_3]; exact zi_addc (by decide) (by omega) (by omega)
    refine va_put (D := (dC, dI)) (ci := 7) (v := .int x_3) (ty := .int) (C := RX7) (T := TX7) (N := 9) hx hb hA zin_X7 tyX7 tyX7_ok nmX7 hown hK hP hD hS 0 rfl rfl 3 (by decide) (hA _ wi_390) (fun _ h9 => h9) rfl (by decide +kernel) rfl rfl (Nat.le_of_ble_eq_true rfl) dX7_tell_29 (fun H locs hP hD hS => ?_)
    have hP : va_P (dC, dI) vwCl [(h0, .inr (7, [.ref ptok, .ref pnee, .ref pnam, .int x_3, .ref pbui, .ref pdra, .int fu, .int fn, .int fp])), (pnam, .inl (nk, 24, .inr (.inl f_2))), (pdra, .inr (9, [.ref gco, .ref gar, .ref gki, .ref gfu])), (gfu, .inr (3, [.ref fw, .ref fe, .ref ff, .int fz])), (fw, .inl (f1, 30, .inr (.inl fgw))), (fe, .inl (f2, 30, .inl fge)), (ff, .inl (f3, 150, .inl fgf))] H := hP
    have hD : va_D A [(h0, .inr (7, [.ref ptok, .ref pnee, .ref pnam, .int x_3, .ref pbui, .ref pdra, .int fu, .int fn, .int fp])), (pnam, .inl (nk, 24, .inr (.inl f_2))), (pdra, .inr (9, [.ref gco, .ref gar, .ref gki, .ref gfu])), (gfu, .inr (3, [.ref fw, .ref fe, .ref ff, .int fz])), (fw, .inl (f1, 30, .inr (.inl fgw))), (fe, .inl (f2, 30, .inl fge)), (ff, .inl (f3, 150, .inl fgf))] := hD
    refine lv_aload_n hx hb dX7_tell_32 rfl (lv_at hl 0 rfl) ?_
    refine va_get (D := (dC, dI)) (ci := 7) (v := .int x_3) (C := RX7) (T := TX7) (N := 9) hx hb hA zin_X7 hown hK hP 0 rfl rfl 3 (by decide) (hA _ wi_390) (fun _ h9 => h9) rfl dX7_tell_33 ?_
    refine lv_aload_n hx hb dX7_tell_36 rfl (lv_at hl 0 rfl) ?_
    refine va_get (D := (dC, dI)) (ci := 7) (v := .ref pdra) (C := RX7) (T := TX7) (N := 9) hx hb hA zin_X7 hown hK hP 0 rfl rfl 5 (by decide) (hA _ wi_392) (fun _ h9 => h9) rfl dX7_tell_37 ?_
    refine va_get (D := (dC, dI)) (ci := 9) (v := .ref gfu) (C := RX9) (T := TX9) (N := 4) hx hb hA zin_X9 hown hK hP 2 rfl rfl 3 (by decide) (hA _ wi_323) (fun _ h9 => h9) rfl dX7_tell_40 ?_
    refine lv_aload_n hx hb dX7_tell_43 rfl (lv_at hl 0 rfl) ?_
    refine va_get (D := (dC, dI)) (ci := 7) (v := .int fu) (C := RX7) (T := TX7) (N := 9) hx hb hA zin_X7 hown hK hP 0 rfl rfl 6 (by decide) (hA _ wi_394) (fun _ h9 => h9) rfl dX7_tell_44 ?_
    refine lv_iconst (v := 1) hx hb dX7_tell_47 (by decide) ?_
    have hPc := hP.sub (ws' := [(gfu, .inr (3, [.ref fw, .ref fe, .ref ff, .int fz])), (fw, .inl (f1, 30, .inr (.inl fgw))), (fe, .inl (f2, 30, .inl fge)), (ff, .inl (f3, 150, .inl fgf))]) [3, 4, 5, 6] rfl
    have hDc := hD.sub (ws' := [(gfu, .inr (3, [.ref fw, .ref fe, .ref ff, .int fz])), (fw, .inl (f1, 30, .inr (.inl fgw))), (fe, .inl (f2, 30, .inl fge)), (ff, .inl (f3, 150, .inl fgf))]) [3, 4, 5, 6] (by decide) rfl
    have hKc := hK.sub (tys' := [(f1, .long), (f2, .int), (f3, .int)]) [1, 2, 3] rfl
    have hFc := va_free (wc := [(gfu, .inr (3, [.ref fw, .ref fe, .ref ff, .int fz])), (fw, .inl (f1, 30, .inr (.inl fgw))), (fe, .inl (f2, 30, .inl fge)), (ff, .inl (f3, 150, .inl fgf))]) hD hS hAA [3, 4, 5, 6] rfl
    refine va_calli (va_runV (As := [.int fu, .int 1]) (rest := [.int x_3]) ⟨hx, hb, hml, hown, hA⟩ (c_X3_fact_x l dC dI aK aV gfu fw fe ff f1 f2 f3 fz fgw fge fgf fu 1 H.size (by omega) (by omega) (by omega) (by omega) (by have h9_0 : Int32.toInt 1 = 1 := (by decide); omega) (by have h9_0 : Int32.toInt 1 = 1 := (by decide); omega)) (cwV 2 hA (zw_V wi_906 wi_907 wi_908 wi_135 (zw_good wi_909)) rfl rfl rfl (by decide +kernel) ⟨(Nat.le_of_ble_eq_true rfl), (Nat.le_of_ble_eq_true rfl)⟩) ⟨zP_blind, va_recv hKc hPc (ci := 3) (q0 := 0) rfl rfl, zz_pre hKc hPc hDc hN hT hS hFc⟩ rfl rfl hl.1 rfl (lv_room (Nat.le_of_ble_eq_true rfl)) dX7_tell_48 ⟨(Nat.le_of_ble_eq_true rfl), (Nat.le_of_ble_eq_true rfl)⟩) hS (fun q _ h => hFc q h) hFc (fun r_4 u t H1 locs ht hvm hw hB hz1 hk1 hS => ?_)
    obtain ⟨hP1, hK1, hD1⟩ := hB
    rw [ht] at hP1
    have hK1 := va_K.moved hvm.symm hK1
    obtain ⟨hP, hD⟩ := va_join (wr := [(h0, .inr (7, [.ref ptok, .ref pnee, .ref pnam, .int x_3, .ref pbui, .ref pdra, .int fu, .int fn, .int fp])), (pnam, .inl (nk, 24, .inr (.inl f_2))), (pdra, .inr (9, [.ref gco, .ref gar, .ref gki, .ref gfu]))]) (w1 := [(gfu, .inr (3, [.ref fw, .ref fe, .ref ff, .int fz])), (fw, .inl (f1, 30, .inr (.inl fgw))), (fe, .inl (f2, 30, .inl fge)), (ff, .inl (f3, 150, .inl fgf))]) hP hD [3, 4, 5, 6] [0, 1, 2] rfl rfl (by decide) (by decide) hk1 hFc hP1 hD1
    have hK := (hK.sub (tys' := [(nk, .long)]) [0] rfl).app hK1
    generalize H1 = H at hP hS ⊢
    have hP : va_P (dC, dI) vwCl [(h0, .inr (7, [.ref ptok, .ref pnee, .ref pnam, .int x_3, .ref pbui, .ref pdra, .int fu, .int fn, .int fp])), (pnam, .inl (nk, 24, .inr (.inl f_2))), (pdra, .inr (9, [.ref gco, .ref gar, .ref gki, .ref gfu])), (gfu, .inr (3, [.ref fw, .ref fe, .ref ff, .int fz])), (fw, .inl (f1, 30, .inr (.inl fgw))), (fe, .inl (f2, 30, .inl fge)), (ff, .inl (f3, 150, .inl fgf))] H := hP
    have hD : va_D A [(h0, .inr (7, [.ref ptok, .ref pnee, .ref pnam, .int x_3, .ref pbui, .ref pdra, .int fu, .int fn, .int fp])), (pnam, .inl (nk, 24, .inr (.inl f_2))), (pdra, .inr (9, [.ref gco, .ref gar, .ref gki, .ref gfu])), (gfu, .inr (3, [.ref fw, .ref fe, .ref ff, .int fz])), (fw, .inl (f1, 30, .inr (.inl fgw))), (fe, .inl (f2, 30, .inl fge)), (ff, .inl (f3, 150, .inl fgf))] := hD
    have hK : va_K (dC, dI) vwCl [(nk, .long), (f1, .long), (f2, .int), (f3, .int)] s := hK
    have hw_r_4 := hw
    try dsimp only at hw_r_4
    have hq_5 := hw
    have hnr : r_4.toInt = (fgf (5 * Int32.toNatClampNeg fu + 1)).toInt := by rw [hq_5]; rfl
    refine lv_icmp_le (tgt := 69) hx hb dX7_tell_51 (by decide) (fun c_6 => ?_) (fun c_6 => ?_)
    · have ic_6 : x_3.toInt ≤ r_4.toInt := zi_le c_6
      refine lv_aload_n hx hb dX7_tell_69 rfl (lv_at hl 0 rfl) ?_
      refine va_get (D := (dC, dI)) (ci := 7) (v := .int x_3) (C := RX7) (T := TX7) (N := 9) hx hb hA zin_X7 hown hK hP 0 rfl rfl 3 (by decide) (hA _ wi_390) (fun _ h9 => h9) rfl dX7_tell_70 ?_
      refine lv_iconst (v := 1) hx hb dX7_tell_73 (by decide) ?_
      refine lv_isub hx hb dX7_tell_74 ?_
      refine lv_topi (fun x_7 ex_7 => ?_)
      have ix_7 : x_7.toInt = x_3.toInt - 1 := by rw [ex_7]; exact zi_subc (by decide) (by omega) (by omega)
      have hP9 := hP.sub (ws' := [(h0, .inr (7, [.ref ptok, .ref pnee, .ref pnam, .int x_3, .ref pbui, .ref pdra, .int fu, .int fn, .int fp])), (pnam, .inl (nk, 24, .inr (.inl f_2))), (pdra, .inr (9, [.ref gco, .ref gar, .ref gki, .ref gfu])), (gfu, .inr (3, [.ref fw, .ref fe, .ref ff, .int fz])), (fw, .inl (f1, 30, .inr (.inl fgw))), (fe, .inl (f2, 30, .inl fge)), (ff, .inl (f3, 150, .inl fgf))]) [0, 1, 2, 3, 4, 5, 6] rfl
      have hD9 := hD.sub (ws' := [(h0, .inr (7, [.ref ptok, .ref pnee, .ref pnam, .int x_3, .ref pbui, .ref pdra, .int fu, .int fn, .int fp])), (pnam, .inl (nk, 24, .inr (.inl f_2))), (pdra, .inr (9, [.ref gco, .ref gar, .ref gki, .ref gfu])), (gfu, .inr (3, [.ref fw, .ref fe, .ref ff, .int fz])), (fw, .inl (f1, 30, .inr (.inl fgw))), (fe, .inl (f2, 30, .inl fge)), (ff, .inl (f3, 150, .inl fgf))]) [0, 1, 2, 3, 4, 5, 6] (by decide) rfl
      have hK9 := hK.sub (tys' := [(nk, .long), (f1, .long), (f2, .int), (f3, .int)]) [0, 1, 2, 3] rfl
      exact W.iret (v := x_7) hx hb hr (fun t ht hW => ⟨⟨x_7, (x_3, f_2, fgf), rfl, ⟨by omega, by omega, by omega, by omega, zff_rf, sp_nl_ap hnl ef_2 (by omega), cF_w0 (by omega)⟩, by rw [ht]; exact hP9, va_K.moved hW.alike hK9, hD9⟩, hS.F ht⟩) hS.2.2 dX7_tell_75
    · have ic_6 : r_4.toInt < x_3.toInt := zi_nle c_6
      refine lv_aload_n hx hb dX7_tell_54 rfl (lv_at hl 0 rfl) ?_
      refine va_get (D := (dC, dI)) (ci := 7) (v := .ref pdra) (C := RX7) (T := TX7) (N := 9) hx hb hA zin_X7 hown hK hP 0 rfl rfl 5 (by decide) (hA _ wi_392) (fun _ h9 => h9) rfl dX7_tell_55 ?_
      refine va_get (D := (dC, dI)) (ci := 9) (v := .ref gfu) (C := RX9) (T := TX9) (N := 4) hx hb hA zin_X9 hown hK hP 2 rfl rfl 3 (by decide) (hA _ wi_323) (fun _ h9 => h9) rfl dX7_tell_58 ?_
      refine lv_aload_n hx hb dX7_tell_61 rfl (lv_at hl 0 rfl) ?_
      refine va_get (D := (dC, dI)) (ci := 7) (v := .int fu) (C := RX7) (T := TX7) (N := 9) hx hb hA zin_X7 hown hK hP 0 rfl rfl 6 (by decide) (hA _ wi_394) (fun _ h9 => h9) rfl dX7_tell_62 ?_
      refine lv_iconst (v := 1) hx hb dX7_tell_65 (by decide) ?_
      have hPc := hP.sub (ws' := [(gfu, .inr (3, [.ref fw, .ref fe, .ref ff, .int fz])), (fw, .inl (f1, 30, .inr (.inl fgw))), (fe, .inl (f2, 30, .inl fge)), (ff, .inl (f3, 150, .inl fgf))]) [3, 4, 5, 6] rfl
      have hDc := hD.sub (ws' := [(gfu, .inr (3, [.ref fw, .ref fe, .ref ff, .int fz])), (fw, .inl (f1, 30, .inr (.inl fgw))), (fe, .inl (f2, 30, .inl fge)), (ff, .inl (f3, 150, .inl fgf))]) [3, 4, 5, 6] (by decide) rfl
      have hKc := hK.sub (tys' := [(f1, .long), (f2, .int), (f3, .int)]) [1, 2, 3] rfl
      have hFc := va_free (wc := [(gfu, .inr (3, [.ref fw, .ref fe, .ref ff, .int fz])), (fw, .inl (f1, 30, .inr (.inl fgw))), (fe, .inl (f2, 30, .inl fge)), (ff, .inl (f3, 150, .inl fgf))]) hD hS hAA [3, 4, 5, 6] rfl
      refine va_callv (va_runV (As := [.int fu, .int 1]) (rest := []) ⟨hx, hb, hml, hown, hA⟩ (c_X3_oneMore_x l dC dI aK aV gfu fw fe ff f1 f2 f3 fz fgw fge fgf fu 1 H.size (by omega) (by omega) (by omega) (by omega) (by have h9_0 : Int32.toInt 1 = 1 := (by decide); omega) (by have h9_0 : Int32.toInt 1 = 1 := (by decide); omega)) (cwV 2 hA (zw_V wi_914 wi_915 wi_916 wi_135 (zw_good wi_917)) rfl rfl rfl (by decide +kernel) ⟨(Nat.le_of_ble_eq_true rfl), (Nat.le_of_ble_eq_true rfl)⟩) ⟨zP_blind, va_recv hKc hPc (ci := 3) (q0 := 0) rfl rfl, zz_pre hKc hPc hDc hN hT hS hFc⟩ rfl rfl hl.1 rfl (lv_room (Nat.le_of_ble_eq_true rfl)) dX7_tell_66 ⟨(Nat.le_of_ble_eq_true rfl), (Nat.le_of_ble_eq_true rfl)⟩) hS (fun q _ h => hFc q h) hFc (fun u t H1 locs ht hvm hw hB hz1 hk1 hS => ?_)
      obtain ⟨gf_9, rfl⟩ : ∃ z, z = u := ⟨_, rfl⟩
      obtain ⟨hP1, hK1, hD1⟩ := hB
      rw [ht] at hP1
      have hK1 := va_K.moved hvm.symm hK1
      obtain ⟨hP, hD⟩ := va_join (wr := [(h0, .inr (7, [.ref ptok, .ref pnee, .ref pnam, .int x_3, .ref pbui, .ref pdra, .int fu, .int fn, .int fp])), (pnam, .inl (nk, 24, .inr (.inl f_2))), (pdra, .inr (9, [.ref gco, .ref gar, .ref gki, .ref gfu]))]) (w1 := [(gfu, .inr (3, [.ref fw, .ref fe, .ref ff, .int fz])), (fw, .inl (f1, 30, .inr (.inl fgw))), (fe, .inl (f2, 30, .inl fge)), (ff, .inl (f3, 150, .inl gf_9))]) hP hD [3, 4, 5, 6] [0, 1, 2] rfl rfl (by decide) (by decide) hk1 hFc hP1 hD1
      have hK := (hK.sub (tys' := [(nk, .long)]) [0] rfl).app hK1
      generalize H1 = H at hP hS ⊢
      have hP : va_P (dC, dI) vwCl [(h0, .inr (7, [.ref ptok, .ref pnee, .ref pnam, .int x_3, .ref pbui, .ref pdra, .int fu, .int fn, .int fp])), (pnam, .inl (nk, 24, .inr (.inl f_2))), (pdra, .inr (9, [.ref gco, .ref gar, .ref gki, .ref gfu])), (gfu, .inr (3, [.ref fw, .ref fe, .ref ff, .int fz])), (fw, .inl (f1, 30, .inr (.inl fgw))), (fe, .inl (f2, 30, .inl fge)), (ff, .inl (f3, 150, .inl gf_9))] H := hP
      have hD : va_D A [(h0, .inr (7, [.ref ptok, .ref pnee, .ref pnam, .int x_3, .ref pbui, .ref pdra, .int fu, .int fn, .int fp])), (pnam, .inl (nk, 24, .inr (.inl f_2))), (pdra, .inr (9, [.ref gco, .ref gar, .ref gki, .ref gfu])), (gfu, .inr (3, [.ref fw, .ref fe, .ref ff, .int fz])), (fw, .inl (f1, 30, .inr (.inl fgw))), (fe, .inl (f2, 30, .inl fge)), (ff, .inl (f3, 150, .inl gf_9))] := hD
      have hK : va_K (dC, dI) vwCl [(nk, .long), (f1, .long), (f2, .int), (f3, .int)] s := hK
      have hq_10 := hw
      have hup : gf_9 = upd fgf (5 * Int32.toNatClampNeg fu + 1) (fgf (5 * Int32.toNatClampNeg fu + 1) + 1) := hq_10
      have hov : (fgf (5 * Int32.toNatClampNeg fu + 1) + 1).toInt = (fgf (5 * Int32.toNatClampNeg fu + 1)).toInt + 1 := zi_addc (by decide) (by omega) (by omega)
      have hus : (gf_9 (5 * Int32.toNatClampNeg fu + 1)).toInt = (fgf (5 * Int32.toNatClampNeg fu + 1)).toInt + 1 := by rw [hup, zu_s]; exact hov
      refine lv_aload_n hx hb dX7_tell_69 rfl (lv_at hl 0 rfl) ?_
      refine va_get (D := (dC, dI)) (ci := 7) (v := .int x_3) (C := RX7) (T := TX7) (N := 9) hx hb hA zin_X7 hown hK hP 0 rfl rfl 3 (by decide) (hA _ wi_390) (fun _ h9 => h9) rfl dX7_tell_70 ?_
      refine lv_iconst (v := 1) hx hb dX7_tell_73 (by decide) ?_
      refine lv_isub hx hb dX7_tell_74 ?_
      refine lv_topi (fun x_11 ex_11 => ?_)
      have ix_11 : x_11.toInt = x_3.toInt - 1 := by rw [ex_11]; exact zi_subc (by decide) (by omega) (by omega)
      have hP9 := hP.sub (ws' := [(h0, .inr (7, [.ref ptok, .ref pnee, .ref pnam, .int x_3, .ref pbui, .ref pdra, .int fu, .int fn, .int fp])), (pnam, .inl (nk, 24, .inr (.inl f_2))), (pdra, .inr (9, [.ref gco, .ref gar, .ref gki, .ref gfu])), (gfu, .inr (3, [.ref fw, .ref fe, .ref ff, .int fz])), (fw, .inl (f1, 30, .inr (.inl fgw))), (fe, .inl (f2, 30, .inl fge)), (ff, .inl (f3, 150, .inl gf_9))]) [0, 1, 2, 3, 4, 5, 6] rfl
      have hD9 := hD.sub (ws' := [(h0, .inr (7, [.ref ptok, .ref pnee, .ref pnam, .int x_3, .ref pbui, .ref pdra, .int fu, .int fn, .int fp])), (pnam, .inl (nk, 24, .inr (.inl f_2))), (pdra, .inr (9, [.ref gco, .ref gar, .ref gki, .ref gfu])), (gfu, .inr (3, [.ref fw, .ref fe, .ref ff, .int fz])), (fw, .inl (f1, 30, .inr (.inl fgw))), (fe, .inl (f2, 30, .inl fge)), (ff, .inl (f3, 150, .inl gf_9))]) [0, 1, 2, 3, 4, 5, 6] (by decide) rfl
      have hK9 := hK.sub (tys' := [(nk, .long), (f1, .long), (f2, .int), (f3, .int)]) [0, 1, 2, 3] rfl
      exact W.iret (v := x_11) hx hb hr (fun t ht hW => ⟨⟨x_11, (x_3, f_2, gf_9), rfl, ⟨by omega, by omega, by omega, by omega, zff_1 hup (by omega) (by omega), sp_nl_ap hnl ef_2 (by omega), cF_w1 hup (by rw [hov]; omega) (by omega)⟩, by rw [ht]; exact hP9, va_K.moved hW.alike hK9, hD9⟩, hS.F ht⟩) hS.2.2 dX7_tell_75
  · have ic_1 : 24 ≤ ar.toInt := zi_nlt c_1
    exfalso
    omega
set_option maxHeartbeats 4000000 in
set_option maxRecDepth 100000 in
theorem c_X10_advance_s (l : Launch) (dC : Nat → ClassId) (dI : Nat → Nat → Nat) (aK aV : Nat → Nat) (h0 : Nat) (ts : Nat) (tp : Nat) (tw : Nat) (t1 : ClassId) (t2 : ClassId) (t3 : ClassId) (z : Int32) (pa : Int32) (so : Int32) (pl : Int32) (wd : Int64) (gs : Nat → Int32) (gp : Nat → Int32) (gw : Nat → Int64) (sz : Nat) (hz0 : 0 ≤ z.toInt) (hz1 : z.toInt ≤ 2000) (ha0 : 0 ≤ pa.toInt) (ha1 : pa.toInt ≤ z.toInt) (hgz : gs (Int32.toNatClampNeg z) = 256) (hpt : zpt gs gp z pa pl so) : Met l yX10_advance (Cond.code yX10_advance cX10_advance 1 none :: zw) ({ frames := 8, cells := 0, slots := 0, locals := 200 }) (va_Pc [.ref h0] (zP dC dI aK aV sz [(t1, .int), (t2, .int), (t3, .long)] [(h0, .inr (10, [.ref ts, .ref tp, .ref tw, .int z, .int pa, .int so, .int pl, .long wd])), (ts, .inl (t1, 2001, .inl gs)), (tp, .inl (t2, 2001, .inl gp)), (tw, .inl (t3, 2001, .inr (.inl gw)))])) (va_Qv (fun u : Int32 × Int32 × Int32 × Int64 => match u with | (pa2, so2, pl2, wd2) => (0 ≤ pa2.toInt) ∧ (pa2.toInt ≤ z.toInt) ∧ (so2.toInt = 256 ∨ pa2.toInt < z.toInt) ∧ (pa.toInt = z.toInt ∨ pa2.toInt = pa.toInt + 1) ∧ (pa.toInt ≤ pa2.toInt) ∧ (zpt gs gp z pa2 pl2 so2) ∧ (pl.toInt ≤ pl2.toInt) ∧ (pa.toInt = z.toInt ∨ pl.toInt + 1 ≤ pl2.toInt) ∧ (so.toInt ≠ 261 ∨ pl.toInt + 2 ≤ pl2.toInt) ∧ (sp_wd gw pa2 wd2)) (fun u => match u with | (pa2, so2, pl2, wd2) => zQ dC dI (va_A [(h0, .inr (10, [.ref ts, .ref tp, .ref tw, .int z, .int pa, .int so, .int pl, .long wd])), (ts, .inl (t1, 2001, .inl gs)), (tp, .inl (t2, 2001, .inl gp)), (tw, .inl (t3, 2001, .inr (.inl gw)))] sz) [(t1, .int), (t2, .int), (t3, .long)] [(h0, .inr (10, [.ref ts, .ref tp, .ref tw, .int z, .int pa2, .int so2, .int pl2, .long wd2])), (ts, .inl (t1, 2001, .inl gs)), (tp, .inl (t2, 2001, .inl gp)), (tw, .inl (t3, 2001, .inr (.inl gw)))]) (va_A [(h0, .inr (10, [.ref ts, .ref tp, .ref tw, .int z, .int pa, .int so, .int pl, .long wd])), (ts, .inl (t1, 2001, .inl gs)), (tp, .inl (t2, 2001, .inl gp)), (tw, .inl (t3, 2001, .inr (.inl gw)))] sz)) 0 0 (va_A [(h0, .inr (10, [.ref ts, .ref tp, .ref tw, .int z, .int pa, .int so, .int pl, .long wd])), (ts, .inl (t1, 2001, .inl gs)), (tp, .inl (t2, 2001, .inl gp)), (tw, .inl (t3, 2001, .inr (.inl gw)))] sz) := by
  refine Met.ofW (cc := cX10_advance) (maxL := 1) (ret := none) (by decide) rfl ?_
  intro p e s m args below meth c s₁ B hml hv
  obtain ⟨rfl, hsz, hP, hK, hD0, hN, hT⟩ := hv
  have hx := B.exec
  have hb := B.bytes
  have hr := B.returns
  have hts := atoms_spec (ws := Cond.code yX10_advance cX10_advance 1 none :: zw) B.pre
  have hA : ∀ w ∈ zw, w.before _ s = true := fun w h => hts w (List.mem_cons_of_mem _ h)
  have hown : s.vm.findClass RX10 = some m.cls := findClass_of_methodNamed B.named
  have hlocks := B.notSynchronized
  subst hsz
  have hD := hD0.self (sz := s.heap.size)
  generalize hAe : va_A [(h0, .inr (10, [.ref ts, .ref tp, .ref tw, .int z, .int pa, .int so, .int pl, .long wd])), (ts, .inl (t1, 2001, .inl gs)), (tp, .inl (t2, 2001, .inl gp)), (tw, .inl (t3, 2001, .inr (.inl gw)))] s.heap.size = A at hD hT ⊢
  have hAA : ∀ q : Nat, s.heap.size ≤ q → A q := fun q h => by rw [← hAe]; exact Or.inr h
  have hS : va_S A s.heap s.heap [] := va_S.rf
  have hl := lv_entry ([.ref h0]) (n := 1) (Nat.le_of_ble_eq_true rfl)
  rw [lg_entry_eq]
  generalize (lg_sl ([.ref h0]) ++ List.replicate (1 - (lg_sl ([.ref h0])).length) Slot.unset).toArray = ls at hl ⊢
  have hl : lv_has ls 1 [(0, .ref h0)] := hl
  refine lv_aload_n hx hb dX10_advance_0 rfl (lv_at hl 0 rfl) ?_
  refine lv_aload_n hx hb dX10_advance_1 rfl (lv_at hl 0 rfl) ?_
  refine va_get (D := (dC, dI)) (ci := 10) (v := .int pa) (C := RX10) (T := TX10) (N := 8) hx hb hA zin_X10 hown hK hP 0 rfl rfl 4 (by decide) (hA _ wi_350) (fun _ h9 => h9) rfl dX10_advance_2 ?_
  refine lv_iconst (v := 1) hx hb dX10_advance_5 (by decide) ?_
  refine lv_iadd hx hb dX10_advance_6 ?_
  refine lv_topi (fun x_1 ex_1 => ?_)
  have ix_1 : x_1.toInt = pa.toInt + 1 := by rw [ex_1]; exact zi_addc (by decide) (by omega) (by omega)
  refine lv_aload_n hx hb dX10_advance_7 rfl (lv_at hl 0 rfl) ?_
  refine va_get (D := (dC, dI)) (ci := 10) (v := .int z) (C := RX10) (T := TX10) (N := 8) hx hb hA zin_X10 hown hK hP 0 rfl rfl 3 (by decide) (hA _ wi_349) (fun _ h9 => h9) rfl dX10_advance_8 ?_
  refine va_mmin hx hb (by rw [hml]; exact hl.1.symm) hown (hA _ wi_657) (hA _ wi_658) (hA _ wi_141) (hA _ wi_659) (Nat.le_of_ble_eq_true rfl) (Nat.le_of_ble_eq_true rfl) (Nat.le_of_ble_eq_true rfl) (Nat.le_of_ble_eq_true rfl) dX10_advance_11 ?_
  refine lv_topi (fun x_2 ex_2 => ?_)
  have ix_2 : x_2.toInt ≤ x_1.toInt ∧ x_2.toInt ≤ z.toInt ∧ (x_2.toInt = x_1.toInt ∨ x_2.toInt = z.toInt) := zi_min ex_2 rfl rfl
  refine va_put (D := (dC, dI)) (ci := 10) (v := .int x_2) (ty := .int) (C := RX10) (T := TX10) (N := 8) hx hb hA zin_X10 tyX10 tyX10_ok nmX10 hown hK hP hD hS 0 rfl rfl 4 (by decide) (hA _ wi_350) (fun _ h9 => h9) rfl (by decide +kernel) rfl rfl (Nat.le_of_ble_eq_true rfl) dX10_advance_14 (fun H locs hP hD hS => ?_)
  have hP : va_P (dC, dI) vwCl [(h0, .inr (10, [.ref ts, .ref tp, .ref tw, .int z, .int x_2, .int so, .int pl, .long wd])), (ts, .inl (t1, 2001, .inl gs)), (tp, .inl (t2, 2001, .inl gp)), (tw, .inl (t3, 2001, .inr (.inl gw)))] H := hP
  have hD : va_D A [(h0, .inr (10, [.ref ts, .ref tp, .ref tw, .int z, .int x_2, .int so, .int pl, .long wd])), (ts, .inl (t1, 2001, .inl gs)), (tp, .inl (t2, 2001, .inl gp)), (tw, .inl (t3, 2001, .inr (.inl gw)))] := hD
  refine lv_aload_n hx hb dX10_advance_17 rfl (lv_at hl 0 rfl) ?_
  refine lv_aload_n hx hb dX10_advance_18 rfl (lv_at hl 0 rfl) ?_
  refine va_get (D := (dC, dI)) (ci := 10) (v := .ref ts) (C := RX10) (T := TX10) (N := 8) hx hb hA zin_X10 hown hK hP 0 rfl rfl 0 (by decide) (hA _ wi_346) (fun _ h9 => h9) rfl dX10_advance_19 ?_
  refine lv_aload_n hx hb dX10_advance_22 rfl (lv_at hl 0 rfl) ?_
  refine va_get (D := (dC, dI)) (ci := 10) (v := .int x_2) (C := RX10) (T := TX10) (N := 8) hx hb hA zin_X10 hown hK hP 0 rfl rfl 4 (by decide) (hA _ wi_350) (fun _ h9 => h9) rfl dX10_advance_23 ?_
  refine va_iald hx hb hK hP 1 0 rfl rfl (vp_in_iff.mpr ⟨by omega, by omega⟩) dX10_advance_26 ?_
  refine lv_topi (fun x_3 ex_3 => ?_)
  refine va_put (D := (dC, dI)) (ci := 10) (v := .int x_3) (ty := .int) (C := RX10) (T := TX10) (N := 8) hx hb hA zin_X10 tyX10 tyX10_ok nmX10 hown hK hP hD hS 0 rfl rfl 5 (by decide) (hA _ wi_352) (fun _ h9 => h9) rfl (by decide +kernel) rfl rfl (Nat.le_of_ble_eq_true rfl) dX10_advance_27 (fun H locs hP hD hS => ?_)
  have hP : va_P (dC, dI) vwCl [(h0, .inr (10, [.ref ts, .ref tp, .ref tw, .int z, .int x_2, .int x_3, .int pl, .long wd])), (ts, .inl (t1, 2001, .inl gs)), (tp, .inl (t2, 2001, .inl gp)), (tw, .inl (t3, 2001, .inr (.inl gw)))] H := hP
  have hD : va_D A [(h0, .inr (10, [.ref ts, .ref tp, .ref tw, .int z, .int x_2, .int x_3, .int pl, .long wd])), (ts, .inl (t1, 2001, .inl gs)), (tp, .inl (t2, 2001, .inl gp)), (tw, .inl (t3, 2001, .inr (.inl gw)))] := hD
  refine lv_aload_n hx hb dX10_advance_30 rfl (lv_at hl 0 rfl) ?_
  refine lv_aload_n hx hb dX10_advance_31 rfl (lv_at hl 0 rfl) ?_
  refine va_get (D := (dC, dI)) (ci := 10) (v := .ref tp) (C := RX10) (T := TX10) (N := 8) hx hb hA zin_X10 hown hK hP 0 rfl rfl 1 (by decide) (hA _ wi_347) (fun _ h9 => h9) rfl dX10_advance_32 ?_
  refine lv_aload_n hx hb dX10_advance_35 rfl (lv_at hl 0 rfl) ?_
  refine va_get (D := (dC, dI)) (ci := 10) (v := .int x_2) (C := RX10) (T := TX10) (N := 8) hx hb hA zin_X10 hown hK hP 0 rfl rfl 4 (by decide) (hA _ wi_350) (fun _ h9 => h9) rfl dX10_advance_36 ?_
  refine va_iald hx hb hK hP 2 1 rfl rfl (vp_in_iff.mpr ⟨by omega, by omega⟩) dX10_advance_39 ?_
  refine lv_topi (fun x_4 ex_4 => ?_)
  refine va_put (D := (dC, dI)) (ci := 10) (v := .int x_4) (ty := .int) (C := RX10) (T := TX10) (N := 8) hx hb hA zin_X10 tyX10 tyX10_ok nmX10 hown hK hP hD hS 0 rfl rfl 6 (by decide) (hA _ wi_354) (fun _ h9 => h9) rfl (by decide +kernel) rfl rfl (Nat.le_of_ble_eq_true rfl) dX10_advance_40 (fun H locs hP hD hS => ?_)
  have hP : va_P (dC, dI) vwCl [(h0, .inr (10, [.ref ts, .ref tp, .ref tw, .int z, .int x_2, .int x_3, .int x_4, .long wd])), (ts, .inl (t1, 2001, .inl gs)), (tp, .inl (t2, 2001, .inl gp)), (tw, .inl (t3, 2001, .inr (.inl gw)))] H := hP
  have hD : va_D A [(h0, .inr (10, [.ref ts, .ref tp, .ref tw, .int z, .int x_2, .int x_3, .int x_4, .long wd])), (ts, .inl (t1, 2001, .inl gs)), (tp, .inl (t2, 2001, .inl gp)), (tw, .inl (t3, 2001, .inr (.inl gw)))] := hD
  refine lv_aload_n hx hb dX10_advance_43 rfl (lv_at hl 0 rfl) ?_
  refine lv_aload_n hx hb dX10_advance_44 rfl (lv_at hl 0 rfl) ?_
  refine va_get (D := (dC, dI)) (ci := 10) (v := .ref tw) (C := RX10) (T := TX10) (N := 8) hx hb hA zin_X10 hown hK hP 0 rfl rfl 2 (by decide) (hA _ wi_348) (fun _ h9 => h9) rfl dX10_advance_45 ?_
  refine lv_aload_n hx hb dX10_advance_48 rfl (lv_at hl 0 rfl) ?_
  refine va_get (D := (dC, dI)) (ci := 10) (v := .int x_2) (C := RX10) (T := TX10) (N := 8) hx hb hA zin_X10 hown hK hP 0 rfl rfl 4 (by decide) (hA _ wi_350) (fun _ h9 => h9) rfl dX10_advance_49 ?_
  refine va_lald hx hb hK hP 3 2 rfl rfl (vp_in_iff.mpr ⟨by omega, by omega⟩) dX10_advance_52 ?_
  refine lv_topl (fun x_5 ex_5 => ?_)
  refine va_put (D := (dC, dI)) (ci := 10) (v := .long x_5) (ty := .long) (C := RX10) (T := TX10) (N := 8) hx hb hA zin_X10 tyX10 tyX10_ok nmX10 hown hK hP hD hS 0 rfl rfl 7 (by decide) (hA _ wi_356) (fun _ h9 => h9) rfl (by decide +kernel) rfl rfl (Nat.le_of_ble_eq_true rfl) dX10_advance_53 (fun H locs hP hD hS => ?_)
  have hP : va_P (dC, dI) vwCl [(h0, .inr (10, [.ref ts, .ref tp, .ref tw, .int z, .int x_2, .int x_3, .int x_4, .long x_5])), (ts, .inl (t1, 2001, .inl gs)), (tp, .inl (t2, 2001, .inl gp)), (tw, .inl (t3, 2001, .inr (.inl gw)))] H := hP
  have hD : va_D A [(h0, .inr (10, [.ref ts, .ref tp, .ref tw, .int z, .int x_2, .int x_3, .int x_4, .long x_5])), (ts, .inl (t1, 2001, .inl gs)), (tp, .inl (t2, 2001, .inl gp)), (tw, .inl (t3, 2001, .inr (.inl gw)))] := hD
  obtain ⟨hp1, hp2, hp3, hp4⟩ := zpt_ad hpt ha0 ha1 (pa2 := x_2) (by omega) ex_4 ex_3 (by omega)
  have hP9 := hP.sub (ws' := [(h0, .inr (10, [.ref ts, .ref tp, .ref tw, .int z, .int x_2, .int x_3, .int x_4, .long x_5])), (ts, .inl (t1, 2001, .inl gs)), (tp, .inl (t2, 2001, .inl gp)), (tw, .inl (t3, 2001, .inr (.inl gw)))]) [0, 1, 2, 3] rfl
  have hD9 := hD.sub (ws' := [(h0, .inr (10, [.ref ts, .ref tp, .ref tw, .int z, .int x_2, .int x_3, .int x_4, .long x_5])), (ts, .inl (t1, 2001, .inl gs)), (tp, .inl (t2, 2001, .inl gp)), (tw, .inl (t3, 2001, .inr (.inl gw)))]) [0, 1, 2, 3] (by decide) rfl
  have hK9 := hK.sub (tys' := [(t1, .int), (t2, .int), (t3, .long)]) [0, 1, 2] rfl
  exact W.vret hx hb hr (fun t ht hW => ⟨⟨(x_2, x_3, x_4, x_5), rfl, ⟨by omega, by omega, zt_adv ex_3 hgz (by omega), by omega, by omega, hp1, by omega, by omega, by omega, ex_5⟩, by rw [ht]; exact hP9, va_K.moved hW.alike hK9, hD9⟩, hS.F ht⟩) hS.2.2 dX10_advance_56
set_option maxHeartbeats 4000000 in
set_option maxRecDepth 100000 in
theorem c_X7_expect_s (l : Launch) (dC : Nat → ClassId) (dI : Nat → Nat → Nat) (aK aV : Nat → Nat) (h0 : Nat) (ptok : Nat) (pnee : Nat) (pnam : Nat) (pbui : Nat) (pdra : Nat) (ar : Int32) (fu : Int32) (fn : Int32) (fp : Int32) (ts : Nat) (tp : Nat) (tw : Nat) (t1 : ClassId) (t2 : ClassId) (t3 : ClassId) (z : Int32) (pa : Int32) (so : Int32) (pl : Int32) (wd : Int64) (gs : Nat → Int32) (gp : Nat → Int32) (gw : Nat → Int64) (sx : Int32) (sz : Nat) (hlt : l.stackTraces = false) (hz0 : 0 ≤ z.toInt) (hz1 : z.toInt ≤ 2000) (ha0 : 0 ≤ pa.toInt) (ha1 : pa.toInt ≤ z.toInt) (hgz : gs (Int32.toNatClampNeg z) = 256) (hpt : zpt gs gp z pa pl so) (hso : so.toInt = 256 ∨ pa.toInt < z.toInt) : vy_Met l yX7_expect (Cond.code yX7_expect cX7_expect 2 none :: zw) ({ frames := 14, cells := 1, slots := 6, locals := 500 }) (va_Pc [.ref h0, .int sx] (zP dC dI aK aV sz [(t1, .int), (t2, .int), (t3, .long)] [(h0, .inr (7, [.ref ptok, .ref pnee, .ref pnam, .int ar, .ref pbui, .ref pdra, .int fu, .int fn, .int fp])), (ptok, .inr (10, [.ref ts, .ref tp, .ref tw, .int z, .int pa, .int so, .int pl, .long wd])), (ts, .inl (t1, 2001, .inl gs)), (tp, .inl (t2, 2001, .inl gp)), (tw, .inl (t3, 2001, .inr (.inl gw)))])) (va_Qv (fun u : Int32 × Int32 × Int32 × Int64 => match u with | (pa2, so2, pl2, wd2) => (0 ≤ pa2.toInt) ∧ (pa2.toInt ≤ z.toInt) ∧ (so2.toInt = 256 ∨ pa2.toInt < z.toInt) ∧ (pa.toInt = z.toInt ∨ pa2.toInt = pa.toInt + 1) ∧ (pa.toInt ≤ pa2.toInt) ∧ (so.toInt = sx.toInt) ∧ (zpt gs gp z pa2 pl2 so2) ∧ (pl.toInt ≤ pl2.toInt) ∧ (pa.toInt = z.toInt ∨ pl.toInt + 1 ≤ pl2.toInt) ∧ (so.toInt ≠ 261 ∨ pl.toInt + 2 ≤ pl2.toInt) ∧ (sp_wd gw pa2 wd2)) (fun u => match u with | (pa2, so2, pl2, wd2) => zQ dC dI (va_A [(h0, .inr (7, [.ref ptok, .ref pnee, .ref pnam, .int ar, .ref pbui, .ref pdra, .int fu, .int fn, .int fp])), (ptok, .inr (10, [.ref ts, .ref tp, .ref tw, .int z, .int pa, .int so, .int pl, .long wd])), (ts, .inl (t1, 2001, .inl gs)), (tp, .inl (t2, 2001, .inl gp)), (tw, .inl (t3, 2001, .inr (.inl gw)))] sz) [(t1, .int), (t2, .int), (t3, .long)] [(h0, .inr (7, [.ref ptok, .ref pnee, .ref pnam, .int ar, .ref pbui, .ref pdra, .int fu, .int fn, .int fp])), (ptok, .inr (10, [.ref ts, .ref tp, .ref tw, .int z, .int pa2, .int so2, .int pl2, .long wd2])), (ts, .inl (t1, 2001, .inl gs)), (tp, .inl (t2, 2001, .inl gp)), (tw, .inl (t3, 2001, .inr (.inl gw)))]) (va_A [(h0, .inr (7, [.ref ptok, .ref pnee, .ref pnam, .int ar, .ref pbui, .ref pdra, .int fu, .int fn, .int fp])), (ptok, .inr (10, [.ref ts, .ref tp, .ref tw, .int z, .int pa, .int so, .int pl, .long wd])), (ts, .inl (t1, 2001, .inl gs)), (tp, .inl (t2, 2001, .inl gp)), (tw, .inl (t3, 2001, .inr (.inl gw)))] sz)) (vx_X (fun u : Int32 × Int32 => match u with | (fn2, fp2) => (fp2.toInt = pl.toInt) ∧ (so.toInt ≠ sx.toInt)) (fun E u t => E = "java/lang/IllegalStateException" ∧ (match u with | (fn2, fp2) => zQ dC dI (va_A [(h0, .inr (7, [.ref ptok, .ref pnee, .ref pnam, .int ar, .ref pbui, .ref pdra, .int fu, .int fn, .int fp])), (ptok, .inr (10, [.ref ts, .ref tp, .ref tw, .int z, .int pa, .int so, .int pl, .long wd])), (ts, .inl (t1, 2001, .inl gs)), (tp, .inl (t2, 2001, .inl gp)), (tw, .inl (t3, 2001, .inr (.inl gw)))] sz) [(t1, .int), (t2, .int), (t3, .long)] [(h0, .inr (7, [.ref ptok, .ref pnee, .ref pnam, .int ar, .ref pbui, .ref pdra, .int fu, .int fn2, .int fp2])), (ptok, .inr (10, [.ref ts, .ref tp, .ref tw, .int z, .int pa, .int so, .int pl, .long wd])), (ts, .inl (t1, 2001, .inl gs)), (tp, .inl (t2, 2001, .inl gp)), (tw, .inl (t3, 2001, .inr (.inl gw)))] t)) (va_A [(h0, .inr (7, [.ref ptok, .ref pnee, .ref pnam, .int ar, .ref pbui, .ref pdra, .int fu, .int fn, .int fp])), (ptok, .inr (10, [.ref ts, .ref tp, .ref tw, .int z, .int pa, .int so, .int pl, .long wd])), (ts, .inl (t1, 2001, .inl gs)), (tp, .inl (t2, 2001, .inl gp)), (tw, .inl (t3, 2001, .inr (.inl gw)))] sz)) 0 0 1 6 (va_A [(h0, .inr (7, [.ref ptok, .ref pnee, .ref pnam, .int ar, .ref pbui, .ref pdra, .int fu, .int fn, .int fp])), (ptok, .inr (10, [.ref ts, .ref tp, .ref tw, .int z, .int pa, .int so, .int pl, .long wd])), (ts, .inl (t1, 2001, .inl gs)), (tp, .inl (t2, 2001, .inl gp)), (tw, .inl (t3, 2001, .inr (.inl gw)))] sz) := by
  refine vy_ofW (cc := cX7_expect) (maxL := 2) (ret := none) (by decide) rfl ?_
  intro p e s m args below meth c s₁ B hml hnh hv
  obtain ⟨rfl, hsz, hP, hK, hD0, hN, hT⟩ := hv
  have hx := B.exec
  have hb := B.bytes
  have hr := B.returns
  have hts := atoms_spec (ws := Cond.code yX7_expect cX7_expect 2 none :: zw) B.pre
  have hA : ∀ w ∈ zw, w.before _ s = true := fun w h => hts w (List.mem_cons_of_mem _ h)
  have hown : s.vm.findClass RX7 = some m.cls := findClass_of_methodNamed B.named
  have hlocks := B.notSynchronized
  subst hsz
  have hD := hD0.self (sz := s.heap.size)
  generalize hAe : va_A [(h0, .inr (7, [.ref ptok, .ref pnee, .ref pnam, .int ar, .ref pbui, .ref pdra, .int fu, .int fn, .int fp])), (ptok, .inr (10, [.ref ts, .ref tp, .ref tw, .int z, .int pa, .int so, .int pl, .long wd])), (ts, .inl (t1, 2001, .inl gs)), (tp, .inl (t2, 2001, .inl gp)), (tw, .inl (t3, 2001, .inr (.inl gw)))] s.heap.size = A at hD hT ⊢
  have hAA : ∀ q : Nat, s.heap.size ≤ q → A q := fun q h => by rw [← hAe]; exact Or.inr h
  have hS : va_S A s.heap s.heap [] := va_S.rf
  have hl := lv_entry ([.ref h0, .int sx]) (n := 2) (Nat.le_of_ble_eq_true rfl)
  rw [lg_entry_eq]
  generalize (lg_sl ([.ref h0, .int sx]) ++ List.replicate (2 - (lg_sl ([.ref h0, .int sx])).length) Slot.unset).toArray = ls at hl ⊢
  have hl : lv_has ls 2 [(0, .ref h0), (1, .int sx)] := hl
  refine lv_aload_n hx hb dX7_expect_0 rfl (lv_at hl 0 rfl) ?_
  refine va_get (D := (dC, dI)) (ci := 7) (v := .ref ptok) (C := RX7) (T := TX7) (N := 9) hx hb hA zin_X7 hown hK hP 0 rfl rfl 0 (by decide) (hA _ wi_387) (fun _ h9 => h9) rfl dX7_expect_1 ?_
  refine va_get (D := (dC, dI)) (ci := 10) (v := .int so) (C := RX10) (T := TX10) (N := 8) hx hb hA zin_X10 hown hK hP 1 rfl rfl 5 (by decide) (hA _ wi_353) (fun _ h9 => h9) rfl dX7_expect_4 ?_
  refine lv_iload_n hx hb dX7_expect_7 rfl (lv_at hl 1 rfl) ?_
  refine lv_icmp_eq (tgt := 15) hx hb dX7_expect_8 (by decide) (fun c_1 => ?_) (fun c_1 => ?_)
  · have ic_1 : so.toInt = sx.toInt := zi_eq c_1
    refine lv_aload_n hx hb dX7_expect_15 rfl (lv_at hl 0 rfl) ?_
    refine va_get (D := (dC, dI)) (ci := 7) (v := .ref ptok) (C := RX7) (T := TX7) (N := 9) hx hb hA zin_X7 hown hK hP 0 rfl rfl 0 (by decide) (hA _ wi_387) (fun _ h9 => h9) rfl dX7_expect_16 ?_
    have hPc := hP.sub (ws' := [(ptok, .inr (10, [.ref ts, .ref tp, .ref tw, .int z, .int pa, .int so, .int pl, .long wd])), (ts, .inl (t1, 2001, .inl gs)), (tp, .inl (t2, 2001, .inl gp)), (tw, .inl (t3, 2001, .inr (.inl gw)))]) [1, 2, 3, 4] rfl
    have hDc := hD.sub (ws' := [(ptok, .inr (10, [.ref ts, .ref tp, .ref tw, .int z, .int pa, .int so, .int pl, .long wd])), (ts, .inl (t1, 2001, .inl gs)), (tp, .inl (t2, 2001, .inl gp)), (tw, .inl (t3, 2001, .inr (.inl gw)))]) [1, 2, 3, 4] (by decide) rfl
    have hKc := hK.sub (tys' := [(t1, .int), (t2, .int), (t3, .long)]) [0, 1, 2] rfl
    have hFc := va_free (wc := [(ptok, .inr (10, [.ref ts, .ref tp, .ref tw, .int z, .int pa, .int so, .int pl, .long wd])), (ts, .inl (t1, 2001, .inl gs)), (tp, .inl (t2, 2001, .inl gp)), (tw, .inl (t3, 2001, .inr (.inl gw)))]) hD hS hAA [1, 2, 3, 4] rfl
    refine va_callv (va_runV (As := []) (rest := []) ⟨hx, hb, hml, hown, hA⟩ (c_X10_advance_s l dC dI aK aV ptok ts tp tw t1 t2 t3 z pa so pl wd gs gp gw s.heap.size (by omega) (by omega) (by omega) (by omega) hgz hpt) (cwV 0 hA (zw_V wi_881 wi_775 wi_776 wi_137 (zw_good wi_777)) rfl rfl rfl (by decide +kernel) ⟨(Nat.le_of_ble_eq_true rfl), (Nat.le_of_ble_eq_true rfl)⟩) ⟨zP_blind, va_recv hKc hPc (ci := 10) (q0 := 0) rfl rfl, zz_pre hKc hPc hDc hN hT hS hFc⟩ rfl rfl hl.1 rfl (lv_room (Nat.le_of_ble_eq_true rfl)) dX7_expect_19 ⟨(Nat.le_of_ble_eq_true rfl), (Nat.le_of_ble_eq_true rfl)⟩) hS (fun q _ h => hFc q h) hFc (fun u t H1 locs ht hvm hw hB hz1 hk1 hS => ?_)
    obtain ⟨pa_3, so_4, pl_5, wd_6⟩ := u
    obtain ⟨hP1, hK1, hD1⟩ := hB
    rw [ht] at hP1
    have hK1 := va_K.moved hvm.symm hK1
    obtain ⟨hP, hD⟩ := va_join (wr := [(h0, .inr (7, [.ref ptok, .ref pnee, .ref pnam, .int ar, .ref pbui, .ref pdra, .int fu, .int fn, .int fp]))]) (w1 := [(ptok, .inr (10, [.ref ts, .ref tp, .ref tw, .int z, .int pa_3, .int so_4, .int pl_5, .long wd_6])), (ts, .inl (t1, 2001, .inl gs)), (tp, .inl (t2, 2001, .inl gp)), (tw, .inl (t3, 2001, .inr (.inl gw)))]) hP hD [1, 2, 3, 4] [0] rfl rfl (by decide) (by decide) hk1 hFc hP1 hD1
    have hK := (hK.sub (tys' := []) [] rfl).app hK1
    generalize H1 = H at hP hS ⊢
    have hP : va_P (dC, dI) vwCl [(h0, .inr (7, [.ref ptok, .ref pnee, .ref pnam, .int ar, .ref pbui, .ref pdra, .int fu, .int fn, .int fp])), (ptok, .inr (10, [.ref ts, .ref tp, .ref tw, .int z, .int pa_3, .int so_4, .int pl_5, .long wd_6])), (ts, .inl (t1, 2001, .inl gs)), (tp, .inl (t2, 2001, .inl gp)), (tw, .inl (t3, 2001, .inr (.inl gw)))] H := hP
    have hD : va_D A [(h0, .inr (7, [.ref ptok, .ref pnee, .ref pnam, .int ar, .ref pbui, .ref pdra, .int fu, .int fn, .int fp])), (ptok, .inr (10, [.ref ts, .ref tp, .ref tw, .int z, .int pa_3, .int so_4, .int pl_5, .long wd_6])), (ts, .inl (t1, 2001, .inl gs)), (tp, .inl (t2, 2001, .inl gp)), (tw, .inl (t3, 2001, .inr (.inl gw)))] := hD
    have hK : va_K (dC, dI) vwCl [(t1, .int), (t2, .int), (t3, .long)] s := hK
    obtain ⟨hq_7, hq_8, hq_9, hq_10, hq_11, hq_12, hq_13, hq_14, hq_15, hq_16⟩ := hw
    have hP9 := hP.sub (ws' := [(h0, .inr (7, [.ref ptok, .ref pnee, .ref pnam, .int ar, .ref pbui, .ref pdra, .int fu, .int fn, .int fp])), (ptok, .inr (10, [.ref ts, .ref tp, .ref tw, .int z, .int pa_3, .int so_4, .int pl_5, .long wd_6])), (ts, .inl (t1, 2001, .inl gs)), (tp, .inl (t2, 2001, .inl gp)), (tw, .inl (t3, 2001, .inr (.inl gw)))]) [0, 1, 2, 3, 4] rfl
    have hD9 := hD.sub (ws' := [(h0, .inr (7, [.ref ptok, .ref pnee, .ref pnam, .int ar, .ref pbui, .ref pdra, .int fu, .int fn, .int fp])), (ptok, .inr (10, [.ref ts, .ref tp, .ref tw, .int z, .int pa_3, .int so_4, .int pl_5, .long wd_6])), (ts, .inl (t1, 2001, .inl gs)), (tp, .inl (t2, 2001, .inl gp)), (tw, .inl (t3, 2001, .inr (.inl gw)))]) [0, 1, 2, 3, 4] (by decide) rfl
    have hK9 := hK.sub (tys' := [(t1, .int), (t2, .int), (t3, .long)]) [0, 1, 2] rfl
    exact vy_mono vy_ret (vx_ret (W.vret hx hb hr (fun t ht hW => ⟨⟨(pa_3, so_4, pl_5, wd_6), rfl, ⟨by omega, by omega, by omega, by omega, by omega, by omega, hq_12, by omega, by omega, by omega, hq_16⟩, by rw [ht]; exact hP9, va_K.moved hW.alike hK9, hD9⟩, hS.F ht⟩) hS.2.2 dX7_expect_22))
  · have ic_1 : so.toInt ≠ sx.toInt := zi_ne c_1
    refine lv_aload_n hx hb dX7_expect_11 rfl (lv_at hl 0 rfl) ?_
    have hPc := hP.sub (ws' := [(h0, .inr (7, [.ref ptok, .ref pnee, .ref pnam, .int ar, .ref pbui, .ref pdra, .int fu, .int fn, .int fp])), (ptok, .inr (10, [.ref ts, .ref tp, .ref tw, .int z, .int pa, .int so, .int pl, .long wd]))]) [0, 1] rfl
    have hDc := hD.sub (ws' := [(h0, .inr (7, [.ref ptok, .ref pnee, .ref pnam, .int ar, .ref pbui, .ref pdra, .int fu, .int fn, .int fp])), (ptok, .inr (10, [.ref ts, .ref tp, .ref tw, .int z, .int pa, .int so, .int pl, .long wd]))]) [0, 1] (by decide) rfl
    have hKc := hK.sub (tys' := []) [] rfl
    have hFc := va_free (wc := [(h0, .inr (7, [.ref ptok, .ref pnee, .ref pnam, .int ar, .ref pbui, .ref pdra, .int fu, .int fn, .int fp])), (ptok, .inr (10, [.ref ts, .ref tp, .ref tw, .int z, .int pa, .int so, .int pl, .long wd]))]) hD hS hAA [0, 1] rfl
    refine vy_callv (vy_runV (As := []) (rest := []) ⟨hx, hb, hml, hown, hA⟩ (c_X7_failForm l dC dI aK aV h0 ptok pnee pnam pbui pdra ar fu fn fp ts tp tw z pa so pl wd s.heap.size hlt) (cwV 0 hA (zw_V wi_877 wi_879 wi_8 wi_136 (zw_good wi_880)) rfl rfl rfl (by decide +kernel) ⟨(Nat.le_of_ble_eq_true rfl), (Nat.le_of_ble_eq_true rfl)⟩) ⟨zP_blind, va_recv hKc hPc (ci := 7) (q0 := 0) rfl rfl, zz_pre hKc hPc hDc hN hT hS hFc⟩ rfl rfl hl.1 rfl (lv_room (Nat.le_of_ble_eq_true rfl)) dX7_expect_12 ⟨(Nat.le_of_ble_eq_true rfl), (Nat.le_of_ble_eq_true rfl)⟩) hS (fun q _ h => hFc q h) hFc (fun q _ h => hFc q h) (fun E9 ce9 q9 u t H1 locs ht hvm hw hB hz1 hk1 hS hcell hcv hcl => ?_) (fun u t H1 locs ht hvm hw hB hz1 hk1 hS => absurd hw id)
    obtain ⟨x_fn2_18, x_fp2_19⟩ := u
    obtain ⟨rfl, hP1, hK1, hD1⟩ := hB
    rw [ht] at hP1
    have hK1 := va_K.moved hvm.symm hK1
    obtain ⟨hP, hD⟩ := va_join (wr := [(ts, .inl (t1, 2001, .inl gs)), (tp, .inl (t2, 2001, .inl gp)), (tw, .inl (t3, 2001, .inr (.inl gw)))]) (w1 := [(h0, .inr (7, [.ref ptok, .ref pnee, .ref pnam, .int ar, .ref pbui, .ref pdra, .int fu, .int x_fn2_18, .int x_fp2_19])), (ptok, .inr (10, [.ref ts, .ref tp, .ref tw, .int z, .int pa, .int so, .int pl, .long wd]))]) hP hD [0, 1] [2, 3, 4] rfl rfl (by decide) (by decide) hk1 hFc hP1 hD1
    have hK := (hK.sub (tys' := [(t1, .int), (t2, .int), (t3, .long)]) [0, 1, 2] rfl).app hK1
    clear hPc hDc hFc hP1 hD1 hk1 hz1 ht hvm
    generalize H1 = H at hP hS hcell ⊢
    have hP : va_P (dC, dI) vwCl [(ts, .inl (t1, 2001, .inl gs)), (tp, .inl (t2, 2001, .inl gp)), (tw, .inl (t3, 2001, .inr (.inl gw))), (h0, .inr (7, [.ref ptok, .ref pnee, .ref pnam, .int ar, .ref pbui, .ref pdra, .int fu, .int x_fn2_18, .int x_fp2_19])), (ptok, .inr (10, [.ref ts, .ref tp, .ref tw, .int z, .int pa, .int so, .int pl, .long wd]))] H := hP
    have hD : va_D A [(ts, .inl (t1, 2001, .inl gs)), (tp, .inl (t2, 2001, .inl gp)), (tw, .inl (t3, 2001, .inr (.inl gw))), (h0, .inr (7, [.ref ptok, .ref pnee, .ref pnam, .int ar, .ref pbui, .ref pdra, .int fu, .int x_fn2_18, .int x_fp2_19])), (ptok, .inr (10, [.ref ts, .ref tp, .ref tw, .int z, .int pa, .int so, .int pl, .long wd]))] := hD
    have hK : va_K (dC, dI) vwCl [(t1, .int), (t2, .int), (t3, .long)] s := hK
    have hq_20 := hw
    try dsimp only at hq_20
    refine vx_widen (k := 1) (n := 6) (Nat.le_of_ble_eq_true rfl) (Nat.le_of_ble_eq_true rfl) ?_
    have hP9 := hP.sub (ws' := [(h0, .inr (7, [.ref ptok, .ref pnee, .ref pnam, .int ar, .ref pbui, .ref pdra, .int fu, .int x_fn2_18, .int x_fp2_19])), (ptok, .inr (10, [.ref ts, .ref tp, .ref tw, .int z, .int pa, .int so, .int pl, .long wd])), (ts, .inl (t1, 2001, .inl gs)), (tp, .inl (t2, 2001, .inl gp)), (tw, .inl (t3, 2001, .inr (.inl gw)))]) [3, 4, 0, 1, 2] rfl
    have hD9 := hD.sub (ws' := [(h0, .inr (7, [.ref ptok, .ref pnee, .ref pnam, .int ar, .ref pbui, .ref pdra, .int fu, .int x_fn2_18, .int x_fp2_19])), (ptok, .inr (10, [.ref ts, .ref tp, .ref tw, .int z, .int pa, .int so, .int pl, .long wd])), (ts, .inl (t1, 2001, .inl gs)), (tp, .inl (t2, 2001, .inl gp)), (tw, .inl (t3, 2001, .inr (.inl gw)))]) [3, 4, 0, 1, 2] (by decide) rfl
    have hK9 := hK.sub (tys' := [(t1, .int), (t2, .int), (t3, .long)]) [0, 1, 2] rfl
    exact vy_monoX vy_thr (vx_out (fun x hx => (hnh x hx).elim) hlocks hcell hcv hcl (fun t ht hvm => ⟨(x_fn2_18, x_fp2_19), ⟨by omega, by omega⟩, ⟨rfl, by rw [ht]; exact hP9, va_K.moved hvm hK9, hD9⟩, hS.F ht⟩) hS.2.2 (Nat.le_of_ble_eq_true rfl) (Nat.le_of_ble_eq_true rfl))
set_option maxHeartbeats 4000000 in
set_option maxRecDepth 100000 in
theorem c_X7_mustBeginExpression_s (l : Launch) (dC : Nat → ClassId) (dI : Nat → Nat → Nat) (aK aV : Nat → Nat) (h0 : Nat) (ptok : Nat) (pnee : Nat) (pnam : Nat) (pbui : Nat) (pdra : Nat) (ar : Int32) (fu : Int32) (fn : Int32) (fp : Int32) (ts : Nat) (tp : Nat) (tw : Nat) (z : Int32) (pa : Int32) (so : Int32) (pl : Int32) (wd : Int64) (sz : Nat) (hlt : l.stackTraces = false)  : vy_Met l yX7_mustBeginExpression (Cond.code yX7_mustBeginExpression cX7_mustBeginExpression 1 none :: zw) ({ frames := 14, cells := 1, slots := 6, locals := 500 }) (va_Pc [.ref h0] (zP dC dI aK aV sz [] [(h0, .inr (7, [.ref ptok, .ref pnee, .ref pnam, .int ar, .ref pbui, .ref pdra, .int fu, .int fn, .int fp])), (ptok, .inr (10, [.ref ts, .ref tp, .ref tw, .int z, .int pa, .int so, .int pl, .long wd]))])) (va_Qv (fun u : Unit => (so.toInt ≠ 256) ∧ (sp_bg so)) (fun u => zQ dC dI (va_A [(h0, .inr (7, [.ref ptok, .ref pnee, .ref pnam, .int ar, .ref pbui, .ref pdra, .int fu, .int fn, .int fp])), (ptok, .inr (10, [.ref ts, .ref tp, .ref tw, .int z, .int pa, .int so, .int pl, .long wd]))] sz) [] [(h0, .inr (7, [.ref ptok, .ref pnee, .ref pnam, .int ar, .ref pbui, .ref pdra, .int fu, .int fn, .int fp])), (ptok, .inr (10, [.ref ts, .ref tp, .ref tw, .int z, .int pa, .int so, .int pl, .long wd]))]) (va_A [(h0, .inr (7, [.ref ptok, .ref pnee, .ref pnam, .int ar, .ref pbui, .ref pdra, .int fu, .int fn, .int fp])), (ptok, .inr (10, [.ref ts, .ref tp, .ref tw, .int z, .int pa, .int so, .int pl, .long wd]))] sz)) (vx_X (fun u : Int32 × Int32 => match u with | (fn2, fp2) => (fp2.toInt = pl.toInt) ∧ (¬ sp_bg so)) (fun E u t => E = "java/lang/IllegalStateException" ∧ (match u with | (fn2, fp2) => zQ dC dI (va_A [(h0, .inr (7, [.ref ptok, .ref pnee, .ref pnam, .int ar, .ref pbui, .ref pdra, .int fu, .int fn, .int fp])), (ptok, .inr (10, [.ref ts, .ref tp, .ref tw, .int z, .int pa, .int so, .int pl, .long wd]))] sz) [] [(h0, .inr (7, [.ref ptok, .ref pnee, .ref pnam, .int ar, .ref pbui, .ref pdra, .int fu, .int fn2, .int fp2])), (ptok, .inr (10, [.ref ts, .ref tp, .ref tw, .int z, .int pa, .int so, .int pl, .long wd]))] t)) (va_A [(h0, .inr (7, [.ref ptok, .ref pnee, .ref pnam, .int ar, .ref pbui, .ref pdra, .int fu, .int fn, .int fp])), (ptok, .inr (10, [.ref ts, .ref tp, .ref tw, .int z, .int pa, .int so, .int pl, .long wd]))] sz)) 0 0 1 6 (va_A [(h0, .inr (7, [.ref ptok, .ref pnee, .ref pnam, .int ar, .ref pbui, .ref pdra, .int fu, .int fn, .int fp])), (ptok, .inr (10, [.ref ts, .ref tp, .ref tw, .int z, .int pa, .int so, .int pl, .long wd]))] sz) := by
  refine vy_ofW (cc := cX7_mustBeginExpression) (maxL := 1) (ret := none) (by decide) rfl ?_
  intro p e s m args below meth c s₁ B hml hnh hv
  obtain ⟨rfl, hsz, hP, hK, hD0, hN, hT⟩ := hv
  have hx := B.exec
  have hb := B.bytes
  have hr := B.returns
  have hts := atoms_spec (ws := Cond.code yX7_mustBeginExpression cX7_mustBeginExpression 1 none :: zw) B.pre
  have hA : ∀ w ∈ zw, w.before _ s = true := fun w h => hts w (List.mem_cons_of_mem _ h)
  have hown : s.vm.findClass RX7 = some m.cls := findClass_of_methodNamed B.named
  have hlocks := B.notSynchronized
  subst hsz
  have hD := hD0.self (sz := s.heap.size)
  generalize hAe : va_A [(h0, .inr (7, [.ref ptok, .ref pnee, .ref pnam, .int ar, .ref pbui, .ref pdra, .int fu, .int fn, .int fp])), (ptok, .inr (10, [.ref ts, .ref tp, .ref tw, .int z, .int pa, .int so, .int pl, .long wd]))] s.heap.size = A at hD hT ⊢
  have hAA : ∀ q : Nat, s.heap.size ≤ q → A q := fun q h => by rw [← hAe]; exact Or.inr h
  have hS : va_S A s.heap s.heap [] := va_S.rf
  have hl := lv_entry ([.ref h0]) (n := 1) (Nat.le_of_ble_eq_true rfl)
  rw [lg_entry_eq]
  generalize (lg_sl ([.ref h0]) ++ List.replicate (1 - (lg_sl ([.ref h0])).length) Slot.unset).toArray = ls at hl ⊢
  have hl : lv_has ls 1 [(0, .ref h0)] := hl
  refine lv_aload_n hx hb dX7_mustBeginExpression_0 rfl (lv_at hl 0 rfl) ?_
  refine va_get (D := (dC, dI)) (ci := 7) (v := .ref ptok) (C := RX7) (T := TX7) (N := 9) hx hb hA zin_X7 hown hK hP 0 rfl rfl 0 (by decide) (hA _ wi_387) (fun _ h9 => h9) rfl dX7_mustBeginExpression_1 ?_
  refine va_get (D := (dC, dI)) (ci := 10) (v := .int so) (C := RX10) (T := TX10) (N := 8) hx hb hA zin_X10 hown hK hP 1 rfl rfl 5 (by decide) (hA _ wi_353) (fun _ h9 => h9) rfl dX7_mustBeginExpression_4 ?_
  by_cases hk_1 : so = 40
  · have ihk_1 : so.toInt = 40 := zi_eq hk_1
    refine lv_lookup (off := 65) (tgt := 72) hx hb dX7_mustBeginExpression_7 (by decide) (by rw [hk_1]; decide) (by decide) ?_
    have hP9 := hP.sub (ws' := [(h0, .inr (7, [.ref ptok, .ref pnee, .ref pnam, .int ar, .ref pbui, .ref pdra, .int fu, .int fn, .int fp])), (ptok, .inr (10, [.ref ts, .ref tp, .ref tw, .int z, .int pa, .int so, .int pl, .long wd]))]) [0, 1] rfl
    have hD9 := hD.sub (ws' := [(h0, .inr (7, [.ref ptok, .ref pnee, .ref pnam, .int ar, .ref pbui, .ref pdra, .int fu, .int fn, .int fp])), (ptok, .inr (10, [.ref ts, .ref tp, .ref tw, .int z, .int pa, .int so, .int pl, .long wd]))]) [0, 1] (by decide) rfl
    have hK9 := hK.sub (tys' := []) [] rfl
    exact vy_mono vy_ret (vx_ret (W.vret hx hb hr (fun t ht hW => ⟨⟨(), rfl, ⟨by omega, (by unfold sp_bg; omega)⟩, by rw [ht]; exact hP9, va_K.moved hW.alike hK9, hD9⟩, hS.F ht⟩) hS.2.2 dX7_mustBeginExpression_72))
  have ihk_1 : so.toInt ≠ 40 := zi_ne hk_1
  by_cases hk_2 : so = 258
  · have ihk_2 : so.toInt = 258 := zi_eq hk_2
    refine lv_lookup (off := 65) (tgt := 72) hx hb dX7_mustBeginExpression_7 (by decide) (by rw [hk_2]; decide) (by decide) ?_
    have hP9 := hP.sub (ws' := [(h0, .inr (7, [.ref ptok, .ref pnee, .ref pnam, .int ar, .ref pbui, .ref pdra, .int fu, .int fn, .int fp])), (ptok, .inr (10, [.ref ts, .ref tp, .ref tw, .int z, .int pa, .int so, .int pl, .long wd]))]) [0, 1] rfl
    have hD9 := hD.sub (ws' := [(h0, .inr (7, [.ref ptok, .ref pnee, .ref pnam, .int ar, .ref pbui, .ref pdra, .int fu, .int fn, .int fp])), (ptok, .inr (10, [.ref ts, .ref tp, .ref tw, .int z, .int pa, .int so, .int pl, .long wd]))]) [0, 1] (by decide) rfl
    have hK9 := hK.sub (tys' := []) [] rfl
    exact vy_mono vy_ret (vx_ret (W.vret hx hb hr (fun t ht hW => ⟨⟨(), rfl, ⟨by omega, (by unfold sp_bg; omega)⟩, by rw [ht]; exact hP9, va_K.moved hW.alike hK9, hD9⟩, hS.F ht⟩) hS.2.2 dX7_mustBeginExpression_72))
  have ihk_2 : so.toInt ≠ 258 := zi_ne hk_2
  by_cases hk_3 : so = 259
  · have ihk_3 : so.toInt = 259 := zi_eq hk_3
    refine lv_lookup (off := 65) (tgt := 72) hx hb dX7_mustBeginExpression_7 (by decide) (by rw [hk_3]; decide) (by decide) ?_
    have hP9 := hP.sub (ws' := [(h0, .inr (7, [.ref ptok, .ref pnee, .ref pnam, .int ar, .ref pbui, .ref pdra, .int fu, .int fn, .int fp])), (ptok, .inr (10, [.ref ts, .ref tp, .ref tw, .int z, .int pa, .int so, .int pl, .long wd]))]) [0, 1] rfl
    have hD9 := hD.sub (ws' := [(h0, .inr (7, [.ref ptok, .ref pnee, .ref pnam, .int ar, .ref pbui, .ref pdra, .int fu, .int fn, .int fp])), (ptok, .inr (10, [.ref ts, .ref tp, .ref tw, .int z, .int pa, .int so, .int pl, .long wd]))]) [0, 1] (by decide) rfl
    have hK9 := hK.sub (tys' := []) [] rfl
    exact vy_mono vy_ret (vx_ret (W.vret hx hb hr (fun t ht hW => ⟨⟨(), rfl, ⟨by omega, (by unfold sp_bg; omega)⟩, by rw [ht]; exact hP9, va_K.moved hW.alike hK9, hD9⟩, hS.F ht⟩) hS.2.2 dX7_mustBeginExpression_72))
  have ihk_3 : so.toInt ≠ 259 := zi_ne hk_3
  by_cases hk_4 : so = 260
  · have ihk_4 : so.toInt = 260 := zi_eq hk_4
    refine lv_lookup (off := 65) (tgt := 72) hx hb dX7_mustBeginExpression_7 (by decide) (by rw [hk_4]; decide) (by decide) ?_
    have hP9 := hP.sub (ws' := [(h0, .inr (7, [.ref ptok, .ref pnee, .ref pnam, .int ar, .ref pbui, .ref pdra, .int fu, .int fn, .int fp])), (ptok, .inr (10, [.ref ts, .ref tp, .ref tw, .int z, .int pa, .int so, .int pl, .long wd]))]) [0, 1] rfl
    have hD9 := hD.sub (ws' := [(h0, .inr (7, [.ref ptok, .ref pnee, .ref pnam, .int ar, .ref pbui, .ref pdra, .int fu, .int fn, .int fp])), (ptok, .inr (10, [.ref ts, .ref tp, .ref tw, .int z, .int pa, .int so, .int pl, .long wd]))]) [0, 1] (by decide) rfl
    have hK9 := hK.sub (tys' := []) [] rfl
    exact vy_mono vy_ret (vx_ret (W.vret hx hb hr (fun t ht hW => ⟨⟨(), rfl, ⟨by omega, (by unfold sp_bg; omega)⟩, by rw [ht]; exact hP9, va_K.moved hW.alike hK9, hD9⟩, hS.F ht⟩) hS.2.2 dX7_mustBeginExpression_72))
  have ihk_4 : so.toInt ≠ 260 := zi_ne hk_4
  by_cases hk_5 : so = 262
  · have ihk_5 : so.toInt = 262 := zi_eq hk_5
    refine lv_lookup (off := 65) (tgt := 72) hx hb dX7_mustBeginExpression_7 (by decide) (by rw [hk_5]; decide) (by decide) ?_
    have hP9 := hP.sub (ws' := [(h0, .inr (7, [.ref ptok, .ref pnee, .ref pnam, .int ar, .ref pbui, .ref pdra, .int fu, .int fn, .int fp])), (ptok, .inr (10, [.ref ts, .ref tp, .ref tw, .int z, .int pa, .int so, .int pl, .long wd]))]) [0, 1] rfl
    have hD9 := hD.sub (ws' := [(h0, .inr (7, [.ref ptok, .ref pnee, .ref pnam, .int ar, .ref pbui, .ref pdra, .int fu, .int fn, .int fp])), (ptok, .inr (10, [.ref ts, .ref tp, .ref tw, .int z, .int pa, .int so, .int pl, .long wd]))]) [0, 1] (by decide) rfl
    have hK9 := hK.sub (tys' := []) [] rfl
    exact vy_mono vy_ret (vx_ret (W.vret hx hb hr (fun t ht hW => ⟨⟨(), rfl, ⟨by omega, (by unfold sp_bg; omega)⟩, by rw [ht]; exact hP9, va_K.moved hW.alike hK9, hD9⟩, hS.F ht⟩) hS.2.2 dX7_mustBeginExpression_72))
  have ihk_5 : so.toInt ≠ 262 := zi_ne hk_5
  by_cases hk_6 : so = 264
  · have ihk_6 : so.toInt = 264 := zi_eq hk_6
    refine lv_lookup (off := 65) (tgt := 72) hx hb dX7_mustBeginExpression_7 (by decide) (by rw [hk_6]; decide) (by decide) ?_
    have hP9 := hP.sub (ws' := [(h0, .inr (7, [.ref ptok, .ref pnee, .ref pnam, .int ar, .ref pbui, .ref pdra, .int fu, .int fn, .int fp])), (ptok, .inr (10, [.ref ts, .ref tp, .ref tw, .int z, .int pa, .int so, .int pl, .long wd]))]) [0, 1] rfl
    have hD9 := hD.sub (ws' := [(h0, .inr (7, [.ref ptok, .ref pnee, .ref pnam, .int ar, .ref pbui, .ref pdra, .int fu, .int fn, .int fp])), (ptok, .inr (10, [.ref ts, .ref tp, .ref tw, .int z, .int pa, .int so, .int pl, .long wd]))]) [0, 1] (by decide) rfl
    have hK9 := hK.sub (tys' := []) [] rfl
    exact vy_mono vy_ret (vx_ret (W.vret hx hb hr (fun t ht hW => ⟨⟨(), rfl, ⟨by omega, (by unfold sp_bg; omega)⟩, by rw [ht]; exact hP9, va_K.moved hW.alike hK9, hD9⟩, hS.F ht⟩) hS.2.2 dX7_mustBeginExpression_72))
  have ihk_6 : so.toInt ≠ 264 := zi_ne hk_6
  by_cases hk_7 : so = 267
  · have ihk_7 : so.toInt = 267 := zi_eq hk_7
    refine lv_lookup (off := 65) (tgt := 72) hx hb dX7_mustBeginExpression_7 (by decide) (by rw [hk_7]; decide) (by decide) ?_
    have hP9 := hP.sub (ws' := [(h0, .inr (7, [.ref ptok, .ref pnee, .ref pnam, .int ar, .ref pbui, .ref pdra, .int fu, .int fn, .int fp])), (ptok, .inr (10, [.ref ts, .ref tp, .ref tw, .int z, .int pa, .int so, .int pl, .long wd]))]) [0, 1] rfl
    have hD9 := hD.sub (ws' := [(h0, .inr (7, [.ref ptok, .ref pnee, .ref pnam, .int ar, .ref pbui, .ref pdra, .int fu, .int fn, .int fp])), (ptok, .inr (10, [.ref ts, .ref tp, .ref tw, .int z, .int pa, .int so, .int pl, .long wd]))]) [0, 1] (by decide) rfl
    have hK9 := hK.sub (tys' := []) [] rfl
    exact vy_mono vy_ret (vx_ret (W.vret hx hb hr (fun t ht hW => ⟨⟨(), rfl, ⟨by omega, (by unfold sp_bg; omega)⟩, by rw [ht]; exact hP9, va_K.moved hW.alike hK9, hD9⟩, hS.F ht⟩) hS.2.2 dX7_mustBeginExpression_72))
  have ihk_7 : so.toInt ≠ 267 := zi_ne hk_7
  refine lv_lookup (off := 66) (tgt := 73) hx hb dX7_mustBeginExpression_7 (by decide) ((lv_osw hk_1 (by decide)).trans ((lv_osw hk_2 (by decide)).trans ((lv_osw hk_3 (by decide)).trans ((lv_osw hk_4 (by decide)).trans ((lv_osw hk_5 (by decide)).trans ((lv_osw hk_6 (by decide)).trans ((lv_osw hk_7 (by decide)).trans rfl))))))) (by decide) ?_
  refine lv_aload_n hx hb dX7_mustBeginExpression_73 rfl (lv_at hl 0 rfl) ?_
  have hPc := hP.sub (ws' := [(h0, .inr (7, [.ref ptok, .ref pnee, .ref pnam, .int ar, .ref pbui, .ref pdra, .int fu, .int fn, .int fp])), (ptok, .inr (10, [.ref ts, .ref tp, .ref tw, .int z, .int pa, .int so, .int pl, .long wd]))]) [0, 1] rfl
  have hDc := hD.sub (ws' := [(h0, .inr (7, [.ref ptok, .ref pnee, .ref pnam, .int ar, .ref pbui, .ref pdra, .int fu, .int fn, .int fp])), (ptok, .inr (10, [.ref ts, .ref tp, .ref tw, .int z, .int pa, .int so, .int pl, .long wd]))]) [0, 1] (by decide) rfl
  have hKc := hK.sub (tys' := []) [] rfl
  have hFc := va_free (wc := [(h0, .inr (7, [.ref ptok, .ref pnee, .ref pnam, .int ar, .ref pbui, .ref pdra, .int fu, .int fn, .int fp])), (ptok, .inr (10, [.ref ts, .ref tp, .ref tw, .int z, .int pa, .int so, .int pl, .long wd]))]) hD hS hAA [0, 1] rfl
  refine vy_callv (vy_runV (As := []) (rest := []) ⟨hx, hb, hml, hown, hA⟩ (c_X7_failForm l dC dI aK aV h0 ptok pnee pnam pbui pdra ar fu fn fp ts tp tw z pa so pl wd s.heap.size hlt) (cwV 0 hA (zw_V wi_877 wi_879 wi_8 wi_136 (zw_good wi_880)) rfl rfl rfl (by decide +kernel) ⟨(Nat.le_of_ble_eq_true rfl), (Nat.le_of_ble_eq_true rfl)⟩) ⟨zP_blind, va_recv hKc hPc (ci := 7) (q0 := 0) rfl rfl, zz_pre hKc hPc hDc hN hT hS hFc⟩ rfl rfl hl.1 rfl (lv_room (Nat.le_of_ble_eq_true rfl)) dX7_mustBeginExpression_74 ⟨(Nat.le_of_ble_eq_true rfl), (Nat.le_of_ble_eq_true rfl)⟩) hS (fun q _ h => hFc q h) hFc (fun q _ h => hFc q h) (fun E9 ce9 q9 u t H1 locs ht hvm hw hB hz1 hk1 hS hcell hcv hcl => ?_) (fun u t H1 locs ht hvm hw hB hz1 hk1 hS => absurd hw id)
  obtain ⟨x_fn2_9, x_fp2_10⟩ := u
  obtain ⟨rfl, hP1, hK1, hD1⟩ := hB
  rw [ht] at hP1
  have hK1 := va_K.moved hvm.symm hK1
  obtain ⟨hP, hD⟩ := va_join (wr := []) (w1 := [(h0, .inr (7, [.ref ptok, .ref pnee, .ref pnam, .int ar, .ref pbui, .ref pdra, .int fu, .int x_fn2_9, .int x_fp2_10])), (ptok, .inr (10, [.ref ts, .ref tp, .ref tw, .int z, .int pa, .int so, .int pl, .long wd]))]) hP hD [0, 1] [] rfl rfl (by decide) (by decide) hk1 hFc hP1 hD1
  have hK := (hK.sub (tys' := []) [] rfl).app hK1
  clear hPc hDc hFc hP1 hD1 hk1 hz1 ht hvm
  generalize H1 = H at hP hS hcell ⊢
  have hP : va_P (dC, dI) vwCl [(h0, .inr (7, [.ref ptok, .ref pnee, .ref pnam, .int ar, .ref pbui, .ref pdra, .int fu, .int x_fn2_9, .int x_fp2_10])), (ptok, .inr (10, [.ref ts, .ref tp, .ref tw, .int z, .int pa, .int so, .int pl, .long wd]))] H := hP
  have hD : va_D A [(h0, .inr (7, [.ref ptok, .ref pnee, .ref pnam, .int ar, .ref pbui, .ref pdra, .int fu, .int x_fn2_9, .int x_fp2_10])), (ptok, .inr (10, [.ref ts, .ref tp, .ref tw, .int z, .int pa, .int so, .int pl, .long wd]))] := hD
  have hK : va_K (dC, dI) vwCl [] s := hK
  have hq_11 := hw
  try dsimp only at hq_11
  refine vx_widen (k := 1) (n := 6) (Nat.le_of_ble_eq_true rfl) (Nat.le_of_ble_eq_true rfl) ?_
  have hP9 := hP.sub (ws' := [(h0, .inr (7, [.ref ptok, .ref pnee, .ref pnam, .int ar, .ref pbui, .ref pdra, .int fu, .int x_fn2_9, .int x_fp2_10])), (ptok, .inr (10, [.ref ts, .ref tp, .ref tw, .int z, .int pa, .int so, .int pl, .long wd]))]) [0, 1] rfl
  have hD9 := hD.sub (ws' := [(h0, .inr (7, [.ref ptok, .ref pnee, .ref pnam, .int ar, .ref pbui, .ref pdra, .int fu, .int x_fn2_9, .int x_fp2_10])), (ptok, .inr (10, [.ref ts, .ref tp, .ref tw, .int z, .int pa, .int so, .int pl, .long wd]))]) [0, 1] (by decide) rfl
  have hK9 := hK.sub (tys' := []) [] rfl
  exact vy_monoX vy_thr (vx_out (fun x hx => (hnh x hx).elim) hlocks hcell hcv hcl (fun t ht hvm => ⟨(x_fn2_9, x_fp2_10), ⟨by omega, (by unfold sp_bg; omega)⟩, ⟨rfl, by rw [ht]; exact hP9, va_K.moved hvm hK9, hD9⟩, hS.F ht⟩) hS.2.2 (Nat.le_of_ble_eq_true rfl) (Nat.le_of_ble_eq_true rfl))
