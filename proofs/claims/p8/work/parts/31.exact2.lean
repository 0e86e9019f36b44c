set_option maxHeartbeats 4000000 in
set_option maxRecDepth 100000 in
theorem c_X7_writeCall_x (l : Launch) (dC : Nat → ClassId) (dI : Nat → Nat → Nat) (aK aV : Nat → Nat) (h0 : Nat) (ptok : Nat) (pnee : Nat) (pnam : Nat) (pbui : Nat) (pdra : Nat) (ar : Int32) (fu : Int32) (fn : Int32) (fp : Int32) (gco : Nat) (gar : Nat) (gki : Nat) (gfu : Nat) (cop : Nat) (ca : Nat) (cb : Nat) (cplace : Nat) (cnext : Nat) (cneeded : Nat) (ckop : ClassId) (cka : ClassId) (ckb : ClassId) (ckplace : ClassId) (cknext : ClassId) (ckneeded : ClassId) (cz : Int32) (ct : Int32) (cgop : Nat → Int32) (cga : Nat → Int32) (cgb : Nat → Int32) (cgplace : Nat → Int32) (cgnext : Nat → Int32) (cgneeded : Nat → Int32) (o : Int32) (wh : Int32) (to : Int32) (nu : Int32) (sz : Nat) (hc0 : 0 ≤ cz.toInt) (hc1 : cz.toInt < 3000) (hc2 : 0 ≤ ct.toInt) (hc3 : ct.toInt < 3000) (hcn : zx 3000 cgnext) : Met l yX7_writeCall (Cond.code yX7_writeCall cX7_writeCall 5 none :: zw) ({ frames := 12, cells := 0, slots := 0, locals := 400 }) (va_Pc [.ref h0, .int o, .int wh, .int to, .int nu] (zP dC dI aK aV sz [(ckop, .int), (cka, .int), (ckb, .int), (ckplace, .int), (cknext, .int), (ckneeded, .int)] [(h0, .inr (7, [.ref ptok, .ref pnee, .ref pnam, .int ar, .ref pbui, .ref pdra, .int fu, .int fn, .int fp])), (pdra, .inr (9, [.ref gco, .ref gar, .ref gki, .ref gfu])), (gco, .inr (2, [.ref cop, .ref ca, .ref cb, .ref cplace, .ref cnext, .ref cneeded, .int cz, .int ct])), (cop, .inl (ckop, 3000, .inl cgop)), (ca, .inl (cka, 3000, .inl cga)), (cb, .inl (ckb, 3000, .inl cgb)), (cplace, .inl (ckplace, 3000, .inl cgplace)), (cnext, .inl (cknext, 3000, .inl cgnext)), (cneeded, .inl (ckneeded, 3000, .inl cgneeded))])) (va_Qv (fun u : Int32 × Int32 × (Nat → Int32) × (Nat → Int32) × (Nat → Int32) × (Nat → Int32) × (Nat → Int32) × (Nat → Int32) => match u with | (cz2, ct2, nop, na, nb, nplace, nnext, nneeded) => (cz2.toInt = cz.toInt + 1) ∧ (ct2 = cz) ∧ (zx 3000 nnext) ∧ (nop = upd cgop (Int32.toNatClampNeg cz) o) ∧ (na = upd cga (Int32.toNatClampNeg cz) to) ∧ (nb = upd (upd cgb (Int32.toNatClampNeg cz) (-1)) (Int32.toNatClampNeg cz) nu) ∧ (nnext = upd (upd cgnext (Int32.toNatClampNeg cz) (cgnext (Int32.toNatClampNeg ct))) (Int32.toNatClampNeg ct) cz) ∧ (nplace = upd cgplace (Int32.toNatClampNeg cz) wh)) (fun u => match u with | (cz2, ct2, nop, na, nb, nplace, nnext, nneeded) => zQ dC dI (va_A [(h0, .inr (7, [.ref ptok, .ref pnee, .ref pnam, .int ar, .ref pbui, .ref pdra, .int fu, .int fn, .int fp])), (pdra, .inr (9, [.ref gco, .ref gar, .ref gki, .ref gfu])), (gco, .inr (2, [.ref cop, .ref ca, .ref cb, .ref cplace, .ref cnext, .ref cneeded, .int cz, .int ct])), (cop, .inl (ckop, 3000, .inl cgop)), (ca, .inl (cka, 3000, .inl cga)), (cb, .inl (ckb, 3000, .inl cgb)), (cplace, .inl (ckplace, 3000, .inl cgplace)), (cnext, .inl (cknext, 3000, .inl cgnext)), (cneeded, .inl (ckneeded, 3000, .inl cgneeded))] sz) [(ckop, .int), (cka, .int), (ckb, .int), (ckplace, .int), (cknext, .int), (ckneeded, .int)] [(h0, .inr (7, [.ref ptok, .ref pnee, .ref pnam, .int ar, .ref pbui, .ref pdra, .int fu, .int fn, .int fp])), (pdra, .inr (9, [.ref gco, .ref gar, .ref gki, .ref gfu])), (gco, .inr (2, [.ref cop, .ref ca, .ref cb, .ref cplace, .ref cnext, .ref cneeded, .int cz2, .int ct2])), (cop, .inl (ckop, 3000, .inl nop)), (ca, .inl (cka, 3000, .inl na)), (cb, .inl (ckb, 3000, .inl nb)), (cplace, .inl (ckplace, 3000, .inl nplace)), (cnext, .inl (cknext, 3000, .inl nnext)), (cneeded, .inl (ckneeded, 3000, .inl nneeded))]) (va_A [(h0, .inr (7, [.ref ptok, .ref pnee, .ref pnam, .int ar, .ref pbui, .ref pdra, .int fu, .int fn, .int fp])), (pdra, .inr (9, [.ref gco, .ref gar, .ref gki, .ref gfu])), (gco, .inr (2, [.ref cop, .ref ca, .ref cb, .ref cplace, .ref cnext, .ref cneeded, .int cz, .int ct])), (cop, .inl (ckop, 3000, .inl cgop)), (ca, .inl (cka, 3000, .inl cga)), (cb, .inl (ckb, 3000, .inl cgb)), (cplace, .inl (ckplace, 3000, .inl cgplace)), (cnext, .inl (cknext, 3000, .inl cgnext)), (cneeded, .inl (ckneeded, 3000, .inl cgneeded))] sz)) 0 0 (va_A [(h0, .inr (7, [.ref ptok, .ref pnee, .ref pnam, .int ar, .ref pbui, .ref pdra, .int fu, .int fn, .int fp])), (pdra, .inr (9, [.ref gco, .ref gar, .ref gki, .ref gfu])), (gco, .inr (2, [.ref cop, .ref ca, .ref cb, .ref cplace, .ref cnext, .ref cneeded, .int cz, .int ct])), (cop, .inl (ckop, 3000, .inl cgop)), (ca, .inl (cka, 3000, .inl cga)), (cb, .inl (ckb, 3000, .inl cgb)), (cplace, .inl (ckplace, 3000, .inl cgplace)), (cnext, .inl (cknext, 3000, .inl cgnext)), (cneeded, .inl (ckneeded, 3000, .inl cgneeded))] sz) := by
  refine Met.ofW (cc := cX7_writeCall) (maxL := 5) (ret := none) (by decide) rfl ?_
  intro p e s m args below meth c s₁ B hml hv
  obtain ⟨rfl, hsz, hP, hK, hD0, hN, hT⟩ := hv
  have hx := B.exec
  have hb := B.bytes
  have hr := B.returns
  have hts := atoms_spec (ws := Cond.code yX7_writeCall cX7_writeCall 5 none :: zw) B.pre
  have hA : ∀ w ∈ zw, w.before _ s = true := fun w h => hts w (List.mem_cons_of_mem _ h)
  have hown : s.vm.findClass RX7 = some m.cls := findClass_of_methodNamed B.named
  have hlocks := B.notSynchronized
  subst hsz
  have hD := hD0.self (sz := s.heap.size)
  generalize hAe : va_A [(h0, .inr (7, [.ref ptok, .ref pnee, .ref pnam, .int ar, .ref pbui, .ref pdra, .int fu, .int fn, .int fp])), (pdra, .inr (9, [.ref gco, .ref gar, .ref gki, .ref gfu])), (gco, .inr (2, [.ref cop, .ref ca, .ref cb, .ref cplace, .ref cnext, .ref cneeded, .int cz, .int ct])), (cop, .inl (ckop, 3000, .inl cgop)), (ca, .inl (cka, 3000, .inl cga)), (cb, .inl (ckb, 3000, .inl cgb)), (cplace, .inl (ckplace, 3000, .inl cgplace)), (cnext, .inl (cknext, 3000, .inl cgnext)), (cneeded, .inl (ckneeded, 3000, .inl cgneeded))] s.heap.size = A at hD hT ⊢
  have hAA : ∀ q : Nat, s.heap.size ≤ q → A q := fun q h => by rw [← hAe]; exact Or.inr h
  have hS : va_S A s.heap s.heap [] := va_S.rf
  have hl := lv_entry ([.ref h0, .int o, .int wh, .int to, .int nu]) (n := 5) (Nat.le_of_ble_eq_true rfl)
  rw [lg_entry_eq]
  generalize (lg_sl ([.ref h0, .int o, .int wh, .int to, .int nu]) ++ List.replicate (5 - (lg_sl ([.ref h0, .int o, .int wh, .int to, .int nu])).length) Slot.unset).toArray = ls at hl ⊢
  have hl : lv_has ls 5 [(0, .ref h0), (1, .int o), (2, .int wh), (3, .int to), (4, .int nu)] := hl
  refine lv_aload_n hx hb dX7_writeCall_0 rfl (lv_at hl 0 rfl) ?_
  refine va_get (D := (dC, dI)) (ci := 7) (v := .ref pdra) (C := RX7) (T := TX7) (N := 9) hx hb hA zin_X7 hown hK hP 0 rfl rfl 5 (by decide) (hA _ wi_392) (fun _ h9 => h9) rfl dX7_writeCall_1 ?_
  refine va_get (D := (dC, dI)) (ci := 9) (v := .ref gco) (C := RX9) (T := TX9) (N := 4) hx hb hA zin_X9 hown hK hP 1 rfl rfl 0 (by decide) (hA _ wi_311) (fun _ h9 => h9) rfl dX7_writeCall_4 ?_
  refine va_get (D := (dC, dI)) (ci := 2) (v := .ref cb) (C := RX2) (T := TX2) (N := 8) hx hb hA zin_X2 hown hK hP 2 rfl rfl 2 (by decide) (hA _ wi_186) (fun _ h9 => h9) rfl dX7_writeCall_7 ?_
  refine lv_aload_n hx hb dX7_writeCall_10 rfl (lv_at hl 0 rfl) ?_
  refine va_get (D := (dC, dI)) (ci := 7) (v := .ref pdra) (C := RX7) (T := TX7) (N := 9) hx hb hA zin_X7 hown hK hP 0 rfl rfl 5 (by decide) (hA _ wi_392) (fun _ h9 => h9) rfl dX7_writeCall_11 ?_
  refine va_get (D := (dC, dI)) (ci := 9) (v := .ref gco) (C := RX9) (T := TX9) (N := 4) hx hb hA zin_X9 hown hK hP 1 rfl rfl 0 (by decide) (hA _ wi_311) (fun _ h9 => h9) rfl dX7_writeCall_14 ?_
  refine lv_iload_n hx hb dX7_writeCall_17 rfl (lv_at hl 1 rfl) ?_
  refine lv_iload_n hx hb dX7_writeCall_18 rfl (lv_at hl 2 rfl) ?_
  refine lv_iload_n hx hb dX7_writeCall_19 rfl (lv_at hl 3 rfl) ?_
  have hPc := hP.sub (ws' := [(gco, .inr (2, [.ref cop, .ref ca, .ref cb, .ref cplace, .ref cnext, .ref cneeded, .int cz, .int ct])), (cop, .inl (ckop, 3000, .inl cgop)), (ca, .inl (cka, 3000, .inl cga)), (cb, .inl (ckb, 3000, .inl cgb)), (cplace, .inl (ckplace, 3000, .inl cgplace)), (cnext, .inl (cknext, 3000, .inl cgnext)), (cneeded, .inl (ckneeded, 3000, .inl cgneeded))]) [2, 3, 4, 5, 6, 7, 8] rfl
  have hDc := hD.sub (ws' := [(gco, .inr (2, [.ref cop, .ref ca, .ref cb, .ref cplace, .ref cnext, .ref cneeded, .int cz, .int ct])), (cop, .inl (ckop, 3000, .inl cgop)), (ca, .inl (cka, 3000, .inl cga)), (cb, .inl (ckb, 3000, .inl cgb)), (cplace, .inl (ckplace, 3000, .inl cgplace)), (cnext, .inl (cknext, 3000, .inl cgnext)), (cneeded, .inl (ckneeded, 3000, .inl cgneeded))]) [2, 3, 4, 5, 6, 7, 8] (by decide) rfl
  have hKc := hK.sub (tys' := [(ckop, .int), (cka, .int), (ckb, .int), (ckplace, .int), (cknext, .int), (ckneeded, .int)]) [0, 1, 2, 3, 4, 5] rfl
  have hFc := va_free (wc := [(gco, .inr (2, [.ref cop, .ref ca, .ref cb, .ref cplace, .ref cnext, .ref cneeded, .int cz, .int ct])), (cop, .inl (ckop, 3000, .inl cgop)), (ca, .inl (cka, 3000, .inl cga)), (cb, .inl (ckb, 3000, .inl cgb)), (cplace, .inl (ckplace, 3000, .inl cgplace)), (cnext, .inl (cknext, 3000, .inl cgnext)), (cneeded, .inl (ckneeded, 3000, .inl cgneeded))]) hD hS hAA [2, 3, 4, 5, 6, 7, 8] rfl
  refine va_calli (va_runV (As := [.int o, .int wh, .int to]) (rest := [.ref cb]) ⟨hx, hb, hml, hown, hA⟩ (c_X2_append_x l dC dI aK aV gco cop ca cb cplace cnext cneeded ckop cka ckb ckplace cknext ckneeded cz ct cgop cga cgb cgplace cgnext cgneeded o wh to s.heap.size (by omega) (by omega) (by omega) (by omega) hcn) (cwV 3 hA (zw_V wi_918 wi_919 wi_920 wi_132 (zw_good wi_921)) rfl rfl rfl (by decide +kernel) ⟨(Nat.le_of_ble_eq_true rfl), (Nat.le_of_ble_eq_true rfl)⟩) ⟨zP_blind, va_recv hKc hPc (ci := 2) (q0 := 0) rfl rfl, zz_pre hKc hPc hDc hN hT hS hFc⟩ rfl rfl hl.1 rfl (lv_room (Nat.le_of_ble_eq_true rfl)) dX7_writeCall_20 ⟨(Nat.le_of_ble_eq_true rfl), (Nat.le_of_ble_eq_true rfl)⟩) hS (fun q _ h => hFc q h) hFc (fun r_1 u t H1 locs ht hvm hw hB hz1 hk1 hS => ?_)
  obtain ⟨z_2, t_3, nop_4, na_5, nb_6, nplace_7, nnext_8, nneeded_9⟩ := u
  obtain ⟨hP1, hK1, hD1⟩ := hB
  rw [ht] at hP1
  have hK1 := va_K.moved hvm.symm hK1
  obtain ⟨hP, hD⟩ := va_join (wr := [(h0, .inr (7, [.ref ptok, .ref pnee, .ref pnam, .int ar, .ref pbui, .ref pdra, .int fu, .int fn, .int fp])), (pdra, .inr (9, [.ref gco, .ref gar, .ref gki, .ref gfu]))]) (w1 := [(gco, .inr (2, [.ref cop, .ref ca, .ref cb, .ref cplace, .ref cnext, .ref cneeded, .int z_2, .int t_3])), (cop, .inl (ckop, 3000, .inl nop_4)), (ca, .inl (cka, 3000, .inl na_5)), (cb, .inl (ckb, 3000, .inl nb_6)), (cplace, .inl (ckplace, 3000, .inl nplace_7)), (cnext, .inl (cknext, 3000, .inl nnext_8)), (cneeded, .inl (ckneeded, 3000, .inl nneeded_9))]) hP hD [2, 3, 4, 5, 6, 7, 8] [0, 1] rfl rfl (by decide) (by decide) hk1 hFc hP1 hD1
  have hK := (hK.sub (tys' := []) [] rfl).app hK1
  generalize H1 = H at hP hS ⊢
  have hP : va_P (dC, dI) vwCl [(h0, .inr (7, [.ref ptok, .ref pnee, .ref pnam, .int ar, .ref pbui, .ref pdra, .int fu, .int fn, .int fp])), (pdra, .inr (9, [.ref gco, .ref gar, .ref gki, .ref gfu])), (gco, .inr (2, [.ref cop, .ref ca, .ref cb, .ref cplace, .ref cnext, .ref cneeded, .int z_2, .int t_3])), (cop, .inl (ckop, 3000, .inl nop_4)), (ca, .inl (cka, 3000, .inl na_5)), (cb, .inl (ckb, 3000, .inl nb_6)), (cplace, .inl (ckplace, 3000, .inl nplace_7)), (cnext, .inl (cknext, 3000, .inl nnext_8)), (cneeded, .inl (ckneeded, 3000, .inl nneeded_9))] H := hP
  have hD : va_D A [(h0, .inr (7, [.ref ptok, .ref pnee, .ref pnam, .int ar, .ref pbui, .ref pdra, .int fu, .int fn, .int fp])), (pdra, .inr (9, [.ref gco, .ref gar, .ref gki, .ref gfu])), (gco, .inr (2, [.ref cop, .ref ca, .ref cb, .ref cplace, .ref cnext, .ref cneeded, .int z_2, .int t_3])), (cop, .inl (ckop, 3000, .inl nop_4)), (ca, .inl (cka, 3000, .inl na_5)), (cb, .inl (ckb, 3000, .inl nb_6)), (cplace, .inl (ckplace, 3000, .inl nplace_7)), (cnext, .inl (cknext, 3000, .inl nnext_8)), (cneeded, .inl (ckneeded, 3000, .inl nneeded_9))] := hD
  have hK : va_K (dC, dI) vwCl [(ckop, .int), (cka, .int), (ckb, .int), (ckplace, .int), (cknext, .int), (ckneeded, .int)] s := hK
  obtain rfl : cz = r_1 := hw.1.symm
  obtain ⟨hq_10, hq_11, hq_12, hq_13, hq_14, hq_15, hq_16, hq_17, hq_18⟩ := hw
  refine lv_iload hx hb dX7_writeCall_23 (lv_at hl 4 rfl) ?_
  refine va_iast hx hb hK hP hD hS 5 2 rfl rfl (vp_in_iff.mpr ⟨by omega, by omega⟩) dX7_writeCall_25 (fun H locs hP hD hS => ?_)
  obtain ⟨f_19, ef_19⟩ : ∃ gz9 : Nat → Int32, gz9 = upd nb_6 (Int32.toNatClampNeg cz) nu := ⟨_, rfl⟩
  rw [← ef_19] at hP hD
  have hP : va_P (dC, dI) vwCl [(h0, .inr (7, [.ref ptok, .ref pnee, .ref pnam, .int ar, .ref pbui, .ref pdra, .int fu, .int fn, .int fp])), (pdra, .inr (9, [.ref gco, .ref gar, .ref gki, .ref gfu])), (gco, .inr (2, [.ref cop, .ref ca, .ref cb, .ref cplace, .ref cnext, .ref cneeded, .int z_2, .int t_3])), (cop, .inl (ckop, 3000, .inl nop_4)), (ca, .inl (cka, 3000, .inl na_5)), (cb, .inl (ckb, 3000, .inl f_19)), (cplace, .inl (ckplace, 3000, .inl nplace_7)), (cnext, .inl (cknext, 3000, .inl nnext_8)), (cneeded, .inl (ckneeded, 3000, .inl nneeded_9))] H := hP
  have hD : va_D A [(h0, .inr (7, [.ref ptok, .ref pnee, .ref pnam, .int ar, .ref pbui, .ref pdra, .int fu, .int fn, .int fp])), (pdra, .inr (9, [.ref gco, .ref gar, .ref gki, .ref gfu])), (gco, .inr (2, [.ref cop, .ref ca, .ref cb, .ref cplace, .ref cnext, .ref cneeded, .int z_2, .int t_3])), (cop, .inl (ckop, 3000, .inl nop_4)), (ca, .inl (cka, 3000, .inl na_5)), (cb, .inl (ckb, 3000, .inl f_19)), (cplace, .inl (ckplace, 3000, .inl nplace_7)), (cnext, .inl (cknext, 3000, .inl nnext_8)), (cneeded, .inl (ckneeded, 3000, .inl nneeded_9))] := hD
  have hP9 := hP.sub (ws' := [(h0, .inr (7, [.ref ptok, .ref pnee, .ref pnam, .int ar, .ref pbui, .ref pdra, .int fu, .int fn, .int fp])), (pdra, .inr (9, [.ref gco, .ref gar, .ref gki, .ref gfu])), (gco, .inr (2, [.ref cop, .ref ca, .ref cb, .ref cplace, .ref cnext, .ref cneeded, .int z_2, .int t_3])), (cop, .inl (ckop, 3000, .inl nop_4)), (ca, .inl (cka, 3000, .inl na_5)), (cb, .inl (ckb, 3000, .inl f_19)), (cplace, .inl (ckplace, 3000, .inl nplace_7)), (cnext, .inl (cknext, 3000, .inl nnext_8)), (cneeded, .inl (ckneeded, 3000, .inl nneeded_9))]) [0, 1, 2, 3, 4, 5, 6, 7, 8] rfl
  have hD9 := hD.sub (ws' := [(h0, .inr (7, [.ref ptok, .ref pnee, .ref pnam, .int ar, .ref pbui, .ref pdra, .int fu, .int fn, .int fp])), (pdra, .inr (9, [.ref gco, .ref gar, .ref gki, .ref gfu])), (gco, .inr (2, [.ref cop, .ref ca, .ref cb, .ref cplace, .ref cnext, .ref cneeded, .int z_2, .int t_3])), (cop, .inl (ckop, 3000, .inl nop_4)), (ca, .inl (cka, 3000, .inl na_5)), (cb, .inl (ckb, 3000, .inl f_19)), (cplace, .inl (ckplace, 3000, .inl nplace_7)), (cnext, .inl (cknext, 3000, .inl nnext_8)), (cneeded, .inl (ckneeded, 3000, .inl nneeded_9))]) [0, 1, 2, 3, 4, 5, 6, 7, 8] (by decide) rfl
  have hK9 := hK.sub (tys' := [(ckop, .int), (cka, .int), (ckb, .int), (ckplace, .int), (cknext, .int), (ckneeded, .int)]) [0, 1, 2, 3, 4, 5] rfl
  exact W.vret hx hb hr (fun t ht hW => ⟨⟨(z_2, t_3, nop_4, na_5, f_19, nplace_7, nnext_8, nneeded_9), rfl, ⟨by omega, hq_12, hq_13, hq_14, hq_15, by rw [ef_19, hq_16], hq_17, hq_18⟩, by rw [ht]; exact hP9, va_K.moved hW.alike hK9, hD9⟩, hS.F ht⟩) hS.2.2 dX7_writeCall_26
set_option maxHeartbeats 4000000 in
set_option maxRecDepth 100000 in
theorem c_X4_add_x (l : Launch) (dC : Nat → ClassId) (dI : Nat → Nat → Nat) (aK aV : Nat → Nat) (h0 : Nat) (kw : Nat) (kf : Nat) (k1 : ClassId) (k2 : ClassId) (z : Int32) (gw : Nat → Int64) (gf : Nat → Int32) (nm : Int64) (sz : Nat) (hz0 : 0 ≤ z.toInt) (hz1 : z.toInt < 20) (hgf : zx 4 gf) : Met l yX4_add (Cond.code yX4_add cX4_add 3 (some .int) :: zw) ({ frames := 8, cells := 0, slots := 0, locals := 200 }) (va_Pc [.ref h0, .long nm] (zP dC dI aK aV sz [(k1, .long), (k2, .int)] [(h0, .inr (4, [.ref kw, .ref kf, .int z])), (kw, .inl (k1, 20, .inr (.inl gw))), (kf, .inl (k2, 20, .inl gf))])) (va_Qi (fun (r : Int32) (u : Int32 × (Nat → Int64) × (Nat → Int32)) => match u with | (z2, gw2, gf2) => (r.toInt = z.toInt) ∧ (z2.toInt = z.toInt + 1) ∧ (zx 4 gf2) ∧ (gf2 = upd gf (Int32.toNatClampNeg z) (-1))) (fun u => match u with | (z2, gw2, gf2) => zQ dC dI (va_A [(h0, .inr (4, [.ref kw, .ref kf, .int z])), (kw, .inl (k1, 20, .inr (.inl gw))), (kf, .inl (k2, 20, .inl gf))] sz) [(k1, .long), (k2, .int)] [(h0, .inr (4, [.ref kw, .ref kf, .int z2])), (kw, .inl (k1, 20, .inr (.inl gw2))), (kf, .inl (k2, 20, .inl gf2))]) (va_A [(h0, .inr (4, [.ref kw, .ref kf, .int z])), (kw, .inl (k1, 20, .inr (.inl gw))), (kf, .inl (k2, 20, .inl gf))] sz)) 0 0 (va_A [(h0, .inr (4, [.ref kw, .ref kf, .int z])), (kw, .inl (k1, 20, .inr (.inl gw))), (kf, .inl (k2, 20, .inl gf))] sz) := by
  refine Met.ofW (cc := cX4_add) (maxL := 3) (ret := (some .int)) (by decide) rfl ?_
  intro p e s m args below meth c s₁ B hml hv
  obtain ⟨rfl, hsz, hP, hK, hD0, hN, hT⟩ := hv
  have hx := B.exec
  have hb := B.bytes
  have hr := B.returns
  have hts := atoms_spec (ws := Cond.code yX4_add cX4_add 3 (some .int) :: zw) B.pre
  have hA : ∀ w ∈ zw, w.before _ s = true := fun w h => hts w (List.mem_cons_of_mem _ h)
  have hown : s.vm.findClass RX4 = some m.cls := findClass_of_methodNamed B.named
  have hlocks := B.notSynchronized
  subst hsz
  have hD := hD0.self (sz := s.heap.size)
  generalize hAe : va_A [(h0, .inr (4, [.ref kw, .ref kf, .int z])), (kw, .inl (k1, 20, .inr (.inl gw))), (kf, .inl (k2, 20, .inl gf))] s.heap.size = A at hD hT ⊢
  have hAA : ∀ q : Nat, s.heap.size ≤ q → A q := fun q h => by rw [← hAe]; exact Or.inr h
  have hS : va_S A s.heap s.heap [] := va_S.rf
  have hl := lv_entry ([.ref h0, .long nm]) (n := 3) (Nat.le_of_ble_eq_true rfl)
  rw [lg_entry_eq]
  generalize (lg_sl ([.ref h0, .long nm]) ++ List.replicate (3 - (lg_sl ([.ref h0, .long nm])).length) Slot.unset).toArray = ls at hl ⊢
  have hl : lv_has ls 3 [(0, .ref h0), (1, .long nm)] := hl
  refine lv_aload_n hx hb dX4_add_0 rfl (lv_at hl 0 rfl) ?_
  refine va_get (D := (dC, dI)) (ci := 4) (v := .int z) (C := RX4) (T := TX4) (N := 3) hx hb hA zin_X4 hown hK hP 0 rfl rfl 2 (by decide) (hA _ wi_273) (fun _ h9 => h9) rfl dX4_add_1 ?_
  refine lv_bipush (v := 20) hx hb dX4_add_4 (by decide) ?_
  refine lv_icmp_lt (tgt := 12) hx hb dX4_add_6 (by decide) (fun c_1 => ?_) (fun c_1 => ?_)
  · have ic_1 : z.toInt < 20 := zi_lt c_1
    refine lv_aload_n hx hb dX4_add_12 rfl (lv_at hl 0 rfl) ?_
    refine va_get (D := (dC, dI)) (ci := 4) (v := .ref kw) (C := RX4) (T := TX4) (N := 3) hx hb hA zin_X4 hown hK hP 0 rfl rfl 0 (by decide) (hA _ wi_270) (fun _ h9 => h9) rfl dX4_add_13 ?_
    refine lv_aload_n hx hb dX4_add_16 rfl (lv_at hl 0 rfl) ?_
    refine va_get (D := (dC, dI)) (ci := 4) (v := .int z) (C := RX4) (T := TX4) (N := 3) hx hb hA zin_X4 hown hK hP 0 rfl rfl 2 (by decide) (hA _ wi_273) (fun _ h9 => h9) rfl dX4_add_17 ?_
    refine lv_lload_n hx hb dX4_add_20 rfl (lv_at hl 1 rfl) ?_
    refine va_last hx hb hK hP hD hS 1 0 rfl rfl (vp_in_iff.mpr ⟨by omega, by omega⟩) dX4_add_21 (fun H locs hP hD hS => ?_)
    obtain ⟨f_2, ef_2⟩ : ∃ gz9 : Nat → Int64, gz9 = vp_updL gw (Int32.toNatClampNeg z) nm := ⟨_, rfl⟩
    rw [← ef_2] at hP hD
    have hP : va_P (dC, dI) vwCl [(h0, .inr (4, [.ref kw, .ref kf, .int z])), (kw, .inl (k1, 20, .inr (.inl f_2))), (kf, .inl (k2, 20, .inl gf))] H := hP
    have hD : va_D A [(h0, .inr (4, [.ref kw, .ref kf, .int z])), (kw, .inl (k1, 20, .inr (.inl f_2))), (kf, .inl (k2, 20, .inl gf))] := hD
    refine lv_aload_n hx hb dX4_add_22 rfl (lv_at hl 0 rfl) ?_
    refine va_get (D := (dC, dI)) (ci := 4) (v := .ref kf) (C := RX4) (T := TX4) (N := 3) hx hb hA zin_X4 hown hK hP 0 rfl rfl 1 (by decide) (hA _ wi_271) (fun _ h9 => h9) rfl dX4_add_23 ?_
    refine lv_aload_n hx hb dX4_add_26 rfl (lv_at hl 0 rfl) ?_
    refine va_get (D := (dC, dI)) (ci := 4) (v := .int z) (C := RX4) (T := TX4) (N := 3) hx hb hA zin_X4 hown hK hP 0 rfl rfl 2 (by decide) (hA _ wi_273) (fun _ h9 => h9) rfl dX4_add_27 ?_
    refine lv_iconst (v := (-1)) hx hb dX4_add_30 (by decide) ?_
    refine va_iast hx hb hK hP hD hS 2 1 rfl rfl (vp_in_iff.mpr ⟨by omega, by omega⟩) dX4_add_31 (fun H locs hP hD hS => ?_)
    obtain ⟨f_3, ef_3⟩ : ∃ gz9 : Nat → Int32, gz9 = upd gf (Int32.toNatClampNeg z) (-1) := ⟨_, rfl⟩
    rw [← ef_3] at hP hD
    have hp_f_3 : zx 4 f_3 := by rw [ef_3]; exact zx_upd hgf (by have h9 : Int32.toInt (-1) = (-1) := (by decide); omega) (by have h9 : Int32.toInt (-1) = (-1) := (by decide); omega)
    have hP : va_P (dC, dI) vwCl [(h0, .inr (4, [.ref kw, .ref kf, .int z])), (kw, .inl (k1, 20, .inr (.inl f_2))), (kf, .inl (k2, 20, .inl f_3))] H := hP
    have hD : va_D A [(h0, .inr (4, [.ref kw, .ref kf, .int z])), (kw, .inl (k1, 20, .inr (.inl f_2))), (kf, .inl (k2, 20, .inl f_3))] := hD
    refine lv_aload_n hx hb dX4_add_32 rfl (lv_at hl 0 rfl) ?_
    refine lv_dup hx hb dX4_add_33 rfl ?_
    refine va_get (D := (dC, dI)) (ci := 4) (v := .int z) (C := RX4) (T := TX4) (N := 3) hx hb hA zin_X4 hown hK hP 0 rfl rfl 2 (by decide) (hA _ wi_273) (fun _ h9 => h9) rfl dX4_add_34 ?_
    refine lv_iconst (v := 1) hx hb dX4_add_37 (by decide) ?_
    refine lv_iadd hx hb dX4_add_38 ?_
    refine lv_topi (fun x_4 ex_4 => ?_)
    have ix_4 : x_4.toInt = z.toInt + 1 := by rw [ex_4]; exact zi_addc (by decide) (by omega) (by omega)
    refine va_put (D := (dC, dI)) (ci := 4) (v := .int x_4) (ty := .int) (C := RX4) (T := TX4) (N := 3) hx hb hA zin_X4 tyX4 tyX4_ok nmX4 hown hK hP hD hS 0 rfl rfl 2 (by decide) (hA _ wi_273) (fun _ h9 => h9) rfl (by decide +kernel) rfl rfl (Nat.le_of_ble_eq_true rfl) dX4_add_39 (fun H locs hP hD hS => ?_)
    have hP : va_P (dC, dI) vwCl [(h0, .inr (4, [.ref kw, .ref kf, .int x_4])), (kw, .inl (k1, 20, .inr (.inl f_2))), (kf, .inl (k2, 20, .inl f_3))] H := hP
    have hD : va_D A [(h0, .inr (4, [.ref kw, .ref kf, .int x_4])), (kw, .inl (k1, 20, .inr (.inl f_2))), (kf, .inl (k2, 20, .inl f_3))] := hD
    refine lv_aload_n hx hb dX4_add_42 rfl (lv_at hl 0 rfl) ?_
    refine va_get (D := (dC, dI)) (ci := 4) (v := .int x_4) (C := RX4) (T := TX4) (N := 3) hx hb hA zin_X4 hown hK hP 0 rfl rfl 2 (by decide) (hA _ wi_273) (fun _ h9 => h9) rfl dX4_add_43 ?_
    refine lv_iconst (v := 1) hx hb dX4_add_46 (by decide) ?_
    refine lv_isub hx hb dX4_add_47 ?_
    refine lv_topi (fun x_5 ex_5 => ?_)
    have ix_5 : x_5.toInt = x_4.toInt - 1 := by rw [ex_5]; exact zi_subc (by decide) (by omega) (by omega)
    have hP9 := hP.sub (ws' := [(h0, .inr (4, [.ref kw, .ref kf, .int x_4])), (kw, .inl (k1, 20, .inr (.inl f_2))), (kf, .inl (k2, 20, .inl f_3))]) [0, 1, 2] rfl
    have hD9 := hD.sub (ws' := [(h0, .inr (4, [.ref kw, .ref kf, .int x_4])), (kw, .inl (k1, 20, .inr (.inl f_2))), (kf, .inl (k2, 20, .inl f_3))]) [0, 1, 2] (by decide) rfl
    have hK9 := hK.sub (tys' := [(k1, .long), (k2, .int)]) [0, 1] rfl
    exact W.iret (v := x_5) hx hb hr (fun t ht hW => ⟨⟨x_5, (x_4, f_2, f_3), rfl, ⟨by omega, by omega, hp_f_3, by rw [ef_3]⟩, by rw [ht]; exact hP9, va_K.moved hW.alike hK9, hD9⟩, hS.F ht⟩) hS.2.2 dX4_add_48
  · have ic_1 : 20 ≤ z.toInt := zi_nlt c_1
    exfalso
    omega
set_option maxHeartbeats 4000000 in
set_option maxRecDepth 100000 in
theorem c_X7_kindAtHand_x (l : Launch) (dC : Nat → ClassId) (dI : Nat → Nat → Nat) (aK aV : Nat → Nat) (h0 : Nat) (ptok : Nat) (pnee : Nat) (pnam : Nat) (pbui : Nat) (pdra : Nat) (ar : Int32) (fu : Int32) (fn : Int32) (fp : Int32) (ts : Nat) (tp : Nat) (tw : Nat) (t1 : ClassId) (t2 : ClassId) (t3 : ClassId) (z : Int32) (pa : Int32) (so : Int32) (pl : Int32) (wd : Int64) (gs : Nat → Int32) (gp : Nat → Int32) (gw : Nat → Int64) (gco : Nat) (gar : Nat) (gki : Nat) (gfu : Nat) (kw : Nat) (kf : Nat) (k1 : ClassId) (k2 : ClassId) (kz : Int32) (kgw : Nat → Int64) (kgf : Nat → Int32) (sz : Nat) (hlt : l.stackTraces = false) (hz0 : 0 ≤ z.toInt) (hz1 : z.toInt ≤ 2000) (ha0 : -1 ≤ pa.toInt) (ha1 : pa.toInt ≤ z.toInt) (hgz : gs (Int32.toNatClampNeg z) = 256) (hk0 : 0 ≤ kz.toInt) (hk1 : kz.toInt ≤ 20) (hkf : zx 4 kgf) : vy_Met l yX7_kindAtHand (Cond.code yX7_kindAtHand cX7_kindAtHand 2 (some .int) :: zw) ({ frames := 16, cells := 1, slots := 6, locals := 600 }) (va_Pc [.ref h0] (zP dC dI aK aV sz [(t1, .int), (t2, .int), (t3, .long), (k1, .long), (k2, .int)] [(h0, .inr (7, [.ref ptok, .ref pnee, .ref pnam, .int ar, .ref pbui, .ref pdra, .int fu, .int fn, .int fp])), (ptok, .inr (10, [.ref ts, .ref tp, .ref tw, .int z, .int pa, .int so, .int pl, .long wd])), (ts, .inl (t1, 2001, .inl gs)), (tp, .inl (t2, 2001, .inl gp)), (tw, .inl (t3, 2001, .inr (.inl gw))), (pdra, .inr (9, [.ref gco, .ref gar, .ref gki, .ref gfu])), (gki, .inr (4, [.ref kw, .ref kf, .int kz])), (kw, .inl (k1, 20, .inr (.inl kgw))), (kf, .inl (k2, 20, .inl kgf))])) (va_Qi (fun (r : Int32) (u : Int32 × (Nat → Int64) × (Nat → Int32)) => match u with | (kz2, kgw2, kgf2) => (0 ≤ r.toInt) ∧ (r.toInt < kz2.toInt) ∧ (kz.toInt ≤ kz2.toInt) ∧ (kz2.toInt ≤ 20) ∧ (zx 4 kgf2) ∧ (zkk kz kz2 kgf kgf2)) (fun u => match u with | (kz2, kgw2, kgf2) => zQ dC dI (va_A [(h0, .inr (7, [.ref ptok, .ref pnee, .ref pnam, .int ar, .ref pbui, .ref pdra, .int fu, .int fn, .int fp])), (ptok, .inr (10, [.ref ts, .ref tp, .ref tw, .int z, .int pa, .int so, .int pl, .long wd])), (ts, .inl (t1, 2001, .inl gs)), (tp, .inl (t2, 2001, .inl gp)), (tw, .inl (t3, 2001, .inr (.inl gw))), (pdra, .inr (9, [.ref gco, .ref gar, .ref gki, .ref gfu])), (gki, .inr (4, [.ref kw, .ref kf, .int kz])), (kw, .inl (k1, 20, .inr (.inl kgw))), (kf, .inl (k2, 20, .inl kgf))] sz) [(t1, .int), (t2, .int), (t3, .long), (k1, .long), (k2, .int)] [(h0, .inr (7, [.ref ptok, .ref pnee, .ref pnam, .int ar, .ref pbui, .ref pdra, .int fu, .int fn, .int fp])), (ptok, .inr (10, [.ref ts, .ref tp, .ref tw, .int z, .int pa, .int so, .int pl, .long wd])), (ts, .inl (t1, 2001, .inl gs)), (tp, .inl (t2, 2001, .inl gp)), (tw, .inl (t3, 2001, .inr (.inl gw))), (pdra, .inr (9, [.ref gco, .ref gar, .ref gki, .ref gfu])), (gki, .inr (4, [.ref kw, .ref kf, .int kz2])), (kw, .inl (k1, 20, .inr (.inl kgw2))), (kf, .inl (k2, 20, .inl kgf2))]) (va_A [(h0, .inr (7, [.ref ptok, .ref pnee, .ref pnam, .int ar, .ref pbui, .ref pdra, .int fu, .int fn, .int fp])), (ptok, .inr (10, [.ref ts, .ref tp, .ref tw, .int z, .int pa, .int so, .int pl, .long wd])), (ts, .inl (t1, 2001, .inl gs)), (tp, .inl (t2, 2001, .inl gp)), (tw, .inl (t3, 2001, .inr (.inl gw))), (pdra, .inr (9, [.ref gco, .ref gar, .ref gki, .ref gfu])), (gki, .inr (4, [.ref kw, .ref kf, .int kz])), (kw, .inl (k1, 20, .inr (.inl kgw))), (kf, .inl (k2, 20, .inl kgf))] sz)) (vx_X (fun u : Int32 × Int32 => match u with | (fn2, fp2) => True) (fun E u t => E = "java/lang/IllegalStateException" ∧ (match u with | (fn2, fp2) => zQ dC dI (va_A [(h0, .inr (7, [.ref ptok, .ref pnee, .ref pnam, .int ar, .ref pbui, .ref pdra, .int fu, .int fn, .int fp])), (ptok, .inr (10, [.ref ts, .ref tp, .ref tw, .int z, .int pa, .int so, .int pl, .long wd])), (ts, .inl (t1, 2001, .inl gs)), (tp, .inl (t2, 2001, .inl gp)), (tw, .inl (t3, 2001, .inr (.inl gw))), (pdra, .inr (9, [.ref gco, .ref gar, .ref gki, .ref gfu])), (gki, .inr (4, [.ref kw, .ref kf, .int kz])), (kw, .inl (k1, 20, .inr (.inl kgw))), (kf, .inl (k2, 20, .inl kgf))] sz) [(t1, .int), (t2, .int), (t3, .long), (k1, .long), (k2, .int)] [(h0, .inr (7, [.ref ptok, .ref pnee, .ref pnam, .int ar, .ref pbui, .ref pdra, .int fu, .int fn2, .int fp2])), (ptok, .inr (10, [.ref ts, .ref tp, .ref tw, .int z, .int pa, .int so, .int pl, .long wd])), (ts, .inl (t1, 2001, .inl gs)), (tp, .inl (t2, 2001, .inl gp)), (tw, .inl (t3, 2001, .inr (.inl gw))), (pdra, .inr (9, [.ref gco, .ref gar, .ref gki, .ref gfu])), (gki, .inr (4, [.ref kw, .ref kf, .int kz])), (kw, .inl (k1, 20, .inr (.inl kgw))), (kf, .inl (k2, 20, .inl kgf))] t)) (va_A [(h0, .inr (7, [.ref ptok, .ref pnee, .ref pnam, .int ar, .ref pbui, .ref pdra, .int fu, .int fn, .int fp])), (ptok, .inr (10, [.ref ts, .ref tp, .ref tw, .int z, .int pa, .int so, .int pl, .long wd])), (ts, .inl (t1, 2001, .inl gs)), (tp, .inl (t2, 2001, .inl gp)), (tw, .inl (t3, 2001, .inr (.inl gw))), (pdra, .inr (9, [.ref gco, .ref gar, .ref gki, .ref gfu])), (gki, .inr (4, [.ref kw, .ref kf, .int kz])), (kw, .inl (k1, 20, .inr (.inl kgw))), (kf, .inl (k2, 20, .inl kgf))] sz)) 0 0 1 6 (va_A [(h0, .inr (7, [.ref ptok, .ref pnee, .ref pnam, .int ar, .ref pbui, .ref pdra, .int fu, .int fn, .int fp])), (ptok, .inr (10, [.ref ts, .ref tp, .ref tw, .int z, .int pa, .int so, .int pl, .long wd])), (ts, .inl (t1, 2001, .inl gs)), (tp, .inl (t2, 2001, .inl gp)), (tw, .inl (t3, 2001, .inr (.inl gw))), (pdra, .inr (9, [.ref gco, .ref gar, .ref gki, .ref gfu])), (gki, .inr (4, [.ref kw, .ref kf, .int kz])), (kw, .inl (k1, 20, .inr (.inl kgw))), (kf, .inl (k2, 20, .inl kgf))] sz) := by
  refine vy_ofW (cc := cX7_kindAtHand) (maxL := 2) (ret := (some .int)) (by decide) rfl ?_
  intro p e s m args below meth c s₁ B hml hnh hv
  obtain ⟨rfl, hsz, hP, hK, hD0, hN, hT⟩ := hv
  have hx := B.exec
  have hb := B.bytes
  have hr := B.returns
  have hts := atoms_spec (ws := Cond.code yX7_kindAtHand cX7_kindAtHand 2 (some .int) :: zw) B.pre
  have hA : ∀ w ∈ zw, w.before _ s = true := fun w h => hts w (List.mem_cons_of_mem _ h)
  have hown : s.vm.findClass RX7 = some m.cls := findClass_of_methodNamed B.named
  have hlocks := B.notSynchronized
  subst hsz
  have hD := hD0.self (sz := s.heap.size)
  generalize hAe : va_A [(h0, .inr (7, [.ref ptok, .ref pnee, .ref pnam, .int ar, .ref pbui, .ref pdra, .int fu, .int fn, .int fp])), (ptok, .inr (10, [.ref ts, .ref tp, .ref tw, .int z, .int pa, .int so, .int pl, .long wd])), (ts, .inl (t1, 2001, .inl gs)), (tp, .inl (t2, 2001, .inl gp)), (tw, .inl (t3, 2001, .inr (.inl gw))), (pdra, .inr (9, [.ref gco, .ref gar, .ref gki, .ref gfu])), (gki, .inr (4, [.ref kw, .ref kf, .int kz])), (kw, .inl (k1, 20, .inr (.inl kgw))), (kf, .inl (k2, 20, .inl kgf))] s.heap.size = A at hD hT ⊢
  have hAA : ∀ q : Nat, s.heap.size ≤ q → A q := fun q h => by rw [← hAe]; exact Or.inr h
  have hS : va_S A s.heap s.heap [] := va_S.rf
  have hl := lv_entry ([.ref h0]) (n := 2) (Nat.le_of_ble_eq_true rfl)
  rw [lg_entry_eq]
  generalize (lg_sl ([.ref h0]) ++ List.replicate (2 - (lg_sl ([.ref h0])).length) Slot.unset).toArray = ls at hl ⊢
  have hl : lv_has ls 2 [(0, .ref h0)] := hl
  refine lv_aload_n hx hb dX7_kindAtHand_0 rfl (lv_at hl 0 rfl) ?_
  refine va_get (D := (dC, dI)) (ci := 7) (v := .ref pdra) (C := RX7) (T := TX7) (N := 9) hx hb hA zin_X7 hown hK hP 0 rfl rfl 5 (by decide) (hA _ wi_392) (fun _ h9 => h9) rfl dX7_kindAtHand_1 ?_
  refine va_get (D := (dC, dI)) (ci := 9) (v := .ref gki) (C := RX9) (T := TX9) (N := 4) hx hb hA zin_X9 hown hK hP 5 rfl rfl 2 (by decide) (hA _ wi_317) (fun _ h9 => h9) rfl dX7_kindAtHand_4 ?_
  refine lv_aload_n hx hb dX7_kindAtHand_7 rfl (lv_at hl 0 rfl) ?_
  refine va_get (D := (dC, dI)) (ci := 7) (v := .ref ptok) (C := RX7) (T := TX7) (N := 9) hx hb hA zin_X7 hown hK hP 0 rfl rfl 0 (by decide) (hA _ wi_387) (fun _ h9 => h9) rfl dX7_kindAtHand_8 ?_
  refine va_get (D := (dC, dI)) (ci := 10) (v := .long wd) (C := RX10) (T := TX10) (N := 8) hx hb hA zin_X10 hown hK hP 1 rfl rfl 7 (by decide) (hA _ wi_357) (fun _ h9 => h9) rfl dX7_kindAtHand_11 ?_
  have hPc := hP.sub (ws' := [(gki, .inr (4, [.ref kw, .ref kf, .int kz])), (kw, .inl (k1, 20, .inr (.inl kgw))), (kf, .inl (k2, 20, .inl kgf))]) [6, 7, 8] rfl
  have hDc := hD.sub (ws' := [(gki, .inr (4, [.ref kw, .ref kf, .int kz])), (kw, .inl (k1, 20, .inr (.inl kgw))), (kf, .inl (k2, 20, .inl kgf))]) [6, 7, 8] (by decide) rfl
  have hKc := hK.sub (tys' := [(k1, .long), (k2, .int)]) [3, 4] rfl
  have hFc := va_free (wc := [(gki, .inr (4, [.ref kw, .ref kf, .int kz])), (kw, .inl (k1, 20, .inr (.inl kgw))), (kf, .inl (k2, 20, .inl kgf))]) hD hS hAA [6, 7, 8] rfl
  refine va_calli (va_runV (As := [.long wd]) (rest := []) ⟨hx, hb, hml, hown, hA⟩ (c_X4_find l dC dI aK aV gki kw kf k1 k2 kz kgw kgf wd s.heap.size (by omega) (by omega)) (cwV 1 hA (zw_V wi_798 wi_799 wi_800 wi_134 (zw_good wi_801)) rfl rfl rfl (by decide +kernel) ⟨(Nat.le_of_ble_eq_true rfl), (Nat.le_of_ble_eq_true rfl)⟩) ⟨zP_blind, va_recv hKc hPc (ci := 4) (q0 := 0) rfl rfl, zz_pre hKc hPc hDc hN hT hS hFc⟩ rfl rfl hl.1 rfl (lv_room (Nat.le_of_ble_eq_true rfl)) dX7_kindAtHand_14 ⟨(Nat.le_of_ble_eq_true rfl), (Nat.le_of_ble_eq_true rfl)⟩) hS (fun q _ h => hFc q h) hFc (fun r_1 u t H1 locs ht hvm hw hB hz1 hk1 hS => ?_)
  obtain ⟨hP1, hK1, hD1⟩ := hB
  rw [ht] at hP1
  have hK1 := va_K.moved hvm.symm hK1
  obtain ⟨hP, hD⟩ := va_join (wr := [(h0, .inr (7, [.ref ptok, .ref pnee, .ref pnam, .int ar, .ref pbui, .ref pdra, .int fu, .int fn, .int fp])), (ptok, .inr (10, [.ref ts, .ref tp, .ref tw, .int z, .int pa, .int so, .int pl, .long wd])), (ts, .inl (t1, 2001, .inl gs)), (tp, .inl (t2, 2001, .inl gp)), (tw, .inl (t3, 2001, .inr (.inl gw))), (pdra, .inr (9, [.ref gco, .ref gar, .ref gki, .ref gfu]))]) (w1 := [(gki, .inr (4, [.ref kw, .ref kf, .int kz])), (kw, .inl (k1, 20, .inr (.inl kgw))), (kf, .inl (k2, 20, .inl kgf))]) hP hD [6, 7, 8] [0, 1, 2, 3, 4, 5] rfl rfl (by decide) (by decide) hk1 hFc hP1 hD1
  have hK := (hK.sub (tys' := [(t1, .int), (t2, .int), (t3, .long)]) [0, 1, 2] rfl).app hK1
  generalize H1 = H at hP hS ⊢
  have hP : va_P (dC, dI) vwCl [(h0, .inr (7, [.ref ptok, .ref pnee, .ref pnam, .int ar, .ref pbui, .ref pdra, .int fu, .int fn, .int fp])), (ptok, .inr (10, [.ref ts, .ref tp, .ref tw, .int z, .int pa, .int so, .int pl, .long wd])), (ts, .inl (t1, 2001, .inl gs)), (tp, .inl (t2, 2001, .inl gp)), (tw, .inl (t3, 2001, .inr (.inl gw))), (pdra, .inr (9, [.ref gco, .ref gar, .ref gki, .ref gfu])), (gki, .inr (4, [.ref kw, .ref kf, .int kz])), (kw, .inl (k1, 20, .inr (.inl kgw))), (kf, .inl (k2, 20, .inl kgf))] H := hP
  have hD : va_D A [(h0, .inr (7, [.ref ptok, .ref pnee, .ref pnam, .int ar, .ref pbui, .ref pdra, .int fu, .int fn, .int fp])), (ptok, .inr (10, [.ref ts, .ref tp, .ref tw, .int z, .int pa, .int so, .int pl, .long wd])), (ts, .inl (t1, 2001, .inl gs)), (tp, .inl (t2, 2001, .inl gp)), (tw, .inl (t3, 2001, .inr (.inl gw))), (pdra, .inr (9, [.ref gco, .ref gar, .ref gki, .ref gfu])), (gki, .inr (4, [.ref kw, .ref kf, .int kz])), (kw, .inl (k1, 20, .inr (.inl kgw))), (kf, .inl (k2, 20, .inl kgf))] := hD
  have hK : va_K (dC, dI) vwCl [(t1, .int), (t2, .int), (t3, .long), (k1, .long), (k2, .int)] s := hK
  have hw_r_1 := hw
  try dsimp only at hw_r_1
  obtain ⟨hq_2, hq_3⟩ := hw
  refine lv_istore_n (lv' := [(1, .int r_1), (0, .ref h0)]) hx hb dX7_kindAtHand_17 rfl hl (by decide) rfl (fun ls hl => ?_)
  refine lv_iload_n hx hb dX7_kindAtHand_18 rfl (lv_at hl 0 rfl) ?_
  refine lv_iconst (v := (-1)) hx hb dX7_kindAtHand_19 (by decide) ?_
  refine lv_icmp_ne (tgt := 42) hx hb dX7_kindAtHand_20 (by decide) (fun c_4 => ?_) (fun c_4 => ?_)
  · have ic_4 : r_1.toInt ≠ (-1) := zi_ne c_4
    refine lv_iload_n hx hb dX7_kindAtHand_42 rfl (lv_at hl 0 rfl) ?_
    refine lv_iconst (v := (-1)) hx hb dX7_kindAtHand_43 (by decide) ?_
    refine lv_icmp_ne (tgt := 67) hx hb dX7_kindAtHand_44 (by decide) (fun c_5 => ?_) (fun c_5 => ?_)
    · have ic_5 : r_1.toInt ≠ (-1) := zi_ne c_5
      refine lv_iload_n hx hb dX7_kindAtHand_67 rfl (lv_at hl 0 rfl) ?_
      have hP9 := hP.sub (ws' := [(h0, .inr (7, [.ref ptok, .ref pnee, .ref pnam, .int ar, .ref pbui, .ref pdra, .int fu, .int fn, .int fp])), (ptok, .inr (10, [.ref ts, .ref tp, .ref tw, .int z, .int pa, .int so, .int pl, .long wd])), (ts, .inl (t1, 2001, .inl gs)), (tp, .inl (t2, 2001, .inl gp)), (tw, .inl (t3, 2001, .inr (.inl gw))), (pdra, .inr (9, [.ref gco, .ref gar, .ref gki, .ref gfu])), (gki, .inr (4, [.ref kw, .ref kf, .int kz])), (kw, .inl (k1, 20, .inr (.inl kgw))), (kf, .inl (k2, 20, .inl kgf))]) [0, 1, 2, 3, 4, 5, 6, 7, 8] rfl
      have hD9 := hD.sub (ws' := [(h0, .inr (7, [.ref ptok, .ref pnee, .ref pnam, .int ar, .ref pbui, .ref pdra, .int fu, .int fn, .int fp])), (ptok, .inr (10, [.ref ts, .ref tp, .ref tw, .int z, .int pa, .int so, .int pl, .long wd])), (ts, .inl (t1, 2001, .inl gs)), (tp, .inl (t2, 2001, .inl gp)), (tw, .inl (t3, 2001, .inr (.inl gw))), (pdra, .inr (9, [.ref gco, .ref gar, .ref gki, .ref gfu])), (gki, .inr (4, [.ref kw, .ref kf, .int kz])), (kw, .inl (k1, 20, .inr (.inl kgw))), (kf, .inl (k2, 20, .inl kgf))]) [0, 1, 2, 3, 4, 5, 6, 7, 8] (by decide) rfl
      have hK9 := hK.sub (tys' := [(t1, .int), (t2, .int), (t3, .long), (k1, .long), (k2, .int)]) [0, 1, 2, 3, 4] rfl
      exact vy_mono vy_ret (vx_ret (W.iret (v := r_1) hx hb hr (fun t ht hW => ⟨⟨r_1, (kz, kgw, kgf), rfl, ⟨by omega, by omega, by omega, by omega, hkf, zkk_rf⟩, by rw [ht]; exact hP9, va_K.moved hW.alike hK9, hD9⟩, hS.F ht⟩) hS.2.2 dX7_kindAtHand_68))
    · have ic_5 : r_1.toInt = (-1) := zi_eq c_5
      refine lv_aload_n hx hb dX7_kindAtHand_47 rfl (lv_at hl 1 rfl) ?_
      refine va_get (D := (dC, dI)) (ci := 7) (v := .ref pdra) (C := RX7) (T := TX7) (N := 9) hx hb hA zin_X7 hown hK hP 0 rfl rfl 5 (by decide) (hA _ wi_392) (fun _ h9 => h9) rfl dX7_kindAtHand_48 ?_
      refine va_get (D := (dC, dI)) (ci := 9) (v := .ref gki) (C := RX9) (T := TX9) (N := 4) hx hb hA zin_X9 hown hK hP 5 rfl rfl 2 (by decide) (hA _ wi_317) (fun _ h9 => h9) rfl dX7_kindAtHand_51 ?_
      refine lv_aload_n hx hb dX7_kindAtHand_54 rfl (lv_at hl 1 rfl) ?_
      refine va_get (D := (dC, dI)) (ci := 7) (v := .ref ptok) (C := RX7) (T := TX7) (N := 9) hx hb hA zin_X7 hown hK hP 0 rfl rfl 0 (by decide) (hA _ wi_387) (fun _ h9 => h9) rfl dX7_kindAtHand_55 ?_
      refine va_get (D := (dC, dI)) (ci := 10) (v := .long wd) (C := RX10) (T := TX10) (N := 8) hx hb hA zin_X10 hown hK hP 1 rfl rfl 7 (by decide) (hA _ wi_357) (fun _ h9 => h9) rfl dX7_kindAtHand_58 ?_
      have hPc := hP.sub (ws' := [(gki, .inr (4, [.ref kw, .ref kf, .int kz])), (kw, .inl (k1, 20, .inr (.inl kgw))), (kf, .inl (k2, 20, .inl kgf))]) [6, 7, 8] rfl
      have hDc := hD.sub (ws' := [(gki, .inr (4, [.ref kw, .ref kf, .int kz])), (kw, .inl (k1, 20, .inr (.inl kgw))), (kf, .inl (k2, 20, .inl kgf))]) [6, 7, 8] (by decide) rfl
      have hKc := hK.sub (tys' := [(k1, .long), (k2, .int)]) [3, 4] rfl
      have hFc := va_free (wc := [(gki, .inr (4, [.ref kw, .ref kf, .int kz])), (kw, .inl (k1, 20, .inr (.inl kgw))), (kf, .inl (k2, 20, .inl kgf))]) hD hS hAA [6, 7, 8] rfl
      refine va_calli (va_runV (As := [.long wd]) (rest := []) ⟨hx, hb, hml, hown, hA⟩ (c_X4_add_x l dC dI aK aV gki kw kf k1 k2 kz kgw kgf wd H.size (by omega) (by omega) hkf) (cwV 1 hA (zw_V wi_962 wi_963 wi_964 wi_134 (zw_good wi_965)) rfl rfl rfl (by decide +kernel) ⟨(Nat.le_of_ble_eq_true rfl), (Nat.le_of_ble_eq_true rfl)⟩) ⟨zP_blind, va_recv hKc hPc (ci := 4) (q0 := 0) rfl rfl, zz_pre hKc hPc hDc hN hT hS hFc⟩ rfl rfl hl.1 rfl (lv_room (Nat.le_of_ble_eq_true rfl)) dX7_kindAtHand_61 ⟨(Nat.le_of_ble_eq_true rfl), (Nat.le_of_ble_eq_true rfl)⟩) hS (fun q _ h => hFc q h) hFc (fun r_6 u t H1 locs ht hvm hw hB hz1 hk1 hS => ?_)
      obtain ⟨z_7, gw_8, gf_9⟩ := u
      obtain ⟨hP1, hK1, hD1⟩ := hB
      rw [ht] at hP1
      have hK1 := va_K.moved hvm.symm hK1
      obtain ⟨hP, hD⟩ := va_join (wr := [(h0, .inr (7, [.ref ptok, .ref pnee, .ref pnam, .int ar, .ref pbui, .ref pdra, .int fu, .int fn, .int fp])), (ptok, .inr (10, [.ref ts, .ref tp, .ref tw, .int z, .int pa, .int so, .int pl, .long wd])), (ts, .inl (t1, 2001, .inl gs)), (tp, .inl (t2, 2001, .inl gp)), (tw, .inl (t3, 2001, .inr (.inl gw))), (pdra, .inr (9, [.ref gco, .ref gar, .ref gki, .ref gfu]))]) (w1 := [(gki, .inr (4, [.ref kw, .ref kf, .int z_7])), (kw, .inl (k1, 20, .inr (.inl gw_8))), (kf, .inl (k2, 20, .inl gf_9))]) hP hD [6, 7, 8] [0, 1, 2, 3, 4, 5] rfl rfl (by decide) (by decide) hk1 hFc hP1 hD1
      have hK := (hK.sub (tys' := [(t1, .int), (t2, .int), (t3, .long)]) [0, 1, 2] rfl).app hK1
      generalize H1 = H at hP hS ⊢
      have hP : va_P (dC, dI) vwCl [(h0, .inr (7, [.ref ptok, .ref pnee, .ref pnam, .int ar, .ref pbui, .ref pdra, .int fu, .int fn, .int fp])), (ptok, .inr (10, [.ref ts, .ref tp, .ref tw, .int z, .int pa, .int so, .int pl, .long wd])), (ts, .inl (t1, 2001, .inl gs)), (tp, .inl (t2, 2001, .inl gp)), (tw, .inl (t3, 2001, .inr (.inl gw))), (pdra, .inr (9, [.ref gco, .ref gar, .ref gki, .ref gfu])), (gki, .inr (4, [.ref kw, .ref kf, .int z_7])), (kw, .inl (k1, 20, .inr (.inl gw_8))), (kf, .inl (k2, 20, .inl gf_9))] H := hP
      have hD : va_D A [(h0, .inr (7, [.ref ptok, .ref pnee, .ref pnam, .int ar, .ref pbui, .ref pdra, .int fu, .int fn, .int fp])), (ptok, .inr (10, [.ref ts, .ref tp, .ref tw, .int z, .int pa, .int so, .int pl, .long wd])), (ts, .inl (t1, 2001, .inl gs)), (tp, .inl (t2, 2001, .inl gp)), (tw, .inl (t3, 2001, .inr (.inl gw))), (pdra, .inr (9, [.ref gco, .ref gar, .ref gki, .ref gfu])), (gki, .inr (4, [.ref kw, .ref kf, .int z_7])), (kw, .inl (k1, 20, .inr (.inl gw_8))), (kf, .inl (k2, 20, .inl gf_9))] := hD
      have hK : va_K (dC, dI) vwCl [(t1, .int), (t2, .int), (t3, .long), (k1, .long), (k2, .int)] s := hK
      have hw_r_6 := hw
      try dsimp only at hw_r_6
      obtain ⟨hq_10, hq_11, hq_12, hq_13⟩ := hw
      refine lv_goto (tgt := 68) hx hb dX7_kindAtHand_64 (by decide) ?_
      have hP9 := hP.sub (ws' := [(h0, .inr (7, [.ref ptok, .ref pnee, .ref pnam, .int ar, .ref pbui, .ref pdra, .int fu, .int fn, .int fp])), (ptok, .inr (10, [.ref ts, .ref tp, .ref tw, .int z, .int pa, .int so, .int pl, .long wd])), (ts, .inl (t1, 2001, .inl gs)), (tp, .inl (t2, 2001, .inl gp)), (tw, .inl (t3, 2001, .inr (.inl gw))), (pdra, .inr (9, [.ref gco, .ref gar, .ref gki, .ref gfu])), (gki, .inr (4, [.ref kw, .ref kf, .int z_7])), (kw, .inl (k1, 20, .inr (.inl gw_8))), (kf, .inl (k2, 20, .inl gf_9))]) [0, 1, 2, 3, 4, 5, 6, 7, 8] rfl
      have hD9 := hD.sub (ws' := [(h0, .inr (7, [.ref ptok, .ref pnee, .ref pnam, .int ar, .ref pbui, .ref pdra, .int fu, .int fn, .int fp])), (ptok, .inr (10, [.ref ts, .ref tp, .ref tw, .int z, .int pa, .int so, .int pl, .long wd])), (ts, .inl (t1, 2001, .inl gs)), (tp, .inl (t2, 2001, .inl gp)), (tw, .inl (t3, 2001, .inr (.inl gw))), (pdra, .inr (9, [.ref gco, .ref gar, .ref gki, .ref gfu])), (gki, .inr (4, [.ref kw, .ref kf, .int z_7])), (kw, .inl (k1, 20, .inr (.inl gw_8))), (kf, .inl (k2, 20, .inl gf_9))]) [0, 1, 2, 3, 4, 5, 6, 7, 8] (by decide) rfl
      have hK9 := hK.sub (tys' := [(t1, .int), (t2, .int), (t3, .long), (k1, .long), (k2, .int)]) [0, 1, 2, 3, 4] rfl
      exact vy_mono vy_ret (vx_ret (W.iret (v := r_6) hx hb hr (fun t ht hW => ⟨⟨r_6, (z_7, gw_8, gf_9), rfl, ⟨by omega, by omega, by omega, by omega, hq_12, zkk_add (by omega) hq_13 (by omega)⟩, by rw [ht]; exact hP9, va_K.moved hW.alike hK9, hD9⟩, hS.F ht⟩) hS.2.2 dX7_kindAtHand_68))
  · have ic_4 : r_1.toInt = (-1) := zi_eq c_4
    refine lv_aload_n hx hb dX7_kindAtHand_23 rfl (lv_at hl 1 rfl) ?_
    refine va_get (D := (dC, dI)) (ci := 7) (v := .ref pdra) (C := RX7) (T := TX7) (N := 9) hx hb hA zin_X7 hown hK hP 0 rfl rfl 5 (by decide) (hA _ wi_392) (fun _ h9 => h9) rfl dX7_kindAtHand_24 ?_
    refine va_get (D := (dC, dI)) (ci := 9) (v := .ref gki) (C := RX9) (T := TX9) (N := 4) hx hb hA zin_X9 hown hK hP 5 rfl rfl 2 (by decide) (hA _ wi_317) (fun _ h9 => h9) rfl dX7_kindAtHand_27 ?_
    refine va_get (D := (dC, dI)) (ci := 4) (v := .int kz) (C := RX4) (T := TX4) (N := 3) hx hb hA zin_X4 hown hK hP 6 rfl rfl 2 (by decide) (hA _ wi_275) (fun _ h9 => h9) rfl dX7_kindAtHand_30 ?_
    refine lv_bipush (v := 20) hx hb dX7_kindAtHand_33 (by decide) ?_
    refine lv_icmp_lt (tgt := 42) hx hb dX7_kindAtHand_35 (by decide) (fun c_14 => ?_) (fun c_14 => ?_)
    · have ic_14 : kz.toInt < 20 := zi_lt c_14
      refine lv_iload_n hx hb dX7_kindAtHand_42 rfl (lv_at hl 0 rfl) ?_
      refine lv_iconst (v := (-1)) hx hb dX7_kindAtHand_43 (by decide) ?_
      refine lv_icmp_ne (tgt := 67) hx hb dX7_kindAtHand_44 (by decide) (fun c_15 => ?_) (fun c_15 => ?_)
      · have ic_15 : r_1.toInt ≠ (-1) := zi_ne c_15
        refine lv_iload_n hx hb dX7_kindAtHand_67 rfl (lv_at hl 0 rfl) ?_
        have hP9 := hP.sub (ws' := [(h0, .inr (7, [.ref ptok, .ref pnee, .ref pnam, .int ar, .ref pbui, .ref pdra, .int fu, .int fn, .int fp])), (ptok, .inr (10, [.ref ts, .ref tp, .ref tw, .int z, .int pa, .int so, .int pl, .long wd])), (ts, .inl (t1, 2001, .inl gs)), (tp, .inl (t2, 2001, .inl gp)), (tw, .inl (t3, 2001, .inr (.inl gw))), (pdra, .inr (9, [.ref gco, .ref gar, .ref gki, .ref gfu])), (gki, .inr (4, [.ref kw, .ref kf, .int kz])), (kw, .inl (k1, 20, .inr (.inl kgw))), (kf, .inl (k2, 20, .inl kgf))]) [0, 1, 2, 3, 4, 5, 6, 7, 8] rfl
        have hD9 := hD.sub (ws' := [(h0, .inr (7, [.ref ptok, .ref pnee, .ref pnam, .int ar, .ref pbui, .ref pdra, .int fu, .int fn, .int fp])), (ptok, .inr (10, [.ref ts, .ref tp, .ref tw, .int z, .int pa, .int so, .int pl, .long wd])), (ts, .inl (t1, 2001, .inl gs)), (tp, .inl (t2, 2001, .inl gp)), (tw, .inl (t3, 2001, .inr (.inl gw))), (pdra, .inr (9, [.ref gco, .ref gar, .ref gki, .ref gfu])), (gki, .inr (4, [.ref kw, .ref kf, .int kz])), (kw, .inl (k1, 20, .inr (.inl kgw))), (kf, .inl (k2, 20, .inl kgf))]) [0, 1, 2, 3, 4, 5, 6, 7, 8] (by decide) rfl
        have hK9 := hK.sub (tys' := [(t1, .int), (t2, .int), (t3, .long), (k1, .long), (k2, .int)]) [0, 1, 2, 3, 4] rfl
        exact vy_mono vy_ret (vx_ret (W.iret (v := r_1) hx hb hr (fun t ht hW => ⟨⟨r_1, (kz, kgw, kgf), rfl, ⟨by omega, by omega, by omega, by omega, hkf, zkk_rf⟩, by rw [ht]; exact hP9, va_K.moved hW.alike hK9, hD9⟩, hS.F ht⟩) hS.2.2 dX7_kindAtHand_68))
      · have ic_15 : r_1.toInt = (-1) := zi_eq c_15
        refine lv_aload_n hx hb dX7_kindAtHand_47 rfl (lv_at hl 1 rfl) ?_
        refine va_get (D := (dC, dI)) (ci := 7) (v := .ref pdra) (C := RX7) (T := TX7) (N := 9) hx hb hA zin_X7 hown hK hP 0 rfl rfl 5 (by decide) (hA _ wi_392) (fun _ h9 => h9) rfl dX7_kindAtHand_48 ?_
        refine va_get (D := (dC, dI)) (ci := 9) (v := .ref gki) (C := RX9) (T := TX9) (N := 4) hx hb hA zin_X9 hown hK hP 5 rfl rfl 2 (by decide) (hA _ wi_317) (fun _ h9 => h9) rfl dX7_kindAtHand_51 ?_
        refine lv_aload_n hx hb dX7_kindAtHand_54 rfl (lv_at hl 1 rfl) ?_
        refine va_get (D := (dC, dI)) (ci := 7) (v := .ref ptok) (C := RX7) (T := TX7) (N := 9) hx hb hA zin_X7 hown hK hP 0 rfl rfl 0 (by decide) (hA _ wi_387) (fun _ h9 => h9) rfl dX7_kindAtHand_55 ?_
        refine va_get (D := (dC, dI)) (ci := 10) (v := .long wd) (C := RX10) (T := TX10) (N := 8) hx hb hA zin_X10 hown hK hP 1 rfl rfl 7 (by decide) (hA _ wi_357) (fun _ h9 => h9) rfl dX7_kindAtHand_58 ?_
        have hPc := hP.sub (ws' := [(gki, .inr (4, [.ref kw, .ref kf, .int kz])), (kw, .inl (k1, 20, .inr (.inl kgw))), (kf, .inl (k2, 20, .inl kgf))]) [6, 7, 8] rfl
        have hDc := hD.sub (ws' := [(gki, .inr (4, [.ref kw, .ref kf, .int kz])), (kw, .inl (k1, 20, .inr (.inl kgw))), (kf, .inl (k2, 20, .inl kgf))]) [6, 7, 8] (by decide) rfl
        have hKc := hK.sub (tys' := [(k1, .long), (k2, .int)]) [3, 4] rfl
        have hFc := va_free (wc := [(gki, .inr (4, [.ref kw, .ref kf, .int kz])), (kw, .inl (k1, 20, .inr (.inl kgw))), (kf, .inl (k2, 20, .inl kgf))]) hD hS hAA [6, 7, 8] rfl
        refine va_calli (va_runV (As := [.long wd]) (rest := []) ⟨hx, hb, hml, hown, hA⟩ (c_X4_add_x l dC dI aK aV gki kw kf k1 k2 kz kgw kgf wd H.size (by omega) (by omega) hkf) (cwV 1 hA (zw_V wi_962 wi_963 wi_964 wi_134 (zw_good wi_965)) rfl rfl rfl (by decide +kernel) ⟨(Nat.le_of_ble_eq_true rfl), (Nat.le_of_ble_eq_true rfl)⟩) ⟨zP_blind, va_recv hKc hPc (ci := 4) (q0 := 0) rfl rfl, zz_pre hKc hPc hDc hN hT hS hFc⟩ rfl rfl hl.1 rfl (lv_room (Nat.le_of_ble_eq_true rfl)) dX7_kindAtHand_61 ⟨(Nat.le_of_ble_eq_true rfl), (Nat.le_of_ble_eq_true rfl)⟩) hS (fun q _ h => hFc q h) hFc (fun r_16 u t H1 locs ht hvm hw hB hz1 hk1 hS => ?_)
        obtain ⟨z_17, gw_18, gf_19⟩ := u
        obtain ⟨hP1, hK1, hD1⟩ := hB
        rw [ht] at hP1
        have hK1 := va_K.moved hvm.symm hK1
        obtain ⟨hP, hD⟩ := va_join (wr := [(h0, .inr (7, [.ref ptok, .ref pnee, .ref pnam, .int ar, .ref pbui, .ref pdra, .int fu, .int fn, .int fp])), (ptok, .inr (10, [.ref ts, .ref tp, .ref tw, .int z, .int pa, .int so, .int pl, .long wd])), (ts, .inl (t1, 2001, .inl gs)), (tp, .inl (t2, 2001, .inl gp)), (tw, .inl (t3, 2001, .inr (.inl gw))), (pdra, .inr (9, [.ref gco, .ref gar, .ref gki, .ref gfu]))]) (w1 := [(gki, .inr (4, [.ref kw, .ref kf, .int z_17])), (kw, .inl (k1, 20, .inr (.inl gw_18))), (kf, .inl (k2, 20, .inl gf_19))]) hP hD [6, 7, 8] [0, 1, 2, 3, 4, 5] rfl rfl (by decide) (by decide) hk1 hFc hP1 hD1
        have hK := (hK.sub (tys' := [(t1, .int), (t2, .int), (t3, .long)]) [0, 1, 2] rfl).app hK1
        generalize H1 = H at hP hS ⊢
        have hP : va_P (dC, dI) vwCl [(h0, .inr (7, [.ref ptok, .ref pnee, .ref pnam, .int ar, .ref pbui, .ref pdra, .int fu, .int fn, .int fp])), (ptok, .inr (10, [.ref ts, .ref tp, .ref tw, .int z, .int pa, .int so, .int pl, .long wd])), (ts, .inl (t1, 2001, .inl gs)), (tp, .inl (t2, 2001, .inl gp)), (tw, .inl (t3, 2001, .inr (.inl gw))), (pdra, .inr (9, [.ref gco, .ref gar, .ref gki, .ref gfu])), (gki, .inr (4, [.ref kw, .ref kf, .int z_17])), (kw, .inl (k1, 20, .inr (.inl gw_18))), (kf, .inl (k2, 20, .inl gf_19))] H := hP
        have hD : va_D A [(h0, .inr (7, [.ref ptok, .ref pnee, .ref pnam, .int ar, .ref pbui, .ref pdra, .int fu, .int fn, .int fp])), (ptok, .inr (10, [.ref ts, .ref tp, .ref tw, .int z, .int pa, .int so, .int pl, .long wd])), (ts, .inl (t1, 2001, .inl gs)), (tp, .inl (t2, 2001, .inl gp)), (tw, .inl (t3, 2001, .inr (.inl gw))), (pdra, .inr (9, [.ref gco, .ref gar, .ref gki, .ref gfu])), (gki, .inr (4, [.ref kw, .ref kf, .int z_17])), (kw, .inl (k1, 20, .inr (.inl gw_18))), (kf, .inl (k2, 20, .inl gf_19))] := hD
        have hK : va_K (dC, dI) vwCl [(t1, .int), (t2, .int), (t3, .long), (k1, .long), (k2, .int)] s := hK
        have hw_r_16 := hw
        try dsimp only at hw_r_16
        obtain ⟨hq_20, hq_21, hq_22, hq_23⟩ := hw
        refine lv_goto (tgt := 68) hx hb dX7_kindAtHand_64 (by decide) ?_
        have hP9 := hP.sub (ws' := [(h0, .inr (7, [.ref ptok, .ref pnee, .ref pnam, .int ar, .ref pbui, .ref pdra, .int fu, .int fn, .int fp])), (ptok, .inr (10, [.ref ts, .ref tp, .ref tw, .int z, .int pa, .int so, .int pl, .long wd])), (ts, .inl (t1, 2001, .inl gs)), (tp, .inl (t2, 2001, .inl gp)), (tw, .inl (t3, 2001, .inr (.inl gw))), (pdra, .inr (9, [.ref gco, .ref gar, .ref gki, .ref gfu])), (gki, .inr (4, [.ref kw, .ref kf, .int z_17])), (kw, .inl (k1, 20, .inr (.inl gw_18))), (kf, .inl (k2, 20, .inl gf_19))]) [0, 1, 2, 3, 4, 5, 6, 7, 8] rfl
        have hD9 := hD.sub (ws' := [(h0, .inr (7, [.ref ptok, .ref pnee, .ref pnam, .int ar, .ref pbui, .ref pdra, .int fu, .int fn, .int fp])), (ptok, .inr (10, [.ref ts, .ref tp, .ref tw, .int z, .int pa, .int so, .int pl, .long wd])), (ts, .inl (t1, 2001, .inl gs)), (tp, .inl (t2, 2001, .inl gp)), (tw, .inl (t3, 2001, .inr (.inl gw))), (pdra, .inr (9, [.ref gco, .ref gar, .ref gki, .ref gfu])), (gki, .inr (4, [.ref kw, .ref kf, .int z_17])), (kw, .inl (k1, 20, .inr (.inl gw_18))), (kf, .inl (k2, 20, .inl gf_19))]) [0, 1, 2, 3, 4, 5, 6, 7, 8] (by decide) rfl
        have hK9 := hK.sub (tys' := [(t1, .int), (t2, .int), (t3, .long), (k1, .long), (k2, .int)]) [0, 1, 2, 3, 4] rfl
        exact vy_mono vy_ret (vx_ret (W.iret (v := r_16) hx hb hr (fun t ht hW => ⟨⟨r_16, (z_17, gw_18, gf_19), rfl, ⟨by omega, by omega, by omega, by omega, hq_22, zkk_add (by omega) hq_23 (by omega)⟩, by rw [ht]; exact hP9, va_K.moved hW.alike hK9, hD9⟩, hS.F ht⟩) hS.2.2 dX7_kindAtHand_68))
    · have ic_14 : 20 ≤ kz.toInt := zi_nlt c_14
      refine lv_aload_n hx hb dX7_kindAtHand_38 rfl (lv_at hl 1 rfl) ?_
      have hPc := hP.sub (ws' := [(h0, .inr (7, [.ref ptok, .ref pnee, .ref pnam, .int ar, .ref pbui, .ref pdra, .int fu, .int fn, .int fp])), (ptok, .inr (10, [.ref ts, .ref tp, .ref tw, .int z, .int pa, .int so, .int pl, .long wd])), (ts, .inl (t1, 2001, .inl gs)), (tp, .inl (t2, 2001, .inl gp)), (tw, .inl (t3, 2001, .inr (.inl gw))), (pdra, .inr (9, [.ref gco, .ref gar, .ref gki, .ref gfu])), (gki, .inr (4, [.ref kw, .ref kf, .int kz])), (kw, .inl (k1, 20, .inr (.inl kgw))), (kf, .inl (k2, 20, .inl kgf))]) [0, 1, 2, 3, 4, 5, 6, 7, 8] rfl
      have hDc := hD.sub (ws' := [(h0, .inr (7, [.ref ptok, .ref pnee, .ref pnam, .int ar, .ref pbui, .ref pdra, .int fu, .int fn, .int fp])), (ptok, .inr (10, [.ref ts, .ref tp, .ref tw, .int z, .int pa, .int so, .int pl, .long wd])), (ts, .inl (t1, 2001, .inl gs)), (tp, .inl (t2, 2001, .inl gp)), (tw, .inl (t3, 2001, .inr (.inl gw))), (pdra, .inr (9, [.ref gco, .ref gar, .ref gki, .ref gfu])), (gki, .inr (4, [.ref kw, .ref kf, .int kz])), (kw, .inl (k1, 20, .inr (.inl kgw))), (kf, .inl (k2, 20, .inl kgf))]) [0, 1, 2, 3, 4, 5, 6, 7, 8] (by decide) rfl
      have hKc := hK.sub (tys' := [(t1, .int), (t2, .int), (t3, .long), (k1, .long), (k2, .int)]) [0, 1, 2, 3, 4] rfl
      have hFc := va_free (wc := [(h0, .inr (7, [.ref ptok, .ref pnee, .ref pnam, .int ar, .ref pbui, .ref pdra, .int fu, .int fn, .int fp])), (ptok, .inr (10, [.ref ts, .ref tp, .ref tw, .int z, .int pa, .int so, .int pl, .long wd])), (ts, .inl (t1, 2001, .inl gs)), (tp, .inl (t2, 2001, .inl gp)), (tw, .inl (t3, 2001, .inr (.inl gw))), (pdra, .inr (9, [.ref gco, .ref gar, .ref gki, .ref gfu])), (gki, .inr (4, [.ref kw, .ref kf, .int kz])), (kw, .inl (k1, 20, .inr (.inl kgw))), (kf, .inl (k2, 20, .inl kgf))]) hD hS hAA [0, 1, 2, 3, 4, 5, 6, 7, 8] rfl
      refine vy_callv (vy_runV (As := []) (rest := []) ⟨hx, hb, hml, hown, hA⟩ (c_X7_failMany l dC dI aK aV h0 ptok pnee pnam pbui pdra ar fu fn fp ts tp tw t1 t2 t3 z pa so pl wd gs gp gw gco gar gki gfu kw kf k1 k2 kz kgw kgf H.size hlt (by omega) (by omega) (by omega) (by omega) hgz (by omega) (by omega) hkf) (cwV 0 hA (zw_V wi_790 wi_792 wi_4 wi_136 (zw_good wi_793)) rfl rfl rfl (by decide +kernel) ⟨(Nat.le_of_ble_eq_true rfl), (Nat.le_of_ble_eq_true rfl)⟩) ⟨zP_blind, va_recv hKc hPc (ci := 7) (q0 := 0) rfl rfl, zz_pre hKc hPc hDc hN hT hS hFc⟩ rfl rfl hl.1 rfl (lv_room (Nat.le_of_ble_eq_true rfl)) dX7_kindAtHand_39 ⟨(Nat.le_of_ble_eq_true rfl), (Nat.le_of_ble_eq_true rfl)⟩) hS (fun q _ h => hFc q h) hFc (fun q _ h => hFc q h) (fun E9 ce9 q9 u t H1 locs ht hvm hw hB hz1 hk1 hS hcell hcv hcl => ?_) (fun u t H1 locs ht hvm hw hB hz1 hk1 hS => absurd hw id)
      obtain ⟨x_fn2_25, x_fp2_26⟩ := u
      obtain ⟨rfl, hP1, hK1, hD1⟩ := hB
      rw [ht] at hP1
      have hK1 := va_K.moved hvm.symm hK1
      obtain ⟨hP, hD⟩ := va_join (wr := []) (w1 := [(h0, .inr (7, [.ref ptok, .ref pnee, .ref pnam, .int ar, .ref pbui, .ref pdra, .int fu, .int x_fn2_25, .int x_fp2_26])), (ptok, .inr (10, [.ref ts, .ref tp, .ref tw, .int z, .int pa, .int so, .int pl, .long wd])), (ts, .inl (t1, 2001, .inl gs)), (tp, .inl (t2, 2001, .inl gp)), (tw, .inl (t3, 2001, .inr (.inl gw))), (pdra, .inr (9, [.ref gco, .ref gar, .ref gki, .ref gfu])), (gki, .inr (4, [.ref kw, .ref kf, .int kz])), (kw, .inl (k1, 20, .inr (.inl kgw))), (kf, .inl (k2, 20, .inl kgf))]) hP hD [0, 1, 2, 3, 4, 5, 6, 7, 8] [] rfl rfl (by decide) (by decide) hk1 hFc hP1 hD1
      have hK := (hK.sub (tys' := []) [] rfl).app hK1
      clear hPc hDc hFc hP1 hD1 hk1 hz1 ht hvm
      generalize H1 = H at hP hS hcell ⊢
      have hP : va_P (dC, dI) vwCl [(h0, .inr (7, [.ref ptok, .ref pnee, .ref pnam, .int ar, .ref pbui, .ref pdra, .int fu, .int x_fn2_25, .int x_fp2_26])), (ptok, .inr (10, [.ref ts, .ref tp, .ref tw, .int z, .int pa, .int so, .int pl, .long wd])), (ts, .inl (t1, 2001, .inl gs)), (tp, .inl (t2, 2001, .inl gp)), (tw, .inl (t3, 2001, .inr (.inl gw))), (pdra, .inr (9, [.ref gco, .ref gar, .ref gki, .ref gfu])), (gki, .inr (4, [.ref kw, .ref kf, .int kz])), (kw, .inl (k1, 20, .inr (.inl kgw))), (kf, .inl (k2, 20, .inl kgf))] H := hP
      have hD : va_D A [(h0, .inr (7, [.ref ptok, .ref pnee, .ref pnam, .int ar, .ref pbui, .ref pdra, .int fu, .int x_fn2_25, .int x_fp2_26])), (ptok, .inr (10, [.ref ts, .ref tp, .ref tw, .int z, .int pa, .int so, .int pl, .long wd])), (ts, .inl (t1, 2001, .inl gs)), (tp, .inl (t2, 2001, .inl gp)), (tw, .inl (t3, 2001, .inr (.inl gw))), (pdra, .inr (9, [.ref gco, .ref gar, .ref gki, .ref gfu])), (gki, .inr (4, [.ref kw, .ref kf, .int kz])), (kw, .inl (k1, 20, .inr (.inl kgw))), (kf, .inl (k2, 20, .inl kgf))] := hD
      have hK : va_K (dC, dI) vwCl [(t1, .int), (t2, .int), (t3, .long), (k1, .long), (k2, .int)] s := hK
      refine vx_widen (k := 1) (n := 6) (Nat.le_of_ble_eq_true rfl) (Nat.le_of_ble_eq_true rfl) ?_
      have hP9 := hP.sub (ws' := [(h0, .inr (7, [.ref ptok, .ref pnee, .ref pnam, .int ar, .ref pbui, .ref pdra, .int fu, .int x_fn2_25, .int x_fp2_26])), (ptok, .inr (10, [.ref ts, .ref tp, .ref tw, .int z, .int pa, .int so, .int pl, .long wd])), (ts, .inl (t1, 2001, .inl gs)), (tp, .inl (t2, 2001, .inl gp)), (tw, .inl (t3, 2001, .inr (.inl gw))), (pdra, .inr (9, [.ref gco, .ref gar, .ref gki, .ref gfu])), (gki, .inr (4, [.ref kw, .ref kf, .int kz])), (kw, .inl (k1, 20, .inr (.inl kgw))), (kf, .inl (k2, 20, .inl kgf))]) [0, 1, 2, 3, 4, 5, 6, 7, 8] rfl
      have hD9 := hD.sub (ws' := [(h0, .inr (7, [.ref ptok, .ref pnee, .ref pnam, .int ar, .ref pbui, .ref pdra, .int fu, .int x_fn2_25, .int x_fp2_26])), (ptok, .inr (10, [.ref ts, .ref tp, .ref tw, .int z, .int pa, .int so, .int pl, .long wd])), (ts, .inl (t1, 2001, .inl gs)), (tp, .inl (t2, 2001, .inl gp)), (tw, .inl (t3, 2001, .inr (.inl gw))), (pdra, .inr (9, [.ref gco, .ref gar, .ref gki, .ref gfu])), (gki, .inr (4, [.ref kw, .ref kf, .int kz])), (kw, .inl (k1, 20, .inr (.inl kgw))), (kf, .inl (k2, 20, .inl kgf))]) [0, 1, 2, 3, 4, 5, 6, 7, 8] (by decide) rfl
      have hK9 := hK.sub (tys' := [(t1, .int), (t2, .int), (t3, .long), (k1, .long), (k2, .int)]) [0, 1, 2, 3, 4] rfl
      exact vy_monoX vy_thr (vx_out (fun x hx => (hnh x hx).elim) hlocks hcell hcv hcl (fun t ht hvm => ⟨(x_fn2_25, x_fp2_26), trivial, ⟨rfl, by rw [ht]; exact hP9, va_K.moved hvm hK9, hD9⟩, hS.F ht⟩) hS.2.2 (Nat.le_of_ble_eq_true rfl) (Nat.le_of_ble_eq_true rfl))
set_option maxHeartbeats 4000000 in
set_option maxRecDepth 100000 in
theorem c_X7_toldToEnd_x (l : Launch) (dC : Nat → ClassId) (dI : Nat → Nat → Nat) (aK aV : Nat → Nat) (h0 : Nat) (ptok : Nat) (pnee : Nat) (pnam : Nat) (pbui : Nat) (pdra : Nat) (ar : Int32) (fu : Int32) (fn : Int32) (fp : Int32) (gco : Nat) (gar : Nat) (gki : Nat) (gfu : Nat) (kw : Nat) (kf : Nat) (k1 : ClassId) (k2 : ClassId) (kz : Int32) (kgw : Nat → Int64) (kgf : Nat → Int32) (ki : Int32) (fi : Int32) (wh : Int32) (sz : Nat) (hlt : l.stackTraces = false) (hk0 : 0 ≤ kz.toInt) (hk1 : kz.toInt ≤ 20) (hkf : zx 4 kgf) (hi0 : 0 ≤ ki.toInt) (hi1 : ki.toInt < 20) (hi2 : 0 ≤ fi.toInt) (hi3 : fi.toInt ≤ 3) : vy_Met l yX7_toldToEnd (Cond.code yX7_toldToEnd cX7_toldToEnd 4 none :: zw) ({ frames := 12, cells := 1, slots := 6, locals := 400 }) (va_Pc [.ref h0, .int ki, .int fi, .int wh] (zP dC dI aK aV sz [(k1, .long), (k2, .int)] [(h0, .inr (7, [.ref ptok, .ref pnee, .ref pnam, .int ar, .ref pbui, .ref pdra, .int fu, .int fn, .int fp])), (pdra, .inr (9, [.ref gco, .ref gar, .ref gki, .ref gfu])), (gki, .inr (4, [.ref kw, .ref kf, .int kz])), (kw, .inl (k1, 20, .inr (.inl kgw))), (kf, .inl (k2, 20, .inl kgf))])) (va_Qv (fun u : (Nat → Int32) => match u with | kgf2 => (zx 4 kgf2) ∧ (kgf2 (Int32.toNatClampNeg ki) = fi) ∧ (zkt kgf kgf2)) (fun u => match u with | kgf2 => zQ dC dI (va_A [(h0, .inr (7, [.ref ptok, .ref pnee, .ref pnam, .int ar, .ref pbui, .ref pdra, .int fu, .int fn, .int fp])), (pdra, .inr (9, [.ref gco, .ref gar, .ref gki, .ref gfu])), (gki, .inr (4, [.ref kw, .ref kf, .int kz])), (kw, .inl (k1, 20, .inr (.inl kgw))), (kf, .inl (k2, 20, .inl kgf))] sz) [(k1, .long), (k2, .int)] [(h0, .inr (7, [.ref ptok, .ref pnee, .ref pnam, .int ar, .ref pbui, .ref pdra, .int fu, .int fn, .int fp])), (pdra, .inr (9, [.ref gco, .ref gar, .ref gki, .ref gfu])), (gki, .inr (4, [.ref kw, .ref kf, .int kz])), (kw, .inl (k1, 20, .inr (.inl kgw))), (kf, .inl (k2, 20, .inl kgf2))]) (va_A [(h0, .inr (7, [.ref ptok, .ref pnee, .ref pnam, .int ar, .ref pbui, .ref pdra, .int fu, .int fn, .int fp])), (pdra, .inr (9, [.ref gco, .ref gar, .ref gki, .ref gfu])), (gki, .inr (4, [.ref kw, .ref kf, .int kz])), (kw, .inl (k1, 20, .inr (.inl kgw))), (kf, .inl (k2, 20, .inl kgf))] sz)) (vx_X (fun u : Int32 × Int32 => match u with | (fn2, fp2) => True) (fun E u t => E = "java/lang/IllegalStateException" ∧ (match u with | (fn2, fp2) => zQ dC dI (va_A [(h0, .inr (7, [.ref ptok, .ref pnee, .ref pnam, .int ar, .ref pbui, .ref pdra, .int fu, .int fn, .int fp])), (pdra, .inr (9, [.ref gco, .ref gar, .ref gki, .ref gfu])), (gki, .inr (4, [.ref kw, .ref kf, .int kz])), (kw, .inl (k1, 20, .inr (.inl kgw))), (kf, .inl (k2, 20, .inl kgf))] sz) [(k1, .long), (k2, .int)] [(h0, .inr (7, [.ref ptok, .ref pnee, .ref pnam, .int ar, .ref pbui, .ref pdra, .int fu, .int fn2, .int fp2])), (pdra, .inr (9, [.ref gco, .ref gar, .ref gki, .ref gfu])), (gki, .inr (4, [.ref kw, .ref kf, .int kz])), (kw, .inl (k1, 20, .inr (.inl kgw))), (kf, .inl (k2, 20, .inl kgf))] t)) (va_A [(h0, .inr (7, [.ref ptok, .ref pnee, .ref pnam, .int ar, .ref pbui, .ref pdra, .int fu, .int fn, .int fp])), (pdra, .inr (9, [.ref gco, .ref gar, .ref gki, .ref gfu])), (gki, .inr (4, [.ref kw, .ref kf, .int kz])), (kw, .inl (k1, 20, .inr (.inl kgw))), (kf, .inl (k2, 20, .inl kgf))] sz)) 0 0 1 6 (va_A [(h0, .inr (7, [.ref ptok, .ref pnee, .ref pnam, .int ar, .ref pbui, .ref pdra, .int fu, .int fn, .int fp])), (pdra, .inr (9, [.ref gco, .ref gar, .ref gki, .ref gfu])), (gki, .inr (4, [.ref kw, .ref kf, .int kz])), (kw, .inl (k1, 20, .inr (.inl kgw))), (kf, .inl (k2, 20, .inl kgf))] sz) := by
  refine vy_ofW (cc := cX7_toldToEnd) (maxL := 4) (ret := none) (by decide) rfl ?_
  intro p e s m args below meth c s₁ B hml hnh hv
  obtain ⟨rfl, hsz, hP, hK, hD0, hN, hT⟩ := hv
  have hx := B.exec
  have hb := B.bytes
  have hr := B.returns
  have hts := atoms_spec (ws := Cond.code yX7_toldToEnd cX7_toldToEnd 4 none :: zw) B.pre
  have hA : ∀ w ∈ zw, w.before _ s = true := fun w h => hts w (List.mem_cons_of_mem _ h)
  have hown : s.vm.findClass RX7 = some m.cls := findClass_of_methodNamed B.named
  have hlocks := B.notSynchronized
  subst hsz
  have hD := hD0.self (sz := s.heap.size)
  generalize hAe : va_A [(h0, .inr (7, [.ref ptok, .ref pnee, .ref pnam, .int ar, .ref pbui, .ref pdra, .int fu, .int fn, .int fp])), (pdra, .inr (9, [.ref gco, .ref gar, .ref gki, .ref gfu])), (gki, .inr (4, [.ref kw, .ref kf, .int kz])), (kw, .inl (k1, 20, .inr (.inl kgw))), (kf, .inl (k2, 20, .inl kgf))] s.heap.size = A at hD hT ⊢
  have hAA : ∀ q : Nat, s.heap.size ≤ q → A q := fun q h => by rw [← hAe]; exact Or.inr h
  have hS : va_S A s.heap s.heap [] := va_S.rf
  have hl := lv_entry ([.ref h0, .int ki, .int fi, .int wh]) (n := 4) (Nat.le_of_ble_eq_true rfl)
  rw [lg_entry_eq]
  generalize (lg_sl ([.ref h0, .int ki, .int fi, .int wh]) ++ List.replicate (4 - (lg_sl ([.ref h0, .int ki, .int fi, .int wh])).length) Slot.unset).toArray = ls at hl ⊢
  have hl : lv_has ls 4 [(0, .ref h0), (1, .int ki), (2, .int fi), (3, .int wh)] := hl
  refine lv_aload_n hx hb dX7_toldToEnd_0 rfl (lv_at hl 0 rfl) ?_
  refine va_get (D := (dC, dI)) (ci := 7) (v := .ref pdra) (C := RX7) (T := TX7) (N := 9) hx hb hA zin_X7 hown hK hP 0 rfl rfl 5 (by decide) (hA _ wi_392) (fun _ h9 => h9) rfl dX7_toldToEnd_1 ?_
  refine va_get (D := (dC, dI)) (ci := 9) (v := .ref gki) (C := RX9) (T := TX9) (N := 4) hx hb hA zin_X9 hown hK hP 1 rfl rfl 2 (by decide) (hA _ wi_317) (fun _ h9 => h9) rfl dX7_toldToEnd_4 ?_
  refine va_get (D := (dC, dI)) (ci := 4) (v := .ref kf) (C := RX4) (T := TX4) (N := 3) hx hb hA zin_X4 hown hK hP 2 rfl rfl 1 (by decide) (hA _ wi_272) (fun _ h9 => h9) rfl dX7_toldToEnd_7 ?_
  refine lv_iload_n hx hb dX7_toldToEnd_10 rfl (lv_at hl 1 rfl) ?_
  refine va_iald hx hb hK hP 4 1 rfl rfl (vp_in_iff.mpr ⟨by omega, by omega⟩) dX7_toldToEnd_11 ?_
  refine lv_topi (fun x_1 ex_1 => ?_)
  have ix_1 : -1 ≤ x_1.toInt ∧ x_1.toInt < 4 := by rw [ex_1]; exact hkf _
  refine lv_iconst (v := (-1)) hx hb dX7_toldToEnd_12 (by decide) ?_
  refine lv_icmp_ne (tgt := 32) hx hb dX7_toldToEnd_13 (by decide) (fun c_2 => ?_) (fun c_2 => ?_)
  · have ic_2 : x_1.toInt ≠ (-1) := zi_ne c_2
    refine lv_aload_n hx hb dX7_toldToEnd_32 rfl (lv_at hl 0 rfl) ?_
    refine va_get (D := (dC, dI)) (ci := 7) (v := .ref pdra) (C := RX7) (T := TX7) (N := 9) hx hb hA zin_X7 hown hK hP 0 rfl rfl 5 (by decide) (hA _ wi_392) (fun _ h9 => h9) rfl dX7_toldToEnd_33 ?_
    refine va_get (D := (dC, dI)) (ci := 9) (v := .ref gki) (C := RX9) (T := TX9) (N := 4) hx hb hA zin_X9 hown hK hP 1 rfl rfl 2 (by decide) (hA _ wi_317) (fun _ h9 => h9) rfl dX7_toldToEnd_36 ?_
    refine va_get (D := (dC, dI)) (ci := 4) (v := .ref kf) (C := RX4) (T := TX4) (N := 3) hx hb hA zin_X4 hown hK hP 2 rfl rfl 1 (by decide) (hA _ wi_272) (fun _ h9 => h9) rfl dX7_toldToEnd_39 ?_
    refine lv_iload_n hx hb dX7_toldToEnd_42 rfl (lv_at hl 1 rfl) ?_
    refine va_iald hx hb hK hP 4 1 rfl rfl (vp_in_iff.mpr ⟨by omega, by omega⟩) dX7_toldToEnd_43 ?_
    refine lv_topi (fun x_3 ex_3 => ?_)
    have jx_3 : x_3.toInt = x_1.toInt := by rw [ex_3, ex_1]
    have ix_3 : -1 ≤ x_3.toInt ∧ x_3.toInt < 4 := by rw [ex_3]; exact hkf _
    refine lv_iload_n hx hb dX7_toldToEnd_44 rfl (lv_at hl 2 rfl) ?_
    refine lv_icmp_eq (tgt := 54) hx hb dX7_toldToEnd_45 (by decide) (fun c_4 => ?_) (fun c_4 => ?_)
    · have ic_4 : x_3.toInt = fi.toInt := zi_eq c_4
      have hP9 := hP.sub (ws' := [(h0, .inr (7, [.ref ptok, .ref pnee, .ref pnam, .int ar, .ref pbui, .ref pdra, .int fu, .int fn, .int fp])), (pdra, .inr (9, [.ref gco, .ref gar, .ref gki, .ref gfu])), (gki, .inr (4, [.ref kw, .ref kf, .int kz])), (kw, .inl (k1, 20, .inr (.inl kgw))), (kf, .inl (k2, 20, .inl kgf))]) [0, 1, 2, 3, 4] rfl
      have hD9 := hD.sub (ws' := [(h0, .inr (7, [.ref ptok, .ref pnee, .ref pnam, .int ar, .ref pbui, .ref pdra, .int fu, .int fn, .int fp])), (pdra, .inr (9, [.ref gco, .ref gar, .ref gki, .ref gfu])), (gki, .inr (4, [.ref kw, .ref kf, .int kz])), (kw, .inl (k1, 20, .inr (.inl kgw))), (kf, .inl (k2, 20, .inl kgf))]) [0, 1, 2, 3, 4] (by decide) rfl
      have hK9 := hK.sub (tys' := [(k1, .long), (k2, .int)]) [0, 1] rfl
      exact vy_mono vy_ret (vx_ret (W.vret hx hb hr (fun t ht hW => ⟨⟨(kgf), rfl, ⟨hkf, (show kgf (Int32.toNatClampNeg ki) = fi from Int32.toInt_inj.mp (by rw [← ex_3]; omega)), zkt_rf⟩, by rw [ht]; exact hP9, va_K.moved hW.alike hK9, hD9⟩, hS.F ht⟩) hS.2.2 dX7_toldToEnd_54))
    · have ic_4 : x_3.toInt ≠ fi.toInt := zi_ne c_4
      refine lv_aload_n hx hb dX7_toldToEnd_48 rfl (lv_at hl 0 rfl) ?_
      refine lv_iconst (v := 4) hx hb dX7_toldToEnd_49 (by decide) ?_
      refine lv_iload_n hx hb dX7_toldToEnd_50 rfl (lv_at hl 3 rfl) ?_
      have hPc := hP.sub (ws' := [(h0, .inr (7, [.ref ptok, .ref pnee, .ref pnam, .int ar, .ref pbui, .ref pdra, .int fu, .int fn, .int fp]))]) [0] rfl
      have hDc := hD.sub (ws' := [(h0, .inr (7, [.ref ptok, .ref pnee, .ref pnam, .int ar, .ref pbui, .ref pdra, .int fu, .int fn, .int fp]))]) [0] (by decide) rfl
      have hKc := hK.sub (tys' := []) [] rfl
      have hFc := va_free (wc := [(h0, .inr (7, [.ref ptok, .ref pnee, .ref pnam, .int ar, .ref pbui, .ref pdra, .int fu, .int fn, .int fp]))]) hD hS hAA [0] rfl
      refine vy_callv (vy_runV (As := [.int 4, .int wh]) (rest := []) ⟨hx, hb, hml, hown, hA⟩ (c_X7_fail l dC dI aK aV h0 ptok pnee pnam pbui pdra ar fu fn fp 4 wh s.heap.size hlt) (cwV 2 hA (zw_V wi_806 wi_808 wi_5 wi_136 (zw_good wi_809)) rfl rfl rfl (by decide +kernel) ⟨(Nat.le_of_ble_eq_true rfl), (Nat.le_of_ble_eq_true rfl)⟩) ⟨zP_blind, va_recv hKc hPc (ci := 7) (q0 := 0) rfl rfl, zz_pre hKc hPc hDc hN hT hS hFc⟩ rfl rfl hl.1 rfl (lv_room (Nat.le_of_ble_eq_true rfl)) dX7_toldToEnd_51 ⟨(Nat.le_of_ble_eq_true rfl), (Nat.le_of_ble_eq_true rfl)⟩) hS (fun q _ h => hFc q h) hFc (fun q _ h => hFc q h) (fun E9 ce9 q9 u t H1 locs ht hvm hw hB hz1 hk1 hS hcell hcv hcl => ?_) (fun u t H1 locs ht hvm hw hB hz1 hk1 hS => absurd hw id)
      obtain ⟨x_fn2_6, x_fp2_7⟩ := u
      obtain ⟨rfl, hP1, hK1, hD1⟩ := hB
      rw [ht] at hP1
      have hK1 := va_K.moved hvm.symm hK1
      obtain ⟨hP, hD⟩ := va_join (wr := [(pdra, .inr (9, [.ref gco, .ref gar, .ref gki, .ref gfu])), (gki, .inr (4, [.ref kw, .ref kf, .int kz])), (kw, .inl (k1, 20, .inr (.inl kgw))), (kf, .inl (k2, 20, .inl kgf))]) (w1 := [(h0, .inr (7, [.ref ptok, .ref pnee, .ref pnam, .int ar, .ref pbui, .ref pdra, .int fu, .int x_fn2_6, .int x_fp2_7]))]) hP hD [0] [1, 2, 3, 4] rfl rfl (by decide) (by decide) hk1 hFc hP1 hD1
      have hK := (hK.sub (tys' := [(k1, .long), (k2, .int)]) [0, 1] rfl).app hK1
      clear hPc hDc hFc hP1 hD1 hk1 hz1 ht hvm
      generalize H1 = H at hP hS hcell ⊢
      have hP : va_P (dC, dI) vwCl [(pdra, .inr (9, [.ref gco, .ref gar, .ref gki, .ref gfu])), (gki, .inr (4, [.ref kw, .ref kf, .int kz])), (kw, .inl (k1, 20, .inr (.inl kgw))), (kf, .inl (k2, 20, .inl kgf)), (h0, .inr (7, [.ref ptok, .ref pnee, .ref pnam, .int ar, .ref pbui, .ref pdra, .int fu, .int x_fn2_6, .int x_fp2_7]))] H := hP
      have hD : va_D A [(pdra, .inr (9, [.ref gco, .ref gar, .ref gki, .ref gfu])), (gki, .inr (4, [.ref kw, .ref kf, .int kz])), (kw, .inl (k1, 20, .inr (.inl kgw))), (kf, .inl (k2, 20, .inl kgf)), (h0, .inr (7, [.ref ptok, .ref pnee, .ref pnam, .int ar, .ref pbui, .ref pdra, .int fu, .int x_fn2_6, .int x_fp2_7]))] := hD
      have hK : va_K (dC, dI) vwCl [(k1, .long), (k2, .int)] s := hK
      refine vx_widen (k := 1) (n := 6) (Nat.le_of_ble_eq_true rfl) (Nat.le_of_ble_eq_true rfl) ?_
      have hP9 := hP.sub (ws' := [(h0, .inr (7, [.ref ptok, .ref pnee, .ref pnam, .int ar, .ref pbui, .ref pdra, .int fu, .int x_fn2_6, .int x_fp2_7])), (pdra, .inr (9, [.ref gco, .ref gar, .ref gki, .ref gfu])), (gki, .inr (4, [.ref kw, .ref kf, .int kz])), (kw, .inl (k1, 20, .inr (.inl kgw))), (kf, .inl (k2, 20, .inl kgf))]) [4, 0, 1, 2, 3] rfl
      have hD9 := hD.sub (ws' := [(h0, .inr (7, [.ref ptok, .ref pnee, .ref pnam, .int ar, .ref pbui, .ref pdra, .int fu, .int x_fn2_6, .int x_fp2_7])), (pdra, .inr (9, [.ref gco, .ref gar, .ref gki, .ref gfu])), (gki, .inr (4, [.ref kw, .ref kf, .int kz])), (kw, .inl (k1, 20, .inr (.inl kgw))), (kf, .inl (k2, 20, .inl kgf))]) [4, 0, 1, 2, 3] (by decide) rfl
      have hK9 := hK.sub (tys' := [(k1, .long), (k2, .int)]) [0, 1] rfl
      exact vy_monoX vy_thr (vx_out (fun x hx => (hnh x hx).elim) hlocks hcell hcv hcl (fun t ht hvm => ⟨(x_fn2_6, x_fp2_7), trivial, ⟨rfl, by rw [ht]; exact hP9, va_K.moved hvm hK9, hD9⟩, hS.F ht⟩) hS.2.2 (Nat.le_of_ble_eq_true rfl) (Nat.le_of_ble_eq_true rfl))
  · have ic_2 : x_1.toInt = (-1) := zi_eq c_2
    refine lv_aload_n hx hb dX7_toldToEnd_16 rfl (lv_at hl 0 rfl) ?_
    refine va_get (D := (dC, dI)) (ci := 7) (v := .ref pdra) (C := RX7) (T := TX7) (N := 9) hx hb hA zin_X7 hown hK hP 0 rfl rfl 5 (by decide) (hA _ wi_392) (fun _ h9 => h9) rfl dX7_toldToEnd_17 ?_
    refine va_get (D := (dC, dI)) (ci := 9) (v := .ref gki) (C := RX9) (T := TX9) (N := 4) hx hb hA zin_X9 hown hK hP 1 rfl rfl 2 (by decide) (hA _ wi_317) (fun _ h9 => h9) rfl dX7_toldToEnd_20 ?_
    refine va_get (D := (dC, dI)) (ci := 4) (v := .ref kf) (C := RX4) (T := TX4) (N := 3) hx hb hA zin_X4 hown hK hP 2 rfl rfl 1 (by decide) (hA _ wi_272) (fun _ h9 => h9) rfl dX7_toldToEnd_23 ?_
    refine lv_iload_n hx hb dX7_toldToEnd_26 rfl (lv_at hl 1 rfl) ?_
    refine lv_iload_n hx hb dX7_toldToEnd_27 rfl (lv_at hl 2 rfl) ?_
    refine va_iast hx hb hK hP hD hS 4 1 rfl rfl (vp_in_iff.mpr ⟨by omega, by omega⟩) dX7_toldToEnd_28 (fun H locs hP hD hS => ?_)
    obtain ⟨f_8, ef_8⟩ : ∃ gz9 : Nat → Int32, gz9 = upd kgf (Int32.toNatClampNeg ki) fi := ⟨_, rfl⟩
    rw [← ef_8] at hP hD
    have hp_f_8 : zx 4 f_8 := by rw [ef_8]; exact zx_upd hkf (by omega) (by omega)
    have hP : va_P (dC, dI) vwCl [(h0, .inr (7, [.ref ptok, .ref pnee, .ref pnam, .int ar, .ref pbui, .ref pdra, .int fu, .int fn, .int fp])), (pdra, .inr (9, [.ref gco, .ref gar, .ref gki, .ref gfu])), (gki, .inr (4, [.ref kw, .ref kf, .int kz])), (kw, .inl (k1, 20, .inr (.inl kgw))), (kf, .inl (k2, 20, .inl f_8))] H := hP
    have hD : va_D A [(h0, .inr (7, [.ref ptok, .ref pnee, .ref pnam, .int ar, .ref pbui, .ref pdra, .int fu, .int fn, .int fp])), (pdra, .inr (9, [.ref gco, .ref gar, .ref gki, .ref gfu])), (gki, .inr (4, [.ref kw, .ref kf, .int kz])), (kw, .inl (k1, 20, .inr (.inl kgw))), (kf, .inl (k2, 20, .inl f_8))] := hD
    refine lv_goto (tgt := 54) hx hb dX7_toldToEnd_29 (by decide) ?_
    have hP9 := hP.sub (ws' := [(h0, .inr (7, [.ref ptok, .ref pnee, .ref pnam, .int ar, .ref pbui, .ref pdra, .int fu, .int fn, .int fp])), (pdra, .inr (9, [.ref gco, .ref gar, .ref gki, .ref gfu])), (gki, .inr (4, [.ref kw, .ref kf, .int kz])), (kw, .inl (k1, 20, .inr (.inl kgw))), (kf, .inl (k2, 20, .inl f_8))]) [0, 1, 2, 3, 4] rfl
    have hD9 := hD.sub (ws' := [(h0, .inr (7, [.ref ptok, .ref pnee, .ref pnam, .int ar, .ref pbui, .ref pdra, .int fu, .int fn, .int fp])), (pdra, .inr (9, [.ref gco, .ref gar, .ref gki, .ref gfu])), (gki, .inr (4, [.ref kw, .ref kf, .int kz])), (kw, .inl (k1, 20, .inr (.inl kgw))), (kf, .inl (k2, 20, .inl f_8))]) [0, 1, 2, 3, 4] (by decide) rfl
    have hK9 := hK.sub (tys' := [(k1, .long), (k2, .int)]) [0, 1] rfl
    exact vy_mono vy_ret (vx_ret (W.vret hx hb hr (fun t ht hW => ⟨⟨(f_8), rfl, ⟨hp_f_8, by rw [ef_8]; exact pk_us, zkt_up ef_8 (by rw [← ex_1]; omega)⟩, by rw [ht]; exact hP9, va_K.moved hW.alike hK9, hD9⟩, hS.F ht⟩) hS.2.2 dX7_toldToEnd_54))
set_option maxHeartbeats 4000000 in
set_option maxRecDepth 100000 in
theorem c_X3_has_x (l : Launch) (dC : Nat → ClassId) (dI : Nat → Nat → Nat) (aK aV : Nat → Nat) (h0 : Nat) (fw : Nat) (fe : Nat) (ff : Nat) (z : Int32) (i : Int32) (sz : Nat)  : Met l yX3_has (Cond.code yX3_has cX3_has 2 (some .boolean) :: zw) ({ frames := 8, cells := 0, slots := 0, locals := 200 }) (va_Pc [.ref h0, .int i] (zP dC dI aK aV sz [] [(h0, .inr (3, [.ref fw, .ref fe, .ref ff, .int z]))])) (va_Qi (fun (r : Int32) (u : Unit) => (r.toInt = 0 ∧ (i.toInt < 0 ∨ z.toInt ≤ i.toInt) ∨ r.toInt = 1 ∧ 0 ≤ i.toInt ∧ i.toInt < z.toInt)) (fun u => zQ dC dI (va_A [(h0, .inr (3, [.ref fw, .ref fe, .ref ff, .int z]))] sz) [] [(h0, .inr (3, [.ref fw, .ref fe, .ref ff, .int z]))]) (va_A [(h0, .inr (3, [.ref fw, .ref fe, .ref ff, .int z]))] sz)) 0 0 (va_A [(h0, .inr (3, [.ref fw, .ref fe, .ref ff, .int z]))] sz) := by
  refine Met.ofW (cc := cX3_has) (maxL := 2) (ret := (some .boolean)) (by decide) rfl ?_
  intro p e s m args below meth c s₁ B hml hv
  obtain ⟨rfl, hsz, hP, hK, hD0, hN, hT⟩ := hv
  have hx := B.exec
  have hb := B.bytes
  have hr := B.returns
  have hts := atoms_spec (ws := Cond.code yX3_has cX3_has 2 (some .boolean) :: zw) B.pre
  have hA : ∀ w ∈ zw, w.before _ s = true := fun w h => hts w (List.mem_cons_of_mem _ h)
  have hown : s.vm.findClass RX3 = some m.cls := findClass_of_methodNamed B.named
  have hlocks := B.notSynchronized
  subst hsz
  have hD := hD0.self (sz := s.heap.size)
  generalize hAe : va_A [(h0, .inr (3, [.ref fw, .ref fe, .ref ff, .int z]))] s.heap.size = A at hD hT ⊢
  have hAA : ∀ q : Nat, s.heap.size ≤ q → A q := fun q h => by rw [← hAe]; exact Or.inr h
  have hS : va_S A s.heap s.heap [] := va_S.rf
  have hl := lv_entry ([.ref h0, .int i]) (n := 2) (Nat.le_of_ble_eq_true rfl)
  rw [lg_entry_eq]
  generalize (lg_sl ([.ref h0, .int i]) ++ List.replicate (2 - (lg_sl ([.ref h0, .int i])).length) Slot.unset).toArray = ls at hl ⊢
  have hl : lv_has ls 2 [(0, .ref h0), (1, .int i)] := hl
  refine lv_iload_n hx hb dX3_has_0 rfl (lv_at hl 1 rfl) ?_
  refine lv_if_lt (tgt := 16) hx hb dX3_has_1 (by decide) (fun c_1 => ?_) (fun c_1 => ?_)
  · have ic_1 : i.toInt < 0 := zi_lt c_1
    refine lv_iconst (v := 0) hx hb dX3_has_16 (by decide) ?_
    have hlit : Int32.toInt 0 = 0 := by decide
    have hP9 := hP.sub (ws' := [(h0, .inr (3, [.ref fw, .ref fe, .ref ff, .int z]))]) [0] rfl
    have hD9 := hD.sub (ws' := [(h0, .inr (3, [.ref fw, .ref fe, .ref ff, .int z]))]) [0] (by decide) rfl
    have hK9 := hK.sub (tys' := []) [] rfl
    exact W.zret (v := 0) hx hb hr rfl (fun t ht hW => ⟨⟨0, (), rfl, by omega, by rw [ht]; exact hP9, va_K.moved hW.alike hK9, hD9⟩, hS.F ht⟩) hS.2.2 dX3_has_17
  · have ic_1 : 0 ≤ i.toInt := zi_nlt c_1
    refine lv_iload_n hx hb dX3_has_4 rfl (lv_at hl 1 rfl) ?_
    refine lv_aload_n hx hb dX3_has_5 rfl (lv_at hl 0 rfl) ?_
    refine va_get (D := (dC, dI)) (ci := 3) (v := .int z) (C := RX3) (T := TX3) (N := 4) hx hb hA zin_X3 hown hK hP 0 rfl rfl 3 (by decide) (hA _ wi_295) (fun _ h9 => h9) rfl dX3_has_6 ?_
    refine lv_icmp_ge (tgt := 16) hx hb dX3_has_9 (by decide) (fun c_2 => ?_) (fun c_2 => ?_)
    · have ic_2 : z.toInt ≤ i.toInt := zi_le c_2
      refine lv_iconst (v := 0) hx hb dX3_has_16 (by decide) ?_
      have hlit : Int32.toInt 0 = 0 := by decide
      have hP9 := hP.sub (ws' := [(h0, .inr (3, [.ref fw, .ref fe, .ref ff, .int z]))]) [0] rfl
      have hD9 := hD.sub (ws' := [(h0, .inr (3, [.ref fw, .ref fe, .ref ff, .int z]))]) [0] (by decide) rfl
      have hK9 := hK.sub (tys' := []) [] rfl
      exact W.zret (v := 0) hx hb hr rfl (fun t ht hW => ⟨⟨0, (), rfl, by omega, by rw [ht]; exact hP9, va_K.moved hW.alike hK9, hD9⟩, hS.F ht⟩) hS.2.2 dX3_has_17
    · have ic_2 : i.toInt < z.toInt := zi_nle c_2
      refine lv_iconst (v := 1) hx hb dX3_has_12 (by decide) ?_
      refine lv_goto (tgt := 17) hx hb dX3_has_13 (by decide) ?_
      have hlit : Int32.toInt 1 = 1 := by decide
      have hP9 := hP.sub (ws' := [(h0, .inr (3, [.ref fw, .ref fe, .ref ff, .int z]))]) [0] rfl
      have hD9 := hD.sub (ws' := [(h0, .inr (3, [.ref fw, .ref fe, .ref ff, .int z]))]) [0] (by decide) rfl
      have hK9 := hK.sub (tys' := []) [] rfl
      exact W.zret (v := 1) hx hb hr rfl (fun t ht hW => ⟨⟨1, (), rfl, by omega, by rw [ht]; exact hP9, va_K.moved hW.alike hK9, hD9⟩, hS.F ht⟩) hS.2.2 dX3_has_17
set_option maxHeartbeats 4000000 in
set_option maxRecDepth 100000 in
theorem c_X3_fact_x (l : Launch) (dC : Nat → ClassId) (dI : Nat → Nat → Nat) (aK aV : Nat → Nat) (h0 : Nat) (fw : Nat) (fe : Nat) (ff : Nat) (f1 : ClassId) (f2 : ClassId) (f3 : ClassId) (z : Int32) (gw : Nat → Int64) (ge : Nat → Int32) (gf : Nat → Int32) (i : Int32) (w : Int32) (sz : Nat) (hz0 : 0 ≤ z.toInt) (hz1 : z.toInt ≤ 30) (hi0 : 0 ≤ i.toInt) (hi1 : i.toInt < z.toInt) (hw0 : 0 ≤ w.toInt) (hw1 : w.toInt < 5) : Met l yX3_fact (Cond.code yX3_fact cX3_fact 3 (some .int) :: zw) ({ frames := 10, cells := 0, slots := 0, locals := 300 }) (va_Pc [.ref h0, .int i, .int w] (zP dC dI aK aV sz [(f1, .long), (f2, .int), (f3, .int)] [(h0, .inr (3, [.ref fw, .ref fe, .ref ff, .int z])), (fw, .inl (f1, 30, .inr (.inl gw))), (fe, .inl (f2, 30, .inl ge)), (ff, .inl (f3, 150, .inl gf))])) (va_Qi (fun (r : Int32) (u : Unit) => (r = gf (5 * Int32.toNatClampNeg i + Int32.toNatClampNeg w))) (fun u => zQ dC dI (va_A [(h0, .inr (3, [.ref fw, .ref fe, .ref ff, .int z])), (fw, .inl (f1, 30, .inr (.inl gw))), (fe, .inl (f2, 30, .inl ge)), (ff, .inl (f3, 150, .inl gf))] sz) [(f1, .long), (f2, .int), (f3, .int)] [(h0, .inr (3, [.ref fw, .ref fe, .ref ff, .int z])), (fw, .inl (f1, 30, .inr (.inl gw))), (fe, .inl (f2, 30, .inl ge)), (ff, .inl (f3, 150, .inl gf))]) (va_A [(h0, .inr (3, [.ref fw, .ref fe, .ref ff, .int z])), (fw, .inl (f1, 30, .inr (.inl gw))), (fe, .inl (f2, 30, .inl ge)), (ff, .inl (f3, 150, .inl gf))] sz)) 0 0 (va_A [(h0, .inr (3, [.ref fw, .ref fe, .ref ff, .int z])), (fw, .inl (f1, 30, .inr (.inl gw))), (fe, .inl (f2, 30, .inl ge)), (ff, .inl (f3, 150, .inl gf))] sz) := by
  refine Met.ofW (cc := cX3_fact) (maxL := 3) (ret := (some .int)) (by decide) rfl ?_
  intro p e s m args below meth c s₁ B hml hv
  obtain ⟨rfl, hsz, hP, hK, hD0, hN, hT⟩ := hv
  have hx := B.exec
  have hb := B.bytes
  have hr := B.returns
  have hts := atoms_spec (ws := Cond.code yX3_fact cX3_fact 3 (some .int) :: zw) B.pre
  have hA : ∀ w ∈ zw, w.before _ s = true := fun w h => hts w (List.mem_cons_of_mem _ h)
  have hown : s.vm.findClass RX3 = some m.cls := findClass_of_methodNamed B.named
  have hlocks := B.notSynchronized
  subst hsz
  have hD := hD0.self (sz := s.heap.size)
  generalize hAe : va_A [(h0, .inr (3, [.ref fw, .ref fe, .ref ff, .int z])), (fw, .inl (f1, 30, .inr (.inl gw))), (fe, .inl (f2, 30, .inl ge)), (ff, .inl (f3, 150, .inl gf))] s.heap.size = A at hD hT ⊢
  have hAA : ∀ q : Nat, s.heap.size ≤ q → A q := fun q h => by rw [← hAe]; exact Or.inr h
  have hS : va_S A s.heap s.heap [] := va_S.rf
  have hl := lv_entry ([.ref h0, .int i, .int w]) (n := 3) (Nat.le_of_ble_eq_true rfl)
  rw [lg_entry_eq]
  generalize (lg_sl ([.ref h0, .int i, .int w]) ++ List.replicate (3 - (lg_sl ([.ref h0, .int i, .int w])).length) Slot.unset).toArray = ls at hl ⊢
  have hl : lv_has ls 3 [(0, .ref h0), (1, .int i), (2, .int w)] := hl
  refine lv_aload_n hx hb dX3_fact_0 rfl (lv_at hl 0 rfl) ?_
  refine lv_iload_n hx hb dX3_fact_1 rfl (lv_at hl 1 rfl) ?_
  have hPc := hP.sub (ws' := [(h0, .inr (3, [.ref fw, .ref fe, .ref ff, .int z]))]) [0] rfl
  have hDc := hD.sub (ws' := [(h0, .inr (3, [.ref fw, .ref fe, .ref ff, .int z]))]) [0] (by decide) rfl
  have hKc := hK.sub (tys' := []) [] rfl
  have hFc := va_free (wc := [(h0, .inr (3, [.ref fw, .ref fe, .ref ff, .int z]))]) hD hS hAA [0] rfl
  refine va_calli (va_runV (As := [.int i]) (rest := []) ⟨hx, hb, hml, hown, hA⟩ (c_X3_has_x l dC dI aK aV h0 fw fe ff z i s.heap.size) (cwV 1 hA (zw_V wi_910 wi_911 wi_912 wi_135 (zw_good wi_913)) rfl rfl rfl (by decide +kernel) ⟨(Nat.le_of_ble_eq_true rfl), (Nat.le_of_ble_eq_true rfl)⟩) ⟨zP_blind, va_recv hKc hPc (ci := 3) (q0 := 0) rfl rfl, zz_pre hKc hPc hDc hN hT hS hFc⟩ rfl rfl hl.1 rfl (lv_room (Nat.le_of_ble_eq_true rfl)) dX3_fact_2 ⟨(Nat.le_of_ble_eq_true rfl), (Nat.le_of_ble_eq_true rfl)⟩) hS (fun q _ h => hFc q h) hFc (fun r_1 u t H1 locs ht hvm hw hB hz1 hk1 hS => ?_)
  obtain ⟨hP1, hK1, hD1⟩ := hB
  rw [ht] at hP1
  have hK1 := va_K.moved hvm.symm hK1
  obtain ⟨hP, hD⟩ := va_join (wr := [(fw, .inl (f1, 30, .inr (.inl gw))), (fe, .inl (f2, 30, .inl ge)), (ff, .inl (f3, 150, .inl gf))]) (w1 := [(h0, .inr (3, [.ref fw, .ref fe, .ref ff, .int z]))]) hP hD [0] [1, 2, 3] rfl rfl (by decide) (by decide) hk1 hFc hP1 hD1
  have hK := (hK.sub (tys' := [(f1, .long), (f2, .int), (f3, .int)]) [0, 1, 2] rfl).app hK1
  generalize H1 = H at hP hS ⊢
  have hP : va_P (dC, dI) vwCl [(fw, .inl (f1, 30, .inr (.inl gw))), (fe, .inl (f2, 30, .inl ge)), (ff, .inl (f3, 150, .inl gf)), (h0, .inr (3, [.ref fw, .ref fe, .ref ff, .int z]))] H := hP
  have hD : va_D A [(fw, .inl (f1, 30, .inr (.inl gw))), (fe, .inl (f2, 30, .inl ge)), (ff, .inl (f3, 150, .inl gf)), (h0, .inr (3, [.ref fw, .ref fe, .ref ff, .int z]))] := hD
  have hK : va_K (dC, dI) vwCl [(f1, .long), (f2, .int), (f3, .int)] s := hK
  have hw_r_1 := hw
  try dsimp only at hw_r_1
  have hq_2 := hw
  refine lv_if_eq (tgt := 21) hx hb dX3_fact_5 (by decide) (fun c_3 => ?_) (fun c_3 => ?_)
  · have ic_3 : r_1.toInt = 0 := zi_eq c_3
    exfalso
    omega
  · have ic_3 : r_1.toInt ≠ 0 := zi_ne c_3
    refine lv_aload_n hx hb dX3_fact_8 rfl (lv_at hl 0 rfl) ?_
    refine va_get (D := (dC, dI)) (ci := 3) (v := .ref ff) (C := RX3) (T := TX3) (N := 4) hx hb hA zin_X3 hown hK hP 3 rfl rfl 2 (by decide) (hA _ wi_294) (fun _ h9 => h9) rfl dX3_fact_9 ?_
    refine lv_iload_n hx hb dX3_fact_12 rfl (lv_at hl 1 rfl) ?_
    refine lv_iconst (v := 5) hx hb dX3_fact_13 (by decide) ?_
    refine lv_imul hx hb dX3_fact_14 ?_
    refine lv_topi (fun x_4 ex_4 => ?_)
    have ix_4 : x_4.toInt = i.toInt * 5 := by rw [ex_4]; exact zi_mulc (by decide) (by omega) (by omega)
    refine lv_iload_n hx hb dX3_fact_15 rfl (lv_at hl 2 rfl) ?_
    refine lv_iadd hx hb dX3_fact_16 ?_
    refine lv_topi (fun x_5 ex_5 => ?_)
    have ix_5 : x_5.toInt = x_4.toInt + w.toInt := by rw [ex_5]; exact zi_addc rfl (by omega) (by omega)
    refine va_iald hx hb hK hP 2 2 rfl rfl (vp_in_iff.mpr ⟨by omega, by omega⟩) dX3_fact_17 ?_
    refine lv_topi (fun x_6 ex_6 => ?_)
    refine lv_goto (tgt := 22) hx hb dX3_fact_18 (by decide) ?_
    have hP9 := hP.sub (ws' := [(h0, .inr (3, [.ref fw, .ref fe, .ref ff, .int z])), (fw, .inl (f1, 30, .inr (.inl gw))), (fe, .inl (f2, 30, .inl ge)), (ff, .inl (f3, 150, .inl gf))]) [3, 0, 1, 2] rfl
    have hD9 := hD.sub (ws' := [(h0, .inr (3, [.ref fw, .ref fe, .ref ff, .int z])), (fw, .inl (f1, 30, .inr (.inl gw))), (fe, .inl (f2, 30, .inl ge)), (ff, .inl (f3, 150, .inl gf))]) [3, 0, 1, 2] (by decide) rfl
    have hK9 := hK.sub (tys' := [(f1, .long), (f2, .int), (f3, .int)]) [0, 1, 2] rfl
    exact W.iret (v := x_6) hx hb hr (fun t ht hW => ⟨⟨x_6, (), rfl, by rw [ex_6]; exact congrArg gf (zn_5 (by omega) (by omega) (by omega)), by rw [ht]; exact hP9, va_K.moved hW.alike hK9, hD9⟩, hS.F ht⟩) hS.2.2 dX3_fact_22
set_option maxHeartbeats 4000000 in
set_option maxRecDepth 100000 in
theorem c_X3_oneMore_x (l : Launch) (dC : Nat → ClassId) (dI : Nat → Nat → Nat) (aK aV : Nat → Nat) (h0 : Nat) (fw : Nat) (fe : Nat) (ff : Nat) (f1 : ClassId) (f2 : ClassId) (f3 : ClassId) (z : Int32) (gw : Nat → Int64) (ge : Nat → Int32) (gf : Nat → Int32) (i : Int32) (w : Int32) (sz : Nat) (hz0 : 0 ≤ z.toInt) (hz1 : z.toInt ≤ 30) (hi0 : 0 ≤ i.toInt) (hi1 : i.toInt < z.toInt) (hw0 : 0 ≤ w.toInt) (hw1 : w.toInt < 5) : Met l yX3_oneMore (Cond.code yX3_oneMore cX3_oneMore 3 none :: zw) ({ frames := 10, cells := 0, slots := 0, locals := 300 }) (va_Pc [.ref h0, .int i, .int w] (zP dC dI aK aV sz [(f1, .long), (f2, .int), (f3, .int)] [(h0, .inr (3, [.ref fw, .ref fe, .ref ff, .int z])), (fw, .inl (f1, 30, .inr (.inl gw))), (fe, .inl (f2, 30, .inl ge)), (ff, .inl (f3, 150, .inl gf))])) (va_Qv (fun u : (Nat → Int32) => match u with | gf2 => (gf2 = upd gf (5 * Int32.toNatClampNeg i + Int32.toNatClampNeg w) (gf (5 * Int32.toNatClampNeg i + Int32.toNatClampNeg w) + 1))) (fun u => match u with | gf2 => zQ dC dI (va_A [(h0, .inr (3, [.ref fw, .ref fe, .ref ff, .int z])), (fw, .inl (f1, 30, .inr (.inl gw))), (fe, .inl (f2, 30, .inl ge)), (ff, .inl (f3, 150, .inl gf))] sz) [(f1, .long), (f2, .int), (f3, .int)] [(h0, .inr (3, [.ref fw, .ref fe, .ref ff, .int z])), (fw, .inl (f1, 30, .inr (.inl gw))), (fe, .inl (f2, 30, .inl ge)), (ff, .inl (f3, 150, .inl gf2))]) (va_A [(h0, .inr (3, [.ref fw, .ref fe, .ref ff, .int z])), (fw, .inl (f1, 30, .inr (.inl gw))), (fe, .inl (f2, 30, .inl ge)), (ff, .inl (f3, 150, .inl gf))] sz)) 0 0 (va_A [(h0, .inr (3, [.ref fw, .ref fe, .ref ff, .int z])), (fw, .inl (f1, 30, .inr (.inl gw))), (fe, .inl (f2, 30, .inl ge)), (ff, .inl (f3, 150, .inl gf))] sz) := by
  refine Met.ofW (cc := cX3_oneMore) (maxL := 3) (ret := none) (by decide) rfl ?_
  intro p e s m args below meth c s₁ B hml hv
  obtain ⟨rfl, hsz, hP, hK, hD0, hN, hT⟩ := hv
  have hx := B.exec
  have hb := B.bytes
  have hr := B.returns
  have hts := atoms_spec (ws := Cond.code yX3_oneMore cX3_oneMore 3 none :: zw) B.pre
  have hA : ∀ w ∈ zw, w.before _ s = true := fun w h => hts w (List.mem_cons_of_mem _ h)
  have hown : s.vm.findClass RX3 = some m.cls := findClass_of_methodNamed B.named
  have hlocks := B.notSynchronized
  subst hsz
  have hD := hD0.self (sz := s.heap.size)
  generalize hAe : va_A [(h0, .inr (3, [.ref fw, .ref fe, .ref ff, .int z])), (fw, .inl (f1, 30, .inr (.inl gw))), (fe, .inl (f2, 30, .inl ge)), (ff, .inl (f3, 150, .inl gf))] s.heap.size = A at hD hT ⊢
  have hAA : ∀ q : Nat, s.heap.size ≤ q → A q := fun q h => by rw [← hAe]; exact Or.inr h
  have hS : va_S A s.heap s.heap [] := va_S.rf
  have hl := lv_entry ([.ref h0, .int i, .int w]) (n := 3) (Nat.le_of_ble_eq_true rfl)
  rw [lg_entry_eq]
  generalize (lg_sl ([.ref h0, .int i, .int w]) ++ List.replicate (3 - (lg_sl ([.ref h0, .int i, .int w])).length) Slot.unset).toArray = ls at hl ⊢
  have hl : lv_has ls 3 [(0, .ref h0), (1, .int i), (2, .int w)] := hl
  refine lv_aload_n hx hb dX3_oneMore_0 rfl (lv_at hl 0 rfl) ?_
  refine lv_iload_n hx hb dX3_oneMore_1 rfl (lv_at hl 1 rfl) ?_
  have hPc := hP.sub (ws' := [(h0, .inr (3, [.ref fw, .ref fe, .ref ff, .int z]))]) [0] rfl
  have hDc := hD.sub (ws' := [(h0, .inr (3, [.ref fw, .ref fe, .ref ff, .int z]))]) [0] (by decide) rfl
  have hKc := hK.sub (tys' := []) [] rfl
  have hFc := va_free (wc := [(h0, .inr (3, [.ref fw, .ref fe, .ref ff, .int z]))]) hD hS hAA [0] rfl
  refine va_calli (va_runV (As := [.int i]) (rest := []) ⟨hx, hb, hml, hown, hA⟩ (c_X3_has_x l dC dI aK aV h0 fw fe ff z i s.heap.size) (cwV 1 hA (zw_V wi_910 wi_911 wi_912 wi_135 (zw_good wi_913)) rfl rfl rfl (by decide +kernel) ⟨(Nat.le_of_ble_eq_true rfl), (Nat.le_of_ble_eq_true rfl)⟩) ⟨zP_blind, va_recv hKc hPc (ci := 3) (q0 := 0) rfl rfl, zz_pre hKc hPc hDc hN hT hS hFc⟩ rfl rfl hl.1 rfl (lv_room (Nat.le_of_ble_eq_true rfl)) dX3_oneMore_2 ⟨(Nat.le_of_ble_eq_true rfl), (Nat.le_of_ble_eq_true rfl)⟩) hS (fun q _ h => hFc q h) hFc (fun r_1 u t H1 locs ht hvm hw hB hz1 hk1 hS => ?_)
  obtain ⟨hP1, hK1, hD1⟩ := hB
  rw [ht] at hP1
  have hK1 := va_K.moved hvm.symm hK1
  obtain ⟨hP, hD⟩ := va_join (wr := [(fw, .inl (f1, 30, .inr (.inl gw))), (fe, .inl (f2, 30, .inl ge)), (ff, .inl (f3, 150, .inl gf))]) (w1 := [(h0, .inr (3, [.ref fw, .ref fe, .ref ff, .int z]))]) hP hD [0] [1, 2, 3] rfl rfl (by decide) (by decide) hk1 hFc hP1 hD1
  have hK := (hK.sub (tys' := [(f1, .long), (f2, .int), (f3, .int)]) [0, 1, 2] rfl).app hK1
  generalize H1 = H at hP hS ⊢
  have hP : va_P (dC, dI) vwCl [(fw, .inl (f1, 30, .inr (.inl gw))), (fe, .inl (f2, 30, .inl ge)), (ff, .inl (f3, 150, .inl gf)), (h0, .inr (3, [.ref fw, .ref fe, .ref ff, .int z]))] H := hP
  have hD : va_D A [(fw, .inl (f1, 30, .inr (.inl gw))), (fe, .inl (f2, 30, .inl ge)), (ff, .inl (f3, 150, .inl gf)), (h0, .inr (3, [.ref fw, .ref fe, .ref ff, .int z]))] := hD
  have hK : va_K (dC, dI) vwCl [(f1, .long), (f2, .int), (f3, .int)] s := hK
  have hw_r_1 := hw
  try dsimp only at hw_r_1
  have hq_2 := hw
  refine lv_if_eq (tgt := 22) hx hb dX3_oneMore_5 (by decide) (fun c_3 => ?_) (fun c_3 => ?_)
  · have ic_3 : r_1.toInt = 0 := zi_eq c_3
    exfalso
    omega
  · have ic_3 : r_1.toInt ≠ 0 := zi_ne c_3
    refine lv_aload_n hx hb dX3_oneMore_8 rfl (lv_at hl 0 rfl) ?_
    refine va_get (D := (dC, dI)) (ci := 3) (v := .ref ff) (C := RX3) (T := TX3) (N := 4) hx hb hA zin_X3 hown hK hP 3 rfl rfl 2 (by decide) (hA _ wi_294) (fun _ h9 => h9) rfl dX3_oneMore_9 ?_
    refine lv_iload_n hx hb dX3_oneMore_12 rfl (lv_at hl 1 rfl) ?_
    refine lv_iconst (v := 5) hx hb dX3_oneMore_13 (by decide) ?_
    refine lv_imul hx hb dX3_oneMore_14 ?_
    refine lv_topi (fun x_4 ex_4 => ?_)
    have ix_4 : x_4.toInt = i.toInt * 5 := by rw [ex_4]; exact zi_mulc (by decide) (by omega) (by omega)
    refine lv_iload_n hx hb dX3_oneMore_15 rfl (lv_at hl 2 rfl) ?_
    refine lv_iadd hx hb dX3_oneMore_16 ?_
    refine lv_topi (fun x_5 ex_5 => ?_)
    have ix_5 : x_5.toInt = x_4.toInt + w.toInt := by rw [ex_5]; exact zi_addc rfl (by omega) (by omega)
    refine lv_dup2_11 hx hb dX3_oneMore_17 rfl rfl ?_
    refine va_iald hx hb hK hP 2 2 rfl rfl (vp_in_iff.mpr ⟨by omega, by omega⟩) dX3_oneMore_18 ?_
    refine lv_topi (fun x_6 ex_6 => ?_)
    refine lv_iconst (v := 1) hx hb dX3_oneMore_19 (by decide) ?_
    refine lv_iadd hx hb dX3_oneMore_20 ?_
    refine lv_topi (fun x_7 ex_7 => ?_)
    refine va_iast hx hb hK hP hD hS 2 2 rfl rfl (vp_in_iff.mpr ⟨by omega, by omega⟩) dX3_oneMore_21 (fun H locs hP hD hS => ?_)
    obtain ⟨f_8, ef_8⟩ : ∃ gz9 : Nat → Int32, gz9 = upd gf (Int32.toNatClampNeg x_5) x_7 := ⟨_, rfl⟩
    rw [← ef_8] at hP hD
    have hP : va_P (dC, dI) vwCl [(fw, .inl (f1, 30, .inr (.inl gw))), (fe, .inl (f2, 30, .inl ge)), (ff, .inl (f3, 150, .inl f_8)), (h0, .inr (3, [.ref fw, .ref fe, .ref ff, .int z]))] H := hP
    have hD : va_D A [(fw, .inl (f1, 30, .inr (.inl gw))), (fe, .inl (f2, 30, .inl ge)), (ff, .inl (f3, 150, .inl f_8)), (h0, .inr (3, [.ref fw, .ref fe, .ref ff, .int z]))] := hD
    have hP9 := hP.sub (ws' := [(h0, .inr (3, [.ref fw, .ref fe, .ref ff, .int z])), (fw, .inl (f1, 30, .inr (.inl gw))), (fe, .inl (f2, 30, .inl ge)), (ff, .inl (f3, 150, .inl f_8))]) [3, 0, 1, 2] rfl
    have hD9 := hD.sub (ws' := [(h0, .inr (3, [.ref fw, .ref fe, .ref ff, .int z])), (fw, .inl (f1, 30, .inr (.inl gw))), (fe, .inl (f2, 30, .inl ge)), (ff, .inl (f3, 150, .inl f_8))]) [3, 0, 1, 2] (by decide) rfl
    have hK9 := hK.sub (tys' := [(f1, .long), (f2, .int), (f3, .int)]) [0, 1, 2] rfl
    exact W.vret hx hb hr (fun t ht hW => ⟨⟨(f_8), rfl, by rw [ef_8, ex_7, ex_6, zn_5 (y := x_5) (i := i) (w := w) (by omega) (by omega) (by omega)], by rw [ht]; exact hP9, va_K.moved hW.alike hK9, hD9⟩, hS.F ht⟩) hS.2.2 dX3_oneMore_22
