section
set_option maxHeartbeats 4000000 in
set_option maxRecDepth 100000 in
theorem c_X5_takeShell_4000 (l : Launch) (dC : Nat → ClassId) (dI : Nat → Nat → Nat) (aK aV : Nat → Nat) (h0 : Nat) (mp : Nat) (gco : Nat) (mce : Nat) (sk : Nat) (kb : Nat) (kk : Nat) (ks : Nat) (sh : Nat) (mcn : Int32) (tp : Int32) (ba : Int32) (on : Int32) (sn : Int32) (mat : Int32) (alw : Int32) (st : Int32) (mo : Int32) (mh : Int32) (sp : Int32) (re : Int64) (ks1 : ClassId) (gks : Nat → Int32) (sh1 : ClassId) (gsh : Nat → Int32) (ek : Nat) (ec : Nat) (ef : Nat) (gki : Nat) (e1 : ClassId) (e2 : ClassId) (e3 : ClassId) (e_limit : Int32) (e_fresh : Int32) (e_firstFree : Int32) (e_held : Int32) (e_mostHeld : Int32) (e_made : Int32) (e_reused : Int32) (e_freed : Int32) (e_doubled : Int32) (gk : Nat → Int32) (gc : Nat → Int32) (gv : Nat → Int64) (kw : Nat) (kf : Nat) (k1 : ClassId) (k2 : ClassId) (kz : Int32) (kgw : Nat → Int64) (kgf : Nat → Int32) (wi : Int32) (sz : Nat) (hkz0 : 0 ≤ kz.toInt) (hkz1 : kz.toInt ≤ 20) (hkf : zx 4 kgf) (hsn0 : 0 ≤ sn.toInt) (hsn1 : sn.toInt ≤ 3000) (hon0 : 1 ≤ on.toInt) (hon1 : on.toInt ≤ 100) (hks : ∀ i : Nat, (i : Int) < on.toInt → 0 ≤ (gks i).toInt) (hsh : ∀ i : Nat, (i : Int) < sn.toInt → (gsh i).toInt = -1 ∨ 0 ≤ (gsh i).toInt ∧ (gsh i).toInt < 4000) : Met l yX5_takeShell (Cond.code yX5_takeShell cX5_takeShell 5 (some .int) :: zw) ({ frames := 12, cells := 0, slots := 0, locals := 400 }) (va_Pc [.ref h0, .int wi] (zP dC dI aK aV sz [(ks1, .int), (sh1, .int), (e1, .int), (e2, .int), (e3, .long), (k1, .long), (k2, .int)] [(h0, .inr (5, [.ref mp, .ref gco, .ref mce, .int mcn, .ref sk, .int tp, .int ba, .ref kb, .ref kk, .ref ks, .int on, .ref sh, .int sn, .int mat, .int alw, .int st, .int mo, .int mh, .int sp, .long re])), (ks, .inl (ks1, 100, .inl gks)), (sh, .inl (sh1, 3000, .inl gsh)), (mce, .inr (1, [.ref ek, .ref ec, .ref ef, .ref gki, .int e_limit, .int e_fresh, .int e_firstFree, .int e_held, .int e_mostHeld, .int e_made, .int e_reused, .int e_freed, .int e_doubled])), (ek, .inl (e1, 4000, .inl gk)), (ec, .inl (e2, 4000, .inl gc)), (ef, .inl (e3, 12000, .inr (.inl gv))), (gki, .inr (4, [.ref kw, .ref kf, .int kz])), (kw, .inl (k1, 20, .inr (.inl kgw))), (kf, .inl (k2, 20, .inl kgf))])) (va_Qi (fun (r : Int32) (u : (Nat → Int32)) => match u with | gsh2 => (r.toInt = -1 ∧ gsh2 = gsh ∨ ∃ i : Nat, (i : Int) < sn.toInt ∧ (gsh i).toInt ≠ -1 ∧ r = gsh i ∧ gsh2 = upd gsh i (-1))) (fun u => match u with | gsh2 => zQ dC dI (va_A [(h0, .inr (5, [.ref mp, .ref gco, .ref mce, .int mcn, .ref sk, .int tp, .int ba, .ref kb, .ref kk, .ref ks, .int on, .ref sh, .int sn, .int mat, .int alw, .int st, .int mo, .int mh, .int sp, .long re])), (ks, .inl (ks1, 100, .inl gks)), (sh, .inl (sh1, 3000, .inl gsh)), (mce, .inr (1, [.ref ek, .ref ec, .ref ef, .ref gki, .int e_limit, .int e_fresh, .int e_firstFree, .int e_held, .int e_mostHeld, .int e_made, .int e_reused, .int e_freed, .int e_doubled])), (ek, .inl (e1, 4000, .inl gk)), (ec, .inl (e2, 4000, .inl gc)), (ef, .inl (e3, 12000, .inr (.inl gv))), (gki, .inr (4, [.ref kw, .ref kf, .int kz])), (kw, .inl (k1, 20, .inr (.inl kgw))), (kf, .inl (k2, 20, .inl kgf))] sz) [(ks1, .int), (sh1, .int), (e1, .int), (e2, .int), (e3, .long), (k1, .long), (k2, .int)] [(h0, .inr (5, [.ref mp, .ref gco, .ref mce, .int mcn, .ref sk, .int tp, .int ba, .ref kb, .ref kk, .ref ks, .int on, .ref sh, .int sn, .int mat, .int alw, .int st, .int mo, .int mh, .int sp, .long re])), (ks, .inl (ks1, 100, .inl gks)), (sh, .inl (sh1, 3000, .inl gsh2)), (mce, .inr (1, [.ref ek, .ref ec, .ref ef, .ref gki, .int e_limit, .int e_fresh, .int e_firstFree, .int e_held, .int e_mostHeld, .int e_made, .int e_reused, .int e_freed, .int e_doubled])), (ek, .inl (e1, 4000, .inl gk)), (ec, .inl (e2, 4000, .inl gc)), (ef, .inl (e3, 12000, .inr (.inl gv))), (gki, .inr (4, [.ref kw, .ref kf, .int kz])), (kw, .inl (k1, 20, .inr (.inl kgw))), (kf, .inl (k2, 20, .inl kgf))]) (va_A [(h0, .inr (5, [.ref mp, .ref gco, .ref mce, .int mcn, .ref sk, .int tp, .int ba, .ref kb, .ref kk, .ref ks, .int on, .ref sh, .int sn, .int mat, .int alw, .int st, .int mo, .int mh, .int sp, .long re])), (ks, .inl (ks1, 100, .inl gks)), (sh, .inl (sh1, 3000, .inl gsh)), (mce, .inr (1, [.ref ek, .ref ec, .ref ef, .ref gki, .int e_limit, .int e_fresh, .int e_firstFree, .int e_held, .int e_mostHeld, .int e_made, .int e_reused, .int e_freed, .int e_doubled])), (ek, .inl (e1, 4000, .inl gk)), (ec, .inl (e2, 4000, .inl gc)), (ef, .inl (e3, 12000, .inr (.inl gv))), (gki, .inr (4, [.ref kw, .ref kf, .int kz])), (kw, .inl (k1, 20, .inr (.inl kgw))), (kf, .inl (k2, 20, .inl kgf))] sz)) 0 0 (va_A [(h0, .inr (5, [.ref mp, .ref gco, .ref mce, .int mcn, .ref sk, .int tp, .int ba, .ref kb, .ref kk, .ref ks, .int on, .ref sh, .int sn, .int mat, .int alw, .int st, .int mo, .int mh, .int sp, .long re])), (ks, .inl (ks1, 100, .inl gks)), (sh, .inl (sh1, 3000, .inl gsh)), (mce, .inr (1, [.ref ek, .ref ec, .ref ef, .ref gki, .int e_limit, .int e_fresh, .int e_firstFree, .int e_held, .int e_mostHeld, .int e_made, .int e_reused, .int e_freed, .int e_doubled])), (ek, .inl (e1, 4000, .inl gk)), (ec, .inl (e2, 4000, .inl gc)), (ef, .inl (e3, 12000, .inr (.inl gv))), (gki, .inr (4, [.ref kw, .ref kf, .int kz])), (kw, .inl (k1, 20, .inr (.inl kgw))), (kf, .inl (k2, 20, .inl kgf))] sz) := by
  refine Met.ofW (cc := cX5_takeShell) (maxL := 5) (ret := (some .int)) (by decide) rfl ?_
  intro p e s m args below meth c s₁ B hml hv
  obtain ⟨rfl, hsz, hP, hK, hD0, hN, hT⟩ := hv
  have hx := B.exec
  have hb := B.bytes
  have hr := B.returns
  have hts := atoms_spec (ws := Cond.code yX5_takeShell cX5_takeShell 5 (some .int) :: zw) B.pre
  have hA : ∀ w ∈ zw, w.before _ s = true := fun w h => hts w (List.mem_cons_of_mem _ h)
  have hown : s.vm.findClass RX5 = some m.cls := findClass_of_methodNamed B.named
  have hlocks := B.notSynchronized
  subst hsz
  have hD := hD0.self (sz := s.heap.size)
  generalize hAe : va_A [(h0, .inr (5, [.ref mp, .ref gco, .ref mce, .int mcn, .ref sk, .int tp, .int ba, .ref kb, .ref kk, .ref ks, .int on, .ref sh, .int sn, .int mat, .int alw, .int st, .int mo, .int mh, .int sp, .long re])), (ks, .inl (ks1, 100, .inl gks)), (sh, .inl (sh1, 3000, .inl gsh)), (mce, .inr (1, [.ref ek, .ref ec, .ref ef, .ref gki, .int e_limit, .int e_fresh, .int e_firstFree, .int e_held, .int e_mostHeld, .int e_made, .int e_reused, .int e_freed, .int e_doubled])), (ek, .inl (e1, 4000, .inl gk)), (ec, .inl (e2, 4000, .inl gc)), (ef, .inl (e3, 12000, .inr (.inl gv))), (gki, .inr (4, [.ref kw, .ref kf, .int kz])), (kw, .inl (k1, 20, .inr (.inl kgw))), (kf, .inl (k2, 20, .inl kgf))] s.heap.size = A at hD hT ⊢
  have hAA : ∀ q : Nat, s.heap.size ≤ q → A q := fun q h => by rw [← hAe]; exact Or.inr h
  have hS : va_S A s.heap s.heap [] := va_S.rf
  have hl := lv_entry ([.ref h0, .int wi]) (n := 5) (Nat.le_of_ble_eq_true rfl)
  rw [lg_entry_eq]
  generalize (lg_sl ([.ref h0, .int wi]) ++ List.replicate (5 - (lg_sl ([.ref h0, .int wi])).length) Slot.unset).toArray = ls at hl ⊢
  have hl : lv_has ls 5 [(0, .ref h0), (1, .int wi)] := hl
  refine lv_aload_n hx hb dX5_takeShell_0 rfl (lv_at hl 0 rfl) ?_
  refine va_get (D := (dC, dI)) (ci := 5) (v := .int on) (C := RX5) (T := TX5) (N := 20) hx hb hA zin_X5 hown hK hP 0 rfl rfl 10 (by decide) (hA _ wi_494) (fun _ h9 => h9) rfl dX5_takeShell_1 ?_
  refine lv_if_le (tgt := 21) hx hb dX5_takeShell_4 (by decide) (fun c_1 => ?_) (fun c_1 => ?_)
  · have ic_1 : on.toInt ≤ 0 := zi_le c_1
    exfalso
    omega
  · have ic_1 : 0 < on.toInt := zi_nle c_1
    refine lv_aload_n hx hb dX5_takeShell_7 rfl (lv_at hl 0 rfl) ?_
    refine va_get (D := (dC, dI)) (ci := 5) (v := .ref ks) (C := RX5) (T := TX5) (N := 20) hx hb hA zin_X5 hown hK hP 0 rfl rfl 9 (by decide) (hA _ wi_493) (fun _ h9 => h9) rfl dX5_takeShell_8 ?_
    refine lv_aload_n hx hb dX5_takeShell_11 rfl (lv_at hl 0 rfl) ?_
    refine va_get (D := (dC, dI)) (ci := 5) (v := .int on) (C := RX5) (T := TX5) (N := 20) hx hb hA zin_X5 hown hK hP 0 rfl rfl 10 (by decide) (hA _ wi_494) (fun _ h9 => h9) rfl dX5_takeShell_12 ?_
    refine lv_iconst (v := 1) hx hb dX5_takeShell_15 (by decide) ?_
    refine lv_isub hx hb dX5_takeShell_16 ?_
    refine lv_topi (fun x_2 ex_2 => ?_)
    have ix_2 : x_2.toInt = on.toInt - 1 := by rw [ex_2]; exact zi_subc (by decide) (by omega) (by omega)
    refine va_iald hx hb hK hP 1 0 rfl rfl (vp_in_iff.mpr ⟨by omega, by omega⟩) dX5_takeShell_17 ?_
    refine lv_topi (fun x_3 ex_3 => ?_)
    have ix_3 : 0 ≤ x_3.toInt := by rw [ex_3]; exact hks _ (by have := zn_nat (x := x_2) (by omega); omega)
    refine lv_goto (tgt := 22) hx hb dX5_takeShell_18 (by decide) ?_
    refine lv_istore_n (lv' := [(2, .int x_3), (0, .ref h0), (1, .int wi)]) hx hb dX5_takeShell_22 rfl hl (by decide) rfl (fun ls hl => ?_)
    refine lv_aload_n hx hb dX5_takeShell_23 rfl (lv_at hl 1 rfl) ?_
    refine va_get (D := (dC, dI)) (ci := 5) (v := .int sn) (C := RX5) (T := TX5) (N := 20) hx hb hA zin_X5 hown hK hP 0 rfl rfl 12 (by decide) (hA _ wi_496) (fun _ h9 => h9) rfl dX5_takeShell_24 ?_
    refine lv_iconst (v := 1) hx hb dX5_takeShell_27 (by decide) ?_
    refine lv_isub hx hb dX5_takeShell_28 ?_
    refine lv_topi (fun x_4 ex_4 => ?_)
    have ix_4 : x_4.toInt = sn.toInt - 1 := by rw [ex_4]; exact zi_subc (by decide) (by omega) (by omega)
    refine lv_istore_n (lv' := [(3, .int x_4), (2, .int x_3), (0, .ref h0), (1, .int wi)]) hx hb dX5_takeShell_29 rfl hl (by decide) rfl (fun ls hl => ?_)
    have loop_30 : ∀ (n9 : Nat) (i : Int32) (H : Heap) (locs : List Loc) (ls : Array Slot), (i.toInt + 2).toNat ≤ n9 → -1 ≤ i.toInt → i.toInt < sn.toInt → va_P (dC, dI) vwCl [(h0, .inr (5, [.ref mp, .ref gco, .ref mce, .int mcn, .ref sk, .int tp, .int ba, .ref kb, .ref kk, .ref ks, .int on, .ref sh, .int sn, .int mat, .int alw, .int st, .int mo, .int mh, .int sp, .long re])), (ks, .inl (ks1, 100, .inl gks)), (sh, .inl (sh1, 3000, .inl gsh)), (mce, .inr (1, [.ref ek, .ref ec, .ref ef, .ref gki, .int e_limit, .int e_fresh, .int e_firstFree, .int e_held, .int e_mostHeld, .int e_made, .int e_reused, .int e_freed, .int e_doubled])), (ek, .inl (e1, 4000, .inl gk)), (ec, .inl (e2, 4000, .inl gc)), (ef, .inl (e3, 12000, .inr (.inl gv))), (gki, .inr (4, [.ref kw, .ref kf, .int kz])), (kw, .inl (k1, 20, .inr (.inl kgw))), (kf, .inl (k2, 20, .inl kgf))] H → va_D A [(h0, .inr (5, [.ref mp, .ref gco, .ref mce, .int mcn, .ref sk, .int tp, .int ba, .ref kb, .ref kk, .ref ks, .int on, .ref sh, .int sn, .int mat, .int alw, .int st, .int mo, .int mh, .int sp, .long re])), (ks, .inl (ks1, 100, .inl gks)), (sh, .inl (sh1, 3000, .inl gsh)), (mce, .inr (1, [.ref ek, .ref ec, .ref ef, .ref gki, .int e_limit, .int e_fresh, .int e_firstFree, .int e_held, .int e_mostHeld, .int e_made, .int e_reused, .int e_freed, .int e_doubled])), (ek, .inl (e1, 4000, .inl gk)), (ec, .inl (e2, 4000, .inl gc)), (ef, .inl (e3, 12000, .inr (.inl gv))), (gki, .inr (4, [.ref kw, .ref kf, .int kz])), (kw, .inl (k1, 20, .inr (.inl kgw))), (kf, .inl (k2, 20, .inl kgf))] → va_S A s.heap H locs → lv_has ls 5 [(3, .int i), (2, .int x_3), (0, .ref h0), (1, .int wi)] → W p l e (headSpec (Cond.code yX5_takeShell cX5_takeShell 5 (some .int) :: zw) ({ frames := 12, cells := 0, slots := 0, locals := 400 })).room s m #[.ref h0, .int wi] below meth c H locs 0 0 (MQ below (va_Qi (fun (r : Int32) (u : (Nat → Int32)) => match u with | gsh2 => (r.toInt = -1 ∧ gsh2 = gsh ∨ ∃ i : Nat, (i : Int) < sn.toInt ∧ (gsh i).toInt ≠ -1 ∧ r = gsh i ∧ gsh2 = upd gsh i (-1))) (fun u => match u with | gsh2 => zQ dC dI A [(ks1, .int), (sh1, .int), (e1, .int), (e2, .int), (e3, .long), (k1, .long), (k2, .int)] [(h0, .inr (5, [.ref mp, .ref gco, .ref mce, .int mcn, .ref sk, .int tp, .int ba, .ref kb, .ref kk, .ref ks, .int on, .ref sh, .int sn, .int mat, .int alw, .int st, .int mo, .int mh, .int sp, .long re])), (ks, .inl (ks1, 100, .inl gks)), (sh, .inl (sh1, 3000, .inl gsh2)), (mce, .inr (1, [.ref ek, .ref ec, .ref ef, .ref gki, .int e_limit, .int e_fresh, .int e_firstFree, .int e_held, .int e_mostHeld, .int e_made, .int e_reused, .int e_freed, .int e_doubled])), (ek, .inl (e1, 4000, .inl gk)), (ec, .inl (e2, 4000, .inl gc)), (ef, .inl (e3, 12000, .inr (.inl gv))), (gki, .inr (4, [.ref kw, .ref kf, .int kz])), (kw, .inl (k1, 20, .inr (.inl kgw))), (kf, .inl (k2, 20, .inl kgf))]) A) #[.ref h0, .int wi] s 0 0 A) (F0 m 30 ls []) := by
      intro n9
      induction n9 with
      | zero => intro i H locs ls hm hi0 hi1; exfalso; omega
      | succ n9 ih =>
        intro i H locs ls hm hi0 hi1 hP hD hS hl
        refine lv_iload_n hx hb dX5_takeShell_30 rfl (lv_at hl 0 rfl) ?_
        refine lv_iload_n hx hb dX5_takeShell_31 rfl (lv_at hl 1 rfl) ?_
        refine lv_icmp_lt (tgt := 78) hx hb dX5_takeShell_32 (by decide) (fun c_5 => ?_) (fun c_5 => ?_)
        · have ic_5 : i.toInt < x_3.toInt := zi_lt c_5
          refine lv_iconst (v := (-1)) hx hb dX5_takeShell_78 (by decide) ?_
          have hlit : Int32.toInt (-1) = (-1) := by decide
          have hP9 := hP.sub (ws' := [(h0, .inr (5, [.ref mp, .ref gco, .ref mce, .int mcn, .ref sk, .int tp, .int ba, .ref kb, .ref kk, .ref ks, .int on, .ref sh, .int sn, .int mat, .int alw, .int st, .int mo, .int mh, .int sp, .long re])), (ks, .inl (ks1, 100, .inl gks)), (sh, .inl (sh1, 3000, .inl gsh)), (mce, .inr (1, [.ref ek, .ref ec, .ref ef, .ref gki, .int e_limit, .int e_fresh, .int e_firstFree, .int e_held, .int e_mostHeld, .int e_made, .int e_reused, .int e_freed, .int e_doubled])), (ek, .inl (e1, 4000, .inl gk)), (ec, .inl (e2, 4000, .inl gc)), (ef, .inl (e3, 12000, .inr (.inl gv))), (gki, .inr (4, [.ref kw, .ref kf, .int kz])), (kw, .inl (k1, 20, .inr (.inl kgw))), (kf, .inl (k2, 20, .inl kgf))]) [0, 1, 2, 3, 4, 5, 6, 7, 8, 9] rfl
          have hD9 := hD.sub (ws' := [(h0, .inr (5, [.ref mp, .ref gco, .ref mce, .int mcn, .ref sk, .int tp, .int ba, .ref kb, .ref kk, .ref ks, .int on, .ref sh, .int sn, .int mat, .int alw, .int st, .int mo, .int mh, .int sp, .long re])), (ks, .inl (ks1, 100, .inl gks)), (sh, .inl (sh1, 3000, .inl gsh)), (mce, .inr (1, [.ref ek, .ref ec, .ref ef, .ref gki, .int e_limit, .int e_fresh, .int e_firstFree, .int e_held, .int e_mostHeld, .int e_made, .int e_reused, .int e_freed, .int e_doubled])), (ek, .inl (e1, 4000, .inl gk)), (ec, .inl (e2, 4000, .inl gc)), (ef, .inl (e3, 12000, .inr (.inl gv))), (gki, .inr (4, [.ref kw, .ref kf, .int kz])), (kw, .inl (k1, 20, .inr (.inl kgw))), (kf, .inl (k2, 20, .inl kgf))]) [0, 1, 2, 3, 4, 5, 6, 7, 8, 9] (by decide) rfl
          have hK9 := hK.sub (tys' := [(ks1, .int), (sh1, .int), (e1, .int), (e2, .int), (e3, .long), (k1, .long), (k2, .int)]) [0, 1, 2, 3, 4, 5, 6] rfl
          exact W.iret (v := (-1)) hx hb hr (fun t ht hW => ⟨⟨(-1), (gsh), rfl, (Or.inl ⟨by decide, rfl⟩), by rw [ht]; exact hP9, va_K.moved hW.alike hK9, hD9⟩, hS.F ht⟩) hS.2.2 dX5_takeShell_79
        · have ic_5 : x_3.toInt ≤ i.toInt := zi_nlt c_5
          refine lv_aload_n hx hb dX5_takeShell_35 rfl (lv_at hl 2 rfl) ?_
          refine va_get (D := (dC, dI)) (ci := 5) (v := .ref sh) (C := RX5) (T := TX5) (N := 20) hx hb hA zin_X5 hown hK hP 0 rfl rfl 11 (by decide) (hA _ wi_495) (fun _ h9 => h9) rfl dX5_takeShell_36 ?_
          refine lv_iload_n hx hb dX5_takeShell_39 rfl (lv_at hl 0 rfl) ?_
          refine va_iald hx hb hK hP 2 1 rfl rfl (vp_in_iff.mpr ⟨by omega, by omega⟩) dX5_takeShell_40 ?_
          refine lv_topi (fun x_6 ex_6 => ?_)
          have ix_6 : x_6.toInt = -1 ∨ 0 ≤ x_6.toInt ∧ x_6.toInt < 4000 := by rw [ex_6]; exact hsh _ (by have := zn_nat (x := i) (by omega); omega)
          refine lv_istore (lv' := [(4, .int x_6), (3, .int i), (2, .int x_3), (0, .ref h0), (1, .int wi)]) hx hb dX5_takeShell_41 hl (by decide) rfl (fun ls hl => ?_)
          refine lv_iload hx hb dX5_takeShell_43 (lv_at hl 0 rfl) ?_
          refine lv_iconst (v := (-1)) hx hb dX5_takeShell_45 (by decide) ?_
          refine lv_icmp_eq (tgt := 72) hx hb dX5_takeShell_46 (by decide) (fun c_7 => ?_) (fun c_7 => ?_)
          · have ic_7 : x_6.toInt = (-1) := zi_eq c_7
            obtain ⟨x_8, ex_8⟩ : ∃ y : Int32, y = i + Int32.ofInt (-1) := ⟨_, rfl⟩
            refine lv_iinc (v := x_8) (lv' := [(3, .int x_8), (4, .int x_6), (2, .int x_3), (0, .ref h0), (1, .int wi)]) hx hb dX5_takeShell_72 hl (k := 1) rfl (by rw [ex_8]) (by decide) rfl (fun ls hl => ?_)
            have ix_8 : x_8.toInt = i.toInt + (-1) := by rw [ex_8]; exact zi_addc (by decide) (by omega) (by omega)
            refine lv_goto (tgt := 30) hx hb dX5_takeShell_75 (by decide) ?_
            exact ih x_8 _ _ _ (by omega) (by omega) (by omega) (hP.sub [0, 1, 2, 3, 4, 5, 6, 7, 8, 9] rfl) (hD.sub [0, 1, 2, 3, 4, 5, 6, 7, 8, 9] (by decide) rfl) hS (lv_sub hl [0, 2, 3, 4] rfl)
          · have ic_7 : x_6.toInt ≠ (-1) := zi_ne c_7
            refine lv_aload_n hx hb dX5_takeShell_49 rfl (lv_at hl 3 rfl) ?_
            refine va_get (D := (dC, dI)) (ci := 5) (v := .ref mce) (C := RX5) (T := TX5) (N := 20) hx hb hA zin_X5 hown hK hP 0 rfl rfl 2 (by decide) (hA _ wi_486) (fun _ h9 => h9) rfl dX5_takeShell_50 ?_
            refine lv_iload hx hb dX5_takeShell_53 (lv_at hl 0 rfl) ?_
            have hPc := hP.sub (ws' := [(mce, .inr (1, [.ref ek, .ref ec, .ref ef, .ref gki, .int e_limit, .int e_fresh, .int e_firstFree, .int e_held, .int e_mostHeld, .int e_made, .int e_reused, .int e_freed, .int e_doubled])), (ek, .inl (e1, 4000, .inl gk)), (ec, .inl (e2, 4000, .inl gc)), (ef, .inl (e3, 12000, .inr (.inl gv))), (gki, .inr (4, [.ref kw, .ref kf, .int kz])), (kw, .inl (k1, 20, .inr (.inl kgw))), (kf, .inl (k2, 20, .inl kgf))]) [3, 4, 5, 6, 7, 8, 9] rfl
            have hDc := hD.sub (ws' := [(mce, .inr (1, [.ref ek, .ref ec, .ref ef, .ref gki, .int e_limit, .int e_fresh, .int e_firstFree, .int e_held, .int e_mostHeld, .int e_made, .int e_reused, .int e_freed, .int e_doubled])), (ek, .inl (e1, 4000, .inl gk)), (ec, .inl (e2, 4000, .inl gc)), (ef, .inl (e3, 12000, .inr (.inl gv))), (gki, .inr (4, [.ref kw, .ref kf, .int kz])), (kw, .inl (k1, 20, .inr (.inl kgw))), (kf, .inl (k2, 20, .inl kgf))]) [3, 4, 5, 6, 7, 8, 9] (by decide) rfl
            have hKc := hK.sub (tys' := [(e1, .int), (e2, .int), (e3, .long), (k1, .long), (k2, .int)]) [2, 3, 4, 5, 6] rfl
            have hFc := va_free (wc := [(mce, .inr (1, [.ref ek, .ref ec, .ref ef, .ref gki, .int e_limit, .int e_fresh, .int e_firstFree, .int e_held, .int e_mostHeld, .int e_made, .int e_reused, .int e_freed, .int e_doubled])), (ek, .inl (e1, 4000, .inl gk)), (ec, .inl (e2, 4000, .inl gc)), (ef, .inl (e3, 12000, .inr (.inl gv))), (gki, .inr (4, [.ref kw, .ref kf, .int kz])), (kw, .inl (k1, 20, .inr (.inl kgw))), (kf, .inl (k2, 20, .inl kgf))]) hD hS hAA [3, 4, 5, 6, 7, 8, 9] rfl
            refine va_calli (va_runV (As := [.int x_6]) (rest := []) ⟨hx, hb, hml, hown, hA⟩ (c_X1_width_x4000 l dC dI aK aV mce ek ec ef gki e1 e2 e3 e_limit e_fresh e_firstFree e_held e_mostHeld e_made e_reused e_freed e_doubled gk gc gv kw kf k1 k2 kz kgw kgf x_6 H.size (by omega) (by omega) hkf (by omega) (by omega)) (cwV 1 hA (zw_V wi_1202 wi_1151 wi_1152 wi_140 (zw_good wi_1153)) rfl rfl rfl (by decide +kernel) ⟨(Nat.le_of_ble_eq_true rfl), (Nat.le_of_ble_eq_true rfl)⟩) ⟨zP_blind, va_recv hKc hPc (ci := 1) (q0 := 0) rfl rfl, zz_pre hKc hPc hDc hN hT hS hFc⟩ rfl rfl hl.1 rfl (lv_room (Nat.le_of_ble_eq_true rfl)) dX5_takeShell_55 ⟨(Nat.le_of_ble_eq_true rfl), (Nat.le_of_ble_eq_true rfl)⟩) hS (fun q _ h => hFc q h) hFc (fun r_9 u t H1 locs ht hvm hw hB hz1 hk1 hS => ?_)
            obtain ⟨hP1, hK1, hD1⟩ := hB
            rw [ht] at hP1
            have hK1 := va_K.moved hvm.symm hK1
            obtain ⟨hP, hD⟩ := va_join (wr := [(h0, .inr (5, [.ref mp, .ref gco, .ref mce, .int mcn, .ref sk, .int tp, .int ba, .ref kb, .ref kk, .ref ks, .int on, .ref sh, .int sn, .int mat, .int alw, .int st, .int mo, .int mh, .int sp, .long re])), (ks, .inl (ks1, 100, .inl gks)), (sh, .inl (sh1, 3000, .inl gsh))]) (w1 := [(mce, .inr (1, [.ref ek, .ref ec, .ref ef, .ref gki, .int e_limit, .int e_fresh, .int e_firstFree, .int e_held, .int e_mostHeld, .int e_made, .int e_reused, .int e_freed, .int e_doubled])), (ek, .inl (e1, 4000, .inl gk)), (ec, .inl (e2, 4000, .inl gc)), (ef, .inl (e3, 12000, .inr (.inl gv))), (gki, .inr (4, [.ref kw, .ref kf, .int kz])), (kw, .inl (k1, 20, .inr (.inl kgw))), (kf, .inl (k2, 20, .inl kgf))]) hP hD [3, 4, 5, 6, 7, 8, 9] [0, 1, 2] rfl rfl (by decide) (by decide) hk1 hFc hP1 hD1
            have hK := (hK.sub (tys' := [(ks1, .int), (sh1, .int)]) [0, 1] rfl).app hK1
            generalize H1 = H at hP hS ⊢
            have hP : va_P (dC, dI) vwCl [(h0, .inr (5, [.ref mp, .ref gco, .ref mce, .int mcn, .ref sk, .int tp, .int ba, .ref kb, .ref kk, .ref ks, .int on, .ref sh, .int sn, .int mat, .int alw, .int st, .int mo, .int mh, .int sp, .long re])), (ks, .inl (ks1, 100, .inl gks)), (sh, .inl (sh1, 3000, .inl gsh)), (mce, .inr (1, [.ref ek, .ref ec, .ref ef, .ref gki, .int e_limit, .int e_fresh, .int e_firstFree, .int e_held, .int e_mostHeld, .int e_made, .int e_reused, .int e_freed, .int e_doubled])), (ek, .inl (e1, 4000, .inl gk)), (ec, .inl (e2, 4000, .inl gc)), (ef, .inl (e3, 12000, .inr (.inl gv))), (gki, .inr (4, [.ref kw, .ref kf, .int kz])), (kw, .inl (k1, 20, .inr (.inl kgw))), (kf, .inl (k2, 20, .inl kgf))] H := hP
            have hD : va_D A [(h0, .inr (5, [.ref mp, .ref gco, .ref mce, .int mcn, .ref sk, .int tp, .int ba, .ref kb, .ref kk, .ref ks, .int on, .ref sh, .int sn, .int mat, .int alw, .int st, .int mo, .int mh, .int sp, .long re])), (ks, .inl (ks1, 100, .inl gks)), (sh, .inl (sh1, 3000, .inl gsh)), (mce, .inr (1, [.ref ek, .ref ec, .ref ef, .ref gki, .int e_limit, .int e_fresh, .int e_firstFree, .int e_held, .int e_mostHeld, .int e_made, .int e_reused, .int e_freed, .int e_doubled])), (ek, .inl (e1, 4000, .inl gk)), (ec, .inl (e2, 4000, .inl gc)), (ef, .inl (e3, 12000, .inr (.inl gv))), (gki, .inr (4, [.ref kw, .ref kf, .int kz])), (kw, .inl (k1, 20, .inr (.inl kgw))), (kf, .inl (k2, 20, .inl kgf))] := hD
            have hK : va_K (dC, dI) vwCl [(ks1, .int), (sh1, .int), (e1, .int), (e2, .int), (e3, .long), (k1, .long), (k2, .int)] s := hK
            have hw_r_9 := hw
            try dsimp only at hw_r_9
            obtain ⟨hq_10, hq_11, hq_12⟩ := hw
            refine lv_iload_n hx hb dX5_takeShell_58 rfl (lv_at hl 4 rfl) ?_
            refine lv_icmp_ne (tgt := 72) hx hb dX5_takeShell_59 (by decide) (fun c_13 => ?_) (fun c_13 => ?_)
            · have ic_13 : r_9.toInt ≠ wi.toInt := zi_ne c_13
              obtain ⟨x_14, ex_14⟩ : ∃ y : Int32, y = i + Int32.ofInt (-1) := ⟨_, rfl⟩
              refine lv_iinc (v := x_14) (lv' := [(3, .int x_14), (4, .int x_6), (2, .int x_3), (0, .ref h0), (1, .int wi)]) hx hb dX5_takeShell_72 hl (k := 1) rfl (by rw [ex_14]) (by decide) rfl (fun ls hl => ?_)
              have ix_14 : x_14.toInt = i.toInt + (-1) := by rw [ex_14]; exact zi_addc (by decide) (by omega) (by omega)
              refine lv_goto (tgt := 30) hx hb dX5_takeShell_75 (by decide) ?_
              exact ih x_14 _ _ _ (by omega) (by omega) (by omega) (hP.sub [0, 1, 2, 3, 4, 5, 6, 7, 8, 9] rfl) (hD.sub [0, 1, 2, 3, 4, 5, 6, 7, 8, 9] (by decide) rfl) hS (lv_sub hl [0, 2, 3, 4] rfl)
            · have ic_13 : r_9.toInt = wi.toInt := zi_eq c_13
              refine lv_aload_n hx hb dX5_takeShell_62 rfl (lv_at hl 3 rfl) ?_
              refine va_get (D := (dC, dI)) (ci := 5) (v := .ref sh) (C := RX5) (T := TX5) (N := 20) hx hb hA zin_X5 hown hK hP 0 rfl rfl 11 (by decide) (hA _ wi_495) (fun _ h9 => h9) rfl dX5_takeShell_63 ?_
              refine lv_iload_n hx hb dX5_takeShell_66 rfl (lv_at hl 1 rfl) ?_
              refine lv_iconst (v := (-1)) hx hb dX5_takeShell_67 (by decide) ?_
              refine va_iast hx hb hK hP hD hS 2 1 rfl rfl (vp_in_iff.mpr ⟨by omega, by omega⟩) dX5_takeShell_68 (fun H locs hP hD hS => ?_)
              obtain ⟨f_15, ef_15⟩ : ∃ gz9 : Nat → Int32, gz9 = upd gsh (Int32.toNatClampNeg i) (-1) := ⟨_, rfl⟩
              rw [← ef_15] at hP hD
              have hP : va_P (dC, dI) vwCl [(h0, .inr (5, [.ref mp, .ref gco, .ref mce, .int mcn, .ref sk, .int tp, .int ba, .ref kb, .ref kk, .ref ks, .int on, .ref sh, .int sn, .int mat, .int alw, .int st, .int mo, .int mh, .int sp, .long re])), (ks, .inl (ks1, 100, .inl gks)), (sh, .inl (sh1, 3000, .inl f_15)), (mce, .inr (1, [.ref ek, .ref ec, .ref ef, .ref gki, .int e_limit, .int e_fresh, .int e_firstFree, .int e_held, .int e_mostHeld, .int e_made, .int e_reused, .int e_freed, .int e_doubled])), (ek, .inl (e1, 4000, .inl gk)), (ec, .inl (e2, 4000, .inl gc)), (ef, .inl (e3, 12000, .inr (.inl gv))), (gki, .inr (4, [.ref kw, .ref kf, .int kz])), (kw, .inl (k1, 20, .inr (.inl kgw))), (kf, .inl (k2, 20, .inl kgf))] H := hP
              have hD : va_D A [(h0, .inr (5, [.ref mp, .ref gco, .ref mce, .int mcn, .ref sk, .int tp, .int ba, .ref kb, .ref kk, .ref ks, .int on, .ref sh, .int sn, .int mat, .int alw, .int st, .int mo, .int mh, .int sp, .long re])), (ks, .inl (ks1, 100, .inl gks)), (sh, .inl (sh1, 3000, .inl f_15)), (mce, .inr (1, [.ref ek, .ref ec, .ref ef, .ref gki, .int e_limit, .int e_fresh, .int e_firstFree, .int e_held, .int e_mostHeld, .int e_made, .int e_reused, .int e_freed, .int e_doubled])), (ek, .inl (e1, 4000, .inl gk)), (ec, .inl (e2, 4000, .inl gc)), (ef, .inl (e3, 12000, .inr (.inl gv))), (gki, .inr (4, [.ref kw, .ref kf, .int kz])), (kw, .inl (k1, 20, .inr (.inl kgw))), (kf, .inl (k2, 20, .inl kgf))] := hD
              refine lv_iload hx hb dX5_takeShell_69 (lv_at hl 0 rfl) ?_
              have hP9 := hP.sub (ws' := [(h0, .inr (5, [.ref mp, .ref gco, .ref mce, .int mcn, .ref sk, .int tp, .int ba, .ref kb, .ref kk, .ref ks, .int on, .ref sh, .int sn, .int mat, .int alw, .int st, .int mo, .int mh, .int sp, .long re])), (ks, .inl (ks1, 100, .inl gks)), (sh, .inl (sh1, 3000, .inl f_15)), (mce, .inr (1, [.ref ek, .ref ec, .ref ef, .ref gki, .int e_limit, .int e_fresh, .int e_firstFree, .int e_held, .int e_mostHeld, .int e_made, .int e_reused, .int e_freed, .int e_doubled])), (ek, .inl (e1, 4000, .inl gk)), (ec, .inl (e2, 4000, .inl gc)), (ef, .inl (e3, 12000, .inr (.inl gv))), (gki, .inr (4, [.ref kw, .ref kf, .int kz])), (kw, .inl (k1, 20, .inr (.inl kgw))), (kf, .inl (k2, 20, .inl kgf))]) [0, 1, 2, 3, 4, 5, 6, 7, 8, 9] rfl
              have hD9 := hD.sub (ws' := [(h0, .inr (5, [.ref mp, .ref gco, .ref mce, .int mcn, .ref sk, .int tp, .int ba, .ref kb, .ref kk, .ref ks, .int on, .ref sh, .int sn, .int mat, .int alw, .int st, .int mo, .int mh, .int sp, .long re])), (ks, .inl (ks1, 100, .inl gks)), (sh, .inl (sh1, 3000, .inl f_15)), (mce, .inr (1, [.ref ek, .ref ec, .ref ef, .ref gki, .int e_limit, .int e_fresh, .int e_firstFree, .int e_held, .int e_mostHeld, .int e_made, .int e_reused, .int e_freed, .int e_doubled])), (ek, .inl (e1, 4000, .inl gk)), (ec, .inl (e2, 4000, .inl gc)), (ef, .inl (e3, 12000, .inr (.inl gv))), (gki, .inr (4, [.ref kw, .ref kf, .int kz])), (kw, .inl (k1, 20, .inr (.inl kgw))), (kf, .inl (k2, 20, .inl kgf))]) [0, 1, 2, 3, 4, 5, 6, 7, 8, 9] (by decide) rfl
              have hK9 := hK.sub (tys' := [(ks1, .int), (sh1, .int), (e1, .int), (e2, .int), (e3, .long), (k1, .long), (k2, .int)]) [0, 1, 2, 3, 4, 5, 6] rfl
              exact W.iret (v := x_6) hx hb hr (fun t ht hW => ⟨⟨x_6, (f_15), rfl, (Or.inr ⟨Int32.toNatClampNeg i, by have := zn_nat (x := i) (by omega); omega, by rw [← ex_6]; omega, ex_6, ef_15⟩), by rw [ht]; exact hP9, va_K.moved hW.alike hK9, hD9⟩, hS.F ht⟩) hS.2.2 dX5_takeShell_71
    exact loop_30 _ x_4 _ _ _ (Nat.le_refl _) (by omega) (by omega) (hP.sub [0, 1, 2, 3, 4, 5, 6, 7, 8, 9] rfl) (hD.sub [0, 1, 2, 3, 4, 5, 6, 7, 8, 9] (by decide) rfl) hS (lv_sub hl [0, 1, 2, 3] rfl)
set_option maxHeartbeats 4000000 in
set_option maxRecDepth 100000 in
theorem c_X5_leaveArm_4000 (l : Launch) (dC : Nat → ClassId) (dI : Nat → Nat → Nat) (aK aV : Nat → Nat) (h0 : Nat) (mp : Nat) (gco : Nat) (mce : Nat) (sk : Nat) (kb : Nat) (kk : Nat) (ks : Nat) (sh : Nat) (mcn : Int32) (tp : Int32) (ba : Int32) (on : Int32) (sn : Int32) (mat : Int32) (alw : Int32) (st : Int32) (mo : Int32) (mh : Int32) (sp : Int32) (re : Int64) (cop : Nat) (ca : Nat) (cb : Nat) (cplace : Nat) (cnext : Nat) (cneeded : Nat) (cz : Int32) (ct : Int32) (cka : ClassId) (cknext : ClassId) (cga : Nat → Int32) (cgnext : Nat → Int32) (sh1 : ClassId) (gsh : Nat → Int32) (ek : Nat) (ec : Nat) (ef : Nat) (gki : Nat) (e1 : ClassId) (e2 : ClassId) (e3 : ClassId) (e_limit : Int32) (e_fresh : Int32) (e_firstFree : Int32) (e_held : Int32) (e_mostHeld : Int32) (e_made : Int32) (e_reused : Int32) (e_freed : Int32) (e_doubled : Int32) (gk : Nat → Int32) (gc : Nat → Int32) (gv : Nat → Int64) (kz : Int32) (kgf : Nat → Int32) (ro : Int32) (gs : Nat → Int64) (nS : Nat) (pp : Nat → Bool) (sz : Nat) (hr0 : 0 ≤ ro.toInt) (hr1 : ro.toInt < 3000) (har : -1 ≤ (cga (Int32.toNatClampNeg ro)).toInt ∧ (cga (Int32.toNatClampNeg ro)).toInt < 3000) (hsn0 : 0 ≤ sn.toInt) (hsn1 : sn.toInt ≤ 3000) (hmd : zMP nS kz kgf gk gv e_fresh gs pp gsh sn) : Met l yX5_leaveArm (Cond.code yX5_leaveArm cX5_leaveArm 2 none :: zw) ({ frames := 10, cells := 0, slots := 0, locals := 300 }) (va_Pc [.ref h0, .int ro] (zP dC dI aK aV sz [(cka, .int), (cknext, .int), (sh1, .int), (e1, .int), (e2, .int), (e3, .long)] [(h0, .inr (5, [.ref mp, .ref gco, .ref mce, .int mcn, .ref sk, .int tp, .int ba, .ref kb, .ref kk, .ref ks, .int on, .ref sh, .int sn, .int mat, .int alw, .int st, .int mo, .int mh, .int sp, .long re])), (gco, .inr (2, [.ref cop, .ref ca, .ref cb, .ref cplace, .ref cnext, .ref cneeded, .int cz, .int ct])), (ca, .inl (cka, 3000, .inl cga)), (cnext, .inl (cknext, 3000, .inl cgnext)), (sh, .inl (sh1, 3000, .inl gsh)), (mce, .inr (1, [.ref ek, .ref ec, .ref ef, .ref gki, .int e_limit, .int e_fresh, .int e_firstFree, .int e_held, .int e_mostHeld, .int e_made, .int e_reused, .int e_freed, .int e_doubled])), (ek, .inl (e1, 4000, .inl gk)), (ec, .inl (e2, 4000, .inl gc)), (ef, .inl (e3, 12000, .inr (.inl gv)))])) (va_Qv (fun u : Int32 × Int32 => match u with | (mat2, sn2) => (0 ≤ sn2.toInt) ∧ (sn2.toInt ≤ sn.toInt) ∧ (((cga (Int32.toNatClampNeg ro)).toInt = -1 ∧ mat2.toInt = -1 ∨ (cga (Int32.toNatClampNeg ro)).toInt ≠ -1 ∧ mat2 = cgnext (Int32.toNatClampNeg (cga (Int32.toNatClampNeg ro)))) ∧ zMP nS kz kgf gk gv e_fresh gs pp gsh sn2)) (fun u => match u with | (mat2, sn2) => zQ dC dI (va_A [(h0, .inr (5, [.ref mp, .ref gco, .ref mce, .int mcn, .ref sk, .int tp, .int ba, .ref kb, .ref kk, .ref ks, .int on, .ref sh, .int sn, .int mat, .int alw, .int st, .int mo, .int mh, .int sp, .long re])), (gco, .inr (2, [.ref cop, .ref ca, .ref cb, .ref cplace, .ref cnext, .ref cneeded, .int cz, .int ct])), (ca, .inl (cka, 3000, .inl cga)), (cnext, .inl (cknext, 3000, .inl cgnext)), (sh, .inl (sh1, 3000, .inl gsh)), (mce, .inr (1, [.ref ek, .ref ec, .ref ef, .ref gki, .int e_limit, .int e_fresh, .int e_firstFree, .int e_held, .int e_mostHeld, .int e_made, .int e_reused, .int e_freed, .int e_doubled])), (ek, .inl (e1, 4000, .inl gk)), (ec, .inl (e2, 4000, .inl gc)), (ef, .inl (e3, 12000, .inr (.inl gv)))] sz) [(cka, .int), (cknext, .int), (sh1, .int), (e1, .int), (e2, .int), (e3, .long)] [(h0, .inr (5, [.ref mp, .ref gco, .ref mce, .int mcn, .ref sk, .int tp, .int ba, .ref kb, .ref kk, .ref ks, .int on, .ref sh, .int sn2, .int mat2, .int alw, .int st, .int mo, .int mh, .int sp, .long re])), (gco, .inr (2, [.ref cop, .ref ca, .ref cb, .ref cplace, .ref cnext, .ref cneeded, .int cz, .int ct])), (ca, .inl (cka, 3000, .inl cga)), (cnext, .inl (cknext, 3000, .inl cgnext)), (sh, .inl (sh1, 3000, .inl gsh)), (mce, .inr (1, [.ref ek, .ref ec, .ref ef, .ref gki, .int e_limit, .int e_fresh, .int e_firstFree, .int e_held, .int e_mostHeld, .int e_made, .int e_reused, .int e_freed, .int e_doubled])), (ek, .inl (e1, 4000, .inl gk)), (ec, .inl (e2, 4000, .inl gc)), (ef, .inl (e3, 12000, .inr (.inl gv)))]) (va_A [(h0, .inr (5, [.ref mp, .ref gco, .ref mce, .int mcn, .ref sk, .int tp, .int ba, .ref kb, .ref kk, .ref ks, .int on, .ref sh, .int sn, .int mat, .int alw, .int st, .int mo, .int mh, .int sp, .long re])), (gco, .inr (2, [.ref cop, .ref ca, .ref cb, .ref cplace, .ref cnext, .ref cneeded, .int cz, .int ct])), (ca, .inl (cka, 3000, .inl cga)), (cnext, .inl (cknext, 3000, .inl cgnext)), (sh, .inl (sh1, 3000, .inl gsh)), (mce, .inr (1, [.ref ek, .ref ec, .ref ef, .ref gki, .int e_limit, .int e_fresh, .int e_firstFree, .int e_held, .int e_mostHeld, .int e_made, .int e_reused, .int e_freed, .int e_doubled])), (ek, .inl (e1, 4000, .inl gk)), (ec, .inl (e2, 4000, .inl gc)), (ef, .inl (e3, 12000, .inr (.inl gv)))] sz)) 0 0 (va_A [(h0, .inr (5, [.ref mp, .ref gco, .ref mce, .int mcn, .ref sk, .int tp, .int ba, .ref kb, .ref kk, .ref ks, .int on, .ref sh, .int sn, .int mat, .int alw, .int st, .int mo, .int mh, .int sp, .long re])), (gco, .inr (2, [.ref cop, .ref ca, .ref cb, .ref cplace, .ref cnext, .ref cneeded, .int cz, .int ct])), (ca, .inl (cka, 3000, .inl cga)), (cnext, .inl (cknext, 3000, .inl cgnext)), (sh, .inl (sh1, 3000, .inl gsh)), (mce, .inr (1, [.ref ek, .ref ec, .ref ef, .ref gki, .int e_limit, .int e_fresh, .int e_firstFree, .int e_held, .int e_mostHeld, .int e_made, .int e_reused, .int e_freed, .int e_doubled])), (ek, .inl (e1, 4000, .inl gk)), (ec, .inl (e2, 4000, .inl gc)), (ef, .inl (e3, 12000, .inr (.inl gv)))] sz) := by
  refine Met.ofW (cc := cX5_leaveArm) (maxL := 2) (ret := none) (by decide) rfl ?_
  intro p e s m args below meth c s₁ B hml hv
  obtain ⟨rfl, hsz, hP, hK, hD0, hN, hT⟩ := hv
  have hx := B.exec
  have hb := B.bytes
  have hr := B.returns
  have hts := atoms_spec (ws := Cond.code yX5_leaveArm cX5_leaveArm 2 none :: zw) B.pre
  have hA : ∀ w ∈ zw, w.before _ s = true := fun w h => hts w (List.mem_cons_of_mem _ h)
  have hown : s.vm.findClass RX5 = some m.cls := findClass_of_methodNamed B.named
  have hlocks := B.notSynchronized
  subst hsz
  have hD := hD0.self (sz := s.heap.size)
  generalize hAe : va_A [(h0, .inr (5, [.ref mp, .ref gco, .ref mce, .int mcn, .ref sk, .int tp, .int ba, .ref kb, .ref kk, .ref ks, .int on, .ref sh, .int sn, .int mat, .int alw, .int st, .int mo, .int mh, .int sp, .long re])), (gco, .inr (2, [.ref cop, .ref ca, .ref cb, .ref cplace, .ref cnext, .ref cneeded, .int cz, .int ct])), (ca, .inl (cka, 3000, .inl cga)), (cnext, .inl (cknext, 3000, .inl cgnext)), (sh, .inl (sh1, 3000, .inl gsh)), (mce, .inr (1, [.ref ek, .ref ec, .ref ef, .ref gki, .int e_limit, .int e_fresh, .int e_firstFree, .int e_held, .int e_mostHeld, .int e_made, .int e_reused, .int e_freed, .int e_doubled])), (ek, .inl (e1, 4000, .inl gk)), (ec, .inl (e2, 4000, .inl gc)), (ef, .inl (e3, 12000, .inr (.inl gv)))] s.heap.size = A at hD hT ⊢
  have hAA : ∀ q : Nat, s.heap.size ≤ q → A q := fun q h => by rw [← hAe]; exact Or.inr h
  have hS : va_S A s.heap s.heap [] := va_S.rf
  have hl := lv_entry ([.ref h0, .int ro]) (n := 2) (Nat.le_of_ble_eq_true rfl)
  rw [lg_entry_eq]
  generalize (lg_sl ([.ref h0, .int ro]) ++ List.replicate (2 - (lg_sl ([.ref h0, .int ro])).length) Slot.unset).toArray = ls at hl ⊢
  have hl : lv_has ls 2 [(0, .ref h0), (1, .int ro)] := hl
  refine lv_aload_n hx hb dX5_leaveArm_0 rfl (lv_at hl 0 rfl) ?_
  refine lv_aload_n hx hb dX5_leaveArm_1 rfl (lv_at hl 0 rfl) ?_
  refine va_get (D := (dC, dI)) (ci := 5) (v := .ref gco) (C := RX5) (T := TX5) (N := 20) hx hb hA zin_X5 hown hK hP 0 rfl rfl 1 (by decide) (hA _ wi_485) (fun _ h9 => h9) rfl dX5_leaveArm_2 ?_
  refine va_get (D := (dC, dI)) (ci := 2) (v := .ref ca) (C := RX2) (T := TX2) (N := 8) hx hb hA zin_X2 hown hK hP 1 rfl rfl 1 (by decide) (hA _ wi_182) (fun _ h9 => h9) rfl dX5_leaveArm_5 ?_
  refine lv_iload_n hx hb dX5_leaveArm_8 rfl (lv_at hl 1 rfl) ?_
  refine va_iald hx hb hK hP 2 0 rfl rfl (vp_in_iff.mpr ⟨by omega, by omega⟩) dX5_leaveArm_9 ?_
  refine lv_topi (fun x_1 ex_1 => ?_)
  have ix_1 : -1 ≤ x_1.toInt ∧ x_1.toInt < 3000 := by rw [ex_1]; exact har
  have hPc := hP.sub (ws' := [(h0, .inr (5, [.ref mp, .ref gco, .ref mce, .int mcn, .ref sk, .int tp, .int ba, .ref kb, .ref kk, .ref ks, .int on, .ref sh, .int sn, .int mat, .int alw, .int st, .int mo, .int mh, .int sp, .long re])), (gco, .inr (2, [.ref cop, .ref ca, .ref cb, .ref cplace, .ref cnext, .ref cneeded, .int cz, .int ct])), (cnext, .inl (cknext, 3000, .inl cgnext))]) [0, 1, 3] rfl
  have hDc := hD.sub (ws' := [(h0, .inr (5, [.ref mp, .ref gco, .ref mce, .int mcn, .ref sk, .int tp, .int ba, .ref kb, .ref kk, .ref ks, .int on, .ref sh, .int sn, .int mat, .int alw, .int st, .int mo, .int mh, .int sp, .long re])), (gco, .inr (2, [.ref cop, .ref ca, .ref cb, .ref cplace, .ref cnext, .ref cneeded, .int cz, .int ct])), (cnext, .inl (cknext, 3000, .inl cgnext))]) [0, 1, 3] (by decide) rfl
  have hKc := hK.sub (tys' := [(cknext, .int)]) [1] rfl
  have hFc := va_free (wc := [(h0, .inr (5, [.ref mp, .ref gco, .ref mce, .int mcn, .ref sk, .int tp, .int ba, .ref kb, .ref kk, .ref ks, .int on, .ref sh, .int sn, .int mat, .int alw, .int st, .int mo, .int mh, .int sp, .long re])), (gco, .inr (2, [.ref cop, .ref ca, .ref cb, .ref cplace, .ref cnext, .ref cneeded, .int cz, .int ct])), (cnext, .inl (cknext, 3000, .inl cgnext))]) hD hS hAA [0, 1, 3] rfl
  refine va_callv (va_runV (As := [.int x_1]) (rest := []) ⟨hx, hb, hml, hown, hA⟩ (c_X5_goBehind l dC dI aK aV h0 mp gco mce sk kb kk ks sh mcn tp ba on sn mat alw st mo mh sp re cop ca cb cplace cnext cneeded cz ct cknext cgnext x_1 s.heap.size (by omega) (by omega)) (cwV 1 hA (zw_V wi_1238 wi_1240 wi_58 wi_139 (zw_good wi_1241)) rfl rfl rfl (by decide +kernel) ⟨(Nat.le_of_ble_eq_true rfl), (Nat.le_of_ble_eq_true rfl)⟩) ⟨zP_blind, va_recv hKc hPc (ci := 5) (q0 := 0) rfl rfl, zz_pre hKc hPc hDc hN hT hS hFc⟩ rfl rfl hl.1 rfl (lv_room (Nat.le_of_ble_eq_true rfl)) dX5_leaveArm_10 ⟨(Nat.le_of_ble_eq_true rfl), (Nat.le_of_ble_eq_true rfl)⟩) hS (fun q _ h => hFc q h) hFc (fun u t H1 locs ht hvm hw hB hz1 hk1 hS => ?_)
  obtain ⟨mat_3, rfl⟩ : ∃ z, z = u := ⟨_, rfl⟩
  obtain ⟨hP1, hK1, hD1⟩ := hB
  rw [ht] at hP1
  have hK1 := va_K.moved hvm.symm hK1
  obtain ⟨hP, hD⟩ := va_join (wr := [(ca, .inl (cka, 3000, .inl cga)), (sh, .inl (sh1, 3000, .inl gsh)), (mce, .inr (1, [.ref ek, .ref ec, .ref ef, .ref gki, .int e_limit, .int e_fresh, .int e_firstFree, .int e_held, .int e_mostHeld, .int e_made, .int e_reused, .int e_freed, .int e_doubled])), (ek, .inl (e1, 4000, .inl gk)), (ec, .inl (e2, 4000, .inl gc)), (ef, .inl (e3, 12000, .inr (.inl gv)))]) (w1 := [(h0, .inr (5, [.ref mp, .ref gco, .ref mce, .int mcn, .ref sk, .int tp, .int ba, .ref kb, .ref kk, .ref ks, .int on, .ref sh, .int sn, .int mat_3, .int alw, .int st, .int mo, .int mh, .int sp, .long re])), (gco, .inr (2, [.ref cop, .ref ca, .ref cb, .ref cplace, .ref cnext, .ref cneeded, .int cz, .int ct])), (cnext, .inl (cknext, 3000, .inl cgnext))]) hP hD [0, 1, 3] [2, 4, 5, 6, 7, 8] rfl rfl (by decide) (by decide) hk1 hFc hP1 hD1
  have hK := (hK.sub (tys' := [(cka, .int), (sh1, .int), (e1, .int), (e2, .int), (e3, .long)]) [0, 2, 3, 4, 5] rfl).app hK1
  generalize H1 = H at hP hS ⊢
  have hP : va_P (dC, dI) vwCl [(ca, .inl (cka, 3000, .inl cga)), (sh, .inl (sh1, 3000, .inl gsh)), (mce, .inr (1, [.ref ek, .ref ec, .ref ef, .ref gki, .int e_limit, .int e_fresh, .int e_firstFree, .int e_held, .int e_mostHeld, .int e_made, .int e_reused, .int e_freed, .int e_doubled])), (ek, .inl (e1, 4000, .inl gk)), (ec, .inl (e2, 4000, .inl gc)), (ef, .inl (e3, 12000, .inr (.inl gv))), (h0, .inr (5, [.ref mp, .ref gco, .ref mce, .int mcn, .ref sk, .int tp, .int ba, .ref kb, .ref kk, .ref ks, .int on, .ref sh, .int sn, .int mat_3, .int alw, .int st, .int mo, .int mh, .int sp, .long re])), (gco, .inr (2, [.ref cop, .ref ca, .ref cb, .ref cplace, .ref cnext, .ref cneeded, .int cz, .int ct])), (cnext, .inl (cknext, 3000, .inl cgnext))] H := hP
  have hD : va_D A [(ca, .inl (cka, 3000, .inl cga)), (sh, .inl (sh1, 3000, .inl gsh)), (mce, .inr (1, [.ref ek, .ref ec, .ref ef, .ref gki, .int e_limit, .int e_fresh, .int e_firstFree, .int e_held, .int e_mostHeld, .int e_made, .int e_reused, .int e_freed, .int e_doubled])), (ek, .inl (e1, 4000, .inl gk)), (ec, .inl (e2, 4000, .inl gc)), (ef, .inl (e3, 12000, .inr (.inl gv))), (h0, .inr (5, [.ref mp, .ref gco, .ref mce, .int mcn, .ref sk, .int tp, .int ba, .ref kb, .ref kk, .ref ks, .int on, .ref sh, .int sn, .int mat_3, .int alw, .int st, .int mo, .int mh, .int sp, .long re])), (gco, .inr (2, [.ref cop, .ref ca, .ref cb, .ref cplace, .ref cnext, .ref cneeded, .int cz, .int ct])), (cnext, .inl (cknext, 3000, .inl cgnext))] := hD
  have hK : va_K (dC, dI) vwCl [(cka, .int), (sh1, .int), (e1, .int), (e2, .int), (e3, .long), (cknext, .int)] s := hK
  have hq_4 := hw
  have hgb9 : (cga (Int32.toNatClampNeg ro)).toInt = -1 ∧ mat_3.toInt = -1 ∨ (cga (Int32.toNatClampNeg ro)).toInt ≠ -1 ∧ mat_3 = cgnext (Int32.toNatClampNeg (cga (Int32.toNatClampNeg ro))) := by rw [← ex_1]; exact hq_4
  refine lv_aload_n hx hb dX5_leaveArm_13 rfl (lv_at hl 0 rfl) ?_
  refine va_get (D := (dC, dI)) (ci := 5) (v := .int sn) (C := RX5) (T := TX5) (N := 20) hx hb hA zin_X5 hown hK hP 6 rfl rfl 12 (by decide) (hA _ wi_496) (fun _ h9 => h9) rfl dX5_leaveArm_14 ?_
  refine lv_if_le (tgt := 59) hx hb dX5_leaveArm_17 (by decide) (fun c_5 => ?_) (fun c_5 => ?_)
  · have ic_5 : sn.toInt ≤ 0 := zi_le c_5
    have hP9 := hP.sub (ws' := [(h0, .inr (5, [.ref mp, .ref gco, .ref mce, .int mcn, .ref sk, .int tp, .int ba, .ref kb, .ref kk, .ref ks, .int on, .ref sh, .int sn, .int mat_3, .int alw, .int st, .int mo, .int mh, .int sp, .long re])), (gco, .inr (2, [.ref cop, .ref ca, .ref cb, .ref cplace, .ref cnext, .ref cneeded, .int cz, .int ct])), (ca, .inl (cka, 3000, .inl cga)), (cnext, .inl (cknext, 3000, .inl cgnext)), (sh, .inl (sh1, 3000, .inl gsh)), (mce, .inr (1, [.ref ek, .ref ec, .ref ef, .ref gki, .int e_limit, .int e_fresh, .int e_firstFree, .int e_held, .int e_mostHeld, .int e_made, .int e_reused, .int e_freed, .int e_doubled])), (ek, .inl (e1, 4000, .inl gk)), (ec, .inl (e2, 4000, .inl gc)), (ef, .inl (e3, 12000, .inr (.inl gv)))]) [6, 7, 0, 8, 1, 2, 3, 4, 5] rfl
    have hD9 := hD.sub (ws' := [(h0, .inr (5, [.ref mp, .ref gco, .ref mce, .int mcn, .ref sk, .int tp, .int ba, .ref kb, .ref kk, .ref ks, .int on, .ref sh, .int sn, .int mat_3, .int alw, .int st, .int mo, .int mh, .int sp, .long re])), (gco, .inr (2, [.ref cop, .ref ca, .ref cb, .ref cplace, .ref cnext, .ref cneeded, .int cz, .int ct])), (ca, .inl (cka, 3000, .inl cga)), (cnext, .inl (cknext, 3000, .inl cgnext)), (sh, .inl (sh1, 3000, .inl gsh)), (mce, .inr (1, [.ref ek, .ref ec, .ref ef, .ref gki, .int e_limit, .int e_fresh, .int e_firstFree, .int e_held, .int e_mostHeld, .int e_made, .int e_reused, .int e_freed, .int e_doubled])), (ek, .inl (e1, 4000, .inl gk)), (ec, .inl (e2, 4000, .inl gc)), (ef, .inl (e3, 12000, .inr (.inl gv)))]) [6, 7, 0, 8, 1, 2, 3, 4, 5] (by decide) rfl
    have hK9 := hK.sub (tys' := [(cka, .int), (cknext, .int), (sh1, .int), (e1, .int), (e2, .int), (e3, .long)]) [0, 5, 1, 2, 3, 4] rfl
    exact W.vret hx hb hr (fun t ht hW => ⟨⟨(mat_3, sn), rfl, ⟨by omega, by omega, ⟨hgb9, hmd.1, hmd.2.1, fun i hi => hmd.2.2 i (by omega)⟩⟩, by rw [ht]; exact hP9, va_K.moved hW.alike hK9, hD9⟩, hS.F ht⟩) hS.2.2 dX5_leaveArm_59
  · have ic_5 : 0 < sn.toInt := zi_nle c_5
    refine lv_aload_n hx hb dX5_leaveArm_20 rfl (lv_at hl 0 rfl) ?_
    refine lv_dup hx hb dX5_leaveArm_21 rfl ?_
    refine va_get (D := (dC, dI)) (ci := 5) (v := .int sn) (C := RX5) (T := TX5) (N := 20) hx hb hA zin_X5 hown hK hP 6 rfl rfl 12 (by decide) (hA _ wi_496) (fun _ h9 => h9) rfl dX5_leaveArm_22 ?_
    refine lv_iconst (v := 1) hx hb dX5_leaveArm_25 (by decide) ?_
    refine lv_isub hx hb dX5_leaveArm_26 ?_
    refine lv_topi (fun x_6 ex_6 => ?_)
    have ix_6 : x_6.toInt = sn.toInt - 1 := by rw [ex_6]; exact zi_subc (by decide) (by omega) (by omega)
    refine va_put (D := (dC, dI)) (ci := 5) (v := .int x_6) (ty := .int) (C := RX5) (T := TX5) (N := 20) hx hb hA zin_X5 tyX5 tyX5_ok nmX5 hown hK hP hD hS 6 rfl rfl 12 (by decide) (hA _ wi_496) (fun _ h9 => h9) rfl (by decide +kernel) rfl rfl (Nat.le_of_ble_eq_true rfl) dX5_leaveArm_27 (fun H locs hP hD hS => ?_)
    have hP : va_P (dC, dI) vwCl [(ca, .inl (cka, 3000, .inl cga)), (sh, .inl (sh1, 3000, .inl gsh)), (mce, .inr (1, [.ref ek, .ref ec, .ref ef, .ref gki, .int e_limit, .int e_fresh, .int e_firstFree, .int e_held, .int e_mostHeld, .int e_made, .int e_reused, .int e_freed, .int e_doubled])), (ek, .inl (e1, 4000, .inl gk)), (ec, .inl (e2, 4000, .inl gc)), (ef, .inl (e3, 12000, .inr (.inl gv))), (h0, .inr (5, [.ref mp, .ref gco, .ref mce, .int mcn, .ref sk, .int tp, .int ba, .ref kb, .ref kk, .ref ks, .int on, .ref sh, .int x_6, .int mat_3, .int alw, .int st, .int mo, .int mh, .int sp, .long re])), (gco, .inr (2, [.ref cop, .ref ca, .ref cb, .ref cplace, .ref cnext, .ref cneeded, .int cz, .int ct])), (cnext, .inl (cknext, 3000, .inl cgnext))] H := hP
    have hD : va_D A [(ca, .inl (cka, 3000, .inl cga)), (sh, .inl (sh1, 3000, .inl gsh)), (mce, .inr (1, [.ref ek, .ref ec, .ref ef, .ref gki, .int e_limit, .int e_fresh, .int e_firstFree, .int e_held, .int e_mostHeld, .int e_made, .int e_reused, .int e_freed, .int e_doubled])), (ek, .inl (e1, 4000, .inl gk)), (ec, .inl (e2, 4000, .inl gc)), (ef, .inl (e3, 12000, .inr (.inl gv))), (h0, .inr (5, [.ref mp, .ref gco, .ref mce, .int mcn, .ref sk, .int tp, .int ba, .ref kb, .ref kk, .ref ks, .int on, .ref sh, .int x_6, .int mat_3, .int alw, .int st, .int mo, .int mh, .int sp, .long re])), (gco, .inr (2, [.ref cop, .ref ca, .ref cb, .ref cplace, .ref cnext, .ref cneeded, .int cz, .int ct])), (cnext, .inl (cknext, 3000, .inl cgnext))] := hD
    refine lv_aload_n hx hb dX5_leaveArm_30 rfl (lv_at hl 0 rfl) ?_
    refine va_get (D := (dC, dI)) (ci := 5) (v := .ref sh) (C := RX5) (T := TX5) (N := 20) hx hb hA zin_X5 hown hK hP 6 rfl rfl 11 (by decide) (hA _ wi_495) (fun _ h9 => h9) rfl dX5_leaveArm_31 ?_
    refine lv_aload_n hx hb dX5_leaveArm_34 rfl (lv_at hl 0 rfl) ?_
    refine va_get (D := (dC, dI)) (ci := 5) (v := .int x_6) (C := RX5) (T := TX5) (N := 20) hx hb hA zin_X5 hown hK hP 6 rfl rfl 12 (by decide) (hA _ wi_496) (fun _ h9 => h9) rfl dX5_leaveArm_35 ?_
    refine va_iald hx hb hK hP 1 1 rfl rfl (vp_in_iff.mpr ⟨by omega, by omega⟩) dX5_leaveArm_38 ?_
    refine lv_topi (fun x_7 ex_7 => ?_)
    have ix_7 : x_7.toInt = -1 := by rw [ex_7]; exact hmd.2.2 _ (by have := zn_nat (x := x_6) (by omega); omega)
    refine lv_iconst (v := (-1)) hx hb dX5_leaveArm_39 (by decide) ?_
    refine lv_icmp_eq (tgt := 59) hx hb dX5_leaveArm_40 (by decide) (fun c_8 => ?_) (fun c_8 => ?_)
    · have ic_8 : x_7.toInt = (-1) := zi_eq c_8
      have hP9 := hP.sub (ws' := [(h0, .inr (5, [.ref mp, .ref gco, .ref mce, .int mcn, .ref sk, .int tp, .int ba, .ref kb, .ref kk, .ref ks, .int on, .ref sh, .int x_6, .int mat_3, .int alw, .int st, .int mo, .int mh, .int sp, .long re])), (gco, .inr (2, [.ref cop, .ref ca, .ref cb, .ref cplace, .ref cnext, .ref cneeded, .int cz, .int ct])), (ca, .inl (cka, 3000, .inl cga)), (cnext, .inl (cknext, 3000, .inl cgnext)), (sh, .inl (sh1, 3000, .inl gsh)), (mce, .inr (1, [.ref ek, .ref ec, .ref ef, .ref gki, .int e_limit, .int e_fresh, .int e_firstFree, .int e_held, .int e_mostHeld, .int e_made, .int e_reused, .int e_freed, .int e_doubled])), (ek, .inl (e1, 4000, .inl gk)), (ec, .inl (e2, 4000, .inl gc)), (ef, .inl (e3, 12000, .inr (.inl gv)))]) [6, 7, 0, 8, 1, 2, 3, 4, 5] rfl
      have hD9 := hD.sub (ws' := [(h0, .inr (5, [.ref mp, .ref gco, .ref mce, .int mcn, .ref sk, .int tp, .int ba, .ref kb, .ref kk, .ref ks, .int on, .ref sh, .int x_6, .int mat_3, .int alw, .int st, .int mo, .int mh, .int sp, .long re])), (gco, .inr (2, [.ref cop, .ref ca, .ref cb, .ref cplace, .ref cnext, .ref cneeded, .int cz, .int ct])), (ca, .inl (cka, 3000, .inl cga)), (cnext, .inl (cknext, 3000, .inl cgnext)), (sh, .inl (sh1, 3000, .inl gsh)), (mce, .inr (1, [.ref ek, .ref ec, .ref ef, .ref gki, .int e_limit, .int e_fresh, .int e_firstFree, .int e_held, .int e_mostHeld, .int e_made, .int e_reused, .int e_freed, .int e_doubled])), (ek, .inl (e1, 4000, .inl gk)), (ec, .inl (e2, 4000, .inl gc)), (ef, .inl (e3, 12000, .inr (.inl gv)))]) [6, 7, 0, 8, 1, 2, 3, 4, 5] (by decide) rfl
      have hK9 := hK.sub (tys' := [(cka, .int), (cknext, .int), (sh1, .int), (e1, .int), (e2, .int), (e3, .long)]) [0, 5, 1, 2, 3, 4] rfl
      exact W.vret hx hb hr (fun t ht hW => ⟨⟨(mat_3, x_6), rfl, ⟨by omega, by omega, ⟨hgb9, hmd.1, hmd.2.1, fun i hi => hmd.2.2 i (by omega)⟩⟩, by rw [ht]; exact hP9, va_K.moved hW.alike hK9, hD9⟩, hS.F ht⟩) hS.2.2 dX5_leaveArm_59
    · have ic_8 : x_7.toInt ≠ (-1) := zi_ne c_8
      exfalso
      omega
set_option maxHeartbeats 4000000 in
set_option maxRecDepth 100000 in
theorem c_X5_build_4000 (l : Launch) (dC : Nat → ClassId) (dI : Nat → Nat → Nat) (aK aV : Nat → Nat) (h0 : Nat) (mp : Nat) (gco : Nat) (mce : Nat) (sk : Nat) (kb : Nat) (kk : Nat) (ks : Nat) (sh : Nat) (mcn : Int32) (tp : Int32) (ba : Int32) (on : Int32) (sn : Int32) (mat : Int32) (alw : Int32) (st : Int32) (mo : Int32) (mh : Int32) (sp : Int32) (re : Int64) (sk1 : ClassId) (gs : Nat → Int64) (ks1 : ClassId) (gks : Nat → Int32) (sh1 : ClassId) (gsh : Nat → Int32) (cop : Nat) (ca : Nat) (cb : Nat) (cplace : Nat) (cnext : Nat) (cneeded : Nat) (cz : Int32) (ct : Int32) (cka : ClassId) (ckplace : ClassId) (cga : Nat → Int32) (cgplace : Nat → Int32) (gar : Nat) (gfu : Nat) (ek : Nat) (ec : Nat) (ef : Nat) (gki : Nat) (e1 : ClassId) (e2 : ClassId) (e3 : ClassId) (e_limit : Int32) (e_fresh : Int32) (e_firstFree : Int32) (e_held : Int32) (e_mostHeld : Int32) (e_made : Int32) (e_reused : Int32) (e_freed : Int32) (e_doubled : Int32) (gk : Nat → Int32) (gc : Nat → Int32) (gv : Nat → Int64) (kw : Nat) (kf : Nat) (k1 : ClassId) (k2 : ClassId) (kz : Int32) (kgw : Nat → Int64) (kgf : Nat → Int32) (ro : Int32) (nS : Nat) (pp : Nat → Bool) (wz : Int) (sz : Nat) (hkz0 : 0 ≤ kz.toInt) (hkz1 : kz.toInt ≤ 20) (hkf : zx 4 kgf) (hr0 : 0 ≤ ro.toInt) (hr1 : ro.toInt < 3000) (hnS : nS = 22424) (hff : e_firstFree.toInt = -1) (hhe : e_held.toInt = e_fresh.toInt) (hfr : 0 ≤ e_fresh.toInt) (hfr2 : e_fresh.toInt ≤ 4000) (hli : e_limit.toInt ≤ 4000) (ht1 : tp.toInt ≤ 22424) (hwz : zfk kz kgf (cga (Int32.toNatClampNeg ro)) = wz) (hw1 : 1 ≤ wz) (hw3 : wz ≤ 3) (hwt : wz ≤ tp.toInt) (hsn0 : 0 ≤ sn.toInt) (hsn1 : sn.toInt ≤ 3000) (hon0 : 1 ≤ on.toInt) (hon1 : on.toInt ≤ 100) (hks : ∀ i : Nat, (i : Int) < on.toInt → 0 ≤ (gks i).toInt) (hmd : zMP nS kz kgf gk gv e_fresh gs pp gsh sn) (hop : ∀ k : Nat, (k : Int) < wz → pp (Int32.toNatClampNeg tp - wz.toNat + k) = true) : Met l yX5_build (Cond.code yX5_build cX5_build 5 none :: zw) ({ frames := 14, cells := 0, slots := 0, locals := 500 }) (va_Pc [.ref h0, .int ro] (zP dC dI aK aV sz [(sk1, .long), (ks1, .int), (sh1, .int), (cka, .int), (ckplace, .int), (e1, .int), (e2, .int), (e3, .long), (k1, .long), (k2, .int)] [(h0, .inr (5, [.ref mp, .ref gco, .ref mce, .int mcn, .ref sk, .int tp, .int ba, .ref kb, .ref kk, .ref ks, .int on, .ref sh, .int sn, .int mat, .int alw, .int st, .int mo, .int mh, .int sp, .long re])), (sk, .inl (sk1, 22424, .inr (.inl gs))), (ks, .inl (ks1, 100, .inl gks)), (sh, .inl (sh1, 3000, .inl gsh)), (gco, .inr (2, [.ref cop, .ref ca, .ref cb, .ref cplace, .ref cnext, .ref cneeded, .int cz, .int ct])), (ca, .inl (cka, 3000, .inl cga)), (cplace, .inl (ckplace, 3000, .inl cgplace)), (mp, .inr (9, [.ref gco, .ref gar, .ref gki, .ref gfu])), (mce, .inr (1, [.ref ek, .ref ec, .ref ef, .ref gki, .int e_limit, .int e_fresh, .int e_firstFree, .int e_held, .int e_mostHeld, .int e_made, .int e_reused, .int e_freed, .int e_doubled])), (ek, .inl (e1, 4000, .inl gk)), (ec, .inl (e2, 4000, .inl gc)), (ef, .inl (e3, 12000, .inr (.inl gv))), (gki, .inr (4, [.ref kw, .ref kf, .int kz])), (kw, .inl (k1, 20, .inr (.inl kgw))), (kf, .inl (k2, 20, .inl kgf))])) (va_Qv (fun u : Int32 × Int32 × Int32 × (Nat → Int64) × (Nat → Int32) × (Nat → Int32) × (Nat → Int32) × (Nat → Int64) × Int32 × Int32 × Int32 × Int32 × Int32 × Int32 => match u with | (mh2, sp2, tp2, gs2, gsh2, gk2, gc2, gv2, fr2, ff2, he2, mx2, md2, ru2) => (mh2.toInt = 3 ∨ mh2.toInt = mh.toInt ∧ tp2.toInt = tp.toInt - wz + 1 ∧ ∃ p2, zMP nS kz kgf gk2 gv2 fr2 gs2 p2 gsh2 sn ∧ p2 (Int32.toNatClampNeg tp - wz.toNat) = true ∧ ∀ j : Nat, pp j = true → (j : Int) < tp.toInt - wz → p2 j = true) ∧ (ff2.toInt = -1) ∧ (he2.toInt = fr2.toInt) ∧ (0 ≤ fr2.toInt) ∧ (fr2.toInt ≤ 4000) ∧ (mh2.toInt = 3 ∧ e_limit.toInt ≤ e_fresh.toInt ∨ mh2.toInt = mh.toInt ∧ e_fresh.toInt < 4000 ∧ fr2.toInt = e_fresh.toInt + 1 ∧ gk2 = upd gk (Int32.toNatClampNeg e_fresh) (cga (Int32.toNatClampNeg ro)) ∧ zfw gv gv2 (Int32.toNatClampNeg e_fresh) gs (Int32.toNatClampNeg tp - wz.toNat) wz.toNat ∧ ∃ v : Int64, gs2 = vp_updL gs (Int32.toNatClampNeg tp - wz.toNat) v ∧ zhs v = 2 ∧ v.toInt32 = e_fresh) ∧ (cSpl (cgplace (Int32.toNatClampNeg ro)) sp mh sp2 mh2)) (fun u => match u with | (mh2, sp2, tp2, gs2, gsh2, gk2, gc2, gv2, fr2, ff2, he2, mx2, md2, ru2) => zQ dC dI (va_A [(h0, .inr (5, [.ref mp, .ref gco, .ref mce, .int mcn, .ref sk, .int tp, .int ba, .ref kb, .ref kk, .ref ks, .int on, .ref sh, .int sn, .int mat, .int alw, .int st, .int mo, .int mh, .int sp, .long re])), (sk, .inl (sk1, 22424, .inr (.inl gs))), (ks, .inl (ks1, 100, .inl gks)), (sh, .inl (sh1, 3000, .inl gsh)), (gco, .inr (2, [.ref cop, .ref ca, .ref cb, .ref cplace, .ref cnext, .ref cneeded, .int cz, .int ct])), (ca, .inl (cka, 3000, .inl cga)), (cplace, .inl (ckplace, 3000, .inl cgplace)), (mp, .inr (9, [.ref gco, .ref gar, .ref gki, .ref gfu])), (mce, .inr (1, [.ref ek, .ref ec, .ref ef, .ref gki, .int e_limit, .int e_fresh, .int e_firstFree, .int e_held, .int e_mostHeld, .int e_made, .int e_reused, .int e_freed, .int e_doubled])), (ek, .inl (e1, 4000, .inl gk)), (ec, .inl (e2, 4000, .inl gc)), (ef, .inl (e3, 12000, .inr (.inl gv))), (gki, .inr (4, [.ref kw, .ref kf, .int kz])), (kw, .inl (k1, 20, .inr (.inl kgw))), (kf, .inl (k2, 20, .inl kgf))] sz) [(sk1, .long), (ks1, .int), (sh1, .int), (cka, .int), (ckplace, .int), (e1, .int), (e2, .int), (e3, .long), (k1, .long), (k2, .int)] [(h0, .inr (5, [.ref mp, .ref gco, .ref mce, .int mcn, .ref sk, .int tp2, .int ba, .ref kb, .ref kk, .ref ks, .int on, .ref sh, .int sn, .int mat, .int alw, .int st, .int mo, .int mh2, .int sp2, .long re])), (sk, .inl (sk1, 22424, .inr (.inl gs2))), (ks, .inl (ks1, 100, .inl gks)), (sh, .inl (sh1, 3000, .inl gsh2)), (gco, .inr (2, [.ref cop, .ref ca, .ref cb, .ref cplace, .ref cnext, .ref cneeded, .int cz, .int ct])), (ca, .inl (cka, 3000, .inl cga)), (cplace, .inl (ckplace, 3000, .inl cgplace)), (mp, .inr (9, [.ref gco, .ref gar, .ref gki, .ref gfu])), (mce, .inr (1, [.ref ek, .ref ec, .ref ef, .ref gki, .int e_limit, .int fr2, .int ff2, .int he2, .int mx2, .int md2, .int ru2, .int e_freed, .int e_doubled])), (ek, .inl (e1, 4000, .inl gk2)), (ec, .inl (e2, 4000, .inl gc2)), (ef, .inl (e3, 12000, .inr (.inl gv2))), (gki, .inr (4, [.ref kw, .ref kf, .int kz])), (kw, .inl (k1, 20, .inr (.inl kgw))), (kf, .inl (k2, 20, .inl kgf))]) (va_A [(h0, .inr (5, [.ref mp, .ref gco, .ref mce, .int mcn, .ref sk, .int tp, .int ba, .ref kb, .ref kk, .ref ks, .int on, .ref sh, .int sn, .int mat, .int alw, .int st, .int mo, .int mh, .int sp, .long re])), (sk, .inl (sk1, 22424, .inr (.inl gs))), (ks, .inl (ks1, 100, .inl gks)), (sh, .inl (sh1, 3000, .inl gsh)), (gco, .inr (2, [.ref cop, .ref ca, .ref cb, .ref cplace, .ref cnext, .ref cneeded, .int cz, .int ct])), (ca, .inl (cka, 3000, .inl cga)), (cplace, .inl (ckplace, 3000, .inl cgplace)), (mp, .inr (9, [.ref gco, .ref gar, .ref gki, .ref gfu])), (mce, .inr (1, [.ref ek, .ref ec, .ref ef, .ref gki, .int e_limit, .int e_fresh, .int e_firstFree, .int e_held, .int e_mostHeld, .int e_made, .int e_reused, .int e_freed, .int e_doubled])), (ek, .inl (e1, 4000, .inl gk)), (ec, .inl (e2, 4000, .inl gc)), (ef, .inl (e3, 12000, .inr (.inl gv))), (gki, .inr (4, [.ref kw, .ref kf, .int kz])), (kw, .inl (k1, 20, .inr (.inl kgw))), (kf, .inl (k2, 20, .inl kgf))] sz)) 0 0 (va_A [(h0, .inr (5, [.ref mp, .ref gco, .ref mce, .int mcn, .ref sk, .int tp, .int ba, .ref kb, .ref kk, .ref ks, .int on, .ref sh, .int sn, .int mat, .int alw, .int st, .int mo, .int mh, .int sp, .long re])), (sk, .inl (sk1, 22424, .inr (.inl gs))), (ks, .inl (ks1, 100, .inl gks)), (sh, .inl (sh1, 3000, .inl gsh)), (gco, .inr (2, [.ref cop, .ref ca, .ref cb, .ref cplace, .ref cnext, .ref cneeded, .int cz, .int ct])), (ca, .inl (cka, 3000, .inl cga)), (cplace, .inl (ckplace, 3000, .inl cgplace)), (mp, .inr (9, [.ref gco, .ref gar, .ref gki, .ref gfu])), (mce, .inr (1, [.ref ek, .ref ec, .ref ef, .ref gki, .int e_limit, .int e_fresh, .int e_firstFree, .int e_held, .int e_mostHeld, .int e_made, .int e_reused, .int e_freed, .int e_doubled])), (ek, .inl (e1, 4000, .inl gk)), (ec, .inl (e2, 4000, .inl gc)), (ef, .inl (e3, 12000, .inr (.inl gv))), (gki, .inr (4, [.ref kw, .ref kf, .int kz])), (kw, .inl (k1, 20, .inr (.inl kgw))), (kf, .inl (k2, 20, .inl kgf))] sz) := by
  refine Met.ofW (cc := cX5_build) (maxL := 5) (ret := none) (by decide) rfl ?_
  intro p e s m args below meth c s₁ B hml hv
  obtain ⟨rfl, hsz, hP, hK, hD0, hN, hT⟩ := hv
  have hx := B.exec
  have hb := B.bytes
  have hr := B.returns
  have hts := atoms_spec (ws := Cond.code yX5_build cX5_build 5 none :: zw) B.pre
  have hA : ∀ w ∈ zw, w.before _ s = true := fun w h => hts w (List.mem_cons_of_mem _ h)
  have hown : s.vm.findClass RX5 = some m.cls := findClass_of_methodNamed B.named
  have hlocks := B.notSynchronized
  subst hsz
  have hD := hD0.self (sz := s.heap.size)
  generalize hAe : va_A [(h0, .inr (5, [.ref mp, .ref gco, .ref mce, .int mcn, .ref sk, .int tp, .int ba, .ref kb, .ref kk, .ref ks, .int on, .ref sh, .int sn, .int mat, .int alw, .int st, .int mo, .int mh, .int sp, .long re])), (sk, .inl (sk1, 22424, .inr (.inl gs))), (ks, .inl (ks1, 100, .inl gks)), (sh, .inl (sh1, 3000, .inl gsh)), (gco, .inr (2, [.ref cop, .ref ca, .ref cb, .ref cplace, .ref cnext, .ref cneeded, .int cz, .int ct])), (ca, .inl (cka, 3000, .inl cga)), (cplace, .inl (ckplace, 3000, .inl cgplace)), (mp, .inr (9, [.ref gco, .ref gar, .ref gki, .ref gfu])), (mce, .inr (1, [.ref ek, .ref ec, .ref ef, .ref gki, .int e_limit, .int e_fresh, .int e_firstFree, .int e_held, .int e_mostHeld, .int e_made, .int e_reused, .int e_freed, .int e_doubled])), (ek, .inl (e1, 4000, .inl gk)), (ec, .inl (e2, 4000, .inl gc)), (ef, .inl (e3, 12000, .inr (.inl gv))), (gki, .inr (4, [.ref kw, .ref kf, .int kz])), (kw, .inl (k1, 20, .inr (.inl kgw))), (kf, .inl (k2, 20, .inl kgf))] s.heap.size = A at hD hT ⊢
  have hAA : ∀ q : Nat, s.heap.size ≤ q → A q := fun q h => by rw [← hAe]; exact Or.inr h
  have hS : va_S A s.heap s.heap [] := va_S.rf
  have hl := lv_entry ([.ref h0, .int ro]) (n := 5) (Nat.le_of_ble_eq_true rfl)
  rw [lg_entry_eq]
  generalize (lg_sl ([.ref h0, .int ro]) ++ List.replicate (5 - (lg_sl ([.ref h0, .int ro])).length) Slot.unset).toArray = ls at hl ⊢
  have hl : lv_has ls 5 [(0, .ref h0), (1, .int ro)] := hl
  refine lv_aload_n hx hb dX5_build_0 rfl (lv_at hl 0 rfl) ?_
  refine va_get (D := (dC, dI)) (ci := 5) (v := .ref gco) (C := RX5) (T := TX5) (N := 20) hx hb hA zin_X5 hown hK hP 0 rfl rfl 1 (by decide) (hA _ wi_485) (fun _ h9 => h9) rfl dX5_build_1 ?_
  refine va_get (D := (dC, dI)) (ci := 2) (v := .ref ca) (C := RX2) (T := TX2) (N := 8) hx hb hA zin_X2 hown hK hP 4 rfl rfl 1 (by decide) (hA _ wi_182) (fun _ h9 => h9) rfl dX5_build_4 ?_
  refine lv_iload_n hx hb dX5_build_7 rfl (lv_at hl 1 rfl) ?_
  refine va_iald hx hb hK hP 5 3 rfl rfl (vp_in_iff.mpr ⟨by omega, by omega⟩) dX5_build_8 ?_
  refine lv_topi (fun x_1 ex_1 => ?_)
  refine lv_istore_n (lv' := [(2, .int x_1), (0, .ref h0), (1, .int ro)]) hx hb dX5_build_9 rfl hl (by decide) rfl (fun ls hl => ?_)
  refine lv_aload_n hx hb dX5_build_10 rfl (lv_at hl 1 rfl) ?_
  refine va_get (D := (dC, dI)) (ci := 5) (v := .ref mp) (C := RX5) (T := TX5) (N := 20) hx hb hA zin_X5 hown hK hP 0 rfl rfl 0 (by decide) (hA _ wi_484) (fun _ h9 => h9) rfl dX5_build_11 ?_
  refine va_get (D := (dC, dI)) (ci := 9) (v := .ref gki) (C := RX9) (T := TX9) (N := 4) hx hb hA zin_X9 hown hK hP 7 rfl rfl 2 (by decide) (hA _ wi_319) (fun _ h9 => h9) rfl dX5_build_14 ?_
  refine lv_iload_n hx hb dX5_build_17 rfl (lv_at hl 0 rfl) ?_
  have hPc := hP.sub (ws' := [(gki, .inr (4, [.ref kw, .ref kf, .int kz])), (kw, .inl (k1, 20, .inr (.inl kgw))), (kf, .inl (k2, 20, .inl kgf))]) [12, 13, 14] rfl
  have hDc := hD.sub (ws' := [(gki, .inr (4, [.ref kw, .ref kf, .int kz])), (kw, .inl (k1, 20, .inr (.inl kgw))), (kf, .inl (k2, 20, .inl kgf))]) [12, 13, 14] (by decide) rfl
  have hKc := hK.sub (tys' := [(k1, .long), (k2, .int)]) [8, 9] rfl
  have hFc := va_free (wc := [(gki, .inr (4, [.ref kw, .ref kf, .int kz])), (kw, .inl (k1, 20, .inr (.inl kgw))), (kf, .inl (k2, 20, .inl kgf))]) hD hS hAA [12, 13, 14] rfl
  refine va_calli (va_runV (As := [.int x_1]) (rest := []) ⟨hx, hb, hml, hown, hA⟩ (c_X4_fieldsOf_x l dC dI aK aV gki kw kf k1 k2 kz kgw kgf x_1 s.heap.size (by omega) (by omega) hkf) (cwV 1 hA (zw_V wi_1197 wi_803 wi_804 wi_134 (zw_good wi_805)) rfl rfl rfl (by decide +kernel) ⟨(Nat.le_of_ble_eq_true rfl), (Nat.le_of_ble_eq_true rfl)⟩) ⟨zP_blind, va_recv hKc hPc (ci := 4) (q0 := 0) rfl rfl, zz_pre hKc hPc hDc hN hT hS hFc⟩ rfl rfl hl.1 rfl (lv_room (Nat.le_of_ble_eq_true rfl)) dX5_build_18 ⟨(Nat.le_of_ble_eq_true rfl), (Nat.le_of_ble_eq_true rfl)⟩) hS (fun q _ h => hFc q h) hFc (fun r_2 u t H1 locs ht hvm hw hB hz1 hk1 hS => ?_)
  obtain ⟨hP1, hK1, hD1⟩ := hB
  rw [ht] at hP1
  have hK1 := va_K.moved hvm.symm hK1
  obtain ⟨hP, hD⟩ := va_join (wr := [(h0, .inr (5, [.ref mp, .ref gco, .ref mce, .int mcn, .ref sk, .int tp, .int ba, .ref kb, .ref kk, .ref ks, .int on, .ref sh, .int sn, .int mat, .int alw, .int st, .int mo, .int mh, .int sp, .long re])), (sk, .inl (sk1, 22424, .inr (.inl gs))), (ks, .inl (ks1, 100, .inl gks)), (sh, .inl (sh1, 3000, .inl gsh)), (gco, .inr (2, [.ref cop, .ref ca, .ref cb, .ref cplace, .ref cnext, .ref cneeded, .int cz, .int ct])), (ca, .inl (cka, 3000, .inl cga)), (cplace, .inl (ckplace, 3000, .inl cgplace)), (mp, .inr (9, [.ref gco, .ref gar, .ref gki, .ref gfu])), (mce, .inr (1, [.ref ek, .ref ec, .ref ef, .ref gki, .int e_limit, .int e_fresh, .int e_firstFree, .int e_held, .int e_mostHeld, .int e_made, .int e_reused, .int e_freed, .int e_doubled])), (ek, .inl (e1, 4000, .inl gk)), (ec, .inl (e2, 4000, .inl gc)), (ef, .inl (e3, 12000, .inr (.inl gv)))]) (w1 := [(gki, .inr (4, [.ref kw, .ref kf, .int kz])), (kw, .inl (k1, 20, .inr (.inl kgw))), (kf, .inl (k2, 20, .inl kgf))]) hP hD [12, 13, 14] [0, 1, 2, 3, 4, 5, 6, 7, 8, 9, 10, 11] rfl rfl (by decide) (by decide) hk1 hFc hP1 hD1
  have hK := (hK.sub (tys' := [(sk1, .long), (ks1, .int), (sh1, .int), (cka, .int), (ckplace, .int), (e1, .int), (e2, .int), (e3, .long)]) [0, 1, 2, 3, 4, 5, 6, 7] rfl).app hK1
  generalize H1 = H at hP hS ⊢
  have hP : va_P (dC, dI) vwCl [(h0, .inr (5, [.ref mp, .ref gco, .ref mce, .int mcn, .ref sk, .int tp, .int ba, .ref kb, .ref kk, .ref ks, .int on, .ref sh, .int sn, .int mat, .int alw, .int st, .int mo, .int mh, .int sp, .long re])), (sk, .inl (sk1, 22424, .inr (.inl gs))), (ks, .inl (ks1, 100, .inl gks)), (sh, .inl (sh1, 3000, .inl gsh)), (gco, .inr (2, [.ref cop, .ref ca, .ref cb, .ref cplace, .ref cnext, .ref cneeded, .int cz, .int ct])), (ca, .inl (cka, 3000, .inl cga)), (cplace, .inl (ckplace, 3000, .inl cgplace)), (mp, .inr (9, [.ref gco, .ref gar, .ref gki, .ref gfu])), (mce, .inr (1, [.ref ek, .ref ec, .ref ef, .ref gki, .int e_limit, .int e_fresh, .int e_firstFree, .int e_held, .int e_mostHeld, .int e_made, .int e_reused, .int e_freed, .int e_doubled])), (ek, .inl (e1, 4000, .inl gk)), (ec, .inl (e2, 4000, .inl gc)), (ef, .inl (e3, 12000, .inr (.inl gv))), (gki, .inr (4, [.ref kw, .ref kf, .int kz])), (kw, .inl (k1, 20, .inr (.inl kgw))), (kf, .inl (k2, 20, .inl kgf))] H := hP
  have hD : va_D A [(h0, .inr (5, [.ref mp, .ref gco, .ref mce, .int mcn, .ref sk, .int tp, .int ba, .ref kb, .ref kk, .ref ks, .int on, .ref sh, .int sn, .int mat, .int alw, .int st, .int mo, .int mh, .int sp, .long re])), (sk, .inl (sk1, 22424, .inr (.inl gs))), (ks, .inl (ks1, 100, .inl gks)), (sh, .inl (sh1, 3000, .inl gsh)), (gco, .inr (2, [.ref cop, .ref ca, .ref cb, .ref cplace, .ref cnext, .ref cneeded, .int cz, .int ct])), (ca, .inl (cka, 3000, .inl cga)), (cplace, .inl (ckplace, 3000, .inl cgplace)), (mp, .inr (9, [.ref gco, .ref gar, .ref gki, .ref gfu])), (mce, .inr (1, [.ref ek, .ref ec, .ref ef, .ref gki, .int e_limit, .int e_fresh, .int e_firstFree, .int e_held, .int e_mostHeld, .int e_made, .int e_reused, .int e_freed, .int e_doubled])), (ek, .inl (e1, 4000, .inl gk)), (ec, .inl (e2, 4000, .inl gc)), (ef, .inl (e3, 12000, .inr (.inl gv))), (gki, .inr (4, [.ref kw, .ref kf, .int kz])), (kw, .inl (k1, 20, .inr (.inl kgw))), (kf, .inl (k2, 20, .inl kgf))] := hD
  have hK : va_K (dC, dI) vwCl [(sk1, .long), (ks1, .int), (sh1, .int), (cka, .int), (ckplace, .int), (e1, .int), (e2, .int), (e3, .long), (k1, .long), (k2, .int)] s := hK
  have hw_r_2 := hw
  try dsimp only at hw_r_2
  obtain ⟨hq_3, hq_4, hq_5⟩ := hw
  have hwv9 : r_2.toInt = wz := by rw [hq_5, ex_1]; exact hwz
  have zfk3 : ∀ k, zfk kz kgf k ≤ 3 := (fun k => zfk_3 hkf k)
  refine lv_istore_n (lv' := [(3, .int r_2), (2, .int x_1), (0, .ref h0), (1, .int ro)]) hx hb dX5_build_21 rfl hl (by decide) rfl (fun ls hl => ?_)
  refine lv_aload_n hx hb dX5_build_22 rfl (lv_at hl 2 rfl) ?_
  refine lv_iload_n hx hb dX5_build_23 rfl (lv_at hl 0 rfl) ?_
  have hPc := hP.sub (ws' := [(h0, .inr (5, [.ref mp, .ref gco, .ref mce, .int mcn, .ref sk, .int tp, .int ba, .ref kb, .ref kk, .ref ks, .int on, .ref sh, .int sn, .int mat, .int alw, .int st, .int mo, .int mh, .int sp, .long re])), (ks, .inl (ks1, 100, .inl gks)), (sh, .inl (sh1, 3000, .inl gsh)), (mce, .inr (1, [.ref ek, .ref ec, .ref ef, .ref gki, .int e_limit, .int e_fresh, .int e_firstFree, .int e_held, .int e_mostHeld, .int e_made, .int e_reused, .int e_freed, .int e_doubled])), (ek, .inl (e1, 4000, .inl gk)), (ec, .inl (e2, 4000, .inl gc)), (ef, .inl (e3, 12000, .inr (.inl gv))), (gki, .inr (4, [.ref kw, .ref kf, .int kz])), (kw, .inl (k1, 20, .inr (.inl kgw))), (kf, .inl (k2, 20, .inl kgf))]) [0, 2, 3, 8, 9, 10, 11, 12, 13, 14] rfl
  have hDc := hD.sub (ws' := [(h0, .inr (5, [.ref mp, .ref gco, .ref mce, .int mcn, .ref sk, .int tp, .int ba, .ref kb, .ref kk, .ref ks, .int on, .ref sh, .int sn, .int mat, .int alw, .int st, .int mo, .int mh, .int sp, .long re])), (ks, .inl (ks1, 100, .inl gks)), (sh, .inl (sh1, 3000, .inl gsh)), (mce, .inr (1, [.ref ek, .ref ec, .ref ef, .ref gki, .int e_limit, .int e_fresh, .int e_firstFree, .int e_held, .int e_mostHeld, .int e_made, .int e_reused, .int e_freed, .int e_doubled])), (ek, .inl (e1, 4000, .inl gk)), (ec, .inl (e2, 4000, .inl gc)), (ef, .inl (e3, 12000, .inr (.inl gv))), (gki, .inr (4, [.ref kw, .ref kf, .int kz])), (kw, .inl (k1, 20, .inr (.inl kgw))), (kf, .inl (k2, 20, .inl kgf))]) [0, 2, 3, 8, 9, 10, 11, 12, 13, 14] (by decide) rfl
  have hKc := hK.sub (tys' := [(ks1, .int), (sh1, .int), (e1, .int), (e2, .int), (e3, .long), (k1, .long), (k2, .int)]) [1, 2, 5, 6, 7, 8, 9] rfl
  have hFc := va_free (wc := [(h0, .inr (5, [.ref mp, .ref gco, .ref mce, .int mcn, .ref sk, .int tp, .int ba, .ref kb, .ref kk, .ref ks, .int on, .ref sh, .int sn, .int mat, .int alw, .int st, .int mo, .int mh, .int sp, .long re])), (ks, .inl (ks1, 100, .inl gks)), (sh, .inl (sh1, 3000, .inl gsh)), (mce, .inr (1, [.ref ek, .ref ec, .ref ef, .ref gki, .int e_limit, .int e_fresh, .int e_firstFree, .int e_held, .int e_mostHeld, .int e_made, .int e_reused, .int e_freed, .int e_doubled])), (ek, .inl (e1, 4000, .inl gk)), (ec, .inl (e2, 4000, .inl gc)), (ef, .inl (e3, 12000, .inr (.inl gv))), (gki, .inr (4, [.ref kw, .ref kf, .int kz])), (kw, .inl (k1, 20, .inr (.inl kgw))), (kf, .inl (k2, 20, .inl kgf))]) hD hS hAA [0, 2, 3, 8, 9, 10, 11, 12, 13, 14] rfl
  refine va_calli (va_runV (As := [.int r_2]) (rest := []) ⟨hx, hb, hml, hown, hA⟩ (c_X5_takeShell_4000 l dC dI aK aV h0 mp gco mce sk kb kk ks sh mcn tp ba on sn mat alw st mo mh sp re ks1 gks sh1 gsh ek ec ef gki e1 e2 e3 e_limit e_fresh e_firstFree e_held e_mostHeld e_made e_reused e_freed e_doubled gk gc gv kw kf k1 k2 kz kgw kgf r_2 H.size (by omega) (by omega) hkf (by omega) (by omega) (by omega) (by omega) hks (fun i hi => Or.inl (hmd.2.2 i hi))) (cwV 1 hA (zw_V wi_1198 wi_1200 wi_52 wi_139 (zw_good wi_1201)) rfl rfl rfl (by decide +kernel) ⟨(Nat.le_of_ble_eq_true rfl), (Nat.le_of_ble_eq_true rfl)⟩) ⟨zP_blind, va_recv hKc hPc (ci := 5) (q0 := 0) rfl rfl, zz_pre hKc hPc hDc hN hT hS hFc⟩ rfl rfl hl.1 rfl (lv_room (Nat.le_of_ble_eq_true rfl)) dX5_build_24 ⟨(Nat.le_of_ble_eq_true rfl), (Nat.le_of_ble_eq_true rfl)⟩) hS (fun q _ h => hFc q h) hFc (fun r_6 u t H1 locs ht hvm hw hB hz1 hk1 hS => ?_)
  obtain ⟨gsh_7, rfl⟩ : ∃ z, z = u := ⟨_, rfl⟩
  obtain ⟨hP1, hK1, hD1⟩ := hB
  rw [ht] at hP1
  have hK1 := va_K.moved hvm.symm hK1
  obtain ⟨hP, hD⟩ := va_join (wr := [(sk, .inl (sk1, 22424, .inr (.inl gs))), (gco, .inr (2, [.ref cop, .ref ca, .ref cb, .ref cplace, .ref cnext, .ref cneeded, .int cz, .int ct])), (ca, .inl (cka, 3000, .inl cga)), (cplace, .inl (ckplace, 3000, .inl cgplace)), (mp, .inr (9, [.ref gco, .ref gar, .ref gki, .ref gfu]))]) (w1 := [(h0, .inr (5, [.ref mp, .ref gco, .ref mce, .int mcn, .ref sk, .int tp, .int ba, .ref kb, .ref kk, .ref ks, .int on, .ref sh, .int sn, .int mat, .int alw, .int st, .int mo, .int mh, .int sp, .long re])), (ks, .inl (ks1, 100, .inl gks)), (sh, .inl (sh1, 3000, .inl gsh_7)), (mce, .inr (1, [.ref ek, .ref ec, .ref ef, .ref gki, .int e_limit, .int e_fresh, .int e_firstFree, .int e_held, .int e_mostHeld, .int e_made, .int e_reused, .int e_freed, .int e_doubled])), (ek, .inl (e1, 4000, .inl gk)), (ec, .inl (e2, 4000, .inl gc)), (ef, .inl (e3, 12000, .inr (.inl gv))), (gki, .inr (4, [.ref kw, .ref kf, .int kz])), (kw, .inl (k1, 20, .inr (.inl kgw))), (kf, .inl (k2, 20, .inl kgf))]) hP hD [0, 2, 3, 8, 9, 10, 11, 12, 13, 14] [1, 4, 5, 6, 7] rfl rfl (by decide) (by decide) hk1 hFc hP1 hD1
  have hK := (hK.sub (tys' := [(sk1, .long), (cka, .int), (ckplace, .int)]) [0, 3, 4] rfl).app hK1
  generalize H1 = H at hP hS ⊢
  have hP : va_P (dC, dI) vwCl [(sk, .inl (sk1, 22424, .inr (.inl gs))), (gco, .inr (2, [.ref cop, .ref ca, .ref cb, .ref cplace, .ref cnext, .ref cneeded, .int cz, .int ct])), (ca, .inl (cka, 3000, .inl cga)), (cplace, .inl (ckplace, 3000, .inl cgplace)), (mp, .inr (9, [.ref gco, .ref gar, .ref gki, .ref gfu])), (h0, .inr (5, [.ref mp, .ref gco, .ref mce, .int mcn, .ref sk, .int tp, .int ba, .ref kb, .ref kk, .ref ks, .int on, .ref sh, .int sn, .int mat, .int alw, .int st, .int mo, .int mh, .int sp, .long re])), (ks, .inl (ks1, 100, .inl gks)), (sh, .inl (sh1, 3000, .inl gsh_7)), (mce, .inr (1, [.ref ek, .ref ec, .ref ef, .ref gki, .int e_limit, .int e_fresh, .int e_firstFree, .int e_held, .int e_mostHeld, .int e_made, .int e_reused, .int e_freed, .int e_doubled])), (ek, .inl (e1, 4000, .inl gk)), (ec, .inl (e2, 4000, .inl gc)), (ef, .inl (e3, 12000, .inr (.inl gv))), (gki, .inr (4, [.ref kw, .ref kf, .int kz])), (kw, .inl (k1, 20, .inr (.inl kgw))), (kf, .inl (k2, 20, .inl kgf))] H := hP
  have hD : va_D A [(sk, .inl (sk1, 22424, .inr (.inl gs))), (gco, .inr (2, [.ref cop, .ref ca, .ref cb, .ref cplace, .ref cnext, .ref cneeded, .int cz, .int ct])), (ca, .inl (cka, 3000, .inl cga)), (cplace, .inl (ckplace, 3000, .inl cgplace)), (mp, .inr (9, [.ref gco, .ref gar, .ref gki, .ref gfu])), (h0, .inr (5, [.ref mp, .ref gco, .ref mce, .int mcn, .ref sk, .int tp, .int ba, .ref kb, .ref kk, .ref ks, .int on, .ref sh, .int sn, .int mat, .int alw, .int st, .int mo, .int mh, .int sp, .long re])), (ks, .inl (ks1, 100, .inl gks)), (sh, .inl (sh1, 3000, .inl gsh_7)), (mce, .inr (1, [.ref ek, .ref ec, .ref ef, .ref gki, .int e_limit, .int e_fresh, .int e_firstFree, .int e_held, .int e_mostHeld, .int e_made, .int e_reused, .int e_freed, .int e_doubled])), (ek, .inl (e1, 4000, .inl gk)), (ec, .inl (e2, 4000, .inl gc)), (ef, .inl (e3, 12000, .inr (.inl gv))), (gki, .inr (4, [.ref kw, .ref kf, .int kz])), (kw, .inl (k1, 20, .inr (.inl kgw))), (kf, .inl (k2, 20, .inl kgf))] := hD
  have hK : va_K (dC, dI) vwCl [(sk1, .long), (cka, .int), (ckplace, .int), (ks1, .int), (sh1, .int), (e1, .int), (e2, .int), (e3, .long), (k1, .long), (k2, .int)] s := hK
  have hw_r_6 := hw
  try dsimp only at hw_r_6
  have hq_8 := hw
  refine lv_istore (lv' := [(4, .int r_6), (3, .int r_2), (2, .int x_1), (0, .ref h0), (1, .int ro)]) hx hb dX5_build_27 hl (by decide) rfl (fun ls hl => ?_)
  have hns9 : r_6.toInt = -1 := hq_8.elim (fun u => u.1) (fun u => by obtain ⟨i9, q1, q2, -⟩ := u; exact absurd (hmd.2.2 i9 q1) q2)
  refine lv_iload hx hb dX5_build_29 (lv_at hl 0 rfl) ?_
  refine lv_iconst (v := (-1)) hx hb dX5_build_31 (by decide) ?_
  refine lv_icmp_ne (tgt := 47) hx hb dX5_build_32 (by decide) (fun c_9 => ?_) (fun c_9 => ?_)
  · have ic_9 : r_6.toInt ≠ (-1) := zi_ne c_9
    exfalso
    omega
  · have ic_9 : r_6.toInt = (-1) := zi_eq c_9
    have hts9 : gsh_7 = gsh := hq_8.elim (fun u => u.2) (fun u => by obtain ⟨i9, -, q1, q2, -⟩ := u; rw [← q2] at q1; omega)
    rw [hts9] at hP hD
    have hP : va_P (dC, dI) vwCl [(sk, .inl (sk1, 22424, .inr (.inl gs))), (gco, .inr (2, [.ref cop, .ref ca, .ref cb, .ref cplace, .ref cnext, .ref cneeded, .int cz, .int ct])), (ca, .inl (cka, 3000, .inl cga)), (cplace, .inl (ckplace, 3000, .inl cgplace)), (mp, .inr (9, [.ref gco, .ref gar, .ref gki, .ref gfu])), (h0, .inr (5, [.ref mp, .ref gco, .ref mce, .int mcn, .ref sk, .int tp, .int ba, .ref kb, .ref kk, .ref ks, .int on, .ref sh, .int sn, .int mat, .int alw, .int st, .int mo, .int mh, .int sp, .long re])), (ks, .inl (ks1, 100, .inl gks)), (sh, .inl (sh1, 3000, .inl gsh)), (mce, .inr (1, [.ref ek, .ref ec, .ref ef, .ref gki, .int e_limit, .int e_fresh, .int e_firstFree, .int e_held, .int e_mostHeld, .int e_made, .int e_reused, .int e_freed, .int e_doubled])), (ek, .inl (e1, 4000, .inl gk)), (ec, .inl (e2, 4000, .inl gc)), (ef, .inl (e3, 12000, .inr (.inl gv))), (gki, .inr (4, [.ref kw, .ref kf, .int kz])), (kw, .inl (k1, 20, .inr (.inl kgw))), (kf, .inl (k2, 20, .inl kgf))] H := hP
    have hD : va_D A [(sk, .inl (sk1, 22424, .inr (.inl gs))), (gco, .inr (2, [.ref cop, .ref ca, .ref cb, .ref cplace, .ref cnext, .ref cneeded, .int cz, .int ct])), (ca, .inl (cka, 3000, .inl cga)), (cplace, .inl (ckplace, 3000, .inl cgplace)), (mp, .inr (9, [.ref gco, .ref gar, .ref gki, .ref gfu])), (h0, .inr (5, [.ref mp, .ref gco, .ref mce, .int mcn, .ref sk, .int tp, .int ba, .ref kb, .ref kk, .ref ks, .int on, .ref sh, .int sn, .int mat, .int alw, .int st, .int mo, .int mh, .int sp, .long re])), (ks, .inl (ks1, 100, .inl gks)), (sh, .inl (sh1, 3000, .inl gsh)), (mce, .inr (1, [.ref ek, .ref ec, .ref ef, .ref gki, .int e_limit, .int e_fresh, .int e_firstFree, .int e_held, .int e_mostHeld, .int e_made, .int e_reused, .int e_freed, .int e_doubled])), (ek, .inl (e1, 4000, .inl gk)), (ec, .inl (e2, 4000, .inl gc)), (ef, .inl (e3, 12000, .inr (.inl gv))), (gki, .inr (4, [.ref kw, .ref kf, .int kz])), (kw, .inl (k1, 20, .inr (.inl kgw))), (kf, .inl (k2, 20, .inl kgf))] := hD
    refine lv_aload_n hx hb dX5_build_35 rfl (lv_at hl 3 rfl) ?_
    refine va_get (D := (dC, dI)) (ci := 5) (v := .ref mce) (C := RX5) (T := TX5) (N := 20) hx hb hA zin_X5 hown hK hP 5 rfl rfl 2 (by decide) (hA _ wi_486) (fun _ h9 => h9) rfl dX5_build_36 ?_
    have hPc := hP.sub (ws' := [(mce, .inr (1, [.ref ek, .ref ec, .ref ef, .ref gki, .int e_limit, .int e_fresh, .int e_firstFree, .int e_held, .int e_mostHeld, .int e_made, .int e_reused, .int e_freed, .int e_doubled])), (ek, .inl (e1, 4000, .inl gk)), (ec, .inl (e2, 4000, .inl gc)), (ef, .inl (e3, 12000, .inr (.inl gv)))]) [8, 9, 10, 11] rfl
    have hDc := hD.sub (ws' := [(mce, .inr (1, [.ref ek, .ref ec, .ref ef, .ref gki, .int e_limit, .int e_fresh, .int e_firstFree, .int e_held, .int e_mostHeld, .int e_made, .int e_reused, .int e_freed, .int e_doubled])), (ek, .inl (e1, 4000, .inl gk)), (ec, .inl (e2, 4000, .inl gc)), (ef, .inl (e3, 12000, .inr (.inl gv)))]) [8, 9, 10, 11] (by decide) rfl
    have hKc := hK.sub (tys' := [(e1, .int), (e2, .int), (e3, .long)]) [5, 6, 7] rfl
    have hFc := va_free (wc := [(mce, .inr (1, [.ref ek, .ref ec, .ref ef, .ref gki, .int e_limit, .int e_fresh, .int e_firstFree, .int e_held, .int e_mostHeld, .int e_made, .int e_reused, .int e_freed, .int e_doubled])), (ek, .inl (e1, 4000, .inl gk)), (ec, .inl (e2, 4000, .inl gc)), (ef, .inl (e3, 12000, .inr (.inl gv)))]) hD hS hAA [8, 9, 10, 11] rfl
    refine va_calli (va_runV (As := []) (rest := []) ⟨hx, hb, hml, hown, hA⟩ (c_X1_take_x4000 l dC dI aK aV mce ek ec ef gki e1 e2 e3 e_limit e_fresh e_firstFree e_held e_mostHeld e_made e_reused e_freed e_doubled gk gc gv H.size (by omega) (by omega) (by omega) (by omega)) (cwV 0 hA (zw_V wi_1203 wi_1204 wi_1205 wi_140 (zw_good wi_1206)) rfl rfl rfl (by decide +kernel) ⟨(Nat.le_of_ble_eq_true rfl), (Nat.le_of_ble_eq_true rfl)⟩) ⟨zP_blind, va_recv hKc hPc (ci := 1) (q0 := 0) rfl rfl, zz_pre hKc hPc hDc hN hT hS hFc⟩ rfl rfl hl.1 rfl (lv_room (Nat.le_of_ble_eq_true rfl)) dX5_build_39 ⟨(Nat.le_of_ble_eq_true rfl), (Nat.le_of_ble_eq_true rfl)⟩) hS (fun q _ h => hFc q h) hFc (fun r_10 u t H1 locs ht hvm hw hB hz1 hk1 hS => ?_)
    obtain ⟨fr_11, ff_12, he_13, mh_14, md_15⟩ := u
    obtain ⟨hP1, hK1, hD1⟩ := hB
    rw [ht] at hP1
    have hK1 := va_K.moved hvm.symm hK1
    obtain ⟨hP, hD⟩ := va_join (wr := [(sk, .inl (sk1, 22424, .inr (.inl gs))), (gco, .inr (2, [.ref cop, .ref ca, .ref cb, .ref cplace, .ref cnext, .ref cneeded, .int cz, .int ct])), (ca, .inl (cka, 3000, .inl cga)), (cplace, .inl (ckplace, 3000, .inl cgplace)), (mp, .inr (9, [.ref gco, .ref gar, .ref gki, .ref gfu])), (h0, .inr (5, [.ref mp, .ref gco, .ref mce, .int mcn, .ref sk, .int tp, .int ba, .ref kb, .ref kk, .ref ks, .int on, .ref sh, .int sn, .int mat, .int alw, .int st, .int mo, .int mh, .int sp, .long re])), (ks, .inl (ks1, 100, .inl gks)), (sh, .inl (sh1, 3000, .inl gsh)), (gki, .inr (4, [.ref kw, .ref kf, .int kz])), (kw, .inl (k1, 20, .inr (.inl kgw))), (kf, .inl (k2, 20, .inl kgf))]) (w1 := [(mce, .inr (1, [.ref ek, .ref ec, .ref ef, .ref gki, .int e_limit, .int fr_11, .int ff_12, .int he_13, .int mh_14, .int md_15, .int e_reused, .int e_freed, .int e_doubled])), (ek, .inl (e1, 4000, .inl gk)), (ec, .inl (e2, 4000, .inl gc)), (ef, .inl (e3, 12000, .inr (.inl gv)))]) hP hD [8, 9, 10, 11] [0, 1, 2, 3, 4, 5, 6, 7, 12, 13, 14] rfl rfl (by decide) (by decide) hk1 hFc hP1 hD1
    have hK := (hK.sub (tys' := [(sk1, .long), (cka, .int), (ckplace, .int), (ks1, .int), (sh1, .int), (k1, .long), (k2, .int)]) [0, 1, 2, 3, 4, 8, 9] rfl).app hK1
    generalize H1 = H at hP hS ⊢
    have hP : va_P (dC, dI) vwCl [(sk, .inl (sk1, 22424, .inr (.inl gs))), (gco, .inr (2, [.ref cop, .ref ca, .ref cb, .ref cplace, .ref cnext, .ref cneeded, .int cz, .int ct])), (ca, .inl (cka, 3000, .inl cga)), (cplace, .inl (ckplace, 3000, .inl cgplace)), (mp, .inr (9, [.ref gco, .ref gar, .ref gki, .ref gfu])), (h0, .inr (5, [.ref mp, .ref gco, .ref mce, .int mcn, .ref sk, .int tp, .int ba, .ref kb, .ref kk, .ref ks, .int on, .ref sh, .int sn, .int mat, .int alw, .int st, .int mo, .int mh, .int sp, .long re])), (ks, .inl (ks1, 100, .inl gks)), (sh, .inl (sh1, 3000, .inl gsh)), (gki, .inr (4, [.ref kw, .ref kf, .int kz])), (kw, .inl (k1, 20, .inr (.inl kgw))), (kf, .inl (k2, 20, .inl kgf)), (mce, .inr (1, [.ref ek, .ref ec, .ref ef, .ref gki, .int e_limit, .int fr_11, .int ff_12, .int he_13, .int mh_14, .int md_15, .int e_reused, .int e_freed, .int e_doubled])), (ek, .inl (e1, 4000, .inl gk)), (ec, .inl (e2, 4000, .inl gc)), (ef, .inl (e3, 12000, .inr (.inl gv)))] H := hP
    have hD : va_D A [(sk, .inl (sk1, 22424, .inr (.inl gs))), (gco, .inr (2, [.ref cop, .ref ca, .ref cb, .ref cplace, .ref cnext, .ref cneeded, .int cz, .int ct])), (ca, .inl (cka, 3000, .inl cga)), (cplace, .inl (ckplace, 3000, .inl cgplace)), (mp, .inr (9, [.ref gco, .ref gar, .ref gki, .ref gfu])), (h0, .inr (5, [.ref mp, .ref gco, .ref mce, .int mcn, .ref sk, .int tp, .int ba, .ref kb, .ref kk, .ref ks, .int on, .ref sh, .int sn, .int mat, .int alw, .int st, .int mo, .int mh, .int sp, .long re])), (ks, .inl (ks1, 100, .inl gks)), (sh, .inl (sh1, 3000, .inl gsh)), (gki, .inr (4, [.ref kw, .ref kf, .int kz])), (kw, .inl (k1, 20, .inr (.inl kgw))), (kf, .inl (k2, 20, .inl kgf)), (mce, .inr (1, [.ref ek, .ref ec, .ref ef, .ref gki, .int e_limit, .int fr_11, .int ff_12, .int he_13, .int mh_14, .int md_15, .int e_reused, .int e_freed, .int e_doubled])), (ek, .inl (e1, 4000, .inl gk)), (ec, .inl (e2, 4000, .inl gc)), (ef, .inl (e3, 12000, .inr (.inl gv)))] := hD
    have hK : va_K (dC, dI) vwCl [(sk1, .long), (cka, .int), (ckplace, .int), (ks1, .int), (sh1, .int), (k1, .long), (k2, .int), (e1, .int), (e2, .int), (e3, .long)] s := hK
    have hw_r_10 := hw
    try dsimp only at hw_r_10
    obtain ⟨hq_16, hq_17, hq_18⟩ := hw
    refine lv_istore (lv' := [(4, .int r_10), (3, .int r_2), (2, .int x_1), (0, .ref h0), (1, .int ro)]) hx hb dX5_build_42 hl (by decide) rfl (fun ls hl => ?_)
    refine lv_goto (tgt := 60) hx hb dX5_build_44 (by decide) ?_
    refine lv_iload hx hb dX5_build_60 (lv_at hl 0 rfl) ?_
    refine lv_iconst (v := (-1)) hx hb dX5_build_62 (by decide) ?_
    refine lv_icmp_ne (tgt := 73) hx hb dX5_build_63 (by decide) (fun c_19 => ?_) (fun c_19 => ?_)
    · have ic_19 : r_10.toInt ≠ (-1) := zi_ne c_19
      refine lv_aload_n hx hb dX5_build_73 rfl (lv_at hl 3 rfl) ?_
      refine lv_iconst (v := 0) hx hb dX5_build_74 (by decide) ?_
      refine lv_aload_n hx hb dX5_build_75 rfl (lv_at hl 3 rfl) ?_
      refine va_get (D := (dC, dI)) (ci := 5) (v := .int tp) (C := RX5) (T := TX5) (N := 20) hx hb hA zin_X5 hown hK hP 5 rfl rfl 5 (by decide) (hA _ wi_489) (fun _ h9 => h9) rfl dX5_build_76 ?_
      refine lv_iload_n hx hb dX5_build_79 rfl (lv_at hl 1 rfl) ?_
      refine lv_isub hx hb dX5_build_80 ?_
      refine lv_topi (fun x_20 ex_20 => ?_)
      have ix_20 : x_20.toInt = tp.toInt - r_2.toInt := by rw [ex_20]; exact zi_subc rfl (by omega) (by omega)
      refine va_mmax hx hb (by rw [hml]; exact hl.1.symm) hown (hA _ wi_1119) (hA _ wi_431) (hA _ wi_141) (hA _ wi_432) (Nat.le_of_ble_eq_true rfl) (Nat.le_of_ble_eq_true rfl) (Nat.le_of_ble_eq_true rfl) (Nat.le_of_ble_eq_true rfl) dX5_build_81 ?_
      refine lv_topi (fun x_21 ex_21 => ?_)
      have ix_21 : x_21.toInt ≥ 0 ∧ x_21.toInt ≥ x_20.toInt ∧ (x_21.toInt = 0 ∨ x_21.toInt = x_20.toInt) := zi_max ex_21 (by decide) rfl
      refine va_put (D := (dC, dI)) (ci := 5) (v := .int x_21) (ty := .int) (C := RX5) (T := TX5) (N := 20) hx hb hA zin_X5 tyX5 tyX5_ok nmX5 hown hK hP hD hS 5 rfl rfl 5 (by decide) (hA _ wi_489) (fun _ h9 => h9) rfl (by decide +kernel) rfl rfl (Nat.le_of_ble_eq_true rfl) dX5_build_84 (fun H locs hP hD hS => ?_)
      have hP : va_P (dC, dI) vwCl [(sk, .inl (sk1, 22424, .inr (.inl gs))), (gco, .inr (2, [.ref cop, .ref ca, .ref cb, .ref cplace, .ref cnext, .ref cneeded, .int cz, .int ct])), (ca, .inl (cka, 3000, .inl cga)), (cplace, .inl (ckplace, 3000, .inl cgplace)), (mp, .inr (9, [.ref gco, .ref gar, .ref gki, .ref gfu])), (h0, .inr (5, [.ref mp, .ref gco, .ref mce, .int mcn, .ref sk, .int x_21, .int ba, .ref kb, .ref kk, .ref ks, .int on, .ref sh, .int sn, .int mat, .int alw, .int st, .int mo, .int mh, .int sp, .long re])), (ks, .inl (ks1, 100, .inl gks)), (sh, .inl (sh1, 3000, .inl gsh)), (gki, .inr (4, [.ref kw, .ref kf, .int kz])), (kw, .inl (k1, 20, .inr (.inl kgw))), (kf, .inl (k2, 20, .inl kgf)), (mce, .inr (1, [.ref ek, .ref ec, .ref ef, .ref gki, .int e_limit, .int fr_11, .int ff_12, .int he_13, .int mh_14, .int md_15, .int e_reused, .int e_freed, .int e_doubled])), (ek, .inl (e1, 4000, .inl gk)), (ec, .inl (e2, 4000, .inl gc)), (ef, .inl (e3, 12000, .inr (.inl gv)))] H := hP
      have hD : va_D A [(sk, .inl (sk1, 22424, .inr (.inl gs))), (gco, .inr (2, [.ref cop, .ref ca, .ref cb, .ref cplace, .ref cnext, .ref cneeded, .int cz, .int ct])), (ca, .inl (cka, 3000, .inl cga)), (cplace, .inl (ckplace, 3000, .inl cgplace)), (mp, .inr (9, [.ref gco, .ref gar, .ref gki, .ref gfu])), (h0, .inr (5, [.ref mp, .ref gco, .ref mce, .int mcn, .ref sk, .int x_21, .int ba, .ref kb, .ref kk, .ref ks, .int on, .ref sh, .int sn, .int mat, .int alw, .int st, .int mo, .int mh, .int sp, .long re])), (ks, .inl (ks1, 100, .inl gks)), (sh, .inl (sh1, 3000, .inl gsh)), (gki, .inr (4, [.ref kw, .ref kf, .int kz])), (kw, .inl (k1, 20, .inr (.inl kgw))), (kf, .inl (k2, 20, .inl kgf)), (mce, .inr (1, [.ref ek, .ref ec, .ref ef, .ref gki, .int e_limit, .int fr_11, .int ff_12, .int he_13, .int mh_14, .int md_15, .int e_reused, .int e_freed, .int e_doubled])), (ek, .inl (e1, 4000, .inl gk)), (ec, .inl (e2, 4000, .inl gc)), (ef, .inl (e3, 12000, .inr (.inl gv)))] := hD
      refine lv_aload_n hx hb dX5_build_87 rfl (lv_at hl 3 rfl) ?_
      refine va_get (D := (dC, dI)) (ci := 5) (v := .ref mce) (C := RX5) (T := TX5) (N := 20) hx hb hA zin_X5 hown hK hP 5 rfl rfl 2 (by decide) (hA _ wi_486) (fun _ h9 => h9) rfl dX5_build_88 ?_
      have hwk8 : zfk kz kgf x_1 = wz := by rw [ex_1]; exact hwz
      refine lv_iload hx hb dX5_build_91 (lv_at hl 0 rfl) ?_
      refine lv_iload_n hx hb dX5_build_93 rfl (lv_at hl 2 rfl) ?_
      refine lv_aload_n hx hb dX5_build_94 rfl (lv_at hl 3 rfl) ?_
      refine va_get (D := (dC, dI)) (ci := 5) (v := .ref sk) (C := RX5) (T := TX5) (N := 20) hx hb hA zin_X5 hown hK hP 5 rfl rfl 4 (by decide) (hA _ wi_488) (fun _ h9 => h9) rfl dX5_build_95 ?_
      refine lv_aload_n hx hb dX5_build_98 rfl (lv_at hl 3 rfl) ?_
      refine va_get (D := (dC, dI)) (ci := 5) (v := .int x_21) (C := RX5) (T := TX5) (N := 20) hx hb hA zin_X5 hown hK hP 5 rfl rfl 5 (by decide) (hA _ wi_489) (fun _ h9 => h9) rfl dX5_build_99 ?_
      have hPc := hP.sub (ws' := [(mce, .inr (1, [.ref ek, .ref ec, .ref ef, .ref gki, .int e_limit, .int fr_11, .int ff_12, .int he_13, .int mh_14, .int md_15, .int e_reused, .int e_freed, .int e_doubled])), (ek, .inl (e1, 4000, .inl gk)), (ec, .inl (e2, 4000, .inl gc)), (ef, .inl (e3, 12000, .inr (.inl gv))), (gki, .inr (4, [.ref kw, .ref kf, .int kz])), (kw, .inl (k1, 20, .inr (.inl kgw))), (kf, .inl (k2, 20, .inl kgf)), (sk, .inl (sk1, 22424, .inr (.inl gs)))]) [11, 12, 13, 14, 8, 9, 10, 0] rfl
      have hDc := hD.sub (ws' := [(mce, .inr (1, [.ref ek, .ref ec, .ref ef, .ref gki, .int e_limit, .int fr_11, .int ff_12, .int he_13, .int mh_14, .int md_15, .int e_reused, .int e_freed, .int e_doubled])), (ek, .inl (e1, 4000, .inl gk)), (ec, .inl (e2, 4000, .inl gc)), (ef, .inl (e3, 12000, .inr (.inl gv))), (gki, .inr (4, [.ref kw, .ref kf, .int kz])), (kw, .inl (k1, 20, .inr (.inl kgw))), (kf, .inl (k2, 20, .inl kgf)), (sk, .inl (sk1, 22424, .inr (.inl gs)))]) [11, 12, 13, 14, 8, 9, 10, 0] (by decide) rfl
      have hKc := hK.sub (tys' := [(e1, .int), (e2, .int), (e3, .long), (k1, .long), (k2, .int), (sk1, .long)]) [7, 8, 9, 5, 6, 0] rfl
      have hFc := va_free (wc := [(mce, .inr (1, [.ref ek, .ref ec, .ref ef, .ref gki, .int e_limit, .int fr_11, .int ff_12, .int he_13, .int mh_14, .int md_15, .int e_reused, .int e_freed, .int e_doubled])), (ek, .inl (e1, 4000, .inl gk)), (ec, .inl (e2, 4000, .inl gc)), (ef, .inl (e3, 12000, .inr (.inl gv))), (gki, .inr (4, [.ref kw, .ref kf, .int kz])), (kw, .inl (k1, 20, .inr (.inl kgw))), (kf, .inl (k2, 20, .inl kgf)), (sk, .inl (sk1, 22424, .inr (.inl gs)))]) hD hS hAA [11, 12, 13, 14, 8, 9, 10, 0] rfl
      refine va_callv (va_runV (As := [.int r_10, .int x_1, .ref sk, .int x_21]) (rest := []) ⟨hx, hb, hml, hown, hA⟩ (c_X1_fill_x4000 l dC dI aK aV mce ek ec ef gki e1 e2 e3 e_limit fr_11 ff_12 he_13 mh_14 md_15 e_reused e_freed e_doubled gk gc gv kw kf k1 k2 kz kgw kgf r_10 x_1 sk sk1 gs x_21 H.size (by omega) (by omega) hkf (by omega) (by omega) (by omega) (by omega)) (cwV 4 hA (zw_V wi_1207 wi_1208 wi_1209 wi_140 (zw_good wi_1210)) rfl rfl rfl (by decide +kernel) ⟨(Nat.le_of_ble_eq_true rfl), (Nat.le_of_ble_eq_true rfl)⟩) ⟨zP_blind, va_recv hKc hPc (ci := 1) (q0 := 0) rfl rfl, zz_pre hKc hPc hDc hN hT hS hFc⟩ rfl rfl hl.1 rfl (lv_room (Nat.le_of_ble_eq_true rfl)) dX5_build_102 ⟨(Nat.le_of_ble_eq_true rfl), (Nat.le_of_ble_eq_true rfl)⟩) hS (fun q _ h => hFc q h) hFc (fun u t H1 locs ht hvm hw hB hz1 hk1 hS => ?_)
      obtain ⟨gk_23, gc_24, gv_25⟩ := u
      obtain ⟨hP1, hK1, hD1⟩ := hB
      rw [ht] at hP1
      have hK1 := va_K.moved hvm.symm hK1
      obtain ⟨hP, hD⟩ := va_join (wr := [(gco, .inr (2, [.ref cop, .ref ca, .ref cb, .ref cplace, .ref cnext, .ref cneeded, .int cz, .int ct])), (ca, .inl (cka, 3000, .inl cga)), (cplace, .inl (ckplace, 3000, .inl cgplace)), (mp, .inr (9, [.ref gco, .ref gar, .ref gki, .ref gfu])), (h0, .inr (5, [.ref mp, .ref gco, .ref mce, .int mcn, .ref sk, .int x_21, .int ba, .ref kb, .ref kk, .ref ks, .int on, .ref sh, .int sn, .int mat, .int alw, .int st, .int mo, .int mh, .int sp, .long re])), (ks, .inl (ks1, 100, .inl gks)), (sh, .inl (sh1, 3000, .inl gsh))]) (w1 := [(mce, .inr (1, [.ref ek, .ref ec, .ref ef, .ref gki, .int e_limit, .int fr_11, .int ff_12, .int he_13, .int mh_14, .int md_15, .int e_reused, .int e_freed, .int e_doubled])), (ek, .inl (e1, 4000, .inl gk_23)), (ec, .inl (e2, 4000, .inl gc_24)), (ef, .inl (e3, 12000, .inr (.inl gv_25))), (gki, .inr (4, [.ref kw, .ref kf, .int kz])), (kw, .inl (k1, 20, .inr (.inl kgw))), (kf, .inl (k2, 20, .inl kgf)), (sk, .inl (sk1, 22424, .inr (.inl gs)))]) hP hD [11, 12, 13, 14, 8, 9, 10, 0] [1, 2, 3, 4, 5, 6, 7] rfl rfl (by decide) (by decide) hk1 hFc hP1 hD1
      have hK := (hK.sub (tys' := [(cka, .int), (ckplace, .int), (ks1, .int), (sh1, .int)]) [1, 2, 3, 4] rfl).app hK1
      generalize H1 = H at hP hS ⊢
      have hP : va_P (dC, dI) vwCl [(gco, .inr (2, [.ref cop, .ref ca, .ref cb, .ref cplace, .ref cnext, .ref cneeded, .int cz, .int ct])), (ca, .inl (cka, 3000, .inl cga)), (cplace, .inl (ckplace, 3000, .inl cgplace)), (mp, .inr (9, [.ref gco, .ref gar, .ref gki, .ref gfu])), (h0, .inr (5, [.ref mp, .ref gco, .ref mce, .int mcn, .ref sk, .int x_21, .int ba, .ref kb, .ref kk, .ref ks, .int on, .ref sh, .int sn, .int mat, .int alw, .int st, .int mo, .int mh, .int sp, .long re])), (ks, .inl (ks1, 100, .inl gks)), (sh, .inl (sh1, 3000, .inl gsh)), (mce, .inr (1, [.ref ek, .ref ec, .ref ef, .ref gki, .int e_limit, .int fr_11, .int ff_12, .int he_13, .int mh_14, .int md_15, .int e_reused, .int e_freed, .int e_doubled])), (ek, .inl (e1, 4000, .inl gk_23)), (ec, .inl (e2, 4000, .inl gc_24)), (ef, .inl (e3, 12000, .inr (.inl gv_25))), (gki, .inr (4, [.ref kw, .ref kf, .int kz])), (kw, .inl (k1, 20, .inr (.inl kgw))), (kf, .inl (k2, 20, .inl kgf)), (sk, .inl (sk1, 22424, .inr (.inl gs)))] H := hP
      have hD : va_D A [(gco, .inr (2, [.ref cop, .ref ca, .ref cb, .ref cplace, .ref cnext, .ref cneeded, .int cz, .int ct])), (ca, .inl (cka, 3000, .inl cga)), (cplace, .inl (ckplace, 3000, .inl cgplace)), (mp, .inr (9, [.ref gco, .ref gar, .ref gki, .ref gfu])), (h0, .inr (5, [.ref mp, .ref gco, .ref mce, .int mcn, .ref sk, .int x_21, .int ba, .ref kb, .ref kk, .ref ks, .int on, .ref sh, .int sn, .int mat, .int alw, .int st, .int mo, .int mh, .int sp, .long re])), (ks, .inl (ks1, 100, .inl gks)), (sh, .inl (sh1, 3000, .inl gsh)), (mce, .inr (1, [.ref ek, .ref ec, .ref ef, .ref gki, .int e_limit, .int fr_11, .int ff_12, .int he_13, .int mh_14, .int md_15, .int e_reused, .int e_freed, .int e_doubled])), (ek, .inl (e1, 4000, .inl gk_23)), (ec, .inl (e2, 4000, .inl gc_24)), (ef, .inl (e3, 12000, .inr (.inl gv_25))), (gki, .inr (4, [.ref kw, .ref kf, .int kz])), (kw, .inl (k1, 20, .inr (.inl kgw))), (kf, .inl (k2, 20, .inl kgf)), (sk, .inl (sk1, 22424, .inr (.inl gs)))] := hD
      have hK : va_K (dC, dI) vwCl [(cka, .int), (ckplace, .int), (ks1, .int), (sh1, .int), (e1, .int), (e2, .int), (e3, .long), (k1, .long), (k2, .int), (sk1, .long)] s := hK
      obtain ⟨hq_26, hq_27, hq_28⟩ := hw
      have htn9 := zn_nat (x := tp) (by omega)
      have htn8 := zn_nat (x := x_21) (by omega)
      have hok9 := ex_1
      have hfw9 := hq_28
      have hce9 : r_10 = e_fresh := Int32.toInt_inj.mp (by omega)
      have hwk9 : (zfk kz kgf x_1).toNat = wz.toNat := by rw [hok9, hwz]
      have hop9 : ∀ k, k < (zfk kz kgf x_1).toNat → pp (Int32.toNatClampNeg x_21 + k) = true := fun k hk => (by rw [show Int32.toNatClampNeg x_21 = Int32.toNatClampNeg tp - wz.toNat from by omega]; exact hop k (by omega))
      refine lv_aload_n hx hb dX5_build_105 rfl (lv_at hl 3 rfl) ?_
      refine lv_iload hx hb dX5_build_106 (lv_at hl 0 rfl) ?_
      have hPc := hP.sub (ws' := []) [] rfl
      have hDc := hD.sub (ws' := []) [] (by decide) rfl
      have hKc := hK.sub (tys' := []) [] rfl
      have hFc := va_free (wc := []) hD hS hAA [] rfl
      refine va_calll (va_runS (As := [.int r_10]) (rest := [.ref h0]) ⟨hx, hb, hml, hown, hA⟩ (c_X1_ofCell_x l dC dI aK aV r_10 H.size) (va_cwS 1 hA (zw_S wi_1211 wi_1212 wi_140 (zw_good wi_1213)) rfl rfl rfl (by decide +kernel) ⟨(Nat.le_of_ble_eq_true rfl), (Nat.le_of_ble_eq_true rfl)⟩) ⟨zP_blind, zz_pre hKc hPc hDc hN hT hS hFc⟩ rfl rfl hl.1 rfl (lv_room (Nat.le_of_ble_eq_true rfl)) dX5_build_108 ⟨(Nat.le_of_ble_eq_true rfl), (Nat.le_of_ble_eq_true rfl)⟩) hS (fun q _ h => hFc q h) hFc (fun r_29 u t H1 locs ht hvm hw hB hz1 hk1 hS => ?_)
      obtain ⟨hP1, hK1, hD1⟩ := hB
      rw [ht] at hP1
      have hK1 := va_K.moved hvm.symm hK1
      obtain ⟨hP, hD⟩ := va_join (wr := [(gco, .inr (2, [.ref cop, .ref ca, .ref cb, .ref cplace, .ref cnext, .ref cneeded, .int cz, .int ct])), (ca, .inl (cka, 3000, .inl cga)), (cplace, .inl (ckplace, 3000, .inl cgplace)), (mp, .inr (9, [.ref gco, .ref gar, .ref gki, .ref gfu])), (h0, .inr (5, [.ref mp, .ref gco, .ref mce, .int mcn, .ref sk, .int x_21, .int ba, .ref kb, .ref kk, .ref ks, .int on, .ref sh, .int sn, .int mat, .int alw, .int st, .int mo, .int mh, .int sp, .long re])), (ks, .inl (ks1, 100, .inl gks)), (sh, .inl (sh1, 3000, .inl gsh)), (mce, .inr (1, [.ref ek, .ref ec, .ref ef, .ref gki, .int e_limit, .int fr_11, .int ff_12, .int he_13, .int mh_14, .int md_15, .int e_reused, .int e_freed, .int e_doubled])), (ek, .inl (e1, 4000, .inl gk_23)), (ec, .inl (e2, 4000, .inl gc_24)), (ef, .inl (e3, 12000, .inr (.inl gv_25))), (gki, .inr (4, [.ref kw, .ref kf, .int kz])), (kw, .inl (k1, 20, .inr (.inl kgw))), (kf, .inl (k2, 20, .inl kgf)), (sk, .inl (sk1, 22424, .inr (.inl gs)))]) (w1 := []) hP hD [] [0, 1, 2, 3, 4, 5, 6, 7, 8, 9, 10, 11, 12, 13, 14] rfl rfl (by decide) (by decide) hk1 hFc hP1 hD1
      have hK := (hK.sub (tys' := [(cka, .int), (ckplace, .int), (ks1, .int), (sh1, .int), (e1, .int), (e2, .int), (e3, .long), (k1, .long), (k2, .int), (sk1, .long)]) [0, 1, 2, 3, 4, 5, 6, 7, 8, 9] rfl).app hK1
      generalize H1 = H at hP hS ⊢
      have hP : va_P (dC, dI) vwCl [(gco, .inr (2, [.ref cop, .ref ca, .ref cb, .ref cplace, .ref cnext, .ref cneeded, .int cz, .int ct])), (ca, .inl (cka, 3000, .inl cga)), (cplace, .inl (ckplace, 3000, .inl cgplace)), (mp, .inr (9, [.ref gco, .ref gar, .ref gki, .ref gfu])), (h0, .inr (5, [.ref mp, .ref gco, .ref mce, .int mcn, .ref sk, .int x_21, .int ba, .ref kb, .ref kk, .ref ks, .int on, .ref sh, .int sn, .int mat, .int alw, .int st, .int mo, .int mh, .int sp, .long re])), (ks, .inl (ks1, 100, .inl gks)), (sh, .inl (sh1, 3000, .inl gsh)), (mce, .inr (1, [.ref ek, .ref ec, .ref ef, .ref gki, .int e_limit, .int fr_11, .int ff_12, .int he_13, .int mh_14, .int md_15, .int e_reused, .int e_freed, .int e_doubled])), (ek, .inl (e1, 4000, .inl gk_23)), (ec, .inl (e2, 4000, .inl gc_24)), (ef, .inl (e3, 12000, .inr (.inl gv_25))), (gki, .inr (4, [.ref kw, .ref kf, .int kz])), (kw, .inl (k1, 20, .inr (.inl kgw))), (kf, .inl (k2, 20, .inl kgf)), (sk, .inl (sk1, 22424, .inr (.inl gs)))] H := hP
      have hD : va_D A [(gco, .inr (2, [.ref cop, .ref ca, .ref cb, .ref cplace, .ref cnext, .ref cneeded, .int cz, .int ct])), (ca, .inl (cka, 3000, .inl cga)), (cplace, .inl (ckplace, 3000, .inl cgplace)), (mp, .inr (9, [.ref gco, .ref gar, .ref gki, .ref gfu])), (h0, .inr (5, [.ref mp, .ref gco, .ref mce, .int mcn, .ref sk, .int x_21, .int ba, .ref kb, .ref kk, .ref ks, .int on, .ref sh, .int sn, .int mat, .int alw, .int st, .int mo, .int mh, .int sp, .long re])), (ks, .inl (ks1, 100, .inl gks)), (sh, .inl (sh1, 3000, .inl gsh)), (mce, .inr (1, [.ref ek, .ref ec, .ref ef, .ref gki, .int e_limit, .int fr_11, .int ff_12, .int he_13, .int mh_14, .int md_15, .int e_reused, .int e_freed, .int e_doubled])), (ek, .inl (e1, 4000, .inl gk_23)), (ec, .inl (e2, 4000, .inl gc_24)), (ef, .inl (e3, 12000, .inr (.inl gv_25))), (gki, .inr (4, [.ref kw, .ref kf, .int kz])), (kw, .inl (k1, 20, .inr (.inl kgw))), (kf, .inl (k2, 20, .inl kgf)), (sk, .inl (sk1, 22424, .inr (.inl gs)))] := hD
      have hK : va_K (dC, dI) vwCl [(cka, .int), (ckplace, .int), (ks1, .int), (sh1, .int), (e1, .int), (e2, .int), (e3, .long), (k1, .long), (k2, .int), (sk1, .long)] s := hK
      obtain ⟨hq_30, hq_31⟩ := hw
      have hPc := hP.sub (ws' := [(h0, .inr (5, [.ref mp, .ref gco, .ref mce, .int mcn, .ref sk, .int x_21, .int ba, .ref kb, .ref kk, .ref ks, .int on, .ref sh, .int sn, .int mat, .int alw, .int st, .int mo, .int mh, .int sp, .long re])), (sk, .inl (sk1, 22424, .inr (.inl gs)))]) [4, 14] rfl
      have hDc := hD.sub (ws' := [(h0, .inr (5, [.ref mp, .ref gco, .ref mce, .int mcn, .ref sk, .int x_21, .int ba, .ref kb, .ref kk, .ref ks, .int on, .ref sh, .int sn, .int mat, .int alw, .int st, .int mo, .int mh, .int sp, .long re])), (sk, .inl (sk1, 22424, .inr (.inl gs)))]) [4, 14] (by decide) rfl
      have hKc := hK.sub (tys' := [(sk1, .long)]) [9] rfl
      have hFc := va_free (wc := [(h0, .inr (5, [.ref mp, .ref gco, .ref mce, .int mcn, .ref sk, .int x_21, .int ba, .ref kb, .ref kk, .ref ks, .int on, .ref sh, .int sn, .int mat, .int alw, .int st, .int mo, .int mh, .int sp, .long re])), (sk, .inl (sk1, 22424, .inr (.inl gs)))]) hD hS hAA [4, 14] rfl
      refine va_callv (va_runV (As := [.long r_29]) (rest := []) ⟨hx, hb, hml, hown, hA⟩ (c_X5_push l dC dI aK aV h0 mp gco mce sk kb kk ks sh mcn x_21 ba on sn mat alw st mo mh sp re sk1 gs r_29 H.size (by omega) (by omega)) (cwV 1 hA (zw_V wi_1176 wi_1106 wi_1107 wi_139 (zw_good wi_1108)) rfl rfl rfl (by decide +kernel) ⟨(Nat.le_of_ble_eq_true rfl), (Nat.le_of_ble_eq_true rfl)⟩) ⟨zP_blind, va_recv hKc hPc (ci := 5) (q0 := 0) rfl rfl, zz_pre hKc hPc hDc hN hT hS hFc⟩ rfl rfl hl.1 rfl (lv_room (Nat.le_of_ble_eq_true rfl)) dX5_build_111 ⟨(Nat.le_of_ble_eq_true rfl), (Nat.le_of_ble_eq_true rfl)⟩) hS (fun q _ h => hFc q h) hFc (fun u t H1 locs ht hvm hw hB hz1 hk1 hS => ?_)
      obtain ⟨tp_33, gs_34⟩ := u
      obtain ⟨hP1, hK1, hD1⟩ := hB
      rw [ht] at hP1
      have hK1 := va_K.moved hvm.symm hK1
      obtain ⟨hP, hD⟩ := va_join (wr := [(gco, .inr (2, [.ref cop, .ref ca, .ref cb, .ref cplace, .ref cnext, .ref cneeded, .int cz, .int ct])), (ca, .inl (cka, 3000, .inl cga)), (cplace, .inl (ckplace, 3000, .inl cgplace)), (mp, .inr (9, [.ref gco, .ref gar, .ref gki, .ref gfu])), (ks, .inl (ks1, 100, .inl gks)), (sh, .inl (sh1, 3000, .inl gsh)), (mce, .inr (1, [.ref ek, .ref ec, .ref ef, .ref gki, .int e_limit, .int fr_11, .int ff_12, .int he_13, .int mh_14, .int md_15, .int e_reused, .int e_freed, .int e_doubled])), (ek, .inl (e1, 4000, .inl gk_23)), (ec, .inl (e2, 4000, .inl gc_24)), (ef, .inl (e3, 12000, .inr (.inl gv_25))), (gki, .inr (4, [.ref kw, .ref kf, .int kz])), (kw, .inl (k1, 20, .inr (.inl kgw))), (kf, .inl (k2, 20, .inl kgf))]) (w1 := [(h0, .inr (5, [.ref mp, .ref gco, .ref mce, .int mcn, .ref sk, .int tp_33, .int ba, .ref kb, .ref kk, .ref ks, .int on, .ref sh, .int sn, .int mat, .int alw, .int st, .int mo, .int mh, .int sp, .long re])), (sk, .inl (sk1, 22424, .inr (.inl gs_34)))]) hP hD [4, 14] [0, 1, 2, 3, 5, 6, 7, 8, 9, 10, 11, 12, 13] rfl rfl (by decide) (by decide) hk1 hFc hP1 hD1
      have hK := (hK.sub (tys' := [(cka, .int), (ckplace, .int), (ks1, .int), (sh1, .int), (e1, .int), (e2, .int), (e3, .long), (k1, .long), (k2, .int)]) [0, 1, 2, 3, 4, 5, 6, 7, 8] rfl).app hK1
      generalize H1 = H at hP hS ⊢
      have hP : va_P (dC, dI) vwCl [(gco, .inr (2, [.ref cop, .ref ca, .ref cb, .ref cplace, .ref cnext, .ref cneeded, .int cz, .int ct])), (ca, .inl (cka, 3000, .inl cga)), (cplace, .inl (ckplace, 3000, .inl cgplace)), (mp, .inr (9, [.ref gco, .ref gar, .ref gki, .ref gfu])), (ks, .inl (ks1, 100, .inl gks)), (sh, .inl (sh1, 3000, .inl gsh)), (mce, .inr (1, [.ref ek, .ref ec, .ref ef, .ref gki, .int e_limit, .int fr_11, .int ff_12, .int he_13, .int mh_14, .int md_15, .int e_reused, .int e_freed, .int e_doubled])), (ek, .inl (e1, 4000, .inl gk_23)), (ec, .inl (e2, 4000, .inl gc_24)), (ef, .inl (e3, 12000, .inr (.inl gv_25))), (gki, .inr (4, [.ref kw, .ref kf, .int kz])), (kw, .inl (k1, 20, .inr (.inl kgw))), (kf, .inl (k2, 20, .inl kgf)), (h0, .inr (5, [.ref mp, .ref gco, .ref mce, .int mcn, .ref sk, .int tp_33, .int ba, .ref kb, .ref kk, .ref ks, .int on, .ref sh, .int sn, .int mat, .int alw, .int st, .int mo, .int mh, .int sp, .long re])), (sk, .inl (sk1, 22424, .inr (.inl gs_34)))] H := hP
      have hD : va_D A [(gco, .inr (2, [.ref cop, .ref ca, .ref cb, .ref cplace, .ref cnext, .ref cneeded, .int cz, .int ct])), (ca, .inl (cka, 3000, .inl cga)), (cplace, .inl (ckplace, 3000, .inl cgplace)), (mp, .inr (9, [.ref gco, .ref gar, .ref gki, .ref gfu])), (ks, .inl (ks1, 100, .inl gks)), (sh, .inl (sh1, 3000, .inl gsh)), (mce, .inr (1, [.ref ek, .ref ec, .ref ef, .ref gki, .int e_limit, .int fr_11, .int ff_12, .int he_13, .int mh_14, .int md_15, .int e_reused, .int e_freed, .int e_doubled])), (ek, .inl (e1, 4000, .inl gk_23)), (ec, .inl (e2, 4000, .inl gc_24)), (ef, .inl (e3, 12000, .inr (.inl gv_25))), (gki, .inr (4, [.ref kw, .ref kf, .int kz])), (kw, .inl (k1, 20, .inr (.inl kgw))), (kf, .inl (k2, 20, .inl kgf)), (h0, .inr (5, [.ref mp, .ref gco, .ref mce, .int mcn, .ref sk, .int tp_33, .int ba, .ref kb, .ref kk, .ref ks, .int on, .ref sh, .int sn, .int mat, .int alw, .int st, .int mo, .int mh, .int sp, .long re])), (sk, .inl (sk1, 22424, .inr (.inl gs_34)))] := hD
      have hK : va_K (dC, dI) vwCl [(cka, .int), (ckplace, .int), (ks1, .int), (sh1, .int), (e1, .int), (e2, .int), (e3, .long), (k1, .long), (k2, .int), (sk1, .long)] s := hK
      obtain ⟨hq_35, hq_36⟩ := hw
      have hP9 := hP.sub (ws' := [(h0, .inr (5, [.ref mp, .ref gco, .ref mce, .int mcn, .ref sk, .int tp_33, .int ba, .ref kb, .ref kk, .ref ks, .int on, .ref sh, .int sn, .int mat, .int alw, .int st, .int mo, .int mh, .int sp, .long re])), (sk, .inl (sk1, 22424, .inr (.inl gs_34))), (ks, .inl (ks1, 100, .inl gks)), (sh, .inl (sh1, 3000, .inl gsh)), (gco, .inr (2, [.ref cop, .ref ca, .ref cb, .ref cplace, .ref cnext, .ref cneeded, .int cz, .int ct])), (ca, .inl (cka, 3000, .inl cga)), (cplace, .inl (ckplace, 3000, .inl cgplace)), (mp, .inr (9, [.ref gco, .ref gar, .ref gki, .ref gfu])), (mce, .inr (1, [.ref ek, .ref ec, .ref ef, .ref gki, .int e_limit, .int fr_11, .int ff_12, .int he_13, .int mh_14, .int md_15, .int e_reused, .int e_freed, .int e_doubled])), (ek, .inl (e1, 4000, .inl gk_23)), (ec, .inl (e2, 4000, .inl gc_24)), (ef, .inl (e3, 12000, .inr (.inl gv_25))), (gki, .inr (4, [.ref kw, .ref kf, .int kz])), (kw, .inl (k1, 20, .inr (.inl kgw))), (kf, .inl (k2, 20, .inl kgf))]) [13, 14, 4, 5, 0, 1, 2, 3, 6, 7, 8, 9, 10, 11, 12] rfl
      have hD9 := hD.sub (ws' := [(h0, .inr (5, [.ref mp, .ref gco, .ref mce, .int mcn, .ref sk, .int tp_33, .int ba, .ref kb, .ref kk, .ref ks, .int on, .ref sh, .int sn, .int mat, .int alw, .int st, .int mo, .int mh, .int sp, .long re])), (sk, .inl (sk1, 22424, .inr (.inl gs_34))), (ks, .inl (ks1, 100, .inl gks)), (sh, .inl (sh1, 3000, .inl gsh)), (gco, .inr (2, [.ref cop, .ref ca, .ref cb, .ref cplace, .ref cnext, .ref cneeded, .int cz, .int ct])), (ca, .inl (cka, 3000, .inl cga)), (cplace, .inl (ckplace, 3000, .inl cgplace)), (mp, .inr (9, [.ref gco, .ref gar, .ref gki, .ref gfu])), (mce, .inr (1, [.ref ek, .ref ec, .ref ef, .ref gki, .int e_limit, .int fr_11, .int ff_12, .int he_13, .int mh_14, .int md_15, .int e_reused, .int e_freed, .int e_doubled])), (ek, .inl (e1, 4000, .inl gk_23)), (ec, .inl (e2, 4000, .inl gc_24)), (ef, .inl (e3, 12000, .inr (.inl gv_25))), (gki, .inr (4, [.ref kw, .ref kf, .int kz])), (kw, .inl (k1, 20, .inr (.inl kgw))), (kf, .inl (k2, 20, .inl kgf))]) [13, 14, 4, 5, 0, 1, 2, 3, 6, 7, 8, 9, 10, 11, 12] (by decide) rfl
      have hK9 := hK.sub (tys' := [(sk1, .long), (ks1, .int), (sh1, .int), (cka, .int), (ckplace, .int), (e1, .int), (e2, .int), (e3, .long), (k1, .long), (k2, .int)]) [9, 2, 3, 0, 1, 4, 5, 6, 7, 8] rfl
      exact W.vret hx hb hr (fun t ht hW => ⟨⟨(mh, sp, tp_33, gs_34, gsh, gk_23, gc_24, gv_25, fr_11, ff_12, he_13, mh_14, md_15, e_reused), rfl, ⟨(Or.inr ⟨by omega, by omega, _, zMP_build (x := (Int32.toNatClampNeg r_10)) (t := Int32.toNatClampNeg x_21) hmd (by have := zn_nat (x := r_10) (by omega); omega) (by omega) hq_26 hfw9 zfk3 hop9 hq_30 (by rw [hq_31]; exact (zn_nat (by omega)).symm) (by rw [hnS]; omega) (by rw [hq_36]), by rw [show Int32.toNatClampNeg tp - wz.toNat = Int32.toNatClampNeg x_21 from by omega]; exact zpA_s, fun j hj h => zpA_i (hj)⟩), by omega, by omega, by omega, by omega, (Or.inr ⟨by omega, by omega, by omega, by rw [hq_26, hce9, ex_1], by have h9a := hfw9; rw [hce9, hwk9, show Int32.toNatClampNeg x_21 = Int32.toNatClampNeg tp - wz.toNat from by omega] at h9a; exact h9a, _, by rw [hq_36, show Int32.toNatClampNeg x_21 = Int32.toNatClampNeg tp - wz.toNat from by omega], hq_30, by rw [hq_31, hce9]⟩), cSpl_0⟩, by rw [ht]; exact hP9, va_K.moved hW.alike hK9, hD9⟩, hS.F ht⟩) hS.2.2 dX5_build_114
    · have ic_19 : r_10.toInt = (-1) := zi_eq c_19
      refine lv_aload_n hx hb dX5_build_66 rfl (lv_at hl 3 rfl) ?_
      refine lv_iconst (v := 3) hx hb dX5_build_67 (by decide) ?_
      refine lv_iload_n hx hb dX5_build_68 rfl (lv_at hl 4 rfl) ?_
      have hPc := hP.sub (ws' := [(h0, .inr (5, [.ref mp, .ref gco, .ref mce, .int mcn, .ref sk, .int tp, .int ba, .ref kb, .ref kk, .ref ks, .int on, .ref sh, .int sn, .int mat, .int alw, .int st, .int mo, .int mh, .int sp, .long re])), (gco, .inr (2, [.ref cop, .ref ca, .ref cb, .ref cplace, .ref cnext, .ref cneeded, .int cz, .int ct])), (cplace, .inl (ckplace, 3000, .inl cgplace))]) [5, 1, 3] rfl
      have hDc := hD.sub (ws' := [(h0, .inr (5, [.ref mp, .ref gco, .ref mce, .int mcn, .ref sk, .int tp, .int ba, .ref kb, .ref kk, .ref ks, .int on, .ref sh, .int sn, .int mat, .int alw, .int st, .int mo, .int mh, .int sp, .long re])), (gco, .inr (2, [.ref cop, .ref ca, .ref cb, .ref cplace, .ref cnext, .ref cneeded, .int cz, .int ct])), (cplace, .inl (ckplace, 3000, .inl cgplace))]) [5, 1, 3] (by decide) rfl
      have hKc := hK.sub (tys' := [(ckplace, .int)]) [2] rfl
      have hFc := va_free (wc := [(h0, .inr (5, [.ref mp, .ref gco, .ref mce, .int mcn, .ref sk, .int tp, .int ba, .ref kb, .ref kk, .ref ks, .int on, .ref sh, .int sn, .int mat, .int alw, .int st, .int mo, .int mh, .int sp, .long re])), (gco, .inr (2, [.ref cop, .ref ca, .ref cb, .ref cplace, .ref cnext, .ref cneeded, .int cz, .int ct])), (cplace, .inl (ckplace, 3000, .inl cgplace))]) hD hS hAA [5, 1, 3] rfl
      refine va_callv (va_runV (As := [.int 3, .int ro]) (rest := []) ⟨hx, hb, hml, hown, hA⟩ (c_X5_stop l dC dI aK aV h0 mp gco mce sk kb kk ks sh mcn tp ba on sn mat alw st mo mh sp re cop ca cb cplace cnext cneeded cz ct ckplace cgplace 3 ro H.size (by omega) (by omega) (by have h9_0 : Int32.toInt 3 = 3 := (by decide); omega) (by have h9_0 : Int32.toInt 3 = 3 := (by decide); omega)) (cwV 2 hA (zw_V wi_1167 wi_1169 wi_47 wi_139 (zw_good wi_1170)) rfl rfl rfl (by decide +kernel) ⟨(Nat.le_of_ble_eq_true rfl), (Nat.le_of_ble_eq_true rfl)⟩) ⟨zP_blind, va_recv hKc hPc (ci := 5) (q0 := 0) rfl rfl, zz_pre hKc hPc hDc hN hT hS hFc⟩ rfl rfl hl.1 rfl (lv_room (Nat.le_of_ble_eq_true rfl)) dX5_build_69 ⟨(Nat.le_of_ble_eq_true rfl), (Nat.le_of_ble_eq_true rfl)⟩) hS (fun q _ h => hFc q h) hFc (fun u t H1 locs ht hvm hw hB hz1 hk1 hS => ?_)
      obtain ⟨sp_38, rfl⟩ : ∃ z, z = u := ⟨_, rfl⟩
      obtain ⟨hP1, hK1, hD1⟩ := hB
      rw [ht] at hP1
      have hK1 := va_K.moved hvm.symm hK1
      obtain ⟨hP, hD⟩ := va_join (wr := [(sk, .inl (sk1, 22424, .inr (.inl gs))), (ca, .inl (cka, 3000, .inl cga)), (mp, .inr (9, [.ref gco, .ref gar, .ref gki, .ref gfu])), (ks, .inl (ks1, 100, .inl gks)), (sh, .inl (sh1, 3000, .inl gsh)), (gki, .inr (4, [.ref kw, .ref kf, .int kz])), (kw, .inl (k1, 20, .inr (.inl kgw))), (kf, .inl (k2, 20, .inl kgf)), (mce, .inr (1, [.ref ek, .ref ec, .ref ef, .ref gki, .int e_limit, .int fr_11, .int ff_12, .int he_13, .int mh_14, .int md_15, .int e_reused, .int e_freed, .int e_doubled])), (ek, .inl (e1, 4000, .inl gk)), (ec, .inl (e2, 4000, .inl gc)), (ef, .inl (e3, 12000, .inr (.inl gv)))]) (w1 := [(h0, .inr (5, [.ref mp, .ref gco, .ref mce, .int mcn, .ref sk, .int tp, .int ba, .ref kb, .ref kk, .ref ks, .int on, .ref sh, .int sn, .int mat, .int alw, .int st, .int mo, .int 3, .int sp_38, .long re])), (gco, .inr (2, [.ref cop, .ref ca, .ref cb, .ref cplace, .ref cnext, .ref cneeded, .int cz, .int ct])), (cplace, .inl (ckplace, 3000, .inl cgplace))]) hP hD [5, 1, 3] [0, 2, 4, 6, 7, 8, 9, 10, 11, 12, 13, 14] rfl rfl (by decide) (by decide) hk1 hFc hP1 hD1
      have hK := (hK.sub (tys' := [(sk1, .long), (cka, .int), (ks1, .int), (sh1, .int), (k1, .long), (k2, .int), (e1, .int), (e2, .int), (e3, .long)]) [0, 1, 3, 4, 5, 6, 7, 8, 9] rfl).app hK1
      generalize H1 = H at hP hS ⊢
      have hP : va_P (dC, dI) vwCl [(sk, .inl (sk1, 22424, .inr (.inl gs))), (ca, .inl (cka, 3000, .inl cga)), (mp, .inr (9, [.ref gco, .ref gar, .ref gki, .ref gfu])), (ks, .inl (ks1, 100, .inl gks)), (sh, .inl (sh1, 3000, .inl gsh)), (gki, .inr (4, [.ref kw, .ref kf, .int kz])), (kw, .inl (k1, 20, .inr (.inl kgw))), (kf, .inl (k2, 20, .inl kgf)), (mce, .inr (1, [.ref ek, .ref ec, .ref ef, .ref gki, .int e_limit, .int fr_11, .int ff_12, .int he_13, .int mh_14, .int md_15, .int e_reused, .int e_freed, .int e_doubled])), (ek, .inl (e1, 4000, .inl gk)), (ec, .inl (e2, 4000, .inl gc)), (ef, .inl (e3, 12000, .inr (.inl gv))), (h0, .inr (5, [.ref mp, .ref gco, .ref mce, .int mcn, .ref sk, .int tp, .int ba, .ref kb, .ref kk, .ref ks, .int on, .ref sh, .int sn, .int mat, .int alw, .int st, .int mo, .int 3, .int sp_38, .long re])), (gco, .inr (2, [.ref cop, .ref ca, .ref cb, .ref cplace, .ref cnext, .ref cneeded, .int cz, .int ct])), (cplace, .inl (ckplace, 3000, .inl cgplace))] H := hP
      have hD : va_D A [(sk, .inl (sk1, 22424, .inr (.inl gs))), (ca, .inl (cka, 3000, .inl cga)), (mp, .inr (9, [.ref gco, .ref gar, .ref gki, .ref gfu])), (ks, .inl (ks1, 100, .inl gks)), (sh, .inl (sh1, 3000, .inl gsh)), (gki, .inr (4, [.ref kw, .ref kf, .int kz])), (kw, .inl (k1, 20, .inr (.inl kgw))), (kf, .inl (k2, 20, .inl kgf)), (mce, .inr (1, [.ref ek, .ref ec, .ref ef, .ref gki, .int e_limit, .int fr_11, .int ff_12, .int he_13, .int mh_14, .int md_15, .int e_reused, .int e_freed, .int e_doubled])), (ek, .inl (e1, 4000, .inl gk)), (ec, .inl (e2, 4000, .inl gc)), (ef, .inl (e3, 12000, .inr (.inl gv))), (h0, .inr (5, [.ref mp, .ref gco, .ref mce, .int mcn, .ref sk, .int tp, .int ba, .ref kb, .ref kk, .ref ks, .int on, .ref sh, .int sn, .int mat, .int alw, .int st, .int mo, .int 3, .int sp_38, .long re])), (gco, .inr (2, [.ref cop, .ref ca, .ref cb, .ref cplace, .ref cnext, .ref cneeded, .int cz, .int ct])), (cplace, .inl (ckplace, 3000, .inl cgplace))] := hD
      have hK : va_K (dC, dI) vwCl [(sk1, .long), (cka, .int), (ks1, .int), (sh1, .int), (k1, .long), (k2, .int), (e1, .int), (e2, .int), (e3, .long), (ckplace, .int)] s := hK
      have hq_39 := hw
      have h93 : Int32.toInt 3 = 3 := by decide
      have hP9 := hP.sub (ws' := [(h0, .inr (5, [.ref mp, .ref gco, .ref mce, .int mcn, .ref sk, .int tp, .int ba, .ref kb, .ref kk, .ref ks, .int on, .ref sh, .int sn, .int mat, .int alw, .int st, .int mo, .int 3, .int sp_38, .long re])), (sk, .inl (sk1, 22424, .inr (.inl gs))), (ks, .inl (ks1, 100, .inl gks)), (sh, .inl (sh1, 3000, .inl gsh)), (gco, .inr (2, [.ref cop, .ref ca, .ref cb, .ref cplace, .ref cnext, .ref cneeded, .int cz, .int ct])), (ca, .inl (cka, 3000, .inl cga)), (cplace, .inl (ckplace, 3000, .inl cgplace)), (mp, .inr (9, [.ref gco, .ref gar, .ref gki, .ref gfu])), (mce, .inr (1, [.ref ek, .ref ec, .ref ef, .ref gki, .int e_limit, .int fr_11, .int ff_12, .int he_13, .int mh_14, .int md_15, .int e_reused, .int e_freed, .int e_doubled])), (ek, .inl (e1, 4000, .inl gk)), (ec, .inl (e2, 4000, .inl gc)), (ef, .inl (e3, 12000, .inr (.inl gv))), (gki, .inr (4, [.ref kw, .ref kf, .int kz])), (kw, .inl (k1, 20, .inr (.inl kgw))), (kf, .inl (k2, 20, .inl kgf))]) [12, 0, 3, 4, 13, 1, 14, 2, 8, 9, 10, 11, 5, 6, 7] rfl
      have hD9 := hD.sub (ws' := [(h0, .inr (5, [.ref mp, .ref gco, .ref mce, .int mcn, .ref sk, .int tp, .int ba, .ref kb, .ref kk, .ref ks, .int on, .ref sh, .int sn, .int mat, .int alw, .int st, .int mo, .int 3, .int sp_38, .long re])), (sk, .inl (sk1, 22424, .inr (.inl gs))), (ks, .inl (ks1, 100, .inl gks)), (sh, .inl (sh1, 3000, .inl gsh)), (gco, .inr (2, [.ref cop, .ref ca, .ref cb, .ref cplace, .ref cnext, .ref cneeded, .int cz, .int ct])), (ca, .inl (cka, 3000, .inl cga)), (cplace, .inl (ckplace, 3000, .inl cgplace)), (mp, .inr (9, [.ref gco, .ref gar, .ref gki, .ref gfu])), (mce, .inr (1, [.ref ek, .ref ec, .ref ef, .ref gki, .int e_limit, .int fr_11, .int ff_12, .int he_13, .int mh_14, .int md_15, .int e_reused, .int e_freed, .int e_doubled])), (ek, .inl (e1, 4000, .inl gk)), (ec, .inl (e2, 4000, .inl gc)), (ef, .inl (e3, 12000, .inr (.inl gv))), (gki, .inr (4, [.ref kw, .ref kf, .int kz])), (kw, .inl (k1, 20, .inr (.inl kgw))), (kf, .inl (k2, 20, .inl kgf))]) [12, 0, 3, 4, 13, 1, 14, 2, 8, 9, 10, 11, 5, 6, 7] (by decide) rfl
      have hK9 := hK.sub (tys' := [(sk1, .long), (ks1, .int), (sh1, .int), (cka, .int), (ckplace, .int), (e1, .int), (e2, .int), (e3, .long), (k1, .long), (k2, .int)]) [0, 2, 3, 1, 9, 6, 7, 8, 4, 5] rfl
      exact W.vret hx hb hr (fun t ht hW => ⟨⟨(3, sp_38, tp, gs, gsh, gk, gc, gv, fr_11, ff_12, he_13, mh_14, md_15, e_reused), rfl, ⟨(Or.inl (by omega)), by omega, by omega, by omega, by omega, (Or.inl ⟨by omega, by omega⟩), hq_39⟩, by rw [ht]; exact hP9, va_K.moved hW.alike hK9, hD9⟩, hS.F ht⟩) hS.2.2 dX5_build_72

end
section
theorem wi_1259 : Cond.methodLink RX5 290 yX9_armFields ∈ zw := zw_in (List.mem_of_getElem? (i := 1259) (by decide +kernel)) (by decide +kernel)
theorem wi_437 : Cond.fieldLink RX5 300 "ReuseHouse$Cells" "count" "[I" ∈ zw := zw_in (List.mem_of_getElem? (i := 437) (by decide +kernel)) (by decide +kernel)
theorem wi_243 : Cond.fieldLink RX5 293 "ReuseHouse$Arms" "firstSlot" "[I" ∈ zw := zw_in (List.mem_of_getElem? (i := 243) (by decide +kernel)) (by decide +kernel)
theorem wi_1261 : Cond.methodLink RX5 296 yX1_field ∈ zw := zw_in (List.mem_of_getElem? (i := 1261) (by decide +kernel)) (by decide +kernel)
theorem wi_1270 : Cond.methodLink RX5 303 yX9_buildsAsMany ∈ zw := zw_in (List.mem_of_getElem? (i := 1270) (by decide +kernel)) (by decide +kernel)
theorem dX5_takeApart_0 : decode cX5_takeApart 0 = .ok (.iload 4, 2) := by decide +kernel
theorem dX5_takeApart_2 : decode cX5_takeApart 2 = .ok (.ifCond .ne 20, 3) := by decide +kernel
theorem dX5_takeApart_5 : decode cX5_takeApart 5 = .ok (.aload_n 0, 1) := by decide +kernel
theorem dX5_takeApart_6 : decode cX5_takeApart 6 = .ok (.getfield 83, 3) := by decide +kernel
theorem dX5_takeApart_9 : decode cX5_takeApart 9 = .ok (.getfield 300, 3) := by decide +kernel
theorem dX5_takeApart_12 : decode cX5_takeApart 12 = .ok (.iload_n 2, 1) := by decide +kernel
theorem dX5_takeApart_13 : decode cX5_takeApart 13 = .ok (.iaload, 1) := by decide +kernel
theorem dX5_takeApart_14 : decode cX5_takeApart 14 = .ok (.iconst 1, 1) := by decide +kernel
theorem dX5_takeApart_15 : decode cX5_takeApart 15 = .ok (.if_icmp .ne 7, 3) := by decide +kernel
theorem dX5_takeApart_18 : decode cX5_takeApart 18 = .ok (.iconst 1, 1) := by decide +kernel
theorem dX5_takeApart_19 : decode cX5_takeApart 19 = .ok (.goto 4, 3) := by decide +kernel
theorem dX5_takeApart_22 : decode cX5_takeApart 22 = .ok (.iconst 0, 1) := by decide +kernel
theorem dX5_takeApart_23 : decode cX5_takeApart 23 = .ok (.istore 5, 2) := by decide +kernel
theorem dX5_takeApart_25 : decode cX5_takeApart 25 = .ok (.iconst 0, 1) := by decide +kernel
theorem dX5_takeApart_26 : decode cX5_takeApart 26 = .ok (.istore 6, 2) := by decide +kernel
theorem dX5_takeApart_28 : decode cX5_takeApart 28 = .ok (.iload 6, 2) := by decide +kernel
theorem dX5_takeApart_30 : decode cX5_takeApart 30 = .ok (.aload_n 0, 1) := by decide +kernel
theorem dX5_takeApart_31 : decode cX5_takeApart 31 = .ok (.getfield 67, 3) := by decide +kernel
theorem dX5_takeApart_34 : decode cX5_takeApart 34 = .ok (.iload_n 1, 1) := by decide +kernel
theorem dX5_takeApart_35 : decode cX5_takeApart 35 = .ok (.invokevirtual 290, 3) := by decide +kernel
theorem dX5_takeApart_38 : decode cX5_takeApart 38 = .ok (.if_icmp .ge 92, 3) := by decide +kernel
theorem dX5_takeApart_41 : decode cX5_takeApart 41 = .ok (.aload_n 0, 1) := by decide +kernel
theorem dX5_takeApart_42 : decode cX5_takeApart 42 = .ok (.getfield 67, 3) := by decide +kernel
theorem dX5_takeApart_45 : decode cX5_takeApart 45 = .ok (.getfield 260, 3) := by decide +kernel
theorem dX5_takeApart_48 : decode cX5_takeApart 48 = .ok (.getfield 293, 3) := by decide +kernel
theorem dX5_takeApart_51 : decode cX5_takeApart 51 = .ok (.iload_n 1, 1) := by decide +kernel
theorem dX5_takeApart_52 : decode cX5_takeApart 52 = .ok (.iaload, 1) := by decide +kernel
theorem dX5_takeApart_53 : decode cX5_takeApart 53 = .ok (.iload 6, 2) := by decide +kernel
theorem dX5_takeApart_55 : decode cX5_takeApart 55 = .ok (.iadd, 1) := by decide +kernel
theorem dX5_takeApart_56 : decode cX5_takeApart 56 = .ok (.istore 7, 2) := by decide +kernel
theorem dX5_takeApart_58 : decode cX5_takeApart 58 = .ok (.aload_n 0, 1) := by decide +kernel
theorem dX5_takeApart_59 : decode cX5_takeApart 59 = .ok (.getfield 83, 3) := by decide +kernel
theorem dX5_takeApart_62 : decode cX5_takeApart 62 = .ok (.iload_n 2, 1) := by decide +kernel
theorem dX5_takeApart_63 : decode cX5_takeApart 63 = .ok (.iload 6, 2) := by decide +kernel
theorem dX5_takeApart_65 : decode cX5_takeApart 65 = .ok (.invokevirtual 296, 3) := by decide +kernel
theorem dX5_takeApart_68 : decode cX5_takeApart 68 = .ok (.lstore 8, 2) := by decide +kernel
theorem dX5_takeApart_70 : decode cX5_takeApart 70 = .ok (.iload_n 3, 1) := by decide +kernel
theorem dX5_takeApart_71 : decode cX5_takeApart 71 = .ok (.iload 7, 2) := by decide +kernel
theorem dX5_takeApart_73 : decode cX5_takeApart 73 = .ok (.invokestatic 175, 3) := by decide +kernel
theorem dX5_takeApart_76 : decode cX5_takeApart 76 = .ok (.ifCond .eq 34, 3) := by decide +kernel
theorem dX5_takeApart_79 : decode cX5_takeApart 79 = .ok (.aload_n 0, 1) := by decide +kernel
theorem dX5_takeApart_80 : decode cX5_takeApart 80 = .ok (.getfield 15, 3) := by decide +kernel
theorem dX5_takeApart_83 : decode cX5_takeApart 83 = .ok (.aload_n 0, 1) := by decide +kernel
theorem dX5_takeApart_84 : decode cX5_takeApart 84 = .ok (.getfield 23, 3) := by decide +kernel
theorem dX5_takeApart_87 : decode cX5_takeApart 87 = .ok (.iload 7, 2) := by decide +kernel
theorem dX5_takeApart_89 : decode cX5_takeApart 89 = .ok (.iadd, 1) := by decide +kernel
theorem dX5_takeApart_90 : decode cX5_takeApart 90 = .ok (.lload 8, 2) := by decide +kernel
theorem dX5_takeApart_92 : decode cX5_takeApart 92 = .ok (.lastore, 1) := by decide +kernel
theorem dX5_takeApart_93 : decode cX5_takeApart 93 = .ok (.iload 5, 2) := by decide +kernel
theorem dX5_takeApart_95 : decode cX5_takeApart 95 = .ok (.ifCond .ne 29, 3) := by decide +kernel
theorem dX5_takeApart_98 : decode cX5_takeApart 98 = .ok (.aload_n 0, 1) := by decide +kernel
theorem dX5_takeApart_99 : decode cX5_takeApart 99 = .ok (.getfield 83, 3) := by decide +kernel
theorem dX5_takeApart_102 : decode cX5_takeApart 102 = .ok (.lload 8, 2) := by decide +kernel
theorem dX5_takeApart_104 : decode cX5_takeApart 104 = .ok (.invokevirtual 193, 3) := by decide +kernel
theorem dX5_takeApart_107 : decode cX5_takeApart 107 = .ok (.goto 17, 3) := by decide +kernel
theorem dX5_takeApart_110 : decode cX5_takeApart 110 = .ok (.iload 5, 2) := by decide +kernel
theorem dX5_takeApart_112 : decode cX5_takeApart 112 = .ok (.ifCond .eq 12, 3) := by decide +kernel
theorem dX5_takeApart_115 : decode cX5_takeApart 115 = .ok (.aload_n 0, 1) := by decide +kernel
theorem dX5_takeApart_116 : decode cX5_takeApart 116 = .ok (.getfield 83, 3) := by decide +kernel
theorem dX5_takeApart_119 : decode cX5_takeApart 119 = .ok (.lload 8, 2) := by decide +kernel
theorem dX5_takeApart_121 : decode cX5_takeApart 121 = .ok (.invokevirtual 179, 3) := by decide +kernel
theorem dX5_takeApart_124 : decode cX5_takeApart 124 = .ok (.iinc 6 1, 3) := by decide +kernel
theorem dX5_takeApart_127 : decode cX5_takeApart 127 = .ok (.goto (-99), 3) := by decide +kernel
theorem dX5_takeApart_130 : decode cX5_takeApart 130 = .ok (.iload 5, 2) := by decide +kernel
theorem dX5_takeApart_132 : decode cX5_takeApart 132 = .ok (.ifCond .eq 16, 3) := by decide +kernel
theorem dX5_takeApart_135 : decode cX5_takeApart 135 = .ok (.aload_n 0, 1) := by decide +kernel
theorem dX5_takeApart_136 : decode cX5_takeApart 136 = .ok (.getfield 67, 3) := by decide +kernel
theorem dX5_takeApart_139 : decode cX5_takeApart 139 = .ok (.iload_n 1, 1) := by decide +kernel
theorem dX5_takeApart_140 : decode cX5_takeApart 140 = .ok (.invokevirtual 303, 3) := by decide +kernel
theorem dX5_takeApart_143 : decode cX5_takeApart 143 = .ok (.ifCond .eq 5, 3) := by decide +kernel
theorem dX5_takeApart_146 : decode cX5_takeApart 146 = .ok (.iload_n 2, 1) := by decide +kernel
theorem dX5_takeApart_147 : decode cX5_takeApart 147 = .ok (.ireturn, 1) := by decide +kernel
theorem dX5_takeApart_148 : decode cX5_takeApart 148 = .ok (.iload 5, 2) := by decide +kernel
theorem dX5_takeApart_150 : decode cX5_takeApart 150 = .ok (.ifCond .eq 14, 3) := by decide +kernel
theorem dX5_takeApart_153 : decode cX5_takeApart 153 = .ok (.aload_n 0, 1) := by decide +kernel
theorem dX5_takeApart_154 : decode cX5_takeApart 154 = .ok (.getfield 83, 3) := by decide +kernel
theorem dX5_takeApart_157 : decode cX5_takeApart 157 = .ok (.iload_n 2, 1) := by decide +kernel
theorem dX5_takeApart_158 : decode cX5_takeApart 158 = .ok (.invokevirtual 306, 3) := by decide +kernel
theorem dX5_takeApart_161 : decode cX5_takeApart 161 = .ok (.goto 21, 3) := by decide +kernel
theorem dX5_takeApart_164 : decode cX5_takeApart 164 = .ok (.iload 4, 2) := by decide +kernel
theorem dX5_takeApart_166 : decode cX5_takeApart 166 = .ok (.ifCond .ne 16, 3) := by decide +kernel
theorem dX5_takeApart_169 : decode cX5_takeApart 169 = .ok (.aload_n 0, 1) := by decide +kernel
theorem dX5_takeApart_170 : decode cX5_takeApart 170 = .ok (.getfield 83, 3) := by decide +kernel
theorem dX5_takeApart_173 : decode cX5_takeApart 173 = .ok (.getfield 300, 3) := by decide +kernel
theorem dX5_takeApart_176 : decode cX5_takeApart 176 = .ok (.iload_n 2, 1) := by decide +kernel
theorem dX5_takeApart_177 : decode cX5_takeApart 177 = .ok (.dup2, 1) := by decide +kernel
theorem dX5_takeApart_178 : decode cX5_takeApart 178 = .ok (.iaload, 1) := by decide +kernel
theorem dX5_takeApart_179 : decode cX5_takeApart 179 = .ok (.iconst 1, 1) := by decide +kernel
theorem dX5_takeApart_180 : decode cX5_takeApart 180 = .ok (.isub, 1) := by decide +kernel
theorem dX5_takeApart_181 : decode cX5_takeApart 181 = .ok (.iastore, 1) := by decide +kernel
theorem dX5_takeApart_182 : decode cX5_takeApart 182 = .ok (.iconst (-1), 1) := by decide +kernel
theorem dX5_takeApart_183 : decode cX5_takeApart 183 = .ok (.ireturn, 1) := by decide +kernel

end
section
theorem wi_1260 : Cond.methodLink RX5 279 yX1_isCell ∈ zw := zw_in (List.mem_of_getElem? (i := 1260) (by decide +kernel)) (by decide +kernel)
theorem dX5_bindPlainly_0 : decode cX5_bindPlainly 0 = .ok (.iconst 0, 1) := by decide +kernel
theorem dX5_bindPlainly_1 : decode cX5_bindPlainly 1 = .ok (.istore 4, 2) := by decide +kernel
theorem dX5_bindPlainly_3 : decode cX5_bindPlainly 3 = .ok (.iload 4, 2) := by decide +kernel
theorem dX5_bindPlainly_5 : decode cX5_bindPlainly 5 = .ok (.aload_n 0, 1) := by decide +kernel
theorem dX5_bindPlainly_6 : decode cX5_bindPlainly 6 = .ok (.getfield 67, 3) := by decide +kernel
theorem dX5_bindPlainly_9 : decode cX5_bindPlainly 9 = .ok (.iload_n 1, 1) := by decide +kernel
theorem dX5_bindPlainly_10 : decode cX5_bindPlainly 10 = .ok (.invokevirtual 290, 3) := by decide +kernel
theorem dX5_bindPlainly_13 : decode cX5_bindPlainly 13 = .ok (.if_icmp .ge 52, 3) := by decide +kernel
theorem dX5_bindPlainly_16 : decode cX5_bindPlainly 16 = .ok (.lload_n 2, 1) := by decide +kernel
theorem dX5_bindPlainly_17 : decode cX5_bindPlainly 17 = .ok (.invokestatic 279, 3) := by decide +kernel
theorem dX5_bindPlainly_20 : decode cX5_bindPlainly 20 = .ok (.ifCond .eq 45, 3) := by decide +kernel
theorem dX5_bindPlainly_23 : decode cX5_bindPlainly 23 = .ok (.aload_n 0, 1) := by decide +kernel
theorem dX5_bindPlainly_24 : decode cX5_bindPlainly 24 = .ok (.getfield 15, 3) := by decide +kernel
theorem dX5_bindPlainly_27 : decode cX5_bindPlainly 27 = .ok (.aload_n 0, 1) := by decide +kernel
theorem dX5_bindPlainly_28 : decode cX5_bindPlainly 28 = .ok (.getfield 23, 3) := by decide +kernel
theorem dX5_bindPlainly_31 : decode cX5_bindPlainly 31 = .ok (.aload_n 0, 1) := by decide +kernel
theorem dX5_bindPlainly_32 : decode cX5_bindPlainly 32 = .ok (.getfield 67, 3) := by decide +kernel
theorem dX5_bindPlainly_35 : decode cX5_bindPlainly 35 = .ok (.getfield 260, 3) := by decide +kernel
theorem dX5_bindPlainly_38 : decode cX5_bindPlainly 38 = .ok (.getfield 293, 3) := by decide +kernel
theorem dX5_bindPlainly_41 : decode cX5_bindPlainly 41 = .ok (.iload_n 1, 1) := by decide +kernel
theorem dX5_bindPlainly_42 : decode cX5_bindPlainly 42 = .ok (.iaload, 1) := by decide +kernel
theorem dX5_bindPlainly_43 : decode cX5_bindPlainly 43 = .ok (.iadd, 1) := by decide +kernel
theorem dX5_bindPlainly_44 : decode cX5_bindPlainly 44 = .ok (.iload 4, 2) := by decide +kernel
theorem dX5_bindPlainly_46 : decode cX5_bindPlainly 46 = .ok (.iadd, 1) := by decide +kernel
theorem dX5_bindPlainly_47 : decode cX5_bindPlainly 47 = .ok (.aload_n 0, 1) := by decide +kernel
theorem dX5_bindPlainly_48 : decode cX5_bindPlainly 48 = .ok (.getfield 83, 3) := by decide +kernel
theorem dX5_bindPlainly_51 : decode cX5_bindPlainly 51 = .ok (.lload_n 2, 1) := by decide +kernel
theorem dX5_bindPlainly_52 : decode cX5_bindPlainly 52 = .ok (.l2i, 1) := by decide +kernel
theorem dX5_bindPlainly_53 : decode cX5_bindPlainly 53 = .ok (.iload 4, 2) := by decide +kernel
theorem dX5_bindPlainly_55 : decode cX5_bindPlainly 55 = .ok (.invokevirtual 296, 3) := by decide +kernel
theorem dX5_bindPlainly_58 : decode cX5_bindPlainly 58 = .ok (.lastore, 1) := by decide +kernel
theorem dX5_bindPlainly_59 : decode cX5_bindPlainly 59 = .ok (.iinc 4 1, 3) := by decide +kernel
theorem dX5_bindPlainly_62 : decode cX5_bindPlainly 62 = .ok (.goto (-59), 3) := by decide +kernel
theorem dX5_bindPlainly_65 : decode cX5_bindPlainly 65 = .ok (.return_, 1) := by decide +kernel
set_option maxHeartbeats 4000000 in
set_option maxRecDepth 100000 in
theorem c_X5_bindPlainly_x (l : Launch) (dC : Nat → ClassId) (dI : Nat → Nat → Nat) (aK aV : Nat → Nat) (h0 : Nat) (mp : Nat) (gco : Nat) (mce : Nat) (sk : Nat) (kb : Nat) (kk : Nat) (ks : Nat) (sh : Nat) (mcn : Int32) (tp : Int32) (ba : Int32) (on : Int32) (sn : Int32) (mat : Int32) (alw : Int32) (st : Int32) (mo : Int32) (mh : Int32) (sp : Int32) (re : Int64) (sk1 : ClassId) (gs : Nat → Int64) (gar : Nat) (gfu : Nat) (akind : Nat) (anext : Nat) (abefore : Nat) (aleave : Nat) (afirstSlot : Nat) (abuilds : Nat) (az : Int32) (akkind : ClassId) (akfirstSlot : ClassId) (agkind : Nat → Int32) (agfirstSlot : Nat → Int32) (ek : Nat) (ec : Nat) (ef : Nat) (gki : Nat) (e1 : ClassId) (e2 : ClassId) (e3 : ClassId) (e_limit : Int32) (e_fresh : Int32) (e_firstFree : Int32) (e_held : Int32) (e_mostHeld : Int32) (e_made : Int32) (e_reused : Int32) (e_freed : Int32) (e_doubled : Int32) (gk : Nat → Int32) (gc : Nat → Int32) (gv : Nat → Int64) (kw : Nat) (kf : Nat) (k1 : ClassId) (k2 : ClassId) (kz : Int32) (kgw : Nat → Int64) (kgf : Nat → Int32) (am : Int32) (va : Int64) (gsh : Nat → Int32) (nS : Nat) (pp : Nat → Bool) (sz : Nat) (hkz0 : 0 ≤ kz.toInt) (hkz1 : kz.toInt ≤ 20) (hkf : zx 4 kgf) (hnS : nS = 22424) (hba0 : 0 ≤ ba.toInt) (hba1 : ba.toInt + 24 ≤ 22424) (ham0 : 0 ≤ am.toInt) (ham1 : am.toInt < 400) (hfs : 0 ≤ (agfirstSlot (Int32.toNatClampNeg am)).toInt ∧ (agfirstSlot (Int32.toNatClampNeg am)).toInt + zfk kz kgf (agkind (Int32.toNatClampNeg am)) ≤ 24) (hfr2 : e_fresh.toInt ≤ 4000) (hmd : zMP nS kz kgf gk gv e_fresh gs pp gsh sn) (hva : zgq e_fresh kz kgf va) (hvk : zhs va = 2 → gk (Int32.toNatClampNeg va.toInt32) = (agkind (Int32.toNatClampNeg am)) ∨ zfk kz kgf (agkind (Int32.toNatClampNeg am)) = 0) : Met l yX5_bindPlainly (Cond.code yX5_bindPlainly cX5_bindPlainly 5 none :: zw) ({ frames := 12, cells := 0, slots := 0, locals := 400 }) (va_Pc [.ref h0, .int am, .long va] (zP dC dI aK aV sz [(sk1, .long), (akkind, .int), (akfirstSlot, .int), (e1, .int), (e2, .int), (e3, .long), (k1, .long), (k2, .int)] [(h0, .inr (5, [.ref mp, .ref gco, .ref mce, .int mcn, .ref sk, .int tp, .int ba, .ref kb, .ref kk, .ref ks, .int on, .ref sh, .int sn, .int mat, .int alw, .int st, .int mo, .int mh, .int sp, .long re])), (sk, .inl (sk1, 22424, .inr (.inl gs))), (mp, .inr (9, [.ref gco, .ref gar, .ref gki, .ref gfu])), (gar, .inr (0, [.ref akind, .ref anext, .ref abefore, .ref aleave, .ref afirstSlot, .ref abuilds, .int az])), (akind, .inl (akkind, 400, .inl agkind)), (afirstSlot, .inl (akfirstSlot, 400, .inl agfirstSlot)), (mce, .inr (1, [.ref ek, .ref ec, .ref ef, .ref gki, .int e_limit, .int e_fresh, .int e_firstFree, .int e_held, .int e_mostHeld, .int e_made, .int e_reused, .int e_freed, .int e_doubled])), (ek, .inl (e1, 4000, .inl gk)), (ec, .inl (e2, 4000, .inl gc)), (ef, .inl (e3, 12000, .inr (.inl gv))), (gki, .inr (4, [.ref kw, .ref kf, .int kz])), (kw, .inl (k1, 20, .inr (.inl kgw))), (kf, .inl (k2, 20, .inl kgf))])) (va_Qv (fun u : (Nat → Int64) => match u with | gs2 => (∃ p2, zMP nS kz kgf gk gv e_fresh gs2 p2 gsh sn ∧ (∀ j : Nat, pp j = true → p2 j = true) ∧ (zhs va = 2 → ∀ k : Nat, (k : Int) < zfk kz kgf (agkind (Int32.toNatClampNeg am)) → p2 (Int32.toNatClampNeg ba + Int32.toNatClampNeg (agfirstSlot (Int32.toNatClampNeg am)) + k) = true)) ∧ ((¬ zhs va = 2 → gs2 = gs) ∧ (zhs va = 2 → zBp gs gs2 gv (Int32.toNatClampNeg ba + Int32.toNatClampNeg (agfirstSlot (Int32.toNatClampNeg am))) (3 * Int32.toNatClampNeg va.toInt32) (zfk kz kgf (agkind (Int32.toNatClampNeg am))).toNat))) (fun u => match u with | gs2 => zQ dC dI (va_A [(h0, .inr (5, [.ref mp, .ref gco, .ref mce, .int mcn, .ref sk, .int tp, .int ba, .ref kb, .ref kk, .ref ks, .int on, .ref sh, .int sn, .int mat, .int alw, .int st, .int mo, .int mh, .int sp, .long re])), (sk, .inl (sk1, 22424, .inr (.inl gs))), (mp, .inr (9, [.ref gco, .ref gar, .ref gki, .ref gfu])), (gar, .inr (0, [.ref akind, .ref anext, .ref abefore, .ref aleave, .ref afirstSlot, .ref abuilds, .int az])), (akind, .inl (akkind, 400, .inl agkind)), (afirstSlot, .inl (akfirstSlot, 400, .inl agfirstSlot)), (mce, .inr (1, [.ref ek, .ref ec, .ref ef, .ref gki, .int e_limit, .int e_fresh, .int e_firstFree, .int e_held, .int e_mostHeld, .int e_made, .int e_reused, .int e_freed, .int e_doubled])), (ek, .inl (e1, 4000, .inl gk)), (ec, .inl (e2, 4000, .inl gc)), (ef, .inl (e3, 12000, .inr (.inl gv))), (gki, .inr (4, [.ref kw, .ref kf, .int kz])), (kw, .inl (k1, 20, .inr (.inl kgw))), (kf, .inl (k2, 20, .inl kgf))] sz) [(sk1, .long), (akkind, .int), (akfirstSlot, .int), (e1, .int), (e2, .int), (e3, .long), (k1, .long), (k2, .int)] [(h0, .inr (5, [.ref mp, .ref gco, .ref mce, .int mcn, .ref sk, .int tp, .int ba, .ref kb, .ref kk, .ref ks, .int on, .ref sh, .int sn, .int mat, .int alw, .int st, .int mo, .int mh, .int sp, .long re])), (sk, .inl (sk1, 22424, .inr (.inl gs2))), (mp, .inr (9, [.ref gco, .ref gar, .ref gki, .ref gfu])), (gar, .inr (0, [.ref akind, .ref anext, .ref abefore, .ref aleave, .ref afirstSlot, .ref abuilds, .int az])), (akind, .inl (akkind, 400, .inl agkind)), (afirstSlot, .inl (akfirstSlot, 400, .inl agfirstSlot)), (mce, .inr (1, [.ref ek, .ref ec, .ref ef, .ref gki, .int e_limit, .int e_fresh, .int e_firstFree, .int e_held, .int e_mostHeld, .int e_made, .int e_reused, .int e_freed, .int e_doubled])), (ek, .inl (e1, 4000, .inl gk)), (ec, .inl (e2, 4000, .inl gc)), (ef, .inl (e3, 12000, .inr (.inl gv))), (gki, .inr (4, [.ref kw, .ref kf, .int kz])), (kw, .inl (k1, 20, .inr (.inl kgw))), (kf, .inl (k2, 20, .inl kgf))]) (va_A [(h0, .inr (5, [.ref mp, .ref gco, .ref mce, .int mcn, .ref sk, .int tp, .int ba, .ref kb, .ref kk, .ref ks, .int on, .ref sh, .int sn, .int mat, .int alw, .int st, .int mo, .int mh, .int sp, .long re])), (sk, .inl (sk1, 22424, .inr (.inl gs))), (mp, .inr (9, [.ref gco, .ref gar, .ref gki, .ref gfu])), (gar, .inr (0, [.ref akind, .ref anext, .ref abefore, .ref aleave, .ref afirstSlot, .ref abuilds, .int az])), (akind, .inl (akkind, 400, .inl agkind)), (afirstSlot, .inl (akfirstSlot, 400, .inl agfirstSlot)), (mce, .inr (1, [.ref ek, .ref ec, .ref ef, .ref gki, .int e_limit, .int e_fresh, .int e_firstFree, .int e_held, .int e_mostHeld, .int e_made, .int e_reused, .int e_freed, .int e_doubled])), (ek, .inl (e1, 4000, .inl gk)), (ec, .inl (e2, 4000, .inl gc)), (ef, .inl (e3, 12000, .inr (.inl gv))), (gki, .inr (4, [.ref kw, .ref kf, .int kz])), (kw, .inl (k1, 20, .inr (.inl kgw))), (kf, .inl (k2, 20, .inl kgf))] sz)) 0 0 (va_A [(h0, .inr (5, [.ref mp, .ref gco, .ref mce, .int mcn, .ref sk, .int tp, .int ba, .ref kb, .ref kk, .ref ks, .int on, .ref sh, .int sn, .int mat, .int alw, .int st, .int mo, .int mh, .int sp, .long re])), (sk, .inl (sk1, 22424, .inr (.inl gs))), (mp, .inr (9, [.ref gco, .ref gar, .ref gki, .ref gfu])), (gar, .inr (0, [.ref akind, .ref anext, .ref abefore, .ref aleave, .ref afirstSlot, .ref abuilds, .int az])), (akind, .inl (akkind, 400, .inl agkind)), (afirstSlot, .inl (akfirstSlot, 400, .inl agfirstSlot)), (mce, .inr (1, [.ref ek, .ref ec, .ref ef, .ref gki, .int e_limit, .int e_fresh, .int e_firstFree, .int e_held, .int e_mostHeld, .int e_made, .int e_reused, .int e_freed, .int e_doubled])), (ek, .inl (e1, 4000, .inl gk)), (ec, .inl (e2, 4000, .inl gc)), (ef, .inl (e3, 12000, .inr (.inl gv))), (gki, .inr (4, [.ref kw, .ref kf, .int kz])), (kw, .inl (k1, 20, .inr (.inl kgw))), (kf, .inl (k2, 20, .inl kgf))] sz) := by
  refine Met.ofW (cc := cX5_bindPlainly) (maxL := 5) (ret := none) (by decide) rfl ?_
  intro p e s m args below meth c s₁ B hml hv
  obtain ⟨rfl, hsz, hP, hK, hD0, hN, hT⟩ := hv
  have hx := B.exec
  have hb := B.bytes
  have hr := B.returns
  have hts := atoms_spec (ws := Cond.code yX5_bindPlainly cX5_bindPlainly 5 none :: zw) B.pre
  have hA : ∀ w ∈ zw, w.before _ s = true := fun w h => hts w (List.mem_cons_of_mem _ h)
  have hown : s.vm.findClass RX5 = some m.cls := findClass_of_methodNamed B.named
  have hlocks := B.notSynchronized
  subst hsz
  have hD := hD0.self (sz := s.heap.size)
  generalize hAe : va_A [(h0, .inr (5, [.ref mp, .ref gco, .ref mce, .int mcn, .ref sk, .int tp, .int ba, .ref kb, .ref kk, .ref ks, .int on, .ref sh, .int sn, .int mat, .int alw, .int st, .int mo, .int mh, .int sp, .long re])), (sk, .inl (sk1, 22424, .inr (.inl gs))), (mp, .inr (9, [.ref gco, .ref gar, .ref gki, .ref gfu])), (gar, .inr (0, [.ref akind, .ref anext, .ref abefore, .ref aleave, .ref afirstSlot, .ref abuilds, .int az])), (akind, .inl (akkind, 400, .inl agkind)), (afirstSlot, .inl (akfirstSlot, 400, .inl agfirstSlot)), (mce, .inr (1, [.ref ek, .ref ec, .ref ef, .ref gki, .int e_limit, .int e_fresh, .int e_firstFree, .int e_held, .int e_mostHeld, .int e_made, .int e_reused, .int e_freed, .int e_doubled])), (ek, .inl (e1, 4000, .inl gk)), (ec, .inl (e2, 4000, .inl gc)), (ef, .inl (e3, 12000, .inr (.inl gv))), (gki, .inr (4, [.ref kw, .ref kf, .int kz])), (kw, .inl (k1, 20, .inr (.inl kgw))), (kf, .inl (k2, 20, .inl kgf))] s.heap.size = A at hD hT ⊢
  have hAA : ∀ q : Nat, s.heap.size ≤ q → A q := fun q h => by rw [← hAe]; exact Or.inr h
  have hS : va_S A s.heap s.heap [] := va_S.rf
  have hl := lv_entry ([.ref h0, .int am, .long va]) (n := 5) (Nat.le_of_ble_eq_true rfl)
  rw [lg_entry_eq]
  generalize (lg_sl ([.ref h0, .int am, .long va]) ++ List.replicate (5 - (lg_sl ([.ref h0, .int am, .long va])).length) Slot.unset).toArray = ls at hl ⊢
  have hl : lv_has ls 5 [(0, .ref h0), (1, .int am), (2, .long va)] := hl
  refine lv_iconst (v := 0) hx hb dX5_bindPlainly_0 (by decide) ?_
  refine lv_istore (lv' := [(4, .int 0), (0, .ref h0), (1, .int am), (2, .long va)]) hx hb dX5_bindPlainly_1 hl (by decide) rfl (fun ls hl => ?_)
  have loop_3 : ∀ (n9 : Nat) (i : Int32) (lgs : Nat → Int64) (H : Heap) (locs : List Loc) (ls : Array Slot), (3 - i.toInt + 1).toNat ≤ n9 → 0 ≤ i.toInt → i.toInt ≤ 3 → i.toInt ≤ zfk kz kgf (agkind (Int32.toNatClampNeg am)) → (∃ p2, zMP nS kz kgf gk gv e_fresh lgs p2 gsh sn ∧ (∀ j : Nat, pp j = true → p2 j = true) ∧ ∀ k : Nat, k < Int32.toNatClampNeg i → p2 (Int32.toNatClampNeg ba + Int32.toNatClampNeg (agfirstSlot (Int32.toNatClampNeg am)) + k) = true) → ((¬ zhs va = 2 → lgs = gs) ∧ (zhs va = 2 → zBp gs lgs gv (Int32.toNatClampNeg ba + Int32.toNatClampNeg (agfirstSlot (Int32.toNatClampNeg am))) (3 * Int32.toNatClampNeg va.toInt32) (Int32.toNatClampNeg i))) → va_P (dC, dI) vwCl [(h0, .inr (5, [.ref mp, .ref gco, .ref mce, .int mcn, .ref sk, .int tp, .int ba, .ref kb, .ref kk, .ref ks, .int on, .ref sh, .int sn, .int mat, .int alw, .int st, .int mo, .int mh, .int sp, .long re])), (sk, .inl (sk1, 22424, .inr (.inl lgs))), (mp, .inr (9, [.ref gco, .ref gar, .ref gki, .ref gfu])), (gar, .inr (0, [.ref akind, .ref anext, .ref abefore, .ref aleave, .ref afirstSlot, .ref abuilds, .int az])), (akind, .inl (akkind, 400, .inl agkind)), (afirstSlot, .inl (akfirstSlot, 400, .inl agfirstSlot)), (mce, .inr (1, [.ref ek, .ref ec, .ref ef, .ref gki, .int e_limit, .int e_fresh, .int e_firstFree, .int e_held, .int e_mostHeld, .int e_made, .int e_reused, .int e_freed, .int e_doubled])), (ek, .inl (e1, 4000, .inl gk)), (ec, .inl (e2, 4000, .inl gc)), (ef, .inl (e3, 12000, .inr (.inl gv))), (gki, .inr (4, [.ref kw, .ref kf, .int kz])), (kw, .inl (k1, 20, .inr (.inl kgw))), (kf, .inl (k2, 20, .inl kgf))] H → va_D A [(h0, .inr (5, [.ref mp, .ref gco, .ref mce, .int mcn, .ref sk, .int tp, .int ba, .ref kb, .ref kk, .ref ks, .int on, .ref sh, .int sn, .int mat, .int alw, .int st, .int mo, .int mh, .int sp, .long re])), (sk, .inl (sk1, 22424, .inr (.inl lgs))), (mp, .inr (9, [.ref gco, .ref gar, .ref gki, .ref gfu])), (gar, .inr (0, [.ref akind, .ref anext, .ref abefore, .ref aleave, .ref afirstSlot, .ref abuilds, .int az])), (akind, .inl (akkind, 400, .inl agkind)), (afirstSlot, .inl (akfirstSlot, 400, .inl agfirstSlot)), (mce, .inr (1, [.ref ek, .ref ec, .ref ef, .ref gki, .int e_limit, .int e_fresh, .int e_firstFree, .int e_held, .int e_mostHeld, .int e_made, .int e_reused, .int e_freed, .int e_doubled])), (ek, .inl (e1, 4000, .inl gk)), (ec, .inl (e2, 4000, .inl gc)), (ef, .inl (e3, 12000, .inr (.inl gv))), (gki, .inr (4, [.ref kw, .ref kf, .int kz])), (kw, .inl (k1, 20, .inr (.inl kgw))), (kf, .inl (k2, 20, .inl kgf))] → va_S A s.heap H locs → lv_has ls 5 [(4, .int i), (0, .ref h0), (1, .int am), (2, .long va)] → W p l e (headSpec (Cond.code yX5_bindPlainly cX5_bindPlainly 5 none :: zw) ({ frames := 12, cells := 0, slots := 0, locals := 400 })).room s m #[.ref h0, .int am, .long va] below meth c H locs 0 0 (MQ below (va_Qv (fun u : (Nat → Int64) => match u with | gs2 => (∃ p2, zMP nS kz kgf gk gv e_fresh gs2 p2 gsh sn ∧ (∀ j : Nat, pp j = true → p2 j = true) ∧ (zhs va = 2 → ∀ k : Nat, (k : Int) < zfk kz kgf (agkind (Int32.toNatClampNeg am)) → p2 (Int32.toNatClampNeg ba + Int32.toNatClampNeg (agfirstSlot (Int32.toNatClampNeg am)) + k) = true)) ∧ ((¬ zhs va = 2 → gs2 = gs) ∧ (zhs va = 2 → zBp gs gs2 gv (Int32.toNatClampNeg ba + Int32.toNatClampNeg (agfirstSlot (Int32.toNatClampNeg am))) (3 * Int32.toNatClampNeg va.toInt32) (zfk kz kgf (agkind (Int32.toNatClampNeg am))).toNat))) (fun u => match u with | gs2 => zQ dC dI A [(sk1, .long), (akkind, .int), (akfirstSlot, .int), (e1, .int), (e2, .int), (e3, .long), (k1, .long), (k2, .int)] [(h0, .inr (5, [.ref mp, .ref gco, .ref mce, .int mcn, .ref sk, .int tp, .int ba, .ref kb, .ref kk, .ref ks, .int on, .ref sh, .int sn, .int mat, .int alw, .int st, .int mo, .int mh, .int sp, .long re])), (sk, .inl (sk1, 22424, .inr (.inl gs2))), (mp, .inr (9, [.ref gco, .ref gar, .ref gki, .ref gfu])), (gar, .inr (0, [.ref akind, .ref anext, .ref abefore, .ref aleave, .ref afirstSlot, .ref abuilds, .int az])), (akind, .inl (akkind, 400, .inl agkind)), (afirstSlot, .inl (akfirstSlot, 400, .inl agfirstSlot)), (mce, .inr (1, [.ref ek, .ref ec, .ref ef, .ref gki, .int e_limit, .int e_fresh, .int e_firstFree, .int e_held, .int e_mostHeld, .int e_made, .int e_reused, .int e_freed, .int e_doubled])), (ek, .inl (e1, 4000, .inl gk)), (ec, .inl (e2, 4000, .inl gc)), (ef, .inl (e3, 12000, .inr (.inl gv))), (gki, .inr (4, [.ref kw, .ref kf, .int kz])), (kw, .inl (k1, 20, .inr (.inl kgw))), (kf, .inl (k2, 20, .inl kgf))]) A) #[.ref h0, .int am, .long va] s 0 0 A) (F0 m 3 ls []) := by
    intro n9
    induction n9 with
    | zero => intro i lgs H locs ls hm hi0 hi1 hi2 hlc hbp; exfalso; omega
    | succ n9 ih =>
      intro i lgs H locs ls hm hi0 hi1 hi2 hlc hbp hP hD hS hl
      refine lv_iload hx hb dX5_bindPlainly_3 (lv_at hl 0 rfl) ?_
      refine lv_aload_n hx hb dX5_bindPlainly_5 rfl (lv_at hl 1 rfl) ?_
      refine va_get (D := (dC, dI)) (ci := 5) (v := .ref mp) (C := RX5) (T := TX5) (N := 20) hx hb hA zin_X5 hown hK hP 0 rfl rfl 0 (by decide) (hA _ wi_484) (fun _ h9 => h9) rfl dX5_bindPlainly_6 ?_
      refine lv_iload_n hx hb dX5_bindPlainly_9 rfl (lv_at hl 2 rfl) ?_
      have hPc := hP.sub (ws' := [(mp, .inr (9, [.ref gco, .ref gar, .ref gki, .ref gfu])), (gar, .inr (0, [.ref akind, .ref anext, .ref abefore, .ref aleave, .ref afirstSlot, .ref abuilds, .int az])), (akind, .inl (akkind, 400, .inl agkind)), (gki, .inr (4, [.ref kw, .ref kf, .int kz])), (kw, .inl (k1, 20, .inr (.inl kgw))), (kf, .inl (k2, 20, .inl kgf))]) [2, 3, 4, 10, 11, 12] rfl
      have hDc := hD.sub (ws' := [(mp, .inr (9, [.ref gco, .ref gar, .ref gki, .ref gfu])), (gar, .inr (0, [.ref akind, .ref anext, .ref abefore, .ref aleave, .ref afirstSlot, .ref abuilds, .int az])), (akind, .inl (akkind, 400, .inl agkind)), (gki, .inr (4, [.ref kw, .ref kf, .int kz])), (kw, .inl (k1, 20, .inr (.inl kgw))), (kf, .inl (k2, 20, .inl kgf))]) [2, 3, 4, 10, 11, 12] (by decide) rfl
      have hKc := hK.sub (tys' := [(akkind, .int), (k1, .long), (k2, .int)]) [1, 6, 7] rfl
      have hFc := va_free (wc := [(mp, .inr (9, [.ref gco, .ref gar, .ref gki, .ref gfu])), (gar, .inr (0, [.ref akind, .ref anext, .ref abefore, .ref aleave, .ref afirstSlot, .ref abuilds, .int az])), (akind, .inl (akkind, 400, .inl agkind)), (gki, .inr (4, [.ref kw, .ref kf, .int kz])), (kw, .inl (k1, 20, .inr (.inl kgw))), (kf, .inl (k2, 20, .inl kgf))]) hD hS hAA [2, 3, 4, 10, 11, 12] rfl
      refine va_calli (va_runV (As := [.int am]) (rest := [.int i]) ⟨hx, hb, hml, hown, hA⟩ (c_X9_armFields_x l dC dI aK aV mp gco gar gki gfu akind anext abefore aleave afirstSlot abuilds akkind az agkind kw kf k1 k2 kz kgw kgf am H.size (by omega) (by omega) hkf (by omega) (by omega)) (cwV 1 hA (zw_V wi_1259 wi_1052 wi_1053 wi_131 (zw_good wi_1054)) rfl rfl rfl (by decide +kernel) ⟨(Nat.le_of_ble_eq_true rfl), (Nat.le_of_ble_eq_true rfl)⟩) ⟨zP_blind, va_recv hKc hPc (ci := 9) (q0 := 0) rfl rfl, zz_pre hKc hPc hDc hN hT hS hFc⟩ rfl rfl hl.1 rfl (lv_room (Nat.le_of_ble_eq_true rfl)) dX5_bindPlainly_10 ⟨(Nat.le_of_ble_eq_true rfl), (Nat.le_of_ble_eq_true rfl)⟩) hS (fun q _ h => hFc q h) hFc (fun r_1 u t H1 locs ht hvm hw hB hz1 hk1 hS => ?_)
      obtain ⟨hP1, hK1, hD1⟩ := hB
      rw [ht] at hP1
      have hK1 := va_K.moved hvm.symm hK1
      obtain ⟨hP, hD⟩ := va_join (wr := [(h0, .inr (5, [.ref mp, .ref gco, .ref mce, .int mcn, .ref sk, .int tp, .int ba, .ref kb, .ref kk, .ref ks, .int on, .ref sh, .int sn, .int mat, .int alw, .int st, .int mo, .int mh, .int sp, .long re])), (sk, .inl (sk1, 22424, .inr (.inl lgs))), (afirstSlot, .inl (akfirstSlot, 400, .inl agfirstSlot)), (mce, .inr (1, [.ref ek, .ref ec, .ref ef, .ref gki, .int e_limit, .int e_fresh, .int e_firstFree, .int e_held, .int e_mostHeld, .int e_made, .int e_reused, .int e_freed, .int e_doubled])), (ek, .inl (e1, 4000, .inl gk)), (ec, .inl (e2, 4000, .inl gc)), (ef, .inl (e3, 12000, .inr (.inl gv)))]) (w1 := [(mp, .inr (9, [.ref gco, .ref gar, .ref gki, .ref gfu])), (gar, .inr (0, [.ref akind, .ref anext, .ref abefore, .ref aleave, .ref afirstSlot, .ref abuilds, .int az])), (akind, .inl (akkind, 400, .inl agkind)), (gki, .inr (4, [.ref kw, .ref kf, .int kz])), (kw, .inl (k1, 20, .inr (.inl kgw))), (kf, .inl (k2, 20, .inl kgf))]) hP hD [2, 3, 4, 10, 11, 12] [0, 1, 5, 6, 7, 8, 9] rfl rfl (by decide) (by decide) hk1 hFc hP1 hD1
      have hK := (hK.sub (tys' := [(sk1, .long), (akfirstSlot, .int), (e1, .int), (e2, .int), (e3, .long)]) [0, 2, 3, 4, 5] rfl).app hK1
      generalize H1 = H at hP hS ⊢
      have hP : va_P (dC, dI) vwCl [(h0, .inr (5, [.ref mp, .ref gco, .ref mce, .int mcn, .ref sk, .int tp, .int ba, .ref kb, .ref kk, .ref ks, .int on, .ref sh, .int sn, .int mat, .int alw, .int st, .int mo, .int mh, .int sp, .long re])), (sk, .inl (sk1, 22424, .inr (.inl lgs))), (afirstSlot, .inl (akfirstSlot, 400, .inl agfirstSlot)), (mce, .inr (1, [.ref ek, .ref ec, .ref ef, .ref gki, .int e_limit, .int e_fresh, .int e_firstFree, .int e_held, .int e_mostHeld, .int e_made, .int e_reused, .int e_freed, .int e_doubled])), (ek, .inl (e1, 4000, .inl gk)), (ec, .inl (e2, 4000, .inl gc)), (ef, .inl (e3, 12000, .inr (.inl gv))), (mp, .inr (9, [.ref gco, .ref gar, .ref gki, .ref gfu])), (gar, .inr (0, [.ref akind, .ref anext, .ref abefore, .ref aleave, .ref afirstSlot, .ref abuilds, .int az])), (akind, .inl (akkind, 400, .inl agkind)), (gki, .inr (4, [.ref kw, .ref kf, .int kz])), (kw, .inl (k1, 20, .inr (.inl kgw))), (kf, .inl (k2, 20, .inl kgf))] H := hP
      have hD : va_D A [(h0, .inr (5, [.ref mp, .ref gco, .ref mce, .int mcn, .ref sk, .int tp, .int ba, .ref kb, .ref kk, .ref ks, .int on, .ref sh, .int sn, .int mat, .int alw, .int st, .int mo, .int mh, .int sp, .long re])), (sk, .inl (sk1, 22424, .inr (.inl lgs))), (afirstSlot, .inl (akfirstSlot, 400, .inl agfirstSlot)), (mce, .inr (1, [.ref ek, .ref ec, .ref ef, .ref gki, .int e_limit, .int e_fresh, .int e_firstFree, .int e_held, .int e_mostHeld, .int e_made, .int e_reused, .int e_freed, .int e_doubled])), (ek, .inl (e1, 4000, .inl gk)), (ec, .inl (e2, 4000, .inl gc)), (ef, .inl (e3, 12000, .inr (.inl gv))), (mp, .inr (9, [.ref gco, .ref gar, .ref gki, .ref gfu])), (gar, .inr (0, [.ref akind, .ref anext, .ref abefore, .ref aleave, .ref afirstSlot, .ref abuilds, .int az])), (akind, .inl (akkind, 400, .inl agkind)), (gki, .inr (4, [.ref kw, .ref kf, .int kz])), (kw, .inl (k1, 20, .inr (.inl kgw))), (kf, .inl (k2, 20, .inl kgf))] := hD
      have hK : va_K (dC, dI) vwCl [(sk1, .long), (akfirstSlot, .int), (e1, .int), (e2, .int), (e3, .long), (akkind, .int), (k1, .long), (k2, .int)] s := hK
      have hw_r_1 := hw
      try dsimp only at hw_r_1
      obtain ⟨hq_2, hq_3, hq_4⟩ := hw
      have haf9 := hq_4
      refine lv_icmp_ge (tgt := 65) hx hb dX5_bindPlainly_13 (by decide) (fun c_5 => ?_) (fun c_5 => ?_)
      · have ic_5 : r_1.toInt ≤ i.toInt := zi_le c_5
        have hP9 := hP.sub (ws' := [(h0, .inr (5, [.ref mp, .ref gco, .ref mce, .int mcn, .ref sk, .int tp, .int ba, .ref kb, .ref kk, .ref ks, .int on, .ref sh, .int sn, .int mat, .int alw, .int st, .int mo, .int mh, .int sp, .long re])), (sk, .inl (sk1, 22424, .inr (.inl lgs))), (mp, .inr (9, [.ref gco, .ref gar, .ref gki, .ref gfu])), (gar, .inr (0, [.ref akind, .ref anext, .ref abefore, .ref aleave, .ref afirstSlot, .ref abuilds, .int az])), (akind, .inl (akkind, 400, .inl agkind)), (afirstSlot, .inl (akfirstSlot, 400, .inl agfirstSlot)), (mce, .inr (1, [.ref ek, .ref ec, .ref ef, .ref gki, .int e_limit, .int e_fresh, .int e_firstFree, .int e_held, .int e_mostHeld, .int e_made, .int e_reused, .int e_freed, .int e_doubled])), (ek, .inl (e1, 4000, .inl gk)), (ec, .inl (e2, 4000, .inl gc)), (ef, .inl (e3, 12000, .inr (.inl gv))), (gki, .inr (4, [.ref kw, .ref kf, .int kz])), (kw, .inl (k1, 20, .inr (.inl kgw))), (kf, .inl (k2, 20, .inl kgf))]) [0, 1, 7, 8, 9, 2, 3, 4, 5, 6, 10, 11, 12] rfl
        have hD9 := hD.sub (ws' := [(h0, .inr (5, [.ref mp, .ref gco, .ref mce, .int mcn, .ref sk, .int tp, .int ba, .ref kb, .ref kk, .ref ks, .int on, .ref sh, .int sn, .int mat, .int alw, .int st, .int mo, .int mh, .int sp, .long re])), (sk, .inl (sk1, 22424, .inr (.inl lgs))), (mp, .inr (9, [.ref gco, .ref gar, .ref gki, .ref gfu])), (gar, .inr (0, [.ref akind, .ref anext, .ref abefore, .ref aleave, .ref afirstSlot, .ref abuilds, .int az])), (akind, .inl (akkind, 400, .inl agkind)), (afirstSlot, .inl (akfirstSlot, 400, .inl agfirstSlot)), (mce, .inr (1, [.ref ek, .ref ec, .ref ef, .ref gki, .int e_limit, .int e_fresh, .int e_firstFree, .int e_held, .int e_mostHeld, .int e_made, .int e_reused, .int e_freed, .int e_doubled])), (ek, .inl (e1, 4000, .inl gk)), (ec, .inl (e2, 4000, .inl gc)), (ef, .inl (e3, 12000, .inr (.inl gv))), (gki, .inr (4, [.ref kw, .ref kf, .int kz])), (kw, .inl (k1, 20, .inr (.inl kgw))), (kf, .inl (k2, 20, .inl kgf))]) [0, 1, 7, 8, 9, 2, 3, 4, 5, 6, 10, 11, 12] (by decide) rfl
        have hK9 := hK.sub (tys' := [(sk1, .long), (akkind, .int), (akfirstSlot, .int), (e1, .int), (e2, .int), (e3, .long), (k1, .long), (k2, .int)]) [0, 5, 1, 2, 3, 4, 6, 7] rfl
        exact W.vret hx hb hr (fun t ht hW => ⟨⟨(lgs), rfl, ⟨(by obtain ⟨p2, u1, u2, u3⟩ := hlc; exact ⟨p2, u1, u2, (fun _ k hk => u3 k (by have := zn_nat (x := i) (by omega); omega))⟩), ⟨hbp.1, fun g => by rw [show (zfk kz kgf (agkind (Int32.toNatClampNeg am))).toNat = Int32.toNatClampNeg i from by have := zn_nat (x := i) (by omega); omega]; exact hbp.2 g⟩⟩, by rw [ht]; exact hP9, va_K.moved hW.alike hK9, hD9⟩, hS.F ht⟩) hS.2.2 dX5_bindPlainly_65
      · have ic_5 : i.toInt < r_1.toInt := zi_nle c_5
        refine lv_lload_n hx hb dX5_bindPlainly_16 rfl (lv_at hl 3 rfl) ?_
        have hPc := hP.sub (ws' := []) [] rfl
        have hDc := hD.sub (ws' := []) [] (by decide) rfl
        have hKc := hK.sub (tys' := []) [] rfl
        have hFc := va_free (wc := []) hD hS hAA [] rfl
        refine va_calli (va_runS (As := [.long va]) (rest := []) ⟨hx, hb, hml, hown, hA⟩ (c_X1_isCell_x l dC dI aK aV va H.size) (va_cwS 1 hA (zw_S wi_1260 wi_1147 wi_140 (zw_good wi_1148)) rfl rfl rfl (by decide +kernel) ⟨(Nat.le_of_ble_eq_true rfl), (Nat.le_of_ble_eq_true rfl)⟩) ⟨zP_blind, zz_pre hKc hPc hDc hN hT hS hFc⟩ rfl rfl hl.1 rfl (lv_room (Nat.le_of_ble_eq_true rfl)) dX5_bindPlainly_17 ⟨(Nat.le_of_ble_eq_true rfl), (Nat.le_of_ble_eq_true rfl)⟩) hS (fun q _ h => hFc q h) hFc (fun r_6 u t H1 locs ht hvm hw hB hz1 hk1 hS => ?_)
        obtain ⟨hP1, hK1, hD1⟩ := hB
        rw [ht] at hP1
        have hK1 := va_K.moved hvm.symm hK1
        obtain ⟨hP, hD⟩ := va_join (wr := [(h0, .inr (5, [.ref mp, .ref gco, .ref mce, .int mcn, .ref sk, .int tp, .int ba, .ref kb, .ref kk, .ref ks, .int on, .ref sh, .int sn, .int mat, .int alw, .int st, .int mo, .int mh, .int sp, .long re])), (sk, .inl (sk1, 22424, .inr (.inl lgs))), (afirstSlot, .inl (akfirstSlot, 400, .inl agfirstSlot)), (mce, .inr (1, [.ref ek, .ref ec, .ref ef, .ref gki, .int e_limit, .int e_fresh, .int e_firstFree, .int e_held, .int e_mostHeld, .int e_made, .int e_reused, .int e_freed, .int e_doubled])), (ek, .inl (e1, 4000, .inl gk)), (ec, .inl (e2, 4000, .inl gc)), (ef, .inl (e3, 12000, .inr (.inl gv))), (mp, .inr (9, [.ref gco, .ref gar, .ref gki, .ref gfu])), (gar, .inr (0, [.ref akind, .ref anext, .ref abefore, .ref aleave, .ref afirstSlot, .ref abuilds, .int az])), (akind, .inl (akkind, 400, .inl agkind)), (gki, .inr (4, [.ref kw, .ref kf, .int kz])), (kw, .inl (k1, 20, .inr (.inl kgw))), (kf, .inl (k2, 20, .inl kgf))]) (w1 := []) hP hD [] [0, 1, 2, 3, 4, 5, 6, 7, 8, 9, 10, 11, 12] rfl rfl (by decide) (by decide) hk1 hFc hP1 hD1
        have hK := (hK.sub (tys' := [(sk1, .long), (akfirstSlot, .int), (e1, .int), (e2, .int), (e3, .long), (akkind, .int), (k1, .long), (k2, .int)]) [0, 1, 2, 3, 4, 5, 6, 7] rfl).app hK1
        generalize H1 = H at hP hS ⊢
        have hP : va_P (dC, dI) vwCl [(h0, .inr (5, [.ref mp, .ref gco, .ref mce, .int mcn, .ref sk, .int tp, .int ba, .ref kb, .ref kk, .ref ks, .int on, .ref sh, .int sn, .int mat, .int alw, .int st, .int mo, .int mh, .int sp, .long re])), (sk, .inl (sk1, 22424, .inr (.inl lgs))), (afirstSlot, .inl (akfirstSlot, 400, .inl agfirstSlot)), (mce, .inr (1, [.ref ek, .ref ec, .ref ef, .ref gki, .int e_limit, .int e_fresh, .int e_firstFree, .int e_held, .int e_mostHeld, .int e_made, .int e_reused, .int e_freed, .int e_doubled])), (ek, .inl (e1, 4000, .inl gk)), (ec, .inl (e2, 4000, .inl gc)), (ef, .inl (e3, 12000, .inr (.inl gv))), (mp, .inr (9, [.ref gco, .ref gar, .ref gki, .ref gfu])), (gar, .inr (0, [.ref akind, .ref anext, .ref abefore, .ref aleave, .ref afirstSlot, .ref abuilds, .int az])), (akind, .inl (akkind, 400, .inl agkind)), (gki, .inr (4, [.ref kw, .ref kf, .int kz])), (kw, .inl (k1, 20, .inr (.inl kgw))), (kf, .inl (k2, 20, .inl kgf))] H := hP
        have hD : va_D A [(h0, .inr (5, [.ref mp, .ref gco, .ref mce, .int mcn, .ref sk, .int tp, .int ba, .ref kb, .ref kk, .ref ks, .int on, .ref sh, .int sn, .int mat, .int alw, .int st, .int mo, .int mh, .int sp, .long re])), (sk, .inl (sk1, 22424, .inr (.inl lgs))), (afirstSlot, .inl (akfirstSlot, 400, .inl agfirstSlot)), (mce, .inr (1, [.ref ek, .ref ec, .ref ef, .ref gki, .int e_limit, .int e_fresh, .int e_firstFree, .int e_held, .int e_mostHeld, .int e_made, .int e_reused, .int e_freed, .int e_doubled])), (ek, .inl (e1, 4000, .inl gk)), (ec, .inl (e2, 4000, .inl gc)), (ef, .inl (e3, 12000, .inr (.inl gv))), (mp, .inr (9, [.ref gco, .ref gar, .ref gki, .ref gfu])), (gar, .inr (0, [.ref akind, .ref anext, .ref abefore, .ref aleave, .ref afirstSlot, .ref abuilds, .int az])), (akind, .inl (akkind, 400, .inl agkind)), (gki, .inr (4, [.ref kw, .ref kf, .int kz])), (kw, .inl (k1, 20, .inr (.inl kgw))), (kf, .inl (k2, 20, .inl kgf))] := hD
        have hK : va_K (dC, dI) vwCl [(sk1, .long), (akfirstSlot, .int), (e1, .int), (e2, .int), (e3, .long), (akkind, .int), (k1, .long), (k2, .int)] s := hK
        have hw_r_6 := hw
        try dsimp only at hw_r_6
        have hq_7 := hw
        refine lv_if_eq (tgt := 65) hx hb dX5_bindPlainly_20 (by decide) (fun c_8 => ?_) (fun c_8 => ?_)
        · have ic_8 : r_6.toInt = 0 := zi_eq c_8
          have hnc9 : zhs va ≠ 2 := hq_7.elim (fun g => absurd g.1 (by omega)) (fun g => g.2)
          have hP9 := hP.sub (ws' := [(h0, .inr (5, [.ref mp, .ref gco, .ref mce, .int mcn, .ref sk, .int tp, .int ba, .ref kb, .ref kk, .ref ks, .int on, .ref sh, .int sn, .int mat, .int alw, .int st, .int mo, .int mh, .int sp, .long re])), (sk, .inl (sk1, 22424, .inr (.inl lgs))), (mp, .inr (9, [.ref gco, .ref gar, .ref gki, .ref gfu])), (gar, .inr (0, [.ref akind, .ref anext, .ref abefore, .ref aleave, .ref afirstSlot, .ref abuilds, .int az])), (akind, .inl (akkind, 400, .inl agkind)), (afirstSlot, .inl (akfirstSlot, 400, .inl agfirstSlot)), (mce, .inr (1, [.ref ek, .ref ec, .ref ef, .ref gki, .int e_limit, .int e_fresh, .int e_firstFree, .int e_held, .int e_mostHeld, .int e_made, .int e_reused, .int e_freed, .int e_doubled])), (ek, .inl (e1, 4000, .inl gk)), (ec, .inl (e2, 4000, .inl gc)), (ef, .inl (e3, 12000, .inr (.inl gv))), (gki, .inr (4, [.ref kw, .ref kf, .int kz])), (kw, .inl (k1, 20, .inr (.inl kgw))), (kf, .inl (k2, 20, .inl kgf))]) [0, 1, 7, 8, 9, 2, 3, 4, 5, 6, 10, 11, 12] rfl
          have hD9 := hD.sub (ws' := [(h0, .inr (5, [.ref mp, .ref gco, .ref mce, .int mcn, .ref sk, .int tp, .int ba, .ref kb, .ref kk, .ref ks, .int on, .ref sh, .int sn, .int mat, .int alw, .int st, .int mo, .int mh, .int sp, .long re])), (sk, .inl (sk1, 22424, .inr (.inl lgs))), (mp, .inr (9, [.ref gco, .ref gar, .ref gki, .ref gfu])), (gar, .inr (0, [.ref akind, .ref anext, .ref abefore, .ref aleave, .ref afirstSlot, .ref abuilds, .int az])), (akind, .inl (akkind, 400, .inl agkind)), (afirstSlot, .inl (akfirstSlot, 400, .inl agfirstSlot)), (mce, .inr (1, [.ref ek, .ref ec, .ref ef, .ref gki, .int e_limit, .int e_fresh, .int e_firstFree, .int e_held, .int e_mostHeld, .int e_made, .int e_reused, .int e_freed, .int e_doubled])), (ek, .inl (e1, 4000, .inl gk)), (ec, .inl (e2, 4000, .inl gc)), (ef, .inl (e3, 12000, .inr (.inl gv))), (gki, .inr (4, [.ref kw, .ref kf, .int kz])), (kw, .inl (k1, 20, .inr (.inl kgw))), (kf, .inl (k2, 20, .inl kgf))]) [0, 1, 7, 8, 9, 2, 3, 4, 5, 6, 10, 11, 12] (by decide) rfl
          have hK9 := hK.sub (tys' := [(sk1, .long), (akkind, .int), (akfirstSlot, .int), (e1, .int), (e2, .int), (e3, .long), (k1, .long), (k2, .int)]) [0, 5, 1, 2, 3, 4, 6, 7] rfl
          exact W.vret hx hb hr (fun t ht hW => ⟨⟨(lgs), rfl, ⟨(by obtain ⟨p2, u1, u2, u3⟩ := hlc; exact ⟨p2, u1, u2, (fun g => absurd g hnc9)⟩), ⟨hbp.1, fun g => absurd g hnc9⟩⟩, by rw [ht]; exact hP9, va_K.moved hW.alike hK9, hD9⟩, hS.F ht⟩) hS.2.2 dX5_bindPlainly_65
        · have ic_8 : r_6.toInt ≠ 0 := zi_ne c_8
          have hcell9 : zhs va = 2 := hq_7.elim (fun g => g.2) (fun g => absurd g.1 (by omega))
          obtain ⟨p7, hm7, hp7, hf7⟩ := hlc
          have hg9 := hva.1.1 hcell9
          have hl9 := hva.2 hcell9
          have hnv9 := zn_nat hg9
          have hnb8 := zn_nat (x := ba) (by omega)
          have hnf8 := zn_nat hfs.1
          have hni8 := zn_nat (x := i) (by omega)
          have hwv9 : zwd kz kgf gk (Int32.toNatClampNeg va.toInt32) = (zfk kz kgf (agkind (Int32.toNatClampNeg am))).toNat := by show (zfk kz kgf (gk (Int32.toNatClampNeg va.toInt32))).toNat = _; rw [(hvk hcell9).resolve_right (fun u => by omega)]
          refine lv_aload_n hx hb dX5_bindPlainly_23 rfl (lv_at hl 1 rfl) ?_
          refine va_get (D := (dC, dI)) (ci := 5) (v := .ref sk) (C := RX5) (T := TX5) (N := 20) hx hb hA zin_X5 hown hK hP 0 rfl rfl 4 (by decide) (hA _ wi_488) (fun _ h9 => h9) rfl dX5_bindPlainly_24 ?_
          refine lv_aload_n hx hb dX5_bindPlainly_27 rfl (lv_at hl 1 rfl) ?_
          refine va_get (D := (dC, dI)) (ci := 5) (v := .int ba) (C := RX5) (T := TX5) (N := 20) hx hb hA zin_X5 hown hK hP 0 rfl rfl 6 (by decide) (hA _ wi_490) (fun _ h9 => h9) rfl dX5_bindPlainly_28 ?_
          refine lv_aload_n hx hb dX5_bindPlainly_31 rfl (lv_at hl 1 rfl) ?_
          refine va_get (D := (dC, dI)) (ci := 5) (v := .ref mp) (C := RX5) (T := TX5) (N := 20) hx hb hA zin_X5 hown hK hP 0 rfl rfl 0 (by decide) (hA _ wi_484) (fun _ h9 => h9) rfl dX5_bindPlainly_32 ?_
          refine va_get (D := (dC, dI)) (ci := 9) (v := .ref gar) (C := RX9) (T := TX9) (N := 4) hx hb hA zin_X9 hown hK hP 7 rfl rfl 1 (by decide) (hA _ wi_315) (fun _ h9 => h9) rfl dX5_bindPlainly_35 ?_
          refine va_get (D := (dC, dI)) (ci := 0) (v := .ref afirstSlot) (C := RX0) (T := TX0) (N := 7) hx hb hA zin_X0 hown hK hP 8 rfl rfl 4 (by decide) (hA _ wi_243) (fun _ h9 => h9) rfl dX5_bindPlainly_38 ?_
          refine lv_iload_n hx hb dX5_bindPlainly_41 rfl (lv_at hl 2 rfl) ?_
          refine va_iald hx hb hK hP 2 1 rfl rfl (vp_in_iff.mpr ⟨by omega, by omega⟩) dX5_bindPlainly_42 ?_
          refine lv_topi (fun x_9 ex_9 => ?_)
          have ix_9 : 0 ≤ x_9.toInt ∧ x_9.toInt + zfk kz kgf (agkind (Int32.toNatClampNeg am)) ≤ 24 := by rw [ex_9]; exact hfs
          have jx_9 : x_9.toInt = (agfirstSlot (Int32.toNatClampNeg am)).toInt := by rw [ex_9]
          refine lv_iadd hx hb dX5_bindPlainly_43 ?_
          refine lv_topi (fun x_10 ex_10 => ?_)
          have ix_10 : x_10.toInt = ba.toInt + x_9.toInt := by rw [ex_10]; exact zi_addc rfl (by omega) (by omega)
          refine lv_iload hx hb dX5_bindPlainly_44 (lv_at hl 0 rfl) ?_
          refine lv_iadd hx hb dX5_bindPlainly_46 ?_
          refine lv_topi (fun x_11 ex_11 => ?_)
          have ix_11 : x_11.toInt = x_10.toInt + i.toInt := by rw [ex_11]; exact zi_addc rfl (by omega) (by omega)
          refine lv_aload_n hx hb dX5_bindPlainly_47 rfl (lv_at hl 1 rfl) ?_
          refine va_get (D := (dC, dI)) (ci := 5) (v := .ref mce) (C := RX5) (T := TX5) (N := 20) hx hb hA zin_X5 hown hK hP 0 rfl rfl 2 (by decide) (hA _ wi_486) (fun _ h9 => h9) rfl dX5_bindPlainly_48 ?_
          refine lv_lload_n hx hb dX5_bindPlainly_51 rfl (lv_at hl 3 rfl) ?_
          refine lv_l2i hx hb dX5_bindPlainly_52 rfl ?_
          refine lv_topi (fun x_12 ex_12 => ?_)
          have ix_12 : x_12.toInt = va.toInt32.toInt := by rw [ex_12]
          refine lv_iload hx hb dX5_bindPlainly_53 (lv_at hl 0 rfl) ?_
          have hPc := hP.sub (ws' := [(mce, .inr (1, [.ref ek, .ref ec, .ref ef, .ref gki, .int e_limit, .int e_fresh, .int e_firstFree, .int e_held, .int e_mostHeld, .int e_made, .int e_reused, .int e_freed, .int e_doubled])), (ek, .inl (e1, 4000, .inl gk)), (ec, .inl (e2, 4000, .inl gc)), (ef, .inl (e3, 12000, .inr (.inl gv)))]) [3, 4, 5, 6] rfl
          have hDc := hD.sub (ws' := [(mce, .inr (1, [.ref ek, .ref ec, .ref ef, .ref gki, .int e_limit, .int e_fresh, .int e_firstFree, .int e_held, .int e_mostHeld, .int e_made, .int e_reused, .int e_freed, .int e_doubled])), (ek, .inl (e1, 4000, .inl gk)), (ec, .inl (e2, 4000, .inl gc)), (ef, .inl (e3, 12000, .inr (.inl gv)))]) [3, 4, 5, 6] (by decide) rfl
          have hKc := hK.sub (tys' := [(e1, .int), (e2, .int), (e3, .long)]) [2, 3, 4] rfl
          have hFc := va_free (wc := [(mce, .inr (1, [.ref ek, .ref ec, .ref ef, .ref gki, .int e_limit, .int e_fresh, .int e_firstFree, .int e_held, .int e_mostHeld, .int e_made, .int e_reused, .int e_freed, .int e_doubled])), (ek, .inl (e1, 4000, .inl gk)), (ec, .inl (e2, 4000, .inl gc)), (ef, .inl (e3, 12000, .inr (.inl gv)))]) hD hS hAA [3, 4, 5, 6] rfl
          refine va_calll (va_runV (As := [.int x_12, .int i]) (rest := [.int x_11, .ref sk]) ⟨hx, hb, hml, hown, hA⟩ (c_X1_field_x4000 l dC dI aK aV mce ek ec ef gki e1 e2 e3 e_limit e_fresh e_firstFree e_held e_mostHeld e_made e_reused e_freed e_doubled gk gc gv x_12 i H.size (by omega) (by omega) (by omega) (by omega)) (cwV 2 hA (zw_V wi_1261 wi_1156 wi_1157 wi_140 (zw_good wi_1158)) rfl rfl rfl (by decide +kernel) ⟨(Nat.le_of_ble_eq_true rfl), (Nat.le_of_ble_eq_true rfl)⟩) ⟨zP_blind, va_recv hKc hPc (ci := 1) (q0 := 0) rfl rfl, zz_pre hKc hPc hDc hN hT hS hFc⟩ rfl rfl hl.1 rfl (lv_room (Nat.le_of_ble_eq_true rfl)) dX5_bindPlainly_55 ⟨(Nat.le_of_ble_eq_true rfl), (Nat.le_of_ble_eq_true rfl)⟩) hS (fun q _ h => hFc q h) hFc (fun r_13 u t H1 locs ht hvm hw hB hz1 hk1 hS => ?_)
          obtain ⟨hP1, hK1, hD1⟩ := hB
          rw [ht] at hP1
          have hK1 := va_K.moved hvm.symm hK1
          obtain ⟨hP, hD⟩ := va_join (wr := [(h0, .inr (5, [.ref mp, .ref gco, .ref mce, .int mcn, .ref sk, .int tp, .int ba, .ref kb, .ref kk, .ref ks, .int on, .ref sh, .int sn, .int mat, .int alw, .int st, .int mo, .int mh, .int sp, .long re])), (sk, .inl (sk1, 22424, .inr (.inl lgs))), (afirstSlot, .inl (akfirstSlot, 400, .inl agfirstSlot)), (mp, .inr (9, [.ref gco, .ref gar, .ref gki, .ref gfu])), (gar, .inr (0, [.ref akind, .ref anext, .ref abefore, .ref aleave, .ref afirstSlot, .ref abuilds, .int az])), (akind, .inl (akkind, 400, .inl agkind)), (gki, .inr (4, [.ref kw, .ref kf, .int kz])), (kw, .inl (k1, 20, .inr (.inl kgw))), (kf, .inl (k2, 20, .inl kgf))]) (w1 := [(mce, .inr (1, [.ref ek, .ref ec, .ref ef, .ref gki, .int e_limit, .int e_fresh, .int e_firstFree, .int e_held, .int e_mostHeld, .int e_made, .int e_reused, .int e_freed, .int e_doubled])), (ek, .inl (e1, 4000, .inl gk)), (ec, .inl (e2, 4000, .inl gc)), (ef, .inl (e3, 12000, .inr (.inl gv)))]) hP hD [3, 4, 5, 6] [0, 1, 2, 7, 8, 9, 10, 11, 12] rfl rfl (by decide) (by decide) hk1 hFc hP1 hD1
          have hK := (hK.sub (tys' := [(sk1, .long), (akfirstSlot, .int), (akkind, .int), (k1, .long), (k2, .int)]) [0, 1, 5, 6, 7] rfl).app hK1
          generalize H1 = H at hP hS ⊢
          have hP : va_P (dC, dI) vwCl [(h0, .inr (5, [.ref mp, .ref gco, .ref mce, .int mcn, .ref sk, .int tp, .int ba, .ref kb, .ref kk, .ref ks, .int on, .ref sh, .int sn, .int mat, .int alw, .int st, .int mo, .int mh, .int sp, .long re])), (sk, .inl (sk1, 22424, .inr (.inl lgs))), (afirstSlot, .inl (akfirstSlot, 400, .inl agfirstSlot)), (mp, .inr (9, [.ref gco, .ref gar, .ref gki, .ref gfu])), (gar, .inr (0, [.ref akind, .ref anext, .ref abefore, .ref aleave, .ref afirstSlot, .ref abuilds, .int az])), (akind, .inl (akkind, 400, .inl agkind)), (gki, .inr (4, [.ref kw, .ref kf, .int kz])), (kw, .inl (k1, 20, .inr (.inl kgw))), (kf, .inl (k2, 20, .inl kgf)), (mce, .inr (1, [.ref ek, .ref ec, .ref ef, .ref gki, .int e_limit, .int e_fresh, .int e_firstFree, .int e_held, .int e_mostHeld, .int e_made, .int e_reused, .int e_freed, .int e_doubled])), (ek, .inl (e1, 4000, .inl gk)), (ec, .inl (e2, 4000, .inl gc)), (ef, .inl (e3, 12000, .inr (.inl gv)))] H := hP
          have hD : va_D A [(h0, .inr (5, [.ref mp, .ref gco, .ref mce, .int mcn, .ref sk, .int tp, .int ba, .ref kb, .ref kk, .ref ks, .int on, .ref sh, .int sn, .int mat, .int alw, .int st, .int mo, .int mh, .int sp, .long re])), (sk, .inl (sk1, 22424, .inr (.inl lgs))), (afirstSlot, .inl (akfirstSlot, 400, .inl agfirstSlot)), (mp, .inr (9, [.ref gco, .ref gar, .ref gki, .ref gfu])), (gar, .inr (0, [.ref akind, .ref anext, .ref abefore, .ref aleave, .ref afirstSlot, .ref abuilds, .int az])), (akind, .inl (akkind, 400, .inl agkind)), (gki, .inr (4, [.ref kw, .ref kf, .int kz])), (kw, .inl (k1, 20, .inr (.inl kgw))), (kf, .inl (k2, 20, .inl kgf)), (mce, .inr (1, [.ref ek, .ref ec, .ref ef, .ref gki, .int e_limit, .int e_fresh, .int e_firstFree, .int e_held, .int e_mostHeld, .int e_made, .int e_reused, .int e_freed, .int e_doubled])), (ek, .inl (e1, 4000, .inl gk)), (ec, .inl (e2, 4000, .inl gc)), (ef, .inl (e3, 12000, .inr (.inl gv)))] := hD
          have hK : va_K (dC, dI) vwCl [(sk1, .long), (akfirstSlot, .int), (akkind, .int), (k1, .long), (k2, .int), (e1, .int), (e2, .int), (e3, .long)] s := hK
          have hq_14 := hw
          have hfe9 : r_13 = gv (3 * Int32.toNatClampNeg va.toInt32 + Int32.toNatClampNeg i) := by rw [hq_14, ex_12]
          refine va_last hx hb hK hP hD hS 1 0 rfl rfl (vp_in_iff.mpr ⟨by omega, by omega⟩) dX5_bindPlainly_58 (fun H locs hP hD hS => ?_)
          obtain ⟨f_15, ef_15⟩ : ∃ gz9 : Nat → Int64, gz9 = vp_updL lgs (Int32.toNatClampNeg x_11) r_13 := ⟨_, rfl⟩
          rw [← ef_15] at hP hD
          have hP : va_P (dC, dI) vwCl [(h0, .inr (5, [.ref mp, .ref gco, .ref mce, .int mcn, .ref sk, .int tp, .int ba, .ref kb, .ref kk, .ref ks, .int on, .ref sh, .int sn, .int mat, .int alw, .int st, .int mo, .int mh, .int sp, .long re])), (sk, .inl (sk1, 22424, .inr (.inl f_15))), (afirstSlot, .inl (akfirstSlot, 400, .inl agfirstSlot)), (mp, .inr (9, [.ref gco, .ref gar, .ref gki, .ref gfu])), (gar, .inr (0, [.ref akind, .ref anext, .ref abefore, .ref aleave, .ref afirstSlot, .ref abuilds, .int az])), (akind, .inl (akkind, 400, .inl agkind)), (gki, .inr (4, [.ref kw, .ref kf, .int kz])), (kw, .inl (k1, 20, .inr (.inl kgw))), (kf, .inl (k2, 20, .inl kgf)), (mce, .inr (1, [.ref ek, .ref ec, .ref ef, .ref gki, .int e_limit, .int e_fresh, .int e_firstFree, .int e_held, .int e_mostHeld, .int e_made, .int e_reused, .int e_freed, .int e_doubled])), (ek, .inl (e1, 4000, .inl gk)), (ec, .inl (e2, 4000, .inl gc)), (ef, .inl (e3, 12000, .inr (.inl gv)))] H := hP
          have hD : va_D A [(h0, .inr (5, [.ref mp, .ref gco, .ref mce, .int mcn, .ref sk, .int tp, .int ba, .ref kb, .ref kk, .ref ks, .int on, .ref sh, .int sn, .int mat, .int alw, .int st, .int mo, .int mh, .int sp, .long re])), (sk, .inl (sk1, 22424, .inr (.inl f_15))), (afirstSlot, .inl (akfirstSlot, 400, .inl agfirstSlot)), (mp, .inr (9, [.ref gco, .ref gar, .ref gki, .ref gfu])), (gar, .inr (0, [.ref akind, .ref anext, .ref abefore, .ref aleave, .ref afirstSlot, .ref abuilds, .int az])), (akind, .inl (akkind, 400, .inl agkind)), (gki, .inr (4, [.ref kw, .ref kf, .int kz])), (kw, .inl (k1, 20, .inr (.inl kgw))), (kf, .inl (k2, 20, .inl kgf)), (mce, .inr (1, [.ref ek, .ref ec, .ref ef, .ref gki, .int e_limit, .int e_fresh, .int e_firstFree, .int e_held, .int e_mostHeld, .int e_made, .int e_reused, .int e_freed, .int e_doubled])), (ek, .inl (e1, 4000, .inl gk)), (ec, .inl (e2, 4000, .inl gc)), (ef, .inl (e3, 12000, .inr (.inl gv)))] := hD
          obtain ⟨x_16, ex_16⟩ : ∃ y : Int32, y = i + Int32.ofInt 1 := ⟨_, rfl⟩
          refine lv_iinc (v := x_16) (lv' := [(4, .int x_16), (0, .ref h0), (1, .int am), (2, .long va)]) hx hb dX5_bindPlainly_59 hl (k := 0) rfl (by rw [ex_16]) (by decide) rfl (fun ls hl => ?_)
          have ix_16 : x_16.toInt = i.toInt + 1 := by rw [ex_16]; exact zi_addc (by decide) (by omega) (by omega)
          refine lv_goto (tgt := 3) hx hb dX5_bindPlainly_62 (by decide) ?_
          have hni9 := zn_nat (x := i) (by omega)
          have hnj9 := zn_nat (x := x_16) (by omega)
          have hgs9 : f_15 = vp_updL lgs (Int32.toNatClampNeg ba + Int32.toNatClampNeg (agfirstSlot (Int32.toNatClampNeg am)) + Int32.toNatClampNeg i) r_13 := by rw [ef_15]; exact congrArg (fun x => vp_updL lgs x r_13) (by have := zn_nat (x := x_11) (by omega); omega)
          have hlc_17 : ∃ p2, zMP nS kz kgf gk gv e_fresh f_15 p2 gsh sn ∧ (∀ j : Nat, pp j = true → p2 j = true) ∧ ∀ k : Nat, k < Int32.toNatClampNeg x_16 → p2 (Int32.toNatClampNeg ba + Int32.toNatClampNeg (agfirstSlot (Int32.toNatClampNeg am)) + k) = true := ⟨_, zMP_st (t := Int32.toNatClampNeg ba + Int32.toNatClampNeg (agfirstSlot (Int32.toNatClampNeg am)) + Int32.toNatClampNeg i) hm7 (by rw [hnS]; omega) (by rw [hfe9]; exact hm7.2.1 _ (by omega) _ (by omega)) hgs9, fun j hj => zpA_i (hp7 j hj), fun k hk => (if g : k < Int32.toNatClampNeg i then zpA_i (hf7 k g) else by rw [show k = Int32.toNatClampNeg i from by omega]; exact zpA_s)⟩
          have hbp_18 : (¬ zhs va = 2 → f_15 = gs) ∧ (zhs va = 2 → zBp gs f_15 gv (Int32.toNatClampNeg ba + Int32.toNatClampNeg (agfirstSlot (Int32.toNatClampNeg am))) (3 * Int32.toNatClampNeg va.toInt32) (Int32.toNatClampNeg x_16)) := ⟨fun g => absurd hcell9 g, fun g => zBp_s (hbp.2 g) hgs9 hfe9 (by omega)⟩
          exact ih x_16 f_15 _ _ _ (by omega) (by omega) (by omega) (by omega) hlc_17 hbp_18 (hP.sub [0, 1, 3, 4, 5, 2, 9, 10, 11, 12, 6, 7, 8] rfl) (hD.sub [0, 1, 3, 4, 5, 2, 9, 10, 11, 12, 6, 7, 8] (by decide) rfl) hS (lv_sub hl [0, 1, 2, 3] rfl)
  have hlc_19 : ∃ p2, zMP nS kz kgf gk gv e_fresh gs p2 gsh sn ∧ (∀ j : Nat, pp j = true → p2 j = true) ∧ ∀ k : Nat, k < Int32.toNatClampNeg 0 → p2 (Int32.toNatClampNeg ba + Int32.toNatClampNeg (agfirstSlot (Int32.toNatClampNeg am)) + k) = true := ⟨pp, hmd, fun _ h => h, fun k hk => absurd hk (by rw [show Int32.toNatClampNeg 0 = 0 from rfl]; omega)⟩
  have hzn9 := zfk_nn (kz := kz) (kf := kgf) (k := (agkind (Int32.toNatClampNeg am)))
  have hbp_20 : (¬ zhs va = 2 → gs = gs) ∧ (zhs va = 2 → zBp gs gs gv (Int32.toNatClampNeg ba + Int32.toNatClampNeg (agfirstSlot (Int32.toNatClampNeg am))) (3 * Int32.toNatClampNeg va.toInt32) (Int32.toNatClampNeg 0)) := ⟨fun _ => rfl, fun _ => zBp_0⟩
  exact loop_3 _ 0 gs _ _ _ (Nat.le_refl _) (by have h9_0 : Int32.toInt 0 = 0 := (by decide); omega) (by have h9_0 : Int32.toInt 0 = 0 := (by decide); omega) (by have h9_0 : Int32.toInt 0 = 0 := (by decide); omega) hlc_19 hbp_20 (hP.sub [0, 1, 2, 3, 4, 5, 6, 7, 8, 9, 10, 11, 12] rfl) (hD.sub [0, 1, 2, 3, 4, 5, 6, 7, 8, 9, 10, 11, 12] (by decide) rfl) hS (lv_sub hl [0, 1, 2, 3] rfl)

end
section
theorem wi_187 : Cond.fieldLink RX5 250 "ReuseHouse$Code" "b" "[I" ∈ zw := zw_in (List.mem_of_getElem? (i := 187) (by decide +kernel)) (by decide +kernel)
theorem wi_1249 : Cond.code yX1_kindOf cX1_kindOf 3 (some .int) ∈ zw := zw_in (List.mem_of_getElem? (i := 1249) (by decide +kernel)) (by decide +kernel)
theorem wi_1246 : Cond.methodLink RX5 253 yX1_kindOf ∈ zw := zw_in (List.mem_of_getElem? (i := 1246) (by decide +kernel)) (by decide +kernel)
theorem wi_1247 : Cond.instanceMethod yX1_kindOf ∈ zw := zw_in (List.mem_of_getElem? (i := 1247) (by decide +kernel)) (by decide +kernel)
theorem wi_1248 : Cond.selects RX1 yX1_kindOf yX1_kindOf ∈ zw := zw_in (List.mem_of_getElem? (i := 1248) (by decide +kernel)) (by decide +kernel)
theorem wi_1254 : Cond.code yX5_fittingArm cX5_fittingArm 6 (some .int) ∈ zw := zw_in (List.mem_of_getElem? (i := 1254) (by decide +kernel)) (by decide +kernel)
theorem wi_1251 : Cond.methodLink RX5 257 yX5_fittingArm ∈ zw := zw_in (List.mem_of_getElem? (i := 1251) (by decide +kernel)) (by decide +kernel)
theorem wi_1253 : Cond.instanceMethod yX5_fittingArm ∈ zw := zw_in (List.mem_of_getElem? (i := 1253) (by decide +kernel)) (by decide +kernel)
theorem wi_60 : Cond.selects RX5 yX5_fittingArm yX5_fittingArm ∈ zw := zw_in (List.mem_of_getElem? (i := 60) (by decide +kernel)) (by decide +kernel)
theorem wi_238 : Cond.fieldLink RX5 264 "ReuseHouse$Arms" "before" "[I" ∈ zw := zw_in (List.mem_of_getElem? (i := 238) (by decide +kernel)) (by decide +kernel)
theorem wi_1265 : Cond.code yX5_keepShell cX5_keepShell 2 none ∈ zw := zw_in (List.mem_of_getElem? (i := 1265) (by decide +kernel)) (by decide +kernel)
theorem wi_1262 : Cond.methodLink RX5 273 yX5_keepShell ∈ zw := zw_in (List.mem_of_getElem? (i := 1262) (by decide +kernel)) (by decide +kernel)
theorem wi_1264 : Cond.instanceMethod yX5_keepShell ∈ zw := zw_in (List.mem_of_getElem? (i := 1264) (by decide +kernel)) (by decide +kernel)
theorem wi_62 : Cond.selects RX5 yX5_keepShell yX5_keepShell ∈ zw := zw_in (List.mem_of_getElem? (i := 62) (by decide +kernel)) (by decide +kernel)
theorem wi_196 : Cond.fieldLink RX5 286 "ReuseHouse$Code" "needed" "[I" ∈ zw := zw_in (List.mem_of_getElem? (i := 196) (by decide +kernel)) (by decide +kernel)
theorem wi_1269 : Cond.code yX5_takeApart cX5_takeApart 10 (some .int) ∈ zw := zw_in (List.mem_of_getElem? (i := 1269) (by decide +kernel)) (by decide +kernel)
theorem wi_1266 : Cond.methodLink RX5 282 yX5_takeApart ∈ zw := zw_in (List.mem_of_getElem? (i := 1266) (by decide +kernel)) (by decide +kernel)
theorem wi_1268 : Cond.instanceMethod yX5_takeApart ∈ zw := zw_in (List.mem_of_getElem? (i := 1268) (by decide +kernel)) (by decide +kernel)
theorem wi_63 : Cond.selects RX5 yX5_takeApart yX5_takeApart ∈ zw := zw_in (List.mem_of_getElem? (i := 63) (by decide +kernel)) (by decide +kernel)
theorem dX5_match_0 : decode cX5_match 0 = .ok (.aload_n 0, 1) := by decide +kernel
theorem dX5_match_1 : decode cX5_match 1 = .ok (.getfield 77, 3) := by decide +kernel
theorem dX5_match_4 : decode cX5_match 4 = .ok (.getfield 103, 3) := by decide +kernel
theorem dX5_match_7 : decode cX5_match 7 = .ok (.iload_n 1, 1) := by decide +kernel
theorem dX5_match_8 : decode cX5_match 8 = .ok (.iaload, 1) := by decide +kernel
theorem dX5_match_9 : decode cX5_match 9 = .ok (.istore_n 2, 1) := by decide +kernel
theorem dX5_match_10 : decode cX5_match 10 = .ok (.aload_n 0, 1) := by decide +kernel
theorem dX5_match_11 : decode cX5_match 11 = .ok (.getfield 15, 3) := by decide +kernel
theorem dX5_match_14 : decode cX5_match 14 = .ok (.aload_n 0, 1) := by decide +kernel
theorem dX5_match_15 : decode cX5_match 15 = .ok (.getfield 23, 3) := by decide +kernel
theorem dX5_match_18 : decode cX5_match 18 = .ok (.iload_n 2, 1) := by decide +kernel
theorem dX5_match_19 : decode cX5_match 19 = .ok (.iadd, 1) := by decide +kernel
theorem dX5_match_20 : decode cX5_match 20 = .ok (.laload, 1) := by decide +kernel
theorem dX5_match_21 : decode cX5_match 21 = .ok (.lstore_n 3, 1) := by decide +kernel
theorem dX5_match_22 : decode cX5_match 22 = .ok (.aload_n 0, 1) := by decide +kernel
theorem dX5_match_23 : decode cX5_match 23 = .ok (.aload_n 0, 1) := by decide +kernel
theorem dX5_match_24 : decode cX5_match 24 = .ok (.getfield 77, 3) := by decide +kernel
theorem dX5_match_27 : decode cX5_match 27 = .ok (.getfield 250, 3) := by decide +kernel
theorem dX5_match_30 : decode cX5_match 30 = .ok (.iload_n 1, 1) := by decide +kernel
theorem dX5_match_31 : decode cX5_match 31 = .ok (.iaload, 1) := by decide +kernel
theorem dX5_match_32 : decode cX5_match 32 = .ok (.aload_n 0, 1) := by decide +kernel
theorem dX5_match_33 : decode cX5_match 33 = .ok (.getfield 83, 3) := by decide +kernel
theorem dX5_match_36 : decode cX5_match 36 = .ok (.lload_n 3, 1) := by decide +kernel
theorem dX5_match_37 : decode cX5_match 37 = .ok (.invokevirtual 253, 3) := by decide +kernel
theorem dX5_match_40 : decode cX5_match 40 = .ok (.invokevirtual 257, 3) := by decide +kernel
theorem dX5_match_43 : decode cX5_match 43 = .ok (.istore 5, 2) := by decide +kernel
theorem dX5_match_45 : decode cX5_match 45 = .ok (.iload 5, 2) := by decide +kernel
theorem dX5_match_47 : decode cX5_match 47 = .ok (.iconst (-1), 1) := by decide +kernel
theorem dX5_match_48 : decode cX5_match 48 = .ok (.if_icmp .ne 10, 3) := by decide +kernel
theorem dX5_match_51 : decode cX5_match 51 = .ok (.aload_n 0, 1) := by decide +kernel
theorem dX5_match_52 : decode cX5_match 52 = .ok (.iconst 2, 1) := by decide +kernel
theorem dX5_match_53 : decode cX5_match 53 = .ok (.iload_n 1, 1) := by decide +kernel
theorem dX5_match_54 : decode cX5_match 54 = .ok (.invokevirtual 162, 3) := by decide +kernel
theorem dX5_match_57 : decode cX5_match 57 = .ok (.return_, 1) := by decide +kernel
theorem dX5_match_58 : decode cX5_match 58 = .ok (.aload_n 0, 1) := by decide +kernel
theorem dX5_match_59 : decode cX5_match 59 = .ok (.aload_n 0, 1) := by decide +kernel
theorem dX5_match_60 : decode cX5_match 60 = .ok (.getfield 67, 3) := by decide +kernel
theorem dX5_match_63 : decode cX5_match 63 = .ok (.getfield 260, 3) := by decide +kernel
theorem dX5_match_66 : decode cX5_match 66 = .ok (.getfield 264, 3) := by decide +kernel
theorem dX5_match_69 : decode cX5_match 69 = .ok (.iload 5, 2) := by decide +kernel
theorem dX5_match_71 : decode cX5_match 71 = .ok (.iaload, 1) := by decide +kernel
theorem dX5_match_72 : decode cX5_match 72 = .ok (.invokevirtual 144, 3) := by decide +kernel
theorem dX5_match_75 : decode cX5_match 75 = .ok (.aload_n 0, 1) := by decide +kernel
theorem dX5_match_76 : decode cX5_match 76 = .ok (.getfield 9, 3) := by decide +kernel
theorem dX5_match_79 : decode cX5_match 79 = .ok (.ifCond .ne 16, 3) := by decide +kernel
theorem dX5_match_95 : decode cX5_match 95 = .ok (.aload_n 0, 1) := by decide +kernel
theorem dX5_match_96 : decode cX5_match 96 = .ok (.getfield 77, 3) := by decide +kernel
theorem dX5_match_99 : decode cX5_match 99 = .ok (.aload_n 0, 1) := by decide +kernel
theorem dX5_match_100 : decode cX5_match 100 = .ok (.getfield 67, 3) := by decide +kernel
theorem dX5_match_103 : decode cX5_match 103 = .ok (.getfield 260, 3) := by decide +kernel
theorem dX5_match_106 : decode cX5_match 106 = .ok (.getfield 264, 3) := by decide +kernel
theorem dX5_match_109 : decode cX5_match 109 = .ok (.iload 5, 2) := by decide +kernel
theorem dX5_match_111 : decode cX5_match 111 = .ok (.iaload, 1) := by decide +kernel
theorem dX5_match_112 : decode cX5_match 112 = .ok (.invokevirtual 110, 3) := by decide +kernel
theorem dX5_match_115 : decode cX5_match 115 = .ok (.istore 6, 2) := by decide +kernel
theorem dX5_match_117 : decode cX5_match 117 = .ok (.iload 6, 2) := by decide +kernel
theorem dX5_match_119 : decode cX5_match 119 = .ok (.iload_n 2, 1) := by decide +kernel
theorem dX5_match_120 : decode cX5_match 120 = .ok (.invokestatic 175, 3) := by decide +kernel
theorem dX5_match_123 : decode cX5_match 123 = .ok (.istore 7, 2) := by decide +kernel
theorem dX5_match_125 : decode cX5_match 125 = .ok (.iconst (-1), 1) := by decide +kernel
theorem dX5_match_126 : decode cX5_match 126 = .ok (.istore 8, 2) := by decide +kernel
theorem dX5_match_128 : decode cX5_match 128 = .ok (.aload_n 0, 1) := by decide +kernel
theorem dX5_match_129 : decode cX5_match 129 = .ok (.getfield 67, 3) := by decide +kernel
theorem dX5_match_132 : decode cX5_match 132 = .ok (.getfield 260, 3) := by decide +kernel
theorem dX5_match_135 : decode cX5_match 135 = .ok (.getfield 276, 3) := by decide +kernel
theorem dX5_match_138 : decode cX5_match 138 = .ok (.iload 5, 2) := by decide +kernel
theorem dX5_match_140 : decode cX5_match 140 = .ok (.iaload, 1) := by decide +kernel
theorem dX5_match_141 : decode cX5_match 141 = .ok (.bipush (-2), 2) := by decide +kernel
theorem dX5_match_143 : decode cX5_match 143 = .ok (.if_icmp .eq 31, 3) := by decide +kernel
theorem dX5_match_146 : decode cX5_match 146 = .ok (.lload_n 3, 1) := by decide +kernel
theorem dX5_match_147 : decode cX5_match 147 = .ok (.invokestatic 279, 3) := by decide +kernel
theorem dX5_match_150 : decode cX5_match 150 = .ok (.ifCond .eq 18, 3) := by decide +kernel
theorem dX5_match_153 : decode cX5_match 153 = .ok (.aload_n 0, 1) := by decide +kernel
theorem dX5_match_154 : decode cX5_match 154 = .ok (.iload 5, 2) := by decide +kernel
theorem dX5_match_156 : decode cX5_match 156 = .ok (.lload_n 3, 1) := by decide +kernel
theorem dX5_match_157 : decode cX5_match 157 = .ok (.l2i, 1) := by decide +kernel
theorem dX5_match_158 : decode cX5_match 158 = .ok (.iload 6, 2) := by decide +kernel
theorem dX5_match_160 : decode cX5_match 160 = .ok (.iload 7, 2) := by decide +kernel
theorem dX5_match_162 : decode cX5_match 162 = .ok (.invokevirtual 282, 3) := by decide +kernel
theorem dX5_match_165 : decode cX5_match 165 = .ok (.goto 4, 3) := by decide +kernel
theorem dX5_match_168 : decode cX5_match 168 = .ok (.iconst (-1), 1) := by decide +kernel
theorem dX5_match_169 : decode cX5_match 169 = .ok (.istore 8, 2) := by decide +kernel
theorem dX5_match_171 : decode cX5_match 171 = .ok (.goto 16, 3) := by decide +kernel
theorem dX5_match_174 : decode cX5_match 174 = .ok (.iload 7, 2) := by decide +kernel
theorem dX5_match_176 : decode cX5_match 176 = .ok (.ifCond .ne 11, 3) := by decide +kernel
theorem dX5_match_179 : decode cX5_match 179 = .ok (.aload_n 0, 1) := by decide +kernel
theorem dX5_match_180 : decode cX5_match 180 = .ok (.getfield 83, 3) := by decide +kernel
theorem dX5_match_183 : decode cX5_match 183 = .ok (.lload_n 3, 1) := by decide +kernel
theorem dX5_match_184 : decode cX5_match 184 = .ok (.invokevirtual 179, 3) := by decide +kernel
theorem dX5_match_187 : decode cX5_match 187 = .ok (.aload_n 0, 1) := by decide +kernel
theorem dX5_match_188 : decode cX5_match 188 = .ok (.iload 8, 2) := by decide +kernel
theorem dX5_match_190 : decode cX5_match 190 = .ok (.invokevirtual 273, 3) := by decide +kernel
theorem dX5_match_193 : decode cX5_match 193 = .ok (.aload_n 0, 1) := by decide +kernel
theorem dX5_match_194 : decode cX5_match 194 = .ok (.aload_n 0, 1) := by decide +kernel
theorem dX5_match_195 : decode cX5_match 195 = .ok (.getfield 77, 3) := by decide +kernel
theorem dX5_match_198 : decode cX5_match 198 = .ok (.getfield 286, 3) := by decide +kernel
theorem dX5_match_201 : decode cX5_match 201 = .ok (.iload_n 1, 1) := by decide +kernel
theorem dX5_match_202 : decode cX5_match 202 = .ok (.iaload, 1) := by decide +kernel
theorem dX5_match_203 : decode cX5_match 203 = .ok (.iload 6, 2) := by decide +kernel
theorem dX5_match_205 : decode cX5_match 205 = .ok (.iconst (-1), 1) := by decide +kernel
theorem dX5_match_206 : decode cX5_match 206 = .ok (.ixor, 1) := by decide +kernel
theorem dX5_match_207 : decode cX5_match 207 = .ok (.iand, 1) := by decide +kernel
theorem dX5_match_208 : decode cX5_match 208 = .ok (.iconst 1, 1) := by decide +kernel
theorem dX5_match_209 : decode cX5_match 209 = .ok (.iload_n 2, 1) := by decide +kernel
theorem dX5_match_210 : decode cX5_match 210 = .ok (.ishl, 1) := by decide +kernel
theorem dX5_match_211 : decode cX5_match 211 = .ok (.iconst (-1), 1) := by decide +kernel
theorem dX5_match_212 : decode cX5_match 212 = .ok (.ixor, 1) := by decide +kernel
theorem dX5_match_213 : decode cX5_match 213 = .ok (.iand, 1) := by decide +kernel
theorem dX5_match_214 : decode cX5_match 214 = .ok (.invokevirtual 113, 3) := by decide +kernel
theorem dX5_match_217 : decode cX5_match 217 = .ok (.return_, 1) := by decide +kernel

end
section
/-! one turn: from row to row -/
theorem zGo {x : Int32} {P : Nat → Prop} (h : ∃ s : Nat, x.toInt = (s : Int) ∧ P s) : 0 ≤ x.toInt ∧ P (Int32.toNatClampNeg x) := by
  obtain ⟨s, a, b⟩ := h
  have hn := zn_nat (x := x) (by omega)
  exact ⟨by omega, by rw [show Int32.toNatClampNeg x = s by omega]; exact b⟩
theorem zbh_bf {S : Nat → Nat → Int32} {nd : Nat → Int32} {ro : Int32} (h : 0 ≤ ro.toInt) : zbh S nd (Int32.toNatClampNeg ro) = zbe (S 3) nd ro := by
  unfold zbh zbe
  rw [if_neg (show ¬ ro.toInt = -1 by omega)]
theorem zfl_k {S : Nat → Nat → Int32} {kz : Int32} {kf : Nat → Int32} (e9 : S 9 = kf) (e14 : S 14 0 = kz) (k : Int32) : zfl S k = zfk kz kf k := by
  unfold zfl zfk
  rw [e9, e14]
theorem zfk_m2 {kz : Int32} {kf : Nat → Int32} {k : Int32} (h : k.toInt = -2) : zfk kz kf k = 0 := by
  unfold zfk
  rw [if_neg (by omega)]
theorem zMP_ks {n : Nat} {kz : Int32} {kf gk : Nat → Int32} {gv : Nat → Int64} {fresh : Int32} {st : Nat → Int64} {p : Nat → Bool} {sh sh2 : Nat → Int32} {sn sn2 : Int32} (h : zMP n kz kf gk gv fresh st p sh sn) (hk : 0 ≤ sn.toInt ∧ sn.toInt < 3000 ∧ sn2.toInt = sn.toInt + 1 ∧ sh2 = upd sh (Int32.toNatClampNeg sn) (-1) ∨ sn2.toInt = sn.toInt ∧ sh2 = sh) : zMP n kz kf gk gv fresh st p sh2 sn2 := by
  refine ⟨h.1, h.2.1, fun i hi => ?_⟩
  rcases hk with ⟨a, b, c, d⟩ | ⟨a, b⟩
  · rw [d]
    have hn := zn_nat a
    by_cases g : i = Int32.toNatClampNeg sn
    · rw [g, zu_s]; decide
    · rw [zu_n g]; exact h.2.2 i (by omega)
  · rw [b]; exact h.2.2 i (by omega)
theorem zV_rg {S : Nat → Nat → Int32} {nd en : Nat → Int32} {fz : Int32} {G : Nat → Nat → Int} {L : List Nat} {p : Nat → Bool} {cb ck : Nat → Int32} {on ba tp st : Int32} {r : Nat} (hw : zWk S nd en fz G L) (h : zV S nd G L p cb ck on ba tp st r) : (0 ≤ tp.toInt ∧ tp.toInt ≤ 22400) ∧ (0 ≤ ba.toInt ∧ ba.toInt ≤ tp.toInt) ∧ (1 ≤ on.toInt ∧ on.toInt ≤ 100) ∧ (0 ≤ st.toInt ∧ st.toInt ≤ 20000) ∧ tp.toInt ≤ st.toInt + 24 * on.toInt := by
  obtain ⟨v1, v2, v3, v4, v5, v6, v7, v8, -⟩ := h
  obtain ⟨w1, w2, w3, w4, w5, w6, w7⟩ := hw.1 r v1
  omega
theorem zV0_rg {S : Nat → Nat → Int32} {nd en : Nat → Int32} {fz : Int32} {G : Nat → Nat → Int} {L : List Nat} {p : Nat → Bool} {cb ck : Nat → Int32} {on ba tp st : Int32} {r : Nat} (hw : zWk S nd en fz G L) (h : zV0 S nd G L p cb ck on ba tp st r) : (0 ≤ tp.toInt ∧ tp.toInt ≤ 22400) ∧ (0 ≤ ba.toInt ∧ ba.toInt ≤ tp.toInt) ∧ (1 ≤ on.toInt ∧ on.toInt ≤ 100) ∧ (0 ≤ st.toInt ∧ st.toInt ≤ 20000) ∧ tp.toInt ≤ st.toInt + 24 * on.toInt := by
  obtain ⟨v1, v0, v2, v3, v4, v5, v6, v7, v8, -⟩ := h
  obtain ⟨w1, w2, w3, w4, w5, w6, w7⟩ := hw.1 r v1
  omega
/-- which operation stands at a row that is about to be worked -/
theorem zV_op {S : Nat → Nat → Int32} {nd en op : Nat → Int32} {fz : Int32} {G : Nat → Nat → Int} {L : List Nat} {p : Nat → Bool} {cb ck : Nat → Int32} {on ba tp st x : Int32} {r : Nat} (hw : zWk S nd en fz G L) (e0 : S 0 = op) (hx : x = op r) (h : zV S nd G L p cb ck on ba tp st r ∨ zV0 S nd G L p cb ck on ba tp st r) : (zV S nd G L p cb ck on ba tp st r ∧ 1 ≤ x.toInt ∧ x.toInt ≤ 17) ∨ (zV0 S nd G L p cb ck on ba tp st r ∧ x.toInt = 0) := by
  subst e0
  subst hx
  rcases h with h | h
  · left
    refine ⟨h, ?_⟩
    have hr := zV_rg hw h
    obtain ⟨f, po, z, -⟩ := zV_row hw h.1 (n := Int32.toNatClampNeg (S 0 r)) rfl
    obtain ⟨w1, w2, w3, w4, w5, w6, w7⟩ := hw.1 r h.1
    have h6 := h.2.2.2.2.2.1
    by_cases g : (S 0 r).toInt ≤ 0
    · exfalso
      have e : Int32.toNatClampNeg (S 0 r) = 0 := by show (S 0 r).toInt.toNat = 0; omega
      rw [e] at z
      simp only [zop] at z
      omega
    · refine ⟨by omega, ?_⟩
      have hn := zn_nat (x := S 0 r) (by omega)
      by_cases g2 : (S 0 r).toInt ≤ 17
      · exact g2
      · exfalso
        rw [show Int32.toNatClampNeg (S 0 r) = (Int32.toNatClampNeg (S 0 r) - 18) + 18 by omega] at z
        exact z
  · right
    refine ⟨h, ?_⟩
    obtain ⟨f, po, z, -⟩ := zV_row hw h.1 h.2.1
    simp only [zop] at z
    exact z.2.2.2.2.2
theorem zT_op {S : Nat → Nat → Int32} {op : Nat → Int32} {x : Int32} {r n : Nat} (e0 : S 0 = op) (hx : x = op r) (h : x.toInt = (n : Int)) : Int32.toNatClampNeg (S 0 r) = n := by
  rw [e0, ← hx]
  have := zn_nat (x := x) (by omega)
  omega
theorem zT_1 {S : Nat → Nat → Int32} {nd en nx : Nat → Int32} {fz : Int32} {G : Nat → Nat → Int} {L : List Nat} {p : Nat → Bool} {cb ck : Nat → Int32} {on ba tp st st2 mat : Int32} {r : Nat} (hw : zWk S nd en fz G L) (e3 : S 3 = nx) (h : zV S nd G L p cb ck on ba tp st r) (ho : Int32.toNatClampNeg (S 0 r) = 1) (hs : st2.toInt = st.toInt + 1) (h2 : st2.toInt ≤ 20000) (hm : mat = nx r) : 0 ≤ mat.toInt ∧ zV S nd G L p cb ck on ba tp st2 (Int32.toNatClampNeg mat) := by
  subst e3
  subst hm
  obtain ⟨f, po, z, -⟩ := zV_row hw h.1 ho
  simp only [zop] at z
  exact zGo (zV_pl hw h ho (Or.inl rfl) (by omega) (by omega) (by omega) h2 (fun _ _ g => g) (fun k hk => h.2.2.2.2.2.2.2.2.2.1 k (by omega)))
theorem zT_2 {S : Nat → Nat → Int32} {nd en nx : Nat → Int32} {fz : Int32} {G : Nat → Nat → Int} {L : List Nat} {p : Nat → Bool} {cb ck : Nat → Int32} {on ba tp st tp2 st2 mat : Int32} {r : Nat} (hw : zWk S nd en fz G L) (e3 : S 3 = nx) (h : zV S nd G L p cb ck on ba tp st r) (ho : Int32.toNatClampNeg (S 0 r) = 2 ∨ Int32.toNatClampNeg (S 0 r) = 4) (hs : st2.toInt = st.toInt + 1) (h2 : st2.toInt ≤ 20000) (ht : tp2.toInt = tp.toInt + 1) (hm : mat = nx r) : 0 ≤ mat.toInt ∧ zV S nd G L (zpA p (Int32.toNatClampNeg tp)) cb ck on ba tp2 st2 (Int32.toNatClampNeg mat) := by
  subst e3
  subst hm
  obtain ⟨w1, w2, w3, w4, w5, w6, w7⟩ := hw.1 r h.1
  have h6 := h.2.2.2.2.2.1
  have h5 := h.2.2.2.2.1
  have hba := zn_nat h5
  have htn := zn_nat (x := tp) (by omega)
  have h1 : G r 1 = G r 0 + 1 := by
    rcases ho with g | g
    · obtain ⟨f, po, z, -⟩ := zV_row hw h.1 g
      simp only [zop] at z
      exact z.1
    · obtain ⟨f, po, z, -⟩ := zV_row hw h.1 g
      simp only [zop] at z
      exact z.2.2.2.1
  refine zGo (zV_pl hw h rfl (ho.elim (fun g => by rw [g]; exact Or.inr (Or.inl rfl)) (fun g => by rw [g]; exact Or.inr (Or.inr (Or.inl rfl)))) (by omega) (by omega) (by omega) h2 (fun _ _ g => zpA_i g) (fun k hk => ?_))
  by_cases g : (k : Int) = G r 0
  · rw [show Int32.toNatClampNeg ba + (zNm S G r).toNat + k = Int32.toNatClampNeg tp by omega]; exact zpA_s
  · exact zpA_i (h.2.2.2.2.2.2.2.2.2.1 k (by omega))
theorem zT_3h {S : Nat → Nat → Int32} {nd en a : Nat → Int32} {fz : Int32} {G : Nat → Nat → Int} {L : List Nat} {p : Nat → Bool} {cb ck : Nat → Int32} {on ba tp st : Int32} {r : Nat} (hw : zWk S nd en fz G L) (e1 : S 1 = a) (h : zV S nd G L p cb ck on ba tp st r) (ho : Int32.toNatClampNeg (S 0 r) = 3) : (0 ≤ (a r).toInt ∧ (a r).toInt < 24) ∧ p (Int32.toNatClampNeg ba + Int32.toNatClampNeg (a r)) = true := by
  subst e1
  obtain ⟨w1, w2, w3, w4, w5, w6, w7⟩ := hw.1 r h.1
  obtain ⟨f, po, z, -, -, -, -, hb⟩ := zV_row hw h.1 ho
  simp only [zop] at z
  have hn := zn_nat z.1
  refine ⟨⟨z.1, by omega⟩, h.2.2.2.2.2.2.2.2.1 _ (by omega) ?_⟩
  rw [hb _ (by omega)]
  show (_ || (Int32.toNatClampNeg (S 1 r) == Int32.toNatClampNeg (S 1 r))) = true
  rw [beq_self_eq_true, Bool.or_true]
theorem zT_3 {S : Nat → Nat → Int32} {nd en a nx : Nat → Int32} {fz : Int32} {G : Nat → Nat → Int} {L : List Nat} {p p2 : Nat → Bool} {cb ck : Nat → Int32} {on ba tp st tp2 st2 mat ro : Int32} (hw : zWk S nd en fz G L) (e1 : S 1 = a) (e3 : S 3 = nx) (hr : 0 ≤ ro.toInt) (h : zV S nd G L p cb ck on ba tp st (Int32.toNatClampNeg ro)) (ho : Int32.toNatClampNeg (S 0 (Int32.toNatClampNeg ro)) = 3) (ht : tp2.toInt = tp.toInt + 1) (hs : st2.toInt = st.toInt + 1) (h2 : st2.toInt ≤ 20000) (ht2 : p2 (Int32.toNatClampNeg tp) = true) (hp : ∀ j : Nat, p j = true → j ≠ Int32.toNatClampNeg ba + Int32.toNatClampNeg (a (Int32.toNatClampNeg ro)) ∨ zbit (zbe nx nd ro) (Int32.toNatClampNeg (a (Int32.toNatClampNeg ro))) = true → p2 j = true) (hm : mat = nx (Int32.toNatClampNeg ro)) : 0 ≤ mat.toInt ∧ zV S nd G L p2 cb ck on ba tp2 st2 (Int32.toNatClampNeg mat) := by
  subst e1
  subst e3
  subst hm
  exact zGo (zV_nm hw h ho ht hs h2 ht2 (fun j hj g => hp j hj (by rw [← zbh_bf hr]; exact g)))
theorem zT_5h {S : Nat → Nat → Int32} {nd en a kf : Nat → Int32} {fz kz : Int32} {G : Nat → Nat → Int} {L : List Nat} {p : Nat → Bool} {cb ck : Nat → Int32} {on ba tp st : Int32} {r : Nat} (hw : zWk S nd en fz G L) (e1 : S 1 = a) (e9 : S 9 = kf) (e14 : S 14 0 = kz) (hx : zx 4 kf) (h : zV S nd G L p cb ck on ba tp st r) (ho : Int32.toNatClampNeg (S 0 r) = 5) : ∃ wz : Int, zfk kz kf (a r) = wz ∧ 1 ≤ wz ∧ wz ≤ 3 ∧ wz ≤ tp.toInt ∧ wz ≤ G r 0 ∧ G r 1 = G r 0 - wz + 1 ∧ ∀ k : Nat, (k : Int) < wz → p (Int32.toNatClampNeg tp - wz.toNat + k) = true := by
  subst e1
  subst e9
  subst e14
  obtain ⟨w1, w2, w3, w4, w5, w6, w7⟩ := hw.1 r h.1
  have h6 := h.2.2.2.2.2.1
  have h5 := h.2.2.2.2.1
  have hba := zn_nat h5
  have htn := zn_nat (x := tp) (by omega)
  obtain ⟨f, po, z, -⟩ := zV_row hw h.1 ho
  simp only [zop] at z
  obtain ⟨z1, z2, z3, z4, z5, z6⟩ := z
  have hk3 := (hx (Int32.toNatClampNeg (S 1 r))).2
  refine ⟨(S 9 (Int32.toNatClampNeg (S 1 r))).toInt, by unfold zfk; rw [if_pos ⟨z1, z2, by omega⟩], z3, by omega, by omega, z4, z5, fun k hk => ?_⟩
  have := h.2.2.2.2.2.2.2.2.2.1 ((G r 0).toNat - (S 9 (Int32.toNatClampNeg (S 1 r))).toInt.toNat + k) (by omega)
  rw [show Int32.toNatClampNeg ba + (zNm S G r).toNat + ((G r 0).toNat - (S 9 (Int32.toNatClampNeg (S 1 r))).toInt.toNat + k) = Int32.toNatClampNeg tp - (S 9 (Int32.toNatClampNeg (S 1 r))).toInt.toNat + k by omega] at this
  exact this
theorem zT_5 {S : Nat → Nat → Int32} {nd en nx : Nat → Int32} {fz : Int32} {G : Nat → Nat → Int} {L : List Nat} {p p2 : Nat → Bool} {cb ck : Nat → Int32} {on ba tp st tp2 mat : Int32} {r : Nat} {wz : Int} (hw : zWk S nd en fz G L) (e3 : S 3 = nx) (h : zV S nd G L p cb ck on ba tp st r) (ho : Int32.toNatClampNeg (S 0 r) = 5) (hw1 : 1 ≤ wz) (hw0 : wz ≤ G r 0) (hg1 : G r 1 = G r 0 - wz + 1) (ht : tp2.toInt = tp.toInt - wz + 1) (h1 : p2 (Int32.toNatClampNeg tp - wz.toNat) = true) (hp : ∀ j : Nat, p j = true → (j : Int) < tp.toInt - wz → p2 j = true) (hm : mat = nx r) : 0 ≤ mat.toInt ∧ zV S nd G L p2 cb ck on ba tp2 st (Int32.toNatClampNeg mat) := by
  subst e3
  subst hm
  obtain ⟨w1, w2, w3, w4, w5, w6, w7⟩ := hw.1 r h.1
  have h6 := h.2.2.2.2.2.1
  have h5 := h.2.2.2.2.1
  have hst := h.2.2.2.2.2.2.2.1
  have hba := zn_nat h5
  have htn := zn_nat (x := tp) (by omega)
  refine zGo (zV_pl hw h ho (Or.inr (Or.inr (Or.inr (Or.inl rfl)))) (by omega) (by omega) (Int.le_refl _) hst.2 (fun j hj g => hp j g (by omega)) (fun k hk => ?_))
  by_cases g : (k : Int) = G r 0 - wz
  · rw [show Int32.toNatClampNeg ba + (zNm S G r).toNat + k = Int32.toNatClampNeg tp - wz.toNat by omega]; exact h1
  · exact hp _ (h.2.2.2.2.2.2.2.2.2.1 k (by omega)) (by omega)
theorem zT_8 {S : Nat → Nat → Int32} {nd en nx : Nat → Int32} {fz : Int32} {G : Nat → Nat → Int} {L : List Nat} {p : Nat → Bool} {cb ck : Nat → Int32} {on ba tp st tp2 mat : Int32} {r n : Nat} (hw : zWk S nd en fz G L) (e3 : S 3 = nx) (h : zV S nd G L p cb ck on ba tp st r) (ho : Int32.toNatClampNeg (S 0 r) = n) (hn : n = 8 ∨ n = 9 ∨ n = 10 ∨ n = 11) (ht : tp2.toInt = tp.toInt - 1) (hm : mat = nx r) : 0 ≤ mat.toInt ∧ zV S nd G L (zpA p (Int32.toNatClampNeg tp - 2)) cb ck on ba tp2 st (Int32.toNatClampNeg mat) := by
  subst e3
  subst hm
  obtain ⟨w1, w2, w3, w4, w5, w6, w7⟩ := hw.1 r h.1
  have h6 := h.2.2.2.2.2.1
  have h5 := h.2.2.2.2.1
  have hst := h.2.2.2.2.2.2.2.1
  have hba := zn_nat h5
  have htn := zn_nat (x := tp) (by omega)
  have hz : 2 ≤ G r 0 ∧ G r 1 = G r 0 - 1 := by
    obtain ⟨f, po, z, -⟩ := zV_row hw h.1 ho
    rcases hn with g | g | g | g <;> (rw [g] at z; simp only [zop] at z; exact ⟨z.1, z.2.1⟩)
  refine zGo (zV_pl hw h ho (by rcases hn with g | g | g | g <;> simp [g]) (by omega) (by omega) (Int.le_refl _) hst.2 (fun _ _ g => zpA_i g) (fun k hk => zpA_i (h.2.2.2.2.2.2.2.2.2.1 k (by omega))))
theorem zT_8h {S : Nat → Nat → Int32} {nd en : Nat → Int32} {fz : Int32} {G : Nat → Nat → Int} {L : List Nat} {p : Nat → Bool} {cb ck : Nat → Int32} {on ba tp st : Int32} {r n : Nat} (hw : zWk S nd en fz G L) (h : zV S nd G L p cb ck on ba tp st r) (ho : Int32.toNatClampNeg (S 0 r) = n) (hn : n = 8 ∨ n = 9 ∨ n = 10 ∨ n = 11) : 2 ≤ tp.toInt := by
  obtain ⟨w1, w2, w3, w4, w5, w6, w7⟩ := hw.1 r h.1
  have h6 := h.2.2.2.2.2.1
  have h5 := h.2.2.2.2.1
  obtain ⟨f, po, z, -⟩ := zV_row hw h.1 ho
  rcases hn with g | g | g | g <;> (rw [g] at z; simp only [zop] at z; omega)
theorem zT_12h {S : Nat → Nat → Int32} {nd en a : Nat → Int32} {fz : Int32} {G : Nat → Nat → Int} {L : List Nat} {p : Nat → Bool} {cb ck : Nat → Int32} {on ba tp st : Int32} {r : Nat} (hw : zWk S nd en fz G L) (e1 : S 1 = a) (h : zV S nd G L p cb ck on ba tp st r) (ho : Int32.toNatClampNeg (S 0 r) = 12) : (0 ≤ (a r).toInt ∧ (a r).toInt < 24) ∧ 1 ≤ tp.toInt ∧ p (Int32.toNatClampNeg tp - 1) = true := by
  subst e1
  obtain ⟨w1, ⟨f', po', z', -⟩, w3, w4, w5, w6, w7⟩ := hw.1 r h.1
  have h6 := h.2.2.2.2.2.1
  have h5 := h.2.2.2.2.1
  have hba := zn_nat h5
  have htn := zn_nat (x := tp) (by omega)
  have z4 := z'.2.2.2.1
  obtain ⟨f, po, z, -, -, -, zn, -⟩ := zV_row hw h.1 ho
  simp only [zop] at z
  refine ⟨⟨by omega, by omega⟩, by omega, ?_⟩
  have := h.2.2.2.2.2.2.2.2.2.1 ((G r 0).toNat - 1) (by omega)
  rw [show Int32.toNatClampNeg ba + (zNm S G r).toNat + ((G r 0).toNat - 1) = Int32.toNatClampNeg tp - 1 by omega] at this
  exact this
theorem zT_12 {S : Nat → Nat → Int32} {nd en a nx : Nat → Int32} {fz : Int32} {G : Nat → Nat → Int} {L : List Nat} {p p2 : Nat → Bool} {cb ck : Nat → Int32} {on ba tp st tp2 mat ro : Int32} (hw : zWk S nd en fz G L) (e1 : S 1 = a) (e3 : S 3 = nx) (hr : 0 ≤ ro.toInt) (h : zV S nd G L p cb ck on ba tp st (Int32.toNatClampNeg ro)) (ho : Int32.toNatClampNeg (S 0 (Int32.toNatClampNeg ro)) = 12) (ht : tp2.toInt = tp.toInt - 1) (hs : zbit (zbe nx nd ro) (Int32.toNatClampNeg (a (Int32.toNatClampNeg ro))) = true → p2 (Int32.toNatClampNeg ba + Int32.toNatClampNeg (a (Int32.toNatClampNeg ro))) = true) (hp : ∀ j : Nat, p j = true → j ≠ Int32.toNatClampNeg ba + Int32.toNatClampNeg (a (Int32.toNatClampNeg ro)) → (j : Int) ≠ tp2.toInt → p2 j = true) (hm : mat = nx (Int32.toNatClampNeg ro)) : 0 ≤ mat.toInt ∧ zV S nd G L p2 cb ck on ba tp2 st (Int32.toNatClampNeg mat) := by
  subst e1
  subst e3
  subst hm
  exact zGo (zV_let hw h ho ht (fun g => hs (by rw [← zbh_bf hr]; exact g)) hp)

end
