section
/-- the first call -/
theorem zV0_mk {S : Nat → Nat → Int32} {nd en ff : Nat → Int32} {fz : Int32} {G : Nat → Nat → Int} {L : List Nat} {p : Nat → Bool} {cb cb2 ck2 : Nat → Int32} {on on2 ba2 tp tp2 st fu : Int32} (hw : zWk S nd en fz G L) (e10 : S 10 = ff) (h0 : 0 ≤ fu.toInt) (hf : fu.toInt < fz.toInt) (hon : on.toInt = 0) (h1 : on2.toInt = on.toInt + 1) (h2 : ba2.toInt = tp.toInt - (ff (5 * Int32.toNatClampNeg fu)).toInt) (h3 : tp2.toInt = ba2.toInt + (ff (5 * Int32.toNatClampNeg fu + 1)).toInt) (h4 : cb2 = upd cb (Int32.toNatClampNeg on) ba2) (htt : tp.toInt = (ff (5 * Int32.toNatClampNeg fu)).toInt) (hst : st.toInt = 0) (hpt : ∀ k : Nat, (k : Int) < tp.toInt → p k = true) : 0 ≤ (en (Int32.toNatClampNeg fu)).toInt ∧ zV0 S nd G L p cb2 ck2 on2 ba2 tp2 st (Int32.toNatClampNeg (en (Int32.toNatClampNeg fu))) := by
  subst e10
  have hn := zn_nat h0
  have ho := zn_nat (x := on) (by omega)
  have ho2 := zn_nat (x := on2) (by omega)
  have hb2 := zn_nat (x := ba2) (by omega)
  obtain ⟨q1, q2, q3, q4⟩ := hw.2.2.2.2.1 (Int32.toNatClampNeg fu) (by omega)
  obtain ⟨t1, t2, t3, t4⟩ := hw.2.2.2.2.2.1 (Int32.toNatClampNeg fu) (by omega)
  have eN : zNm S G (Int32.toNatClampNeg (en (Int32.toNatClampNeg fu))) = (S 10 (5 * Int32.toNatClampNeg fu + 1)).toInt := by unfold zNm; rw [q4]; rfl
  have eT : (S 10 (5 * (G (Int32.toNatClampNeg (en (Int32.toNatClampNeg fu))) 4).toNat)).toInt = (S 10 (5 * Int32.toNatClampNeg fu)).toInt := by rw [q4]; rfl
  refine ⟨q1, q2, q3, by omega, by omega, ?_, by omega, by rw [eN]; exact h3, by omega, by omega, fun k hk => ?_, fun i hi => by omega⟩
  · rw [h4, show Int32.toNatClampNeg on2 - 1 = Int32.toNatClampNeg on by omega, zu_s]
  · rw [show Int32.toNatClampNeg ba2 + k = k by omega]
    exact hpt k (by omega)

end
section
theorem wi_1121 : Cond.constant RX5 91 (100000) ∈ zw := zw_in (List.mem_of_getElem? (i := 1121) (by decide +kernel)) (by decide +kernel)
theorem wi_1125 : Cond.code yX5_turn cX5_turn 2 none ∈ zw := zw_in (List.mem_of_getElem? (i := 1125) (by decide +kernel)) (by decide +kernel)
theorem wi_1122 : Cond.methodLink RX5 92 yX5_turn ∈ zw := zw_in (List.mem_of_getElem? (i := 1122) (by decide +kernel)) (by decide +kernel)
theorem wi_1124 : Cond.instanceMethod yX5_turn ∈ zw := zw_in (List.mem_of_getElem? (i := 1124) (by decide +kernel)) (by decide +kernel)
theorem wi_42 : Cond.selects RX5 yX5_turn yX5_turn ∈ zw := zw_in (List.mem_of_getElem? (i := 42) (by decide +kernel)) (by decide +kernel)
theorem dX5_work_0 : decode cX5_work 0 = .ok (.aload_n 0, 1) := by decide +kernel
theorem dX5_work_1 : decode cX5_work 1 = .ok (.iload_n 1, 1) := by decide +kernel
theorem dX5_work_2 : decode cX5_work 2 = .ok (.iconst (-1), 1) := by decide +kernel
theorem dX5_work_3 : decode cX5_work 3 = .ok (.invokevirtual 87, 3) := by decide +kernel
theorem dX5_work_6 : decode cX5_work 6 = .ok (.iconst 0, 1) := by decide +kernel
theorem dX5_work_7 : decode cX5_work 7 = .ok (.istore_n 2, 1) := by decide +kernel
theorem dX5_work_8 : decode cX5_work 8 = .ok (.iload_n 2, 1) := by decide +kernel
theorem dX5_work_9 : decode cX5_work 9 = .ok (.ldc 91, 2) := by decide +kernel
theorem dX5_work_11 : decode cX5_work 11 = .ok (.if_icmp .ge 32, 3) := by decide +kernel
theorem dX5_work_14 : decode cX5_work 14 = .ok (.aload_n 0, 1) := by decide +kernel
theorem dX5_work_15 : decode cX5_work 15 = .ok (.getfield 57, 3) := by decide +kernel
theorem dX5_work_18 : decode cX5_work 18 = .ok (.ifCond .ne 25, 3) := by decide +kernel
theorem dX5_work_21 : decode cX5_work 21 = .ok (.aload_n 0, 1) := by decide +kernel
theorem dX5_work_22 : decode cX5_work 22 = .ok (.getfield 45, 3) := by decide +kernel
theorem dX5_work_25 : decode cX5_work 25 = .ok (.iconst (-1), 1) := by decide +kernel
theorem dX5_work_26 : decode cX5_work 26 = .ok (.if_icmp .eq 17, 3) := by decide +kernel
theorem dX5_work_29 : decode cX5_work 29 = .ok (.aload_n 0, 1) := by decide +kernel
theorem dX5_work_30 : decode cX5_work 30 = .ok (.aload_n 0, 1) := by decide +kernel
theorem dX5_work_31 : decode cX5_work 31 = .ok (.getfield 45, 3) := by decide +kernel
theorem dX5_work_34 : decode cX5_work 34 = .ok (.invokevirtual 92, 3) := by decide +kernel
theorem dX5_work_37 : decode cX5_work 37 = .ok (.iinc 2 1, 3) := by decide +kernel
theorem dX5_work_40 : decode cX5_work 40 = .ok (.goto (-32), 3) := by decide +kernel
theorem dX5_work_43 : decode cX5_work 43 = .ok (.return_, 1) := by decide +kernel

end
section
set_option maxHeartbeats 4000000 in
set_option maxRecDepth 100000 in
theorem c_X5_work_4000 (l : Launch) (dC : Nat → ClassId) (dI : Nat → Nat → Nat) (aK aV : Nat → Nat) (h0 : Nat) (mp : Nat) (gco : Nat) (mce : Nat) (sk : Nat) (kb : Nat) (kk : Nat) (ks : Nat) (sh : Nat) (mcn : Int32) (tp : Int32) (ba : Int32) (on : Int32) (sn : Int32) (mat : Int32) (alw : Int32) (st : Int32) (mo : Int32) (mh : Int32) (sp : Int32) (re : Int64) (sk1 : ClassId) (gs : Nat → Int64) (kb1 : ClassId) (kk1 : ClassId) (ks1 : ClassId) (gkb : Nat → Int32) (gkk : Nat → Int32) (gks : Nat → Int32) (sh1 : ClassId) (gsh : Nat → Int32) (cop : Nat) (ca : Nat) (cb : Nat) (cplace : Nat) (cnext : Nat) (cneeded : Nat) (ckop : ClassId) (cka : ClassId) (ckb : ClassId) (ckplace : ClassId) (cknext : ClassId) (ckneeded : ClassId) (cz : Int32) (ct : Int32) (cgop : Nat → Int32) (cga : Nat → Int32) (cgb : Nat → Int32) (cgplace : Nat → Int32) (cgnext : Nat → Int32) (cgneeded : Nat → Int32) (gar : Nat) (gfu : Nat) (fw : Nat) (fe : Nat) (ff : Nat) (f1 : ClassId) (f2 : ClassId) (f3 : ClassId) (fz : Int32) (fgw : Nat → Int64) (fge : Nat → Int32) (fgf : Nat → Int32) (akind : Nat) (anext : Nat) (abefore : Nat) (aleave : Nat) (afirstSlot : Nat) (abuilds : Nat) (az : Int32) (akkind : ClassId) (aknext : ClassId) (akbefore : ClassId) (akfirstSlot : ClassId) (akbuilds : ClassId) (agkind : Nat → Int32) (agnext : Nat → Int32) (agbefore : Nat → Int32) (agfirstSlot : Nat → Int32) (agbuilds : Nat → Int32) (ek : Nat) (ec : Nat) (ef : Nat) (gki : Nat) (e1 : ClassId) (e2 : ClassId) (e3 : ClassId) (e_limit : Int32) (e_fresh : Int32) (e_firstFree : Int32) (e_held : Int32) (e_mostHeld : Int32) (e_made : Int32) (e_reused : Int32) (e_freed : Int32) (e_doubled : Int32) (gk : Nat → Int32) (gc : Nat → Int32) (gv : Nat → Int64) (kw : Nat) (kf : Nat) (k1 : ClassId) (k2 : ClassId) (kz : Int32) (kgw : Nat → Int64) (kgf : Nat → Int32) (fu : Int32) (nS : Nat) (gS : Nat → Nat → Int32) (gG : Nat → Nat → Int) (gL : List Nat) (pp : Nat → Bool) (gT : Nat → Nat → Int32) (gH : Int32 → Int64 → Prop) (gaz : Int) (gZ : Nat) (gF : sp_F) (gal : Nat) (q1 : Int32) (q2 : Int32) (q3 : Int32) (q4 : Int32) (sz : Nat) (hmh : mh.toInt = 0) (hon : on.toInt = 0) (hst : st.toInt = 0) (hsnz : sn.toInt = 0) (hspm : sp.toInt = -1) (hT3 : gT 3 = cgplace) (hTe : cEq gT cgop cga cgb agkind agnext agbefore agfirstSlot) (hPx : cPx gT cgnext gH gaz gZ kgf fge fgf gF) (hkZ : Int32.toInt kz = (gZ : Int)) (hlm : e_limit.toInt = 4000) (haw : Int32.toInt alw = (gal : Int)) (hf0 : e_fresh.toInt = 0) (hFz : gF.1 = Int32.toNatClampNeg fz) (htl : ∀ k : Nat, (k : Int) < Int32.toInt (fgf (5 * Int32.toNatClampNeg fu)) → gs k = pv0 (if k = 0 then q1 else if k = 1 then q2 else if k = 2 then q3 else if k = 3 then q4 else 0)) (hcn : mcn.toInt = 0) (hff : e_firstFree.toInt = -1) (hhe : e_held.toInt = e_fresh.toInt) (hfr : 0 ≤ e_fresh.toInt) (hfr2 : e_fresh.toInt ≤ 4000) (hli : e_limit.toInt ≤ 4000) (hal : alw.toInt ≤ 20000) (hfz0 : 0 ≤ fz.toInt) (hfz1 : fz.toInt ≤ 30) (hkz0 : 0 ≤ kz.toInt) (hkz1 : kz.toInt ≤ 20) (hkf : zx 4 kgf) (hnS : nS = 22424) (hcn_ : zx 3000 cgnext) (hwk : zWk gS cgneeded fge fz gG gL) (hSq : gS 0 = cgop ∧ gS 1 = cga ∧ gS 2 = cgb ∧ gS 3 = cgnext ∧ gS 4 = agkind ∧ gS 5 = agnext ∧ gS 6 = agbefore ∧ gS 8 = agfirstSlot ∧ gS 9 = kgf ∧ gS 10 = fgf ∧ gS 14 0 = kz ∧ (gS 11 0).toInt ≤ 3000 ∧ (gS 13 0).toInt ≤ 400) (hu0 : 0 ≤ fu.toInt) (hu1 : fu.toInt < fz.toInt) (htt : tp.toInt = (fgf (5 * Int32.toNatClampNeg fu)).toInt) (hmd : zMP nS kz kgf gk gv e_fresh gs pp gsh sn) (hpt : ∀ k : Nat, (k : Int) < tp.toInt → pp k = true) : Met l yX5_work (Cond.code yX5_work cX5_work 3 none :: zw) ({ frames := 24, cells := 0, slots := 0, locals := 1000 }) (va_Pc [.ref h0, .int fu] (zP dC dI aK aV sz [(sk1, .long), (kb1, .int), (kk1, .int), (ks1, .int), (sh1, .int), (ckop, .int), (cka, .int), (ckb, .int), (ckplace, .int), (cknext, .int), (ckneeded, .int), (f1, .long), (f2, .int), (f3, .int), (akkind, .int), (aknext, .int), (akbefore, .int), (akfirstSlot, .int), (akbuilds, .int), (e1, .int), (e2, .int), (e3, .long), (k1, .long), (k2, .int)] [(h0, .inr (5, [.ref mp, .ref gco, .ref mce, .int mcn, .ref sk, .int tp, .int ba, .ref kb, .ref kk, .ref ks, .int on, .ref sh, .int sn, .int mat, .int alw, .int st, .int mo, .int mh, .int sp, .long re])), (sk, .inl (sk1, 22424, .inr (.inl gs))), (kb, .inl (kb1, 100, .inl gkb)), (kk, .inl (kk1, 100, .inl gkk)), (ks, .inl (ks1, 100, .inl gks)), (sh, .inl (sh1, 3000, .inl gsh)), (gco, .inr (2, [.ref cop, .ref ca, .ref cb, .ref cplace, .ref cnext, .ref cneeded, .int cz, .int ct])), (cop, .inl (ckop, 3000, .inl cgop)), (ca, .inl (cka, 3000, .inl cga)), (cb, .inl (ckb, 3000, .inl cgb)), (cplace, .inl (ckplace, 3000, .inl cgplace)), (cnext, .inl (cknext, 3000, .inl cgnext)), (cneeded, .inl (ckneeded, 3000, .inl cgneeded)), (mp, .inr (9, [.ref gco, .ref gar, .ref gki, .ref gfu])), (gfu, .inr (3, [.ref fw, .ref fe, .ref ff, .int fz])), (fw, .inl (f1, 30, .inr (.inl fgw))), (fe, .inl (f2, 30, .inl fge)), (ff, .inl (f3, 150, .inl fgf)), (gar, .inr (0, [.ref akind, .ref anext, .ref abefore, .ref aleave, .ref afirstSlot, .ref abuilds, .int az])), (akind, .inl (akkind, 400, .inl agkind)), (anext, .inl (aknext, 400, .inl agnext)), (abefore, .inl (akbefore, 400, .inl agbefore)), (afirstSlot, .inl (akfirstSlot, 400, .inl agfirstSlot)), (abuilds, .inl (akbuilds, 400, .inl agbuilds)), (mce, .inr (1, [.ref ek, .ref ec, .ref ef, .ref gki, .int e_limit, .int e_fresh, .int e_firstFree, .int e_held, .int e_mostHeld, .int e_made, .int e_reused, .int e_freed, .int e_doubled])), (ek, .inl (e1, 4000, .inl gk)), (ec, .inl (e2, 4000, .inl gc)), (ef, .inl (e3, 12000, .inr (.inl gv))), (gki, .inr (4, [.ref kw, .ref kf, .int kz])), (kw, .inl (k1, 20, .inr (.inl kgw))), (kf, .inl (k2, 20, .inl kgf))])) (va_Qv (fun u : Int32 × Int32 × Int32 × Int32 × Int32 × Int32 × Int32 × Int32 × Int32 × Int64 × (Nat → Int64) × (Nat → Int32) × (Nat → Int32) × (Nat → Int32) × (Nat → Int32) × (Nat → Int32) × (Nat → Int32) × (Nat → Int64) × Int32 × Int32 × Int32 × Int32 × Int32 × Int32 × Int32 × Int32 => match u with | (st2, mh2, sp2, tp2, ba2, on2, mat2, mo2, sn2, re2, gs2, gkb2, gkk2, gks2, gsh2, gk2, gc2, gv2, fr2, ff2, he2, mx2, md2, ru2, fd2, dbl2) => ((mh2.toInt = 1 → zRep kz kgf gk2 gv2 fr2 re2)) ∧ (mh2.toInt ≠ 0 ∧ cEv gF gal (pm_s0 gF (Int32.toNatClampNeg fu) q1 q2 q3 q4) mh2 sp2)) (fun u => match u with | (st2, mh2, sp2, tp2, ba2, on2, mat2, mo2, sn2, re2, gs2, gkb2, gkk2, gks2, gsh2, gk2, gc2, gv2, fr2, ff2, he2, mx2, md2, ru2, fd2, dbl2) => zQ dC dI (va_A [(h0, .inr (5, [.ref mp, .ref gco, .ref mce, .int mcn, .ref sk, .int tp, .int ba, .ref kb, .ref kk, .ref ks, .int on, .ref sh, .int sn, .int mat, .int alw, .int st, .int mo, .int mh, .int sp, .long re])), (sk, .inl (sk1, 22424, .inr (.inl gs))), (kb, .inl (kb1, 100, .inl gkb)), (kk, .inl (kk1, 100, .inl gkk)), (ks, .inl (ks1, 100, .inl gks)), (sh, .inl (sh1, 3000, .inl gsh)), (gco, .inr (2, [.ref cop, .ref ca, .ref cb, .ref cplace, .ref cnext, .ref cneeded, .int cz, .int ct])), (cop, .inl (ckop, 3000, .inl cgop)), (ca, .inl (cka, 3000, .inl cga)), (cb, .inl (ckb, 3000, .inl cgb)), (cplace, .inl (ckplace, 3000, .inl cgplace)), (cnext, .inl (cknext, 3000, .inl cgnext)), (cneeded, .inl (ckneeded, 3000, .inl cgneeded)), (mp, .inr (9, [.ref gco, .ref gar, .ref gki, .ref gfu])), (gfu, .inr (3, [.ref fw, .ref fe, .ref ff, .int fz])), (fw, .inl (f1, 30, .inr (.inl fgw))), (fe, .inl (f2, 30, .inl fge)), (ff, .inl (f3, 150, .inl fgf)), (gar, .inr (0, [.ref akind, .ref anext, .ref abefore, .ref aleave, .ref afirstSlot, .ref abuilds, .int az])), (akind, .inl (akkind, 400, .inl agkind)), (anext, .inl (aknext, 400, .inl agnext)), (abefore, .inl (akbefore, 400, .inl agbefore)), (afirstSlot, .inl (akfirstSlot, 400, .inl agfirstSlot)), (abuilds, .inl (akbuilds, 400, .inl agbuilds)), (mce, .inr (1, [.ref ek, .ref ec, .ref ef, .ref gki, .int e_limit, .int e_fresh, .int e_firstFree, .int e_held, .int e_mostHeld, .int e_made, .int e_reused, .int e_freed, .int e_doubled])), (ek, .inl (e1, 4000, .inl gk)), (ec, .inl (e2, 4000, .inl gc)), (ef, .inl (e3, 12000, .inr (.inl gv))), (gki, .inr (4, [.ref kw, .ref kf, .int kz])), (kw, .inl (k1, 20, .inr (.inl kgw))), (kf, .inl (k2, 20, .inl kgf))] sz) [(sk1, .long), (kb1, .int), (kk1, .int), (ks1, .int), (sh1, .int), (ckop, .int), (cka, .int), (ckb, .int), (ckplace, .int), (cknext, .int), (ckneeded, .int), (f1, .long), (f2, .int), (f3, .int), (akkind, .int), (aknext, .int), (akbefore, .int), (akfirstSlot, .int), (akbuilds, .int), (e1, .int), (e2, .int), (e3, .long), (k1, .long), (k2, .int)] [(h0, .inr (5, [.ref mp, .ref gco, .ref mce, .int mcn, .ref sk, .int tp2, .int ba2, .ref kb, .ref kk, .ref ks, .int on2, .ref sh, .int sn2, .int mat2, .int alw, .int st2, .int mo2, .int mh2, .int sp2, .long re2])), (sk, .inl (sk1, 22424, .inr (.inl gs2))), (kb, .inl (kb1, 100, .inl gkb2)), (kk, .inl (kk1, 100, .inl gkk2)), (ks, .inl (ks1, 100, .inl gks2)), (sh, .inl (sh1, 3000, .inl gsh2)), (gco, .inr (2, [.ref cop, .ref ca, .ref cb, .ref cplace, .ref cnext, .ref cneeded, .int cz, .int ct])), (cop, .inl (ckop, 3000, .inl cgop)), (ca, .inl (cka, 3000, .inl cga)), (cb, .inl (ckb, 3000, .inl cgb)), (cplace, .inl (ckplace, 3000, .inl cgplace)), (cnext, .inl (cknext, 3000, .inl cgnext)), (cneeded, .inl (ckneeded, 3000, .inl cgneeded)), (mp, .inr (9, [.ref gco, .ref gar, .ref gki, .ref gfu])), (gfu, .inr (3, [.ref fw, .ref fe, .ref ff, .int fz])), (fw, .inl (f1, 30, .inr (.inl fgw))), (fe, .inl (f2, 30, .inl fge)), (ff, .inl (f3, 150, .inl fgf)), (gar, .inr (0, [.ref akind, .ref anext, .ref abefore, .ref aleave, .ref afirstSlot, .ref abuilds, .int az])), (akind, .inl (akkind, 400, .inl agkind)), (anext, .inl (aknext, 400, .inl agnext)), (abefore, .inl (akbefore, 400, .inl agbefore)), (afirstSlot, .inl (akfirstSlot, 400, .inl agfirstSlot)), (abuilds, .inl (akbuilds, 400, .inl agbuilds)), (mce, .inr (1, [.ref ek, .ref ec, .ref ef, .ref gki, .int e_limit, .int fr2, .int ff2, .int he2, .int mx2, .int md2, .int ru2, .int fd2, .int dbl2])), (ek, .inl (e1, 4000, .inl gk2)), (ec, .inl (e2, 4000, .inl gc2)), (ef, .inl (e3, 12000, .inr (.inl gv2))), (gki, .inr (4, [.ref kw, .ref kf, .int kz])), (kw, .inl (k1, 20, .inr (.inl kgw))), (kf, .inl (k2, 20, .inl kgf))]) (va_A [(h0, .inr (5, [.ref mp, .ref gco, .ref mce, .int mcn, .ref sk, .int tp, .int ba, .ref kb, .ref kk, .ref ks, .int on, .ref sh, .int sn, .int mat, .int alw, .int st, .int mo, .int mh, .int sp, .long re])), (sk, .inl (sk1, 22424, .inr (.inl gs))), (kb, .inl (kb1, 100, .inl gkb)), (kk, .inl (kk1, 100, .inl gkk)), (ks, .inl (ks1, 100, .inl gks)), (sh, .inl (sh1, 3000, .inl gsh)), (gco, .inr (2, [.ref cop, .ref ca, .ref cb, .ref cplace, .ref cnext, .ref cneeded, .int cz, .int ct])), (cop, .inl (ckop, 3000, .inl cgop)), (ca, .inl (cka, 3000, .inl cga)), (cb, .inl (ckb, 3000, .inl cgb)), (cplace, .inl (ckplace, 3000, .inl cgplace)), (cnext, .inl (cknext, 3000, .inl cgnext)), (cneeded, .inl (ckneeded, 3000, .inl cgneeded)), (mp, .inr (9, [.ref gco, .ref gar, .ref gki, .ref gfu])), (gfu, .inr (3, [.ref fw, .ref fe, .ref ff, .int fz])), (fw, .inl (f1, 30, .inr (.inl fgw))), (fe, .inl (f2, 30, .inl fge)), (ff, .inl (f3, 150, .inl fgf)), (gar, .inr (0, [.ref akind, .ref anext, .ref abefore, .ref aleave, .ref afirstSlot, .ref abuilds, .int az])), (akind, .inl (akkind, 400, .inl agkind)), (anext, .inl (aknext, 400, .inl agnext)), (abefore, .inl (akbefore, 400, .inl agbefore)), (afirstSlot, .inl (akfirstSlot, 400, .inl agfirstSlot)), (abuilds, .inl (akbuilds, 400, .inl agbuilds)), (mce, .inr (1, [.ref ek, .ref ec, .ref ef, .ref gki, .int e_limit, .int e_fresh, .int e_firstFree, .int e_held, .int e_mostHeld, .int e_made, .int e_reused, .int e_freed, .int e_doubled])), (ek, .inl (e1, 4000, .inl gk)), (ec, .inl (e2, 4000, .inl gc)), (ef, .inl (e3, 12000, .inr (.inl gv))), (gki, .inr (4, [.ref kw, .ref kf, .int kz])), (kw, .inl (k1, 20, .inr (.inl kgw))), (kf, .inl (k2, 20, .inl kgf))] sz)) 0 0 (va_A [(h0, .inr (5, [.ref mp, .ref gco, .ref mce, .int mcn, .ref sk, .int tp, .int ba, .ref kb, .ref kk, .ref ks, .int on, .ref sh, .int sn, .int mat, .int alw, .int st, .int mo, .int mh, .int sp, .long re])), (sk, .inl (sk1, 22424, .inr (.inl gs))), (kb, .inl (kb1, 100, .inl gkb)), (kk, .inl (kk1, 100, .inl gkk)), (ks, .inl (ks1, 100, .inl gks)), (sh, .inl (sh1, 3000, .inl gsh)), (gco, .inr (2, [.ref cop, .ref ca, .ref cb, .ref cplace, .ref cnext, .ref cneeded, .int cz, .int ct])), (cop, .inl (ckop, 3000, .inl cgop)), (ca, .inl (cka, 3000, .inl cga)), (cb, .inl (ckb, 3000, .inl cgb)), (cplace, .inl (ckplace, 3000, .inl cgplace)), (cnext, .inl (cknext, 3000, .inl cgnext)), (cneeded, .inl (ckneeded, 3000, .inl cgneeded)), (mp, .inr (9, [.ref gco, .ref gar, .ref gki, .ref gfu])), (gfu, .inr (3, [.ref fw, .ref fe, .ref ff, .int fz])), (fw, .inl (f1, 30, .inr (.inl fgw))), (fe, .inl (f2, 30, .inl fge)), (ff, .inl (f3, 150, .inl fgf)), (gar, .inr (0, [.ref akind, .ref anext, .ref abefore, .ref aleave, .ref afirstSlot, .ref abuilds, .int az])), (akind, .inl (akkind, 400, .inl agkind)), (anext, .inl (aknext, 400, .inl agnext)), (abefore, .inl (akbefore, 400, .inl agbefore)), (afirstSlot, .inl (akfirstSlot, 400, .inl agfirstSlot)), (abuilds, .inl (akbuilds, 400, .inl agbuilds)), (mce, .inr (1, [.ref ek, .ref ec, .ref ef, .ref gki, .int e_limit, .int e_fresh, .int e_firstFree, .int e_held, .int e_mostHeld, .int e_made, .int e_reused, .int e_freed, .int e_doubled])), (ek, .inl (e1, 4000, .inl gk)), (ec, .inl (e2, 4000, .inl gc)), (ef, .inl (e3, 12000, .inr (.inl gv))), (gki, .inr (4, [.ref kw, .ref kf, .int kz])), (kw, .inl (k1, 20, .inr (.inl kgw))), (kf, .inl (k2, 20, .inl kgf))] sz) := by
  refine Met.ofW (cc := cX5_work) (maxL := 3) (ret := none) (by decide) rfl ?_
  intro p e s m args below meth c s₁ B hml hv
  obtain ⟨rfl, hsz, hP, hK, hD0, hN, hT⟩ := hv
  have hx := B.exec
  have hb := B.bytes
  have hr := B.returns
  have hts := atoms_spec (ws := Cond.code yX5_work cX5_work 3 none :: zw) B.pre
  have hA : ∀ w ∈ zw, w.before _ s = true := fun w h => hts w (List.mem_cons_of_mem _ h)
  have hown : s.vm.findClass RX5 = some m.cls := findClass_of_methodNamed B.named
  have hlocks := B.notSynchronized
  subst hsz
  have hD := hD0.self (sz := s.heap.size)
  generalize hAe : va_A [(h0, .inr (5, [.ref mp, .ref gco, .ref mce, .int mcn, .ref sk, .int tp, .int ba, .ref kb, .ref kk, .ref ks, .int on, .ref sh, .int sn, .int mat, .int alw, .int st, .int mo, .int mh, .int sp, .long re])), (sk, .inl (sk1, 22424, .inr (.inl gs))), (kb, .inl (kb1, 100, .inl gkb)), (kk, .inl (kk1, 100, .inl gkk)), (ks, .inl (ks1, 100, .inl gks)), (sh, .inl (sh1, 3000, .inl gsh)), (gco, .inr (2, [.ref cop, .ref ca, .ref cb, .ref cplace, .ref cnext, .ref cneeded, .int cz, .int ct])), (cop, .inl (ckop, 3000, .inl cgop)), (ca, .inl (cka, 3000, .inl cga)), (cb, .inl (ckb, 3000, .inl cgb)), (cplace, .inl (ckplace, 3000, .inl cgplace)), (cnext, .inl (cknext, 3000, .inl cgnext)), (cneeded, .inl (ckneeded, 3000, .inl cgneeded)), (mp, .inr (9, [.ref gco, .ref gar, .ref gki, .ref gfu])), (gfu, .inr (3, [.ref fw, .ref fe, .ref ff, .int fz])), (fw, .inl (f1, 30, .inr (.inl fgw))), (fe, .inl (f2, 30, .inl fge)), (ff, .inl (f3, 150, .inl fgf)), (gar, .inr (0, [.ref akind, .ref anext, .ref abefore, .ref aleave, .ref afirstSlot, .ref abuilds, .int az])), (akind, .inl (akkind, 400, .inl agkind)), (anext, .inl (aknext, 400, .inl agnext)), (abefore, .inl (akbefore, 400, .inl agbefore)), (afirstSlot, .inl (akfirstSlot, 400, .inl agfirstSlot)), (abuilds, .inl (akbuilds, 400, .inl agbuilds)), (mce, .inr (1, [.ref ek, .ref ec, .ref ef, .ref gki, .int e_limit, .int e_fresh, .int e_firstFree, .int e_held, .int e_mostHeld, .int e_made, .int e_reused, .int e_freed, .int e_doubled])), (ek, .inl (e1, 4000, .inl gk)), (ec, .inl (e2, 4000, .inl gc)), (ef, .inl (e3, 12000, .inr (.inl gv))), (gki, .inr (4, [.ref kw, .ref kf, .int kz])), (kw, .inl (k1, 20, .inr (.inl kgw))), (kf, .inl (k2, 20, .inl kgf))] s.heap.size = A at hD hT ⊢
  have hAA : ∀ q : Nat, s.heap.size ≤ q → A q := fun q h => by rw [← hAe]; exact Or.inr h
  have hS : va_S A s.heap s.heap [] := va_S.rf
  have hl := lv_entry ([.ref h0, .int fu]) (n := 3) (Nat.le_of_ble_eq_true rfl)
  rw [lg_entry_eq]
  generalize (lg_sl ([.ref h0, .int fu]) ++ List.replicate (3 - (lg_sl ([.ref h0, .int fu])).length) Slot.unset).toArray = ls at hl ⊢
  have hl : lv_has ls 3 [(0, .ref h0), (1, .int fu)] := hl
  refine lv_aload_n hx hb dX5_work_0 rfl (lv_at hl 0 rfl) ?_
  refine lv_iload_n hx hb dX5_work_1 rfl (lv_at hl 1 rfl) ?_
  refine lv_iconst (v := (-1)) hx hb dX5_work_2 (by decide) ?_
  have hnu9 := zn_nat (x := fu) (by omega)
  have hSq2 := hSq
  obtain ⟨hS0, hS1, hS2, hS3, hS4, hS5, hS6, hS8, hS9, hSa, hSe, hSb, hSd⟩ := hSq2
  have hft9 := hwk.2.2.2.2.2.1 (Int32.toNatClampNeg fu) (by omega)
  rw [hSa] at hft9
  have hfe9 := hwk.2.2.2.2.1 (Int32.toNatClampNeg fu) (by omega)
  have hPc := hP.sub (ws' := [(h0, .inr (5, [.ref mp, .ref gco, .ref mce, .int mcn, .ref sk, .int tp, .int ba, .ref kb, .ref kk, .ref ks, .int on, .ref sh, .int sn, .int mat, .int alw, .int st, .int mo, .int mh, .int sp, .long re])), (mp, .inr (9, [.ref gco, .ref gar, .ref gki, .ref gfu])), (kb, .inl (kb1, 100, .inl gkb)), (kk, .inl (kk1, 100, .inl gkk)), (ks, .inl (ks1, 100, .inl gks)), (gfu, .inr (3, [.ref fw, .ref fe, .ref ff, .int fz])), (fw, .inl (f1, 30, .inr (.inl fgw))), (fe, .inl (f2, 30, .inl fge)), (ff, .inl (f3, 150, .inl fgf))]) [0, 13, 2, 3, 4, 14, 15, 16, 17] rfl
  have hDc := hD.sub (ws' := [(h0, .inr (5, [.ref mp, .ref gco, .ref mce, .int mcn, .ref sk, .int tp, .int ba, .ref kb, .ref kk, .ref ks, .int on, .ref sh, .int sn, .int mat, .int alw, .int st, .int mo, .int mh, .int sp, .long re])), (mp, .inr (9, [.ref gco, .ref gar, .ref gki, .ref gfu])), (kb, .inl (kb1, 100, .inl gkb)), (kk, .inl (kk1, 100, .inl gkk)), (ks, .inl (ks1, 100, .inl gks)), (gfu, .inr (3, [.ref fw, .ref fe, .ref ff, .int fz])), (fw, .inl (f1, 30, .inr (.inl fgw))), (fe, .inl (f2, 30, .inl fge)), (ff, .inl (f3, 150, .inl fgf))]) [0, 13, 2, 3, 4, 14, 15, 16, 17] (by decide) rfl
  have hKc := hK.sub (tys' := [(kb1, .int), (kk1, .int), (ks1, .int), (f1, .long), (f2, .int), (f3, .int)]) [1, 2, 3, 11, 12, 13] rfl
  have hFc := va_free (wc := [(h0, .inr (5, [.ref mp, .ref gco, .ref mce, .int mcn, .ref sk, .int tp, .int ba, .ref kb, .ref kk, .ref ks, .int on, .ref sh, .int sn, .int mat, .int alw, .int st, .int mo, .int mh, .int sp, .long re])), (mp, .inr (9, [.ref gco, .ref gar, .ref gki, .ref gfu])), (kb, .inl (kb1, 100, .inl gkb)), (kk, .inl (kk1, 100, .inl gkk)), (ks, .inl (ks1, 100, .inl gks)), (gfu, .inr (3, [.ref fw, .ref fe, .ref ff, .int fz])), (fw, .inl (f1, 30, .inr (.inl fgw))), (fe, .inl (f2, 30, .inl fge)), (ff, .inl (f3, 150, .inl fgf))]) hD hS hAA [0, 13, 2, 3, 4, 14, 15, 16, 17] rfl
  refine va_callv (va_runV (As := [.int fu, .int (-1)]) (rest := []) ⟨hx, hb, hml, hown, hA⟩ (c_X5_openCall l dC dI aK aV h0 mp gco mce sk kb kk ks sh mcn tp ba on sn mat alw st mo mh sp re gar gki gfu kb1 kk1 ks1 gkb gkk gks fw fe ff f1 f2 f3 fz fgw fge fgf fu (-1) ((fgf (5 * Int32.toNatClampNeg fu)).toInt) ((fgf (5 * Int32.toNatClampNeg fu + 1)).toInt) s.heap.size (by omega) (by omega) (by omega) (by omega) (by omega) (by omega) (by omega) (by omega) (by omega) (by omega) (by omega) (by omega) rfl rfl) (cwV 2 hA (zw_V wi_1113 wi_1115 wi_41 wi_139 (zw_good wi_1116)) rfl rfl rfl (by decide +kernel) ⟨(Nat.le_of_ble_eq_true rfl), (Nat.le_of_ble_eq_true rfl)⟩) ⟨zP_blind, va_recv hKc hPc (ci := 5) (q0 := 0) rfl rfl, zz_pre hKc hPc hDc hN hT hS hFc⟩ rfl rfl hl.1 rfl (lv_room (Nat.le_of_ble_eq_true rfl)) dX5_work_3 ⟨(Nat.le_of_ble_eq_true rfl), (Nat.le_of_ble_eq_true rfl)⟩) hS (fun q _ h => hFc q h) hFc (fun u t H1 locs ht hvm hw hB hz1 hk1 hS => ?_)
  obtain ⟨on_2, ba_3, tp_4, mat_5, mo_6, gkb_7, gkk_8, gks_9⟩ := u
  obtain ⟨hP1, hK1, hD1⟩ := hB
  rw [ht] at hP1
  have hK1 := va_K.moved hvm.symm hK1
  obtain ⟨hP, hD⟩ := va_join (wr := [(sk, .inl (sk1, 22424, .inr (.inl gs))), (sh, .inl (sh1, 3000, .inl gsh)), (gco, .inr (2, [.ref cop, .ref ca, .ref cb, .ref cplace, .ref cnext, .ref cneeded, .int cz, .int ct])), (cop, .inl (ckop, 3000, .inl cgop)), (ca, .inl (cka, 3000, .inl cga)), (cb, .inl (ckb, 3000, .inl cgb)), (cplace, .inl (ckplace, 3000, .inl cgplace)), (cnext, .inl (cknext, 3000, .inl cgnext)), (cneeded, .inl (ckneeded, 3000, .inl cgneeded)), (gar, .inr (0, [.ref akind, .ref anext, .ref abefore, .ref aleave, .ref afirstSlot, .ref abuilds, .int az])), (akind, .inl (akkind, 400, .inl agkind)), (anext, .inl (aknext, 400, .inl agnext)), (abefore, .inl (akbefore, 400, .inl agbefore)), (afirstSlot, .inl (akfirstSlot, 400, .inl agfirstSlot)), (abuilds, .inl (akbuilds, 400, .inl agbuilds)), (mce, .inr (1, [.ref ek, .ref ec, .ref ef, .ref gki, .int e_limit, .int e_fresh, .int e_firstFree, .int e_held, .int e_mostHeld, .int e_made, .int e_reused, .int e_freed, .int e_doubled])), (ek, .inl (e1, 4000, .inl gk)), (ec, .inl (e2, 4000, .inl gc)), (ef, .inl (e3, 12000, .inr (.inl gv))), (gki, .inr (4, [.ref kw, .ref kf, .int kz])), (kw, .inl (k1, 20, .inr (.inl kgw))), (kf, .inl (k2, 20, .inl kgf))]) (w1 := [(h0, .inr (5, [.ref mp, .ref gco, .ref mce, .int mcn, .ref sk, .int tp_4, .int ba_3, .ref kb, .ref kk, .ref ks, .int on_2, .ref sh, .int sn, .int mat_5, .int alw, .int st, .int mo_6, .int mh, .int sp, .long re])), (mp, .inr (9, [.ref gco, .ref gar, .ref gki, .ref gfu])), (kb, .inl (kb1, 100, .inl gkb_7)), (kk, .inl (kk1, 100, .inl gkk_8)), (ks, .inl (ks1, 100, .inl gks_9)), (gfu, .inr (3, [.ref fw, .ref fe, .ref ff, .int fz])), (fw, .inl (f1, 30, .inr (.inl fgw))), (fe, .inl (f2, 30, .inl fge)), (ff, .inl (f3, 150, .inl fgf))]) hP hD [0, 13, 2, 3, 4, 14, 15, 16, 17] [1, 5, 6, 7, 8, 9, 10, 11, 12, 18, 19, 20, 21, 22, 23, 24, 25, 26, 27, 28, 29, 30] rfl rfl (by decide) (by decide) hk1 hFc hP1 hD1
  have hK := (hK.sub (tys' := [(sk1, .long), (sh1, .int), (ckop, .int), (cka, .int), (ckb, .int), (ckplace, .int), (cknext, .int), (ckneeded, .int), (akkind, .int), (aknext, .int), (akbefore, .int), (akfirstSlot, .int), (akbuilds, .int), (e1, .int), (e2, .int), (e3, .long), (k1, .long), (k2, .int)]) [0, 4, 5, 6, 7, 8, 9, 10, 14, 15, 16, 17, 18, 19, 20, 21, 22, 23] rfl).app hK1
  generalize H1 = H at hP hS ⊢
  have hP : va_P (dC, dI) vwCl [(sk, .inl (sk1, 22424, .inr (.inl gs))), (sh, .inl (sh1, 3000, .inl gsh)), (gco, .inr (2, [.ref cop, .ref ca, .ref cb, .ref cplace, .ref cnext, .ref cneeded, .int cz, .int ct])), (cop, .inl (ckop, 3000, .inl cgop)), (ca, .inl (cka, 3000, .inl cga)), (cb, .inl (ckb, 3000, .inl cgb)), (cplace, .inl (ckplace, 3000, .inl cgplace)), (cnext, .inl (cknext, 3000, .inl cgnext)), (cneeded, .inl (ckneeded, 3000, .inl cgneeded)), (gar, .inr (0, [.ref akind, .ref anext, .ref abefore, .ref aleave, .ref afirstSlot, .ref abuilds, .int az])), (akind, .inl (akkind, 400, .inl agkind)), (anext, .inl (aknext, 400, .inl agnext)), (abefore, .inl (akbefore, 400, .inl agbefore)), (afirstSlot, .inl (akfirstSlot, 400, .inl agfirstSlot)), (abuilds, .inl (akbuilds, 400, .inl agbuilds)), (mce, .inr (1, [.ref ek, .ref ec, .ref ef, .ref gki, .int e_limit, .int e_fresh, .int e_firstFree, .int e_held, .int e_mostHeld, .int e_made, .int e_reused, .int e_freed, .int e_doubled])), (ek, .inl (e1, 4000, .inl gk)), (ec, .inl (e2, 4000, .inl gc)), (ef, .inl (e3, 12000, .inr (.inl gv))), (gki, .inr (4, [.ref kw, .ref kf, .int kz])), (kw, .inl (k1, 20, .inr (.inl kgw))), (kf, .inl (k2, 20, .inl kgf)), (h0, .inr (5, [.ref mp, .ref gco, .ref mce, .int mcn, .ref sk, .int tp_4, .int ba_3, .ref kb, .ref kk, .ref ks, .int on_2, .ref sh, .int sn, .int mat_5, .int alw, .int st, .int mo_6, .int mh, .int sp, .long re])), (mp, .inr (9, [.ref gco, .ref gar, .ref gki, .ref gfu])), (kb, .inl (kb1, 100, .inl gkb_7)), (kk, .inl (kk1, 100, .inl gkk_8)), (ks, .inl (ks1, 100, .inl gks_9)), (gfu, .inr (3, [.ref fw, .ref fe, .ref ff, .int fz])), (fw, .inl (f1, 30, .inr (.inl fgw))), (fe, .inl (f2, 30, .inl fge)), (ff, .inl (f3, 150, .inl fgf))] H := hP
  have hD : va_D A [(sk, .inl (sk1, 22424, .inr (.inl gs))), (sh, .inl (sh1, 3000, .inl gsh)), (gco, .inr (2, [.ref cop, .ref ca, .ref cb, .ref cplace, .ref cnext, .ref cneeded, .int cz, .int ct])), (cop, .inl (ckop, 3000, .inl cgop)), (ca, .inl (cka, 3000, .inl cga)), (cb, .inl (ckb, 3000, .inl cgb)), (cplace, .inl (ckplace, 3000, .inl cgplace)), (cnext, .inl (cknext, 3000, .inl cgnext)), (cneeded, .inl (ckneeded, 3000, .inl cgneeded)), (gar, .inr (0, [.ref akind, .ref anext, .ref abefore, .ref aleave, .ref afirstSlot, .ref abuilds, .int az])), (akind, .inl (akkind, 400, .inl agkind)), (anext, .inl (aknext, 400, .inl agnext)), (abefore, .inl (akbefore, 400, .inl agbefore)), (afirstSlot, .inl (akfirstSlot, 400, .inl agfirstSlot)), (abuilds, .inl (akbuilds, 400, .inl agbuilds)), (mce, .inr (1, [.ref ek, .ref ec, .ref ef, .ref gki, .int e_limit, .int e_fresh, .int e_firstFree, .int e_held, .int e_mostHeld, .int e_made, .int e_reused, .int e_freed, .int e_doubled])), (ek, .inl (e1, 4000, .inl gk)), (ec, .inl (e2, 4000, .inl gc)), (ef, .inl (e3, 12000, .inr (.inl gv))), (gki, .inr (4, [.ref kw, .ref kf, .int kz])), (kw, .inl (k1, 20, .inr (.inl kgw))), (kf, .inl (k2, 20, .inl kgf)), (h0, .inr (5, [.ref mp, .ref gco, .ref mce, .int mcn, .ref sk, .int tp_4, .int ba_3, .ref kb, .ref kk, .ref ks, .int on_2, .ref sh, .int sn, .int mat_5, .int alw, .int st, .int mo_6, .int mh, .int sp, .long re])), (mp, .inr (9, [.ref gco, .ref gar, .ref gki, .ref gfu])), (kb, .inl (kb1, 100, .inl gkb_7)), (kk, .inl (kk1, 100, .inl gkk_8)), (ks, .inl (ks1, 100, .inl gks_9)), (gfu, .inr (3, [.ref fw, .ref fe, .ref ff, .int fz])), (fw, .inl (f1, 30, .inr (.inl fgw))), (fe, .inl (f2, 30, .inl fge)), (ff, .inl (f3, 150, .inl fgf))] := hD
  have hK : va_K (dC, dI) vwCl [(sk1, .long), (sh1, .int), (ckop, .int), (cka, .int), (ckb, .int), (ckplace, .int), (cknext, .int), (ckneeded, .int), (akkind, .int), (aknext, .int), (akbefore, .int), (akfirstSlot, .int), (akbuilds, .int), (e1, .int), (e2, .int), (e3, .long), (k1, .long), (k2, .int), (kb1, .int), (kk1, .int), (ks1, .int), (f1, .long), (f2, .int), (f3, .int)] s := hK
  obtain ⟨hq_10, hq_11, hq_12, hq_13, hq_14, hq_15, hq_16⟩ := hw
  have hv09 := zV0_mk (ck2 := gkk_8) hwk hSa hu0 hu1 hon hq_10 hq_11 hq_12 hq_13 htt hst hpt
  have hme9 : mat_5 = fge (Int32.toNatClampNeg fu) := hq_16
  refine lv_iconst (v := 0) hx hb dX5_work_6 (by decide) ?_
  refine lv_istore_n (lv' := [(2, .int 0), (0, .ref h0), (1, .int fu)]) hx hb dX5_work_7 rfl hl (by decide) rfl (fun ls hl => ?_)
  have loop_8 : ∀ (n9 : Nat) (i : Int32) (lst : Int32) (lmh : Int32) (lsp : Int32) (ltp : Int32) (lba : Int32) (lon : Int32) (lmat : Int32) (lmo : Int32) (lsn : Int32) (lre : Int64) (lgs : Nat → Int64) (lgkb : Nat → Int32) (lgkk : Nat → Int32) (lgks : Nat → Int32) (lgsh : Nat → Int32) (lgk : Nat → Int32) (lgc : Nat → Int32) (lgv : Nat → Int64) (lfr : Int32) (lff : Int32) (lhe : Int32) (lmx : Int32) (lmd : Int32) (lru : Int32) (lfd : Int32) (ldb : Int32) (H : Heap) (locs : List Loc) (ls : Array Slot), (100000 - i.toInt + 1).toNat ≤ n9 → 0 ≤ i.toInt → i.toInt ≤ 100000 → 0 ≤ lsn.toInt → lsn.toInt ≤ 3000 → lff.toInt = -1 → lhe.toInt = lfr.toInt → 0 ≤ lfr.toInt → lfr.toInt ≤ 4000 → (lmh.toInt ≠ 0 ∨ ∀ iq : Nat, (iq : Int) < lon.toInt → 0 ≤ (lgks iq).toInt) → (lmh.toInt ≠ 0 ∧ (lmh.toInt = 1 → zRep kz kgf lgk lgv lfr lre) ∨ lmh.toInt = 0 ∧ (lmat.toInt = -1 ∨ 0 ≤ lmat.toInt ∧ ∃ p9 : Nat → Bool, (zV gS cgneeded gG gL p9 lgkb lgkk lon lba ltp lst (Int32.toNatClampNeg lmat) ∨ zV0 gS cgneeded gG gL p9 lgkb lgkk lon lba ltp lst (Int32.toNatClampNeg lmat)) ∧ zMP nS kz kgf lgk lgv lfr lgs p9 lgsh lsn)) → cOv gT cgnext gH gaz gZ kz kgf gF gal (pm_s0 gF (Int32.toNatClampNeg fu) q1 q2 q3 q4) lgs lgkb lgkk lgk lgv lon lba ltp lst lfr lmat (Int32.toInt i) lmh lsp → va_P (dC, dI) vwCl [(sk, .inl (sk1, 22424, .inr (.inl lgs))), (sh, .inl (sh1, 3000, .inl lgsh)), (gco, .inr (2, [.ref cop, .ref ca, .ref cb, .ref cplace, .ref cnext, .ref cneeded, .int cz, .int ct])), (cop, .inl (ckop, 3000, .inl cgop)), (ca, .inl (cka, 3000, .inl cga)), (cb, .inl (ckb, 3000, .inl cgb)), (cplace, .inl (ckplace, 3000, .inl cgplace)), (cnext, .inl (cknext, 3000, .inl cgnext)), (cneeded, .inl (ckneeded, 3000, .inl cgneeded)), (gar, .inr (0, [.ref akind, .ref anext, .ref abefore, .ref aleave, .ref afirstSlot, .ref abuilds, .int az])), (akind, .inl (akkind, 400, .inl agkind)), (anext, .inl (aknext, 400, .inl agnext)), (abefore, .inl (akbefore, 400, .inl agbefore)), (afirstSlot, .inl (akfirstSlot, 400, .inl agfirstSlot)), (abuilds, .inl (akbuilds, 400, .inl agbuilds)), (mce, .inr (1, [.ref ek, .ref ec, .ref ef, .ref gki, .int e_limit, .int lfr, .int lff, .int lhe, .int lmx, .int lmd, .int lru, .int lfd, .int ldb])), (ek, .inl (e1, 4000, .inl lgk)), (ec, .inl (e2, 4000, .inl lgc)), (ef, .inl (e3, 12000, .inr (.inl lgv))), (gki, .inr (4, [.ref kw, .ref kf, .int kz])), (kw, .inl (k1, 20, .inr (.inl kgw))), (kf, .inl (k2, 20, .inl kgf)), (h0, .inr (5, [.ref mp, .ref gco, .ref mce, .int mcn, .ref sk, .int ltp, .int lba, .ref kb, .ref kk, .ref ks, .int lon, .ref sh, .int lsn, .int lmat, .int alw, .int lst, .int lmo, .int lmh, .int lsp, .long lre])), (mp, .inr (9, [.ref gco, .ref gar, .ref gki, .ref gfu])), (kb, .inl (kb1, 100, .inl lgkb)), (kk, .inl (kk1, 100, .inl lgkk)), (ks, .inl (ks1, 100, .inl lgks)), (gfu, .inr (3, [.ref fw, .ref fe, .ref ff, .int fz])), (fw, .inl (f1, 30, .inr (.inl fgw))), (fe, .inl (f2, 30, .inl fge)), (ff, .inl (f3, 150, .inl fgf))] H → va_D A [(sk, .inl (sk1, 22424, .inr (.inl lgs))), (sh, .inl (sh1, 3000, .inl lgsh)), (gco, .inr (2, [.ref cop, .ref ca, .ref cb, .ref cplace, .ref cnext, .ref cneeded, .int cz, .int ct])), (cop, .inl (ckop, 3000, .inl cgop)), (ca, .inl (cka, 3000, .inl cga)), (cb, .inl (ckb, 3000, .inl cgb)), (cplace, .inl (ckplace, 3000, .inl cgplace)), (cnext, .inl (cknext, 3000, .inl cgnext)), (cneeded, .inl (ckneeded, 3000, .inl cgneeded)), (gar, .inr (0, [.ref akind, .ref anext, .ref abefore, .ref aleave, .ref afirstSlot, .ref abuilds, .int az])), (akind, .inl (akkind, 400, .inl agkind)), (anext, .inl (aknext, 400, .inl agnext)), (abefore, .inl (akbefore, 400, .inl agbefore)), (afirstSlot, .inl (akfirstSlot, 400, .inl agfirstSlot)), (abuilds, .inl (akbuilds, 400, .inl agbuilds)), (mce, .inr (1, [.ref ek, .ref ec, .ref ef, .ref gki, .int e_limit, .int lfr, .int lff, .int lhe, .int lmx, .int lmd, .int lru, .int lfd, .int ldb])), (ek, .inl (e1, 4000, .inl lgk)), (ec, .inl (e2, 4000, .inl lgc)), (ef, .inl (e3, 12000, .inr (.inl lgv))), (gki, .inr (4, [.ref kw, .ref kf, .int kz])), (kw, .inl (k1, 20, .inr (.inl kgw))), (kf, .inl (k2, 20, .inl kgf)), (h0, .inr (5, [.ref mp, .ref gco, .ref mce, .int mcn, .ref sk, .int ltp, .int lba, .ref kb, .ref kk, .ref ks, .int lon, .ref sh, .int lsn, .int lmat, .int alw, .int lst, .int lmo, .int lmh, .int lsp, .long lre])), (mp, .inr (9, [.ref gco, .ref gar, .ref gki, .ref gfu])), (kb, .inl (kb1, 100, .inl lgkb)), (kk, .inl (kk1, 100, .inl lgkk)), (ks, .inl (ks1, 100, .inl lgks)), (gfu, .inr (3, [.ref fw, .ref fe, .ref ff, .int fz])), (fw, .inl (f1, 30, .inr (.inl fgw))), (fe, .inl (f2, 30, .inl fge)), (ff, .inl (f3, 150, .inl fgf))] → va_S A s.heap H locs → lv_has ls 3 [(2, .int i), (0, .ref h0), (1, .int fu)] → W p l e (headSpec (Cond.code yX5_work cX5_work 3 none :: zw) ({ frames := 24, cells := 0, slots := 0, locals := 1000 })).room s m #[.ref h0, .int fu] below meth c H locs 0 0 (MQ below (va_Qv (fun u : Int32 × Int32 × Int32 × Int32 × Int32 × Int32 × Int32 × Int32 × Int32 × Int64 × (Nat → Int64) × (Nat → Int32) × (Nat → Int32) × (Nat → Int32) × (Nat → Int32) × (Nat → Int32) × (Nat → Int32) × (Nat → Int64) × Int32 × Int32 × Int32 × Int32 × Int32 × Int32 × Int32 × Int32 => match u with | (st2, mh2, sp2, tp2, ba2, on2, mat2, mo2, sn2, re2, gs2, gkb2, gkk2, gks2, gsh2, gk2, gc2, gv2, fr2, ff2, he2, mx2, md2, ru2, fd2, dbl2) => ((mh2.toInt = 1 → zRep kz kgf gk2 gv2 fr2 re2)) ∧ (mh2.toInt ≠ 0 ∧ cEv gF gal (pm_s0 gF (Int32.toNatClampNeg fu) q1 q2 q3 q4) mh2 sp2)) (fun u => match u with | (st2, mh2, sp2, tp2, ba2, on2, mat2, mo2, sn2, re2, gs2, gkb2, gkk2, gks2, gsh2, gk2, gc2, gv2, fr2, ff2, he2, mx2, md2, ru2, fd2, dbl2) => zQ dC dI A [(sk1, .long), (kb1, .int), (kk1, .int), (ks1, .int), (sh1, .int), (ckop, .int), (cka, .int), (ckb, .int), (ckplace, .int), (cknext, .int), (ckneeded, .int), (f1, .long), (f2, .int), (f3, .int), (akkind, .int), (aknext, .int), (akbefore, .int), (akfirstSlot, .int), (akbuilds, .int), (e1, .int), (e2, .int), (e3, .long), (k1, .long), (k2, .int)] [(h0, .inr (5, [.ref mp, .ref gco, .ref mce, .int mcn, .ref sk, .int tp2, .int ba2, .ref kb, .ref kk, .ref ks, .int on2, .ref sh, .int sn2, .int mat2, .int alw, .int st2, .int mo2, .int mh2, .int sp2, .long re2])), (sk, .inl (sk1, 22424, .inr (.inl gs2))), (kb, .inl (kb1, 100, .inl gkb2)), (kk, .inl (kk1, 100, .inl gkk2)), (ks, .inl (ks1, 100, .inl gks2)), (sh, .inl (sh1, 3000, .inl gsh2)), (gco, .inr (2, [.ref cop, .ref ca, .ref cb, .ref cplace, .ref cnext, .ref cneeded, .int cz, .int ct])), (cop, .inl (ckop, 3000, .inl cgop)), (ca, .inl (cka, 3000, .inl cga)), (cb, .inl (ckb, 3000, .inl cgb)), (cplace, .inl (ckplace, 3000, .inl cgplace)), (cnext, .inl (cknext, 3000, .inl cgnext)), (cneeded, .inl (ckneeded, 3000, .inl cgneeded)), (mp, .inr (9, [.ref gco, .ref gar, .ref gki, .ref gfu])), (gfu, .inr (3, [.ref fw, .ref fe, .ref ff, .int fz])), (fw, .inl (f1, 30, .inr (.inl fgw))), (fe, .inl (f2, 30, .inl fge)), (ff, .inl (f3, 150, .inl fgf)), (gar, .inr (0, [.ref akind, .ref anext, .ref abefore, .ref aleave, .ref afirstSlot, .ref abuilds, .int az])), (akind, .inl (akkind, 400, .inl agkind)), (anext, .inl (aknext, 400, .inl agnext)), (abefore, .inl (akbefore, 400, .inl agbefore)), (afirstSlot, .inl (akfirstSlot, 400, .inl agfirstSlot)), (abuilds, .inl (akbuilds, 400, .inl agbuilds)), (mce, .inr (1, [.ref ek, .ref ec, .ref ef, .ref gki, .int e_limit, .int fr2, .int ff2, .int he2, .int mx2, .int md2, .int ru2, .int fd2, .int dbl2])), (ek, .inl (e1, 4000, .inl gk2)), (ec, .inl (e2, 4000, .inl gc2)), (ef, .inl (e3, 12000, .inr (.inl gv2))), (gki, .inr (4, [.ref kw, .ref kf, .int kz])), (kw, .inl (k1, 20, .inr (.inl kgw))), (kf, .inl (k2, 20, .inl kgf))]) A) #[.ref h0, .int fu] s 0 0 A) (F0 m 8 ls []) := by
    intro n9
    induction n9 with
    | zero => intro i lst lmh lsp ltp lba lon lmat lmo lsn lre lgs lgkb lgkk lgks lgsh lgk lgc lgv lfr lff lhe lmx lmd lru lfd ldb H locs ls hm hi0 hi1 hls0 hls1 hlf1 hlf2 hlf3 hlf4 hKL hOK hSM; exfalso; omega
    | succ n9 ih =>
      intro i lst lmh lsp ltp lba lon lmat lmo lsn lre lgs lgkb lgkk lgks lgsh lgk lgc lgv lfr lff lhe lmx lmd lru lfd ldb H locs ls hm hi0 hi1 hls0 hls1 hlf1 hlf2 hlf3 hlf4 hKL hOK hSM hP hD hS hl
      refine lv_iload_n hx hb dX5_work_8 rfl (lv_at hl 0 rfl) ?_
      refine lv_ldc (v := 100000) hx hb hown (hA _ wi_1121) dX5_work_9 ?_
      refine lv_icmp_ge (tgt := 43) hx hb dX5_work_11 (by decide) (fun c_17 => ?_) (fun c_17 => ?_)
      · have ic_17 : 100000 ≤ i.toInt := zi_le c_17
        have hP9 := hP.sub (ws' := [(h0, .inr (5, [.ref mp, .ref gco, .ref mce, .int mcn, .ref sk, .int ltp, .int lba, .ref kb, .ref kk, .ref ks, .int lon, .ref sh, .int lsn, .int lmat, .int alw, .int lst, .int lmo, .int lmh, .int lsp, .long lre])), (sk, .inl (sk1, 22424, .inr (.inl lgs))), (kb, .inl (kb1, 100, .inl lgkb)), (kk, .inl (kk1, 100, .inl lgkk)), (ks, .inl (ks1, 100, .inl lgks)), (sh, .inl (sh1, 3000, .inl lgsh)), (gco, .inr (2, [.ref cop, .ref ca, .ref cb, .ref cplace, .ref cnext, .ref cneeded, .int cz, .int ct])), (cop, .inl (ckop, 3000, .inl cgop)), (ca, .inl (cka, 3000, .inl cga)), (cb, .inl (ckb, 3000, .inl cgb)), (cplace, .inl (ckplace, 3000, .inl cgplace)), (cnext, .inl (cknext, 3000, .inl cgnext)), (cneeded, .inl (ckneeded, 3000, .inl cgneeded)), (mp, .inr (9, [.ref gco, .ref gar, .ref gki, .ref gfu])), (gfu, .inr (3, [.ref fw, .ref fe, .ref ff, .int fz])), (fw, .inl (f1, 30, .inr (.inl fgw))), (fe, .inl (f2, 30, .inl fge)), (ff, .inl (f3, 150, .inl fgf)), (gar, .inr (0, [.ref akind, .ref anext, .ref abefore, .ref aleave, .ref afirstSlot, .ref abuilds, .int az])), (akind, .inl (akkind, 400, .inl agkind)), (anext, .inl (aknext, 400, .inl agnext)), (abefore, .inl (akbefore, 400, .inl agbefore)), (afirstSlot, .inl (akfirstSlot, 400, .inl agfirstSlot)), (abuilds, .inl (akbuilds, 400, .inl agbuilds)), (mce, .inr (1, [.ref ek, .ref ec, .ref ef, .ref gki, .int e_limit, .int lfr, .int lff, .int lhe, .int lmx, .int lmd, .int lru, .int lfd, .int ldb])), (ek, .inl (e1, 4000, .inl lgk)), (ec, .inl (e2, 4000, .inl lgc)), (ef, .inl (e3, 12000, .inr (.inl lgv))), (gki, .inr (4, [.ref kw, .ref kf, .int kz])), (kw, .inl (k1, 20, .inr (.inl kgw))), (kf, .inl (k2, 20, .inl kgf))]) [22, 0, 24, 25, 26, 1, 2, 3, 4, 5, 6, 7, 8, 23, 27, 28, 29, 30, 9, 10, 11, 12, 13, 14, 15, 16, 17, 18, 19, 20, 21] rfl
        have hD9 := hD.sub (ws' := [(h0, .inr (5, [.ref mp, .ref gco, .ref mce, .int mcn, .ref sk, .int ltp, .int lba, .ref kb, .ref kk, .ref ks, .int lon, .ref sh, .int lsn, .int lmat, .int alw, .int lst, .int lmo, .int lmh, .int lsp, .long lre])), (sk, .inl (sk1, 22424, .inr (.inl lgs))), (kb, .inl (kb1, 100, .inl lgkb)), (kk, .inl (kk1, 100, .inl lgkk)), (ks, .inl (ks1, 100, .inl lgks)), (sh, .inl (sh1, 3000, .inl lgsh)), (gco, .inr (2, [.ref cop, .ref ca, .ref cb, .ref cplace, .ref cnext, .ref cneeded, .int cz, .int ct])), (cop, .inl (ckop, 3000, .inl cgop)), (ca, .inl (cka, 3000, .inl cga)), (cb, .inl (ckb, 3000, .inl cgb)), (cplace, .inl (ckplace, 3000, .inl cgplace)), (cnext, .inl (cknext, 3000, .inl cgnext)), (cneeded, .inl (ckneeded, 3000, .inl cgneeded)), (mp, .inr (9, [.ref gco, .ref gar, .ref gki, .ref gfu])), (gfu, .inr (3, [.ref fw, .ref fe, .ref ff, .int fz])), (fw, .inl (f1, 30, .inr (.inl fgw))), (fe, .inl (f2, 30, .inl fge)), (ff, .inl (f3, 150, .inl fgf)), (gar, .inr (0, [.ref akind, .ref anext, .ref abefore, .ref aleave, .ref afirstSlot, .ref abuilds, .int az])), (akind, .inl (akkind, 400, .inl agkind)), (anext, .inl (aknext, 400, .inl agnext)), (abefore, .inl (akbefore, 400, .inl agbefore)), (afirstSlot, .inl (akfirstSlot, 400, .inl agfirstSlot)), (abuilds, .inl (akbuilds, 400, .inl agbuilds)), (mce, .inr (1, [.ref ek, .ref ec, .ref ef, .ref gki, .int e_limit, .int lfr, .int lff, .int lhe, .int lmx, .int lmd, .int lru, .int lfd, .int ldb])), (ek, .inl (e1, 4000, .inl lgk)), (ec, .inl (e2, 4000, .inl lgc)), (ef, .inl (e3, 12000, .inr (.inl lgv))), (gki, .inr (4, [.ref kw, .ref kf, .int kz])), (kw, .inl (k1, 20, .inr (.inl kgw))), (kf, .inl (k2, 20, .inl kgf))]) [22, 0, 24, 25, 26, 1, 2, 3, 4, 5, 6, 7, 8, 23, 27, 28, 29, 30, 9, 10, 11, 12, 13, 14, 15, 16, 17, 18, 19, 20, 21] (by decide) rfl
        have hK9 := hK.sub (tys' := [(sk1, .long), (kb1, .int), (kk1, .int), (ks1, .int), (sh1, .int), (ckop, .int), (cka, .int), (ckb, .int), (ckplace, .int), (cknext, .int), (ckneeded, .int), (f1, .long), (f2, .int), (f3, .int), (akkind, .int), (aknext, .int), (akbefore, .int), (akfirstSlot, .int), (akbuilds, .int), (e1, .int), (e2, .int), (e3, .long), (k1, .long), (k2, .int)]) [0, 18, 19, 20, 1, 2, 3, 4, 5, 6, 7, 21, 22, 23, 8, 9, 10, 11, 12, 13, 14, 15, 16, 17] rfl
        exact W.vret hx hb hr (fun t ht hW => ⟨⟨(lst, lmh, lsp, ltp, lba, lon, lmat, lmo, lsn, lre, lgs, lgkb, lgkk, lgks, lgsh, lgk, lgc, lgv, lfr, lff, lhe, lmx, lmd, lru, lfd, ldb), rfl, ⟨(fun g => hOK.elim (fun u => u.2 g) (fun u => by omega)), (hSM.elim (fun u => u) (fun u => by exfalso; have h9a := cRn_x u.2.2; have h9b := hal; rw [haw] at h9b; omega))⟩, by rw [ht]; exact hP9, va_K.moved hW.alike hK9, hD9⟩, hS.F ht⟩) hS.2.2 dX5_work_43
      · have ic_17 : i.toInt < 100000 := zi_nle c_17
        refine lv_aload_n hx hb dX5_work_14 rfl (lv_at hl 1 rfl) ?_
        refine va_get (D := (dC, dI)) (ci := 5) (v := .int lmh) (C := RX5) (T := TX5) (N := 20) hx hb hA zin_X5 hown hK hP 22 rfl rfl 17 (by decide) (hA _ wi_503) (fun _ h9 => h9) rfl dX5_work_15 ?_
        refine lv_if_ne (tgt := 43) hx hb dX5_work_18 (by decide) (fun c_18 => ?_) (fun c_18 => ?_)
        · have ic_18 : lmh.toInt ≠ 0 := zi_ne c_18
          have hP9 := hP.sub (ws' := [(h0, .inr (5, [.ref mp, .ref gco, .ref mce, .int mcn, .ref sk, .int ltp, .int lba, .ref kb, .ref kk, .ref ks, .int lon, .ref sh, .int lsn, .int lmat, .int alw, .int lst, .int lmo, .int lmh, .int lsp, .long lre])), (sk, .inl (sk1, 22424, .inr (.inl lgs))), (kb, .inl (kb1, 100, .inl lgkb)), (kk, .inl (kk1, 100, .inl lgkk)), (ks, .inl (ks1, 100, .inl lgks)), (sh, .inl (sh1, 3000, .inl lgsh)), (gco, .inr (2, [.ref cop, .ref ca, .ref cb, .ref cplace, .ref cnext, .ref cneeded, .int cz, .int ct])), (cop, .inl (ckop, 3000, .inl cgop)), (ca, .inl (cka, 3000, .inl cga)), (cb, .inl (ckb, 3000, .inl cgb)), (cplace, .inl (ckplace, 3000, .inl cgplace)), (cnext, .inl (cknext, 3000, .inl cgnext)), (cneeded, .inl (ckneeded, 3000, .inl cgneeded)), (mp, .inr (9, [.ref gco, .ref gar, .ref gki, .ref gfu])), (gfu, .inr (3, [.ref fw, .ref fe, .ref ff, .int fz])), (fw, .inl (f1, 30, .inr (.inl fgw))), (fe, .inl (f2, 30, .inl fge)), (ff, .inl (f3, 150, .inl fgf)), (gar, .inr (0, [.ref akind, .ref anext, .ref abefore, .ref aleave, .ref afirstSlot, .ref abuilds, .int az])), (akind, .inl (akkind, 400, .inl agkind)), (anext, .inl (aknext, 400, .inl agnext)), (abefore, .inl (akbefore, 400, .inl agbefore)), (afirstSlot, .inl (akfirstSlot, 400, .inl agfirstSlot)), (abuilds, .inl (akbuilds, 400, .inl agbuilds)), (mce, .inr (1, [.ref ek, .ref ec, .ref ef, .ref gki, .int e_limit, .int lfr, .int lff, .int lhe, .int lmx, .int lmd, .int lru, .int lfd, .int ldb])), (ek, .inl (e1, 4000, .inl lgk)), (ec, .inl (e2, 4000, .inl lgc)), (ef, .inl (e3, 12000, .inr (.inl lgv))), (gki, .inr (4, [.ref kw, .ref kf, .int kz])), (kw, .inl (k1, 20, .inr (.inl kgw))), (kf, .inl (k2, 20, .inl kgf))]) [22, 0, 24, 25, 26, 1, 2, 3, 4, 5, 6, 7, 8, 23, 27, 28, 29, 30, 9, 10, 11, 12, 13, 14, 15, 16, 17, 18, 19, 20, 21] rfl
          have hD9 := hD.sub (ws' := [(h0, .inr (5, [.ref mp, .ref gco, .ref mce, .int mcn, .ref sk, .int ltp, .int lba, .ref kb, .ref kk, .ref ks, .int lon, .ref sh, .int lsn, .int lmat, .int alw, .int lst, .int lmo, .int lmh, .int lsp, .long lre])), (sk, .inl (sk1, 22424, .inr (.inl lgs))), (kb, .inl (kb1, 100, .inl lgkb)), (kk, .inl (kk1, 100, .inl lgkk)), (ks, .inl (ks1, 100, .inl lgks)), (sh, .inl (sh1, 3000, .inl lgsh)), (gco, .inr (2, [.ref cop, .ref ca, .ref cb, .ref cplace, .ref cnext, .ref cneeded, .int cz, .int ct])), (cop, .inl (ckop, 3000, .inl cgop)), (ca, .inl (cka, 3000, .inl cga)), (cb, .inl (ckb, 3000, .inl cgb)), (cplace, .inl (ckplace, 3000, .inl cgplace)), (cnext, .inl (cknext, 3000, .inl cgnext)), (cneeded, .inl (ckneeded, 3000, .inl cgneeded)), (mp, .inr (9, [.ref gco, .ref gar, .ref gki, .ref gfu])), (gfu, .inr (3, [.ref fw, .ref fe, .ref ff, .int fz])), (fw, .inl (f1, 30, .inr (.inl fgw))), (fe, .inl (f2, 30, .inl fge)), (ff, .inl (f3, 150, .inl fgf)), (gar, .inr (0, [.ref akind, .ref anext, .ref abefore, .ref aleave, .ref afirstSlot, .ref abuilds, .int az])), (akind, .inl (akkind, 400, .inl agkind)), (anext, .inl (aknext, 400, .inl agnext)), (abefore, .inl (akbefore, 400, .inl agbefore)), (afirstSlot, .inl (akfirstSlot, 400, .inl agfirstSlot)), (abuilds, .inl (akbuilds, 400, .inl agbuilds)), (mce, .inr (1, [.ref ek, .ref ec, .ref ef, .ref gki, .int e_limit, .int lfr, .int lff, .int lhe, .int lmx, .int lmd, .int lru, .int lfd, .int ldb])), (ek, .inl (e1, 4000, .inl lgk)), (ec, .inl (e2, 4000, .inl lgc)), (ef, .inl (e3, 12000, .inr (.inl lgv))), (gki, .inr (4, [.ref kw, .ref kf, .int kz])), (kw, .inl (k1, 20, .inr (.inl kgw))), (kf, .inl (k2, 20, .inl kgf))]) [22, 0, 24, 25, 26, 1, 2, 3, 4, 5, 6, 7, 8, 23, 27, 28, 29, 30, 9, 10, 11, 12, 13, 14, 15, 16, 17, 18, 19, 20, 21] (by decide) rfl
          have hK9 := hK.sub (tys' := [(sk1, .long), (kb1, .int), (kk1, .int), (ks1, .int), (sh1, .int), (ckop, .int), (cka, .int), (ckb, .int), (ckplace, .int), (cknext, .int), (ckneeded, .int), (f1, .long), (f2, .int), (f3, .int), (akkind, .int), (aknext, .int), (akbefore, .int), (akfirstSlot, .int), (akbuilds, .int), (e1, .int), (e2, .int), (e3, .long), (k1, .long), (k2, .int)]) [0, 18, 19, 20, 1, 2, 3, 4, 5, 6, 7, 21, 22, 23, 8, 9, 10, 11, 12, 13, 14, 15, 16, 17] rfl
          exact W.vret hx hb hr (fun t ht hW => ⟨⟨(lst, lmh, lsp, ltp, lba, lon, lmat, lmo, lsn, lre, lgs, lgkb, lgkk, lgks, lgsh, lgk, lgc, lgv, lfr, lff, lhe, lmx, lmd, lru, lfd, ldb), rfl, ⟨(fun g => hOK.elim (fun u => u.2 g) (fun u => by omega)), (hSM.elim (fun u => u) (fun u => by exfalso; have h9a := cRn_x u.2.2; have h9b := hal; rw [haw] at h9b; omega))⟩, by rw [ht]; exact hP9, va_K.moved hW.alike hK9, hD9⟩, hS.F ht⟩) hS.2.2 dX5_work_43
        · have ic_18 : lmh.toInt = 0 := zi_eq c_18
          refine lv_aload_n hx hb dX5_work_21 rfl (lv_at hl 1 rfl) ?_
          refine va_get (D := (dC, dI)) (ci := 5) (v := .int lmat) (C := RX5) (T := TX5) (N := 20) hx hb hA zin_X5 hown hK hP 22 rfl rfl 13 (by decide) (hA _ wi_497) (fun _ h9 => h9) rfl dX5_work_22 ?_
          refine lv_iconst (v := (-1)) hx hb dX5_work_25 (by decide) ?_
          refine lv_icmp_eq (tgt := 43) hx hb dX5_work_26 (by decide) (fun c_19 => ?_) (fun c_19 => ?_)
          · have ic_19 : lmat.toInt = (-1) := zi_eq c_19
            have hP9 := hP.sub (ws' := [(h0, .inr (5, [.ref mp, .ref gco, .ref mce, .int mcn, .ref sk, .int ltp, .int lba, .ref kb, .ref kk, .ref ks, .int lon, .ref sh, .int lsn, .int lmat, .int alw, .int lst, .int lmo, .int lmh, .int lsp, .long lre])), (sk, .inl (sk1, 22424, .inr (.inl lgs))), (kb, .inl (kb1, 100, .inl lgkb)), (kk, .inl (kk1, 100, .inl lgkk)), (ks, .inl (ks1, 100, .inl lgks)), (sh, .inl (sh1, 3000, .inl lgsh)), (gco, .inr (2, [.ref cop, .ref ca, .ref cb, .ref cplace, .ref cnext, .ref cneeded, .int cz, .int ct])), (cop, .inl (ckop, 3000, .inl cgop)), (ca, .inl (cka, 3000, .inl cga)), (cb, .inl (ckb, 3000, .inl cgb)), (cplace, .inl (ckplace, 3000, .inl cgplace)), (cnext, .inl (cknext, 3000, .inl cgnext)), (cneeded, .inl (ckneeded, 3000, .inl cgneeded)), (mp, .inr (9, [.ref gco, .ref gar, .ref gki, .ref gfu])), (gfu, .inr (3, [.ref fw, .ref fe, .ref ff, .int fz])), (fw, .inl (f1, 30, .inr (.inl fgw))), (fe, .inl (f2, 30, .inl fge)), (ff, .inl (f3, 150, .inl fgf)), (gar, .inr (0, [.ref akind, .ref anext, .ref abefore, .ref aleave, .ref afirstSlot, .ref abuilds, .int az])), (akind, .inl (akkind, 400, .inl agkind)), (anext, .inl (aknext, 400, .inl agnext)), (abefore, .inl (akbefore, 400, .inl agbefore)), (afirstSlot, .inl (akfirstSlot, 400, .inl agfirstSlot)), (abuilds, .inl (akbuilds, 400, .inl agbuilds)), (mce, .inr (1, [.ref ek, .ref ec, .ref ef, .ref gki, .int e_limit, .int lfr, .int lff, .int lhe, .int lmx, .int lmd, .int lru, .int lfd, .int ldb])), (ek, .inl (e1, 4000, .inl lgk)), (ec, .inl (e2, 4000, .inl lgc)), (ef, .inl (e3, 12000, .inr (.inl lgv))), (gki, .inr (4, [.ref kw, .ref kf, .int kz])), (kw, .inl (k1, 20, .inr (.inl kgw))), (kf, .inl (k2, 20, .inl kgf))]) [22, 0, 24, 25, 26, 1, 2, 3, 4, 5, 6, 7, 8, 23, 27, 28, 29, 30, 9, 10, 11, 12, 13, 14, 15, 16, 17, 18, 19, 20, 21] rfl
            have hD9 := hD.sub (ws' := [(h0, .inr (5, [.ref mp, .ref gco, .ref mce, .int mcn, .ref sk, .int ltp, .int lba, .ref kb, .ref kk, .ref ks, .int lon, .ref sh, .int lsn, .int lmat, .int alw, .int lst, .int lmo, .int lmh, .int lsp, .long lre])), (sk, .inl (sk1, 22424, .inr (.inl lgs))), (kb, .inl (kb1, 100, .inl lgkb)), (kk, .inl (kk1, 100, .inl lgkk)), (ks, .inl (ks1, 100, .inl lgks)), (sh, .inl (sh1, 3000, .inl lgsh)), (gco, .inr (2, [.ref cop, .ref ca, .ref cb, .ref cplace, .ref cnext, .ref cneeded, .int cz, .int ct])), (cop, .inl (ckop, 3000, .inl cgop)), (ca, .inl (cka, 3000, .inl cga)), (cb, .inl (ckb, 3000, .inl cgb)), (cplace, .inl (ckplace, 3000, .inl cgplace)), (cnext, .inl (cknext, 3000, .inl cgnext)), (cneeded, .inl (ckneeded, 3000, .inl cgneeded)), (mp, .inr (9, [.ref gco, .ref gar, .ref gki, .ref gfu])), (gfu, .inr (3, [.ref fw, .ref fe, .ref ff, .int fz])), (fw, .inl (f1, 30, .inr (.inl fgw))), (fe, .inl (f2, 30, .inl fge)), (ff, .inl (f3, 150, .inl fgf)), (gar, .inr (0, [.ref akind, .ref anext, .ref abefore, .ref aleave, .ref afirstSlot, .ref abuilds, .int az])), (akind, .inl (akkind, 400, .inl agkind)), (anext, .inl (aknext, 400, .inl agnext)), (abefore, .inl (akbefore, 400, .inl agbefore)), (afirstSlot, .inl (akfirstSlot, 400, .inl agfirstSlot)), (abuilds, .inl (akbuilds, 400, .inl agbuilds)), (mce, .inr (1, [.ref ek, .ref ec, .ref ef, .ref gki, .int e_limit, .int lfr, .int lff, .int lhe, .int lmx, .int lmd, .int lru, .int lfd, .int ldb])), (ek, .inl (e1, 4000, .inl lgk)), (ec, .inl (e2, 4000, .inl lgc)), (ef, .inl (e3, 12000, .inr (.inl lgv))), (gki, .inr (4, [.ref kw, .ref kf, .int kz])), (kw, .inl (k1, 20, .inr (.inl kgw))), (kf, .inl (k2, 20, .inl kgf))]) [22, 0, 24, 25, 26, 1, 2, 3, 4, 5, 6, 7, 8, 23, 27, 28, 29, 30, 9, 10, 11, 12, 13, 14, 15, 16, 17, 18, 19, 20, 21] (by decide) rfl
            have hK9 := hK.sub (tys' := [(sk1, .long), (kb1, .int), (kk1, .int), (ks1, .int), (sh1, .int), (ckop, .int), (cka, .int), (ckb, .int), (ckplace, .int), (cknext, .int), (ckneeded, .int), (f1, .long), (f2, .int), (f3, .int), (akkind, .int), (aknext, .int), (akbefore, .int), (akfirstSlot, .int), (akbuilds, .int), (e1, .int), (e2, .int), (e3, .long), (k1, .long), (k2, .int)]) [0, 18, 19, 20, 1, 2, 3, 4, 5, 6, 7, 21, 22, 23, 8, 9, 10, 11, 12, 13, 14, 15, 16, 17] rfl
            exact W.vret hx hb hr (fun t ht hW => ⟨⟨(lst, lmh, lsp, ltp, lba, lon, lmat, lmo, lsn, lre, lgs, lgkb, lgkk, lgks, lgsh, lgk, lgc, lgv, lfr, lff, lhe, lmx, lmd, lru, lfd, ldb), rfl, ⟨(fun g => hOK.elim (fun u => u.2 g) (fun u => by omega)), (hSM.elim (fun u => u) (fun u => by exfalso; have h9a := cRn_x u.2.2; have h9b := hal; rw [haw] at h9b; omega))⟩, by rw [ht]; exact hP9, va_K.moved hW.alike hK9, hD9⟩, hS.F ht⟩) hS.2.2 dX5_work_43
          · have ic_19 : lmat.toInt ≠ (-1) := zi_ne c_19
            refine lv_aload_n hx hb dX5_work_29 rfl (lv_at hl 1 rfl) ?_
            refine lv_aload_n hx hb dX5_work_30 rfl (lv_at hl 1 rfl) ?_
            refine va_get (D := (dC, dI)) (ci := 5) (v := .int lmat) (C := RX5) (T := TX5) (N := 20) hx hb hA zin_X5 hown hK hP 22 rfl rfl 13 (by decide) (hA _ wi_497) (fun _ h9 => h9) rfl dX5_work_31 ?_
            have hq9 := hOK.resolve_left (fun u => by have := u.1; omega)
            have hq8 := hq9.2.resolve_left (by omega)
            have hra9 : lmat.toInt < 3000 := by obtain ⟨p9, hz9, -⟩ := hq8.2; have h9a := zn_nat hq8.1; exact hz9.elim (fun u => by have := (hwk.1 _ u.1).1; omega) (fun u => by have := (hwk.1 _ u.1).1; omega)
            have hPc := hP.sub (ws' := [(h0, .inr (5, [.ref mp, .ref gco, .ref mce, .int mcn, .ref sk, .int ltp, .int lba, .ref kb, .ref kk, .ref ks, .int lon, .ref sh, .int lsn, .int lmat, .int alw, .int lst, .int lmo, .int lmh, .int lsp, .long lre])), (sk, .inl (sk1, 22424, .inr (.inl lgs))), (kb, .inl (kb1, 100, .inl lgkb)), (kk, .inl (kk1, 100, .inl lgkk)), (ks, .inl (ks1, 100, .inl lgks)), (sh, .inl (sh1, 3000, .inl lgsh)), (gco, .inr (2, [.ref cop, .ref ca, .ref cb, .ref cplace, .ref cnext, .ref cneeded, .int cz, .int ct])), (cop, .inl (ckop, 3000, .inl cgop)), (ca, .inl (cka, 3000, .inl cga)), (cb, .inl (ckb, 3000, .inl cgb)), (cplace, .inl (ckplace, 3000, .inl cgplace)), (cnext, .inl (cknext, 3000, .inl cgnext)), (cneeded, .inl (ckneeded, 3000, .inl cgneeded)), (mp, .inr (9, [.ref gco, .ref gar, .ref gki, .ref gfu])), (gfu, .inr (3, [.ref fw, .ref fe, .ref ff, .int fz])), (fw, .inl (f1, 30, .inr (.inl fgw))), (fe, .inl (f2, 30, .inl fge)), (ff, .inl (f3, 150, .inl fgf)), (gar, .inr (0, [.ref akind, .ref anext, .ref abefore, .ref aleave, .ref afirstSlot, .ref abuilds, .int az])), (akind, .inl (akkind, 400, .inl agkind)), (anext, .inl (aknext, 400, .inl agnext)), (abefore, .inl (akbefore, 400, .inl agbefore)), (afirstSlot, .inl (akfirstSlot, 400, .inl agfirstSlot)), (abuilds, .inl (akbuilds, 400, .inl agbuilds)), (mce, .inr (1, [.ref ek, .ref ec, .ref ef, .ref gki, .int e_limit, .int lfr, .int lff, .int lhe, .int lmx, .int lmd, .int lru, .int lfd, .int ldb])), (ek, .inl (e1, 4000, .inl lgk)), (ec, .inl (e2, 4000, .inl lgc)), (ef, .inl (e3, 12000, .inr (.inl lgv))), (gki, .inr (4, [.ref kw, .ref kf, .int kz])), (kw, .inl (k1, 20, .inr (.inl kgw))), (kf, .inl (k2, 20, .inl kgf))]) [22, 0, 24, 25, 26, 1, 2, 3, 4, 5, 6, 7, 8, 23, 27, 28, 29, 30, 9, 10, 11, 12, 13, 14, 15, 16, 17, 18, 19, 20, 21] rfl
            have hDc := hD.sub (ws' := [(h0, .inr (5, [.ref mp, .ref gco, .ref mce, .int mcn, .ref sk, .int ltp, .int lba, .ref kb, .ref kk, .ref ks, .int lon, .ref sh, .int lsn, .int lmat, .int alw, .int lst, .int lmo, .int lmh, .int lsp, .long lre])), (sk, .inl (sk1, 22424, .inr (.inl lgs))), (kb, .inl (kb1, 100, .inl lgkb)), (kk, .inl (kk1, 100, .inl lgkk)), (ks, .inl (ks1, 100, .inl lgks)), (sh, .inl (sh1, 3000, .inl lgsh)), (gco, .inr (2, [.ref cop, .ref ca, .ref cb, .ref cplace, .ref cnext, .ref cneeded, .int cz, .int ct])), (cop, .inl (ckop, 3000, .inl cgop)), (ca, .inl (cka, 3000, .inl cga)), (cb, .inl (ckb, 3000, .inl cgb)), (cplace, .inl (ckplace, 3000, .inl cgplace)), (cnext, .inl (cknext, 3000, .inl cgnext)), (cneeded, .inl (ckneeded, 3000, .inl cgneeded)), (mp, .inr (9, [.ref gco, .ref gar, .ref gki, .ref gfu])), (gfu, .inr (3, [.ref fw, .ref fe, .ref ff, .int fz])), (fw, .inl (f1, 30, .inr (.inl fgw))), (fe, .inl (f2, 30, .inl fge)), (ff, .inl (f3, 150, .inl fgf)), (gar, .inr (0, [.ref akind, .ref anext, .ref abefore, .ref aleave, .ref afirstSlot, .ref abuilds, .int az])), (akind, .inl (akkind, 400, .inl agkind)), (anext, .inl (aknext, 400, .inl agnext)), (abefore, .inl (akbefore, 400, .inl agbefore)), (afirstSlot, .inl (akfirstSlot, 400, .inl agfirstSlot)), (abuilds, .inl (akbuilds, 400, .inl agbuilds)), (mce, .inr (1, [.ref ek, .ref ec, .ref ef, .ref gki, .int e_limit, .int lfr, .int lff, .int lhe, .int lmx, .int lmd, .int lru, .int lfd, .int ldb])), (ek, .inl (e1, 4000, .inl lgk)), (ec, .inl (e2, 4000, .inl lgc)), (ef, .inl (e3, 12000, .inr (.inl lgv))), (gki, .inr (4, [.ref kw, .ref kf, .int kz])), (kw, .inl (k1, 20, .inr (.inl kgw))), (kf, .inl (k2, 20, .inl kgf))]) [22, 0, 24, 25, 26, 1, 2, 3, 4, 5, 6, 7, 8, 23, 27, 28, 29, 30, 9, 10, 11, 12, 13, 14, 15, 16, 17, 18, 19, 20, 21] (by decide) rfl
            have hKc := hK.sub (tys' := [(sk1, .long), (kb1, .int), (kk1, .int), (ks1, .int), (sh1, .int), (ckop, .int), (cka, .int), (ckb, .int), (ckplace, .int), (cknext, .int), (ckneeded, .int), (f1, .long), (f2, .int), (f3, .int), (akkind, .int), (aknext, .int), (akbefore, .int), (akfirstSlot, .int), (akbuilds, .int), (e1, .int), (e2, .int), (e3, .long), (k1, .long), (k2, .int)]) [0, 18, 19, 20, 1, 2, 3, 4, 5, 6, 7, 21, 22, 23, 8, 9, 10, 11, 12, 13, 14, 15, 16, 17] rfl
            have hFc := va_free (wc := [(h0, .inr (5, [.ref mp, .ref gco, .ref mce, .int mcn, .ref sk, .int ltp, .int lba, .ref kb, .ref kk, .ref ks, .int lon, .ref sh, .int lsn, .int lmat, .int alw, .int lst, .int lmo, .int lmh, .int lsp, .long lre])), (sk, .inl (sk1, 22424, .inr (.inl lgs))), (kb, .inl (kb1, 100, .inl lgkb)), (kk, .inl (kk1, 100, .inl lgkk)), (ks, .inl (ks1, 100, .inl lgks)), (sh, .inl (sh1, 3000, .inl lgsh)), (gco, .inr (2, [.ref cop, .ref ca, .ref cb, .ref cplace, .ref cnext, .ref cneeded, .int cz, .int ct])), (cop, .inl (ckop, 3000, .inl cgop)), (ca, .inl (cka, 3000, .inl cga)), (cb, .inl (ckb, 3000, .inl cgb)), (cplace, .inl (ckplace, 3000, .inl cgplace)), (cnext, .inl (cknext, 3000, .inl cgnext)), (cneeded, .inl (ckneeded, 3000, .inl cgneeded)), (mp, .inr (9, [.ref gco, .ref gar, .ref gki, .ref gfu])), (gfu, .inr (3, [.ref fw, .ref fe, .ref ff, .int fz])), (fw, .inl (f1, 30, .inr (.inl fgw))), (fe, .inl (f2, 30, .inl fge)), (ff, .inl (f3, 150, .inl fgf)), (gar, .inr (0, [.ref akind, .ref anext, .ref abefore, .ref aleave, .ref afirstSlot, .ref abuilds, .int az])), (akind, .inl (akkind, 400, .inl agkind)), (anext, .inl (aknext, 400, .inl agnext)), (abefore, .inl (akbefore, 400, .inl agbefore)), (afirstSlot, .inl (akfirstSlot, 400, .inl agfirstSlot)), (abuilds, .inl (akbuilds, 400, .inl agbuilds)), (mce, .inr (1, [.ref ek, .ref ec, .ref ef, .ref gki, .int e_limit, .int lfr, .int lff, .int lhe, .int lmx, .int lmd, .int lru, .int lfd, .int ldb])), (ek, .inl (e1, 4000, .inl lgk)), (ec, .inl (e2, 4000, .inl lgc)), (ef, .inl (e3, 12000, .inr (.inl lgv))), (gki, .inr (4, [.ref kw, .ref kf, .int kz])), (kw, .inl (k1, 20, .inr (.inl kgw))), (kf, .inl (k2, 20, .inl kgf))]) hD hS hAA [22, 0, 24, 25, 26, 1, 2, 3, 4, 5, 6, 7, 8, 23, 27, 28, 29, 30, 9, 10, 11, 12, 13, 14, 15, 16, 17, 18, 19, 20, 21] rfl
            refine va_callv (va_runV (As := [.int lmat]) (rest := []) ⟨hx, hb, hml, hown, hA⟩ (c_X5_turn_4000 l dC dI aK aV h0 mp gco mce sk kb kk ks sh mcn ltp lba lon lsn lmat alw lst lmo lmh lsp lre sk1 lgs kb1 kk1 ks1 lgkb lgkk lgks sh1 lgsh cop ca cb cplace cnext cneeded ckop cka ckb ckplace cknext ckneeded cz ct cgop cga cgb cgplace cgnext cgneeded gar gfu fw fe ff f1 f2 f3 fz fgw fge fgf akind anext abefore aleave afirstSlot abuilds az akkind aknext akbefore akfirstSlot akbuilds agkind agnext agbefore agfirstSlot agbuilds ek ec ef gki e1 e2 e3 e_limit lfr lff lhe lmx lmd lru lfd ldb lgk lgc lgv kw kf k1 k2 kz kgw kgf lmat nS gS gG gL gT gH gaz gZ gF gal (pm_s0 gF (Int32.toNatClampNeg fu) q1 q2 q3 q4) (Int32.toInt i) H.size (by omega) (by omega) (by omega) (by omega) (by omega) (by omega) (by omega) (by omega) (by omega) (by omega) (by omega) (by omega) (by omega) (by omega) (by omega) (by omega) hkf hnS hcn_ hwk hSq (hKL.resolve_left (by omega)) hq8.2 hTe hPx hkZ (by omega) haw (hSM.resolve_left (fun u => by have := u.1; omega)).2.2) (cwV 1 hA (zw_V wi_1122 wi_1124 wi_42 wi_139 (zw_good wi_1125)) rfl rfl rfl (by decide +kernel) ⟨(Nat.le_of_ble_eq_true rfl), (Nat.le_of_ble_eq_true rfl)⟩) ⟨zP_blind, va_recv hKc hPc (ci := 5) (q0 := 0) rfl rfl, zz_pre hKc hPc hDc hN hT hS hFc⟩ rfl rfl hl.1 rfl (lv_room (Nat.le_of_ble_eq_true rfl)) dX5_work_34 ⟨(Nat.le_of_ble_eq_true rfl), (Nat.le_of_ble_eq_true rfl)⟩) hS (fun q _ h => hFc q h) hFc (fun u t H1 locs ht hvm hw hB hz1 hk1 hS => ?_)
            obtain ⟨st_21, mh_22, sp_23, tp_24, ba_25, on_26, mat_27, mo_28, sn_29, re_30, gs_31, gkb_32, gkk_33, gks_34, gsh_35, gk_36, gc_37, gv_38, fr_39, ff_40, he_41, mx_42, md_43, ru_44, fd_45, dbl_46⟩ := u
            obtain ⟨hP1, hK1, hD1⟩ := hB
            rw [ht] at hP1
            have hK1 := va_K.moved hvm.symm hK1
            obtain ⟨hP, hD⟩ := va_join (wr := []) (w1 := [(h0, .inr (5, [.ref mp, .ref gco, .ref mce, .int mcn, .ref sk, .int tp_24, .int ba_25, .ref kb, .ref kk, .ref ks, .int on_26, .ref sh, .int sn_29, .int mat_27, .int alw, .int st_21, .int mo_28, .int mh_22, .int sp_23, .long re_30])), (sk, .inl (sk1, 22424, .inr (.inl gs_31))), (kb, .inl (kb1, 100, .inl gkb_32)), (kk, .inl (kk1, 100, .inl gkk_33)), (ks, .inl (ks1, 100, .inl gks_34)), (sh, .inl (sh1, 3000, .inl gsh_35)), (gco, .inr (2, [.ref cop, .ref ca, .ref cb, .ref cplace, .ref cnext, .ref cneeded, .int cz, .int ct])), (cop, .inl (ckop, 3000, .inl cgop)), (ca, .inl (cka, 3000, .inl cga)), (cb, .inl (ckb, 3000, .inl cgb)), (cplace, .inl (ckplace, 3000, .inl cgplace)), (cnext, .inl (cknext, 3000, .inl cgnext)), (cneeded, .inl (ckneeded, 3000, .inl cgneeded)), (mp, .inr (9, [.ref gco, .ref gar, .ref gki, .ref gfu])), (gfu, .inr (3, [.ref fw, .ref fe, .ref ff, .int fz])), (fw, .inl (f1, 30, .inr (.inl fgw))), (fe, .inl (f2, 30, .inl fge)), (ff, .inl (f3, 150, .inl fgf)), (gar, .inr (0, [.ref akind, .ref anext, .ref abefore, .ref aleave, .ref afirstSlot, .ref abuilds, .int az])), (akind, .inl (akkind, 400, .inl agkind)), (anext, .inl (aknext, 400, .inl agnext)), (abefore, .inl (akbefore, 400, .inl agbefore)), (afirstSlot, .inl (akfirstSlot, 400, .inl agfirstSlot)), (abuilds, .inl (akbuilds, 400, .inl agbuilds)), (mce, .inr (1, [.ref ek, .ref ec, .ref ef, .ref gki, .int e_limit, .int fr_39, .int ff_40, .int he_41, .int mx_42, .int md_43, .int ru_44, .int fd_45, .int dbl_46])), (ek, .inl (e1, 4000, .inl gk_36)), (ec, .inl (e2, 4000, .inl gc_37)), (ef, .inl (e3, 12000, .inr (.inl gv_38))), (gki, .inr (4, [.ref kw, .ref kf, .int kz])), (kw, .inl (k1, 20, .inr (.inl kgw))), (kf, .inl (k2, 20, .inl kgf))]) hP hD [22, 0, 24, 25, 26, 1, 2, 3, 4, 5, 6, 7, 8, 23, 27, 28, 29, 30, 9, 10, 11, 12, 13, 14, 15, 16, 17, 18, 19, 20, 21] [] rfl rfl (by decide) (by decide) hk1 hFc hP1 hD1
            have hK := (hK.sub (tys' := []) [] rfl).app hK1
            generalize H1 = H at hP hS ⊢
            have hP : va_P (dC, dI) vwCl [(h0, .inr (5, [.ref mp, .ref gco, .ref mce, .int mcn, .ref sk, .int tp_24, .int ba_25, .ref kb, .ref kk, .ref ks, .int on_26, .ref sh, .int sn_29, .int mat_27, .int alw, .int st_21, .int mo_28, .int mh_22, .int sp_23, .long re_30])), (sk, .inl (sk1, 22424, .inr (.inl gs_31))), (kb, .inl (kb1, 100, .inl gkb_32)), (kk, .inl (kk1, 100, .inl gkk_33)), (ks, .inl (ks1, 100, .inl gks_34)), (sh, .inl (sh1, 3000, .inl gsh_35)), (gco, .inr (2, [.ref cop, .ref ca, .ref cb, .ref cplace, .ref cnext, .ref cneeded, .int cz, .int ct])), (cop, .inl (ckop, 3000, .inl cgop)), (ca, .inl (cka, 3000, .inl cga)), (cb, .inl (ckb, 3000, .inl cgb)), (cplace, .inl (ckplace, 3000, .inl cgplace)), (cnext, .inl (cknext, 3000, .inl cgnext)), (cneeded, .inl (ckneeded, 3000, .inl cgneeded)), (mp, .inr (9, [.ref gco, .ref gar, .ref gki, .ref gfu])), (gfu, .inr (3, [.ref fw, .ref fe, .ref ff, .int fz])), (fw, .inl (f1, 30, .inr (.inl fgw))), (fe, .inl (f2, 30, .inl fge)), (ff, .inl (f3, 150, .inl fgf)), (gar, .inr (0, [.ref akind, .ref anext, .ref abefore, .ref aleave, .ref afirstSlot, .ref abuilds, .int az])), (akind, .inl (akkind, 400, .inl agkind)), (anext, .inl (aknext, 400, .inl agnext)), (abefore, .inl (akbefore, 400, .inl agbefore)), (afirstSlot, .inl (akfirstSlot, 400, .inl agfirstSlot)), (abuilds, .inl (akbuilds, 400, .inl agbuilds)), (mce, .inr (1, [.ref ek, .ref ec, .ref ef, .ref gki, .int e_limit, .int fr_39, .int ff_40, .int he_41, .int mx_42, .int md_43, .int ru_44, .int fd_45, .int dbl_46])), (ek, .inl (e1, 4000, .inl gk_36)), (ec, .inl (e2, 4000, .inl gc_37)), (ef, .inl (e3, 12000, .inr (.inl gv_38))), (gki, .inr (4, [.ref kw, .ref kf, .int kz])), (kw, .inl (k1, 20, .inr (.inl kgw))), (kf, .inl (k2, 20, .inl kgf))] H := hP
            have hD : va_D A [(h0, .inr (5, [.ref mp, .ref gco, .ref mce, .int mcn, .ref sk, .int tp_24, .int ba_25, .ref kb, .ref kk, .ref ks, .int on_26, .ref sh, .int sn_29, .int mat_27, .int alw, .int st_21, .int mo_28, .int mh_22, .int sp_23, .long re_30])), (sk, .inl (sk1, 22424, .inr (.inl gs_31))), (kb, .inl (kb1, 100, .inl gkb_32)), (kk, .inl (kk1, 100, .inl gkk_33)), (ks, .inl (ks1, 100, .inl gks_34)), (sh, .inl (sh1, 3000, .inl gsh_35)), (gco, .inr (2, [.ref cop, .ref ca, .ref cb, .ref cplace, .ref cnext, .ref cneeded, .int cz, .int ct])), (cop, .inl (ckop, 3000, .inl cgop)), (ca, .inl (cka, 3000, .inl cga)), (cb, .inl (ckb, 3000, .inl cgb)), (cplace, .inl (ckplace, 3000, .inl cgplace)), (cnext, .inl (cknext, 3000, .inl cgnext)), (cneeded, .inl (ckneeded, 3000, .inl cgneeded)), (mp, .inr (9, [.ref gco, .ref gar, .ref gki, .ref gfu])), (gfu, .inr (3, [.ref fw, .ref fe, .ref ff, .int fz])), (fw, .inl (f1, 30, .inr (.inl fgw))), (fe, .inl (f2, 30, .inl fge)), (ff, .inl (f3, 150, .inl fgf)), (gar, .inr (0, [.ref akind, .ref anext, .ref abefore, .ref aleave, .ref afirstSlot, .ref abuilds, .int az])), (akind, .inl (akkind, 400, .inl agkind)), (anext, .inl (aknext, 400, .inl agnext)), (abefore, .inl (akbefore, 400, .inl agbefore)), (afirstSlot, .inl (akfirstSlot, 400, .inl agfirstSlot)), (abuilds, .inl (akbuilds, 400, .inl agbuilds)), (mce, .inr (1, [.ref ek, .ref ec, .ref ef, .ref gki, .int e_limit, .int fr_39, .int ff_40, .int he_41, .int mx_42, .int md_43, .int ru_44, .int fd_45, .int dbl_46])), (ek, .inl (e1, 4000, .inl gk_36)), (ec, .inl (e2, 4000, .inl gc_37)), (ef, .inl (e3, 12000, .inr (.inl gv_38))), (gki, .inr (4, [.ref kw, .ref kf, .int kz])), (kw, .inl (k1, 20, .inr (.inl kgw))), (kf, .inl (k2, 20, .inl kgf))] := hD
            have hK : va_K (dC, dI) vwCl [(sk1, .long), (kb1, .int), (kk1, .int), (ks1, .int), (sh1, .int), (ckop, .int), (cka, .int), (ckb, .int), (ckplace, .int), (cknext, .int), (ckneeded, .int), (f1, .long), (f2, .int), (f3, .int), (akkind, .int), (aknext, .int), (akbefore, .int), (akfirstSlot, .int), (akbuilds, .int), (e1, .int), (e2, .int), (e3, .long), (k1, .long), (k2, .int)] s := hK
            obtain ⟨hq_47, hq_48, hq_49, hq_50, hq_51, hq_52, hq_53, hq_54, hq_55, hq_56, hq_57, hq_58⟩ := hw
            have hsl9 : lsp.toInt = -1 := (hSM.resolve_left (fun u => by have := u.1; omega)).2.1
            obtain ⟨x_59, ex_59⟩ : ∃ y : Int32, y = i + Int32.ofInt 1 := ⟨_, rfl⟩
            refine lv_iinc (v := x_59) (lv' := [(2, .int x_59), (0, .ref h0), (1, .int fu)]) hx hb dX5_work_37 hl (k := 0) rfl (by rw [ex_59]) (by decide) rfl (fun ls hl => ?_)
            have ix_59 : x_59.toInt = i.toInt + 1 := by rw [ex_59]; exact zi_addc (by decide) (by omega) (by omega)
            refine lv_goto (tgt := 8) hx hb dX5_work_40 (by decide) ?_
            have hKL_60 : mh_22.toInt ≠ 0 ∨ ∀ iq : Nat, (iq : Int) < on_26.toInt → 0 ≤ (gks_34 iq).toInt := hq_56
            have hOK_61 : mh_22.toInt ≠ 0 ∧ (mh_22.toInt = 1 → zRep kz kgf gk_36 gv_38 fr_39 re_30) ∨ mh_22.toInt = 0 ∧ (mat_27.toInt = -1 ∨ 0 ≤ mat_27.toInt ∧ ∃ p9 : Nat → Bool, (zV gS cgneeded gG gL p9 gkb_32 gkk_33 on_26 ba_25 tp_24 st_21 (Int32.toNatClampNeg mat_27) ∨ zV0 gS cgneeded gG gL p9 gkb_32 gkk_33 on_26 ba_25 tp_24 st_21 (Int32.toNatClampNeg mat_27)) ∧ zMP nS kz kgf gk_36 gv_38 fr_39 gs_31 p9 gsh_35 sn_29) := hq_57
            have hSM_62 : cOv gT cgnext gH gaz gZ kz kgf gF gal (pm_s0 gF (Int32.toNatClampNeg fu) q1 q2 q3 q4) gs_31 gkb_32 gkk_33 gk_36 gv_38 on_26 ba_25 tp_24 st_21 fr_39 mat_27 (Int32.toInt x_59) mh_22 sp_23 := by have h9a : Int32.toInt x_59 = Int32.toInt i + 1 := (by omega); rw [h9a]; exact cOv_of hq_58 hq_47 hsl9 (by rw [hT3])
            exact ih x_59 st_21 mh_22 sp_23 tp_24 ba_25 on_26 mat_27 mo_28 sn_29 re_30 gs_31 gkb_32 gkk_33 gks_34 gsh_35 gk_36 gc_37 gv_38 fr_39 ff_40 he_41 mx_42 md_43 ru_44 fd_45 dbl_46 _ _ _ (by omega) (by omega) (by omega) (by omega) (by omega) (by omega) (by omega) (by omega) (by omega) hKL_60 hOK_61 hSM_62 (hP.sub [1, 5, 6, 7, 8, 9, 10, 11, 12, 18, 19, 20, 21, 22, 23, 24, 25, 26, 27, 28, 29, 30, 0, 13, 2, 3, 4, 14, 15, 16, 17] rfl) (hD.sub [1, 5, 6, 7, 8, 9, 10, 11, 12, 18, 19, 20, 21, 22, 23, 24, 25, 26, 27, 28, 29, 30, 0, 13, 2, 3, 4, 14, 15, 16, 17] (by decide) rfl) hS (lv_sub hl [0, 1, 2] rfl)
  have hKL_63 : mh.toInt ≠ 0 ∨ ∀ iq : Nat, (iq : Int) < on_2.toInt → 0 ≤ (gks_9 iq).toInt := Or.inr (zks_up (fun i hi => absurd hi (by omega)) hq_15 (by omega) (by omega) hq_10)
  have hOK_64 : mh.toInt ≠ 0 ∧ (mh.toInt = 1 → zRep kz kgf gk gv e_fresh re) ∨ mh.toInt = 0 ∧ (mat_5.toInt = -1 ∨ 0 ≤ mat_5.toInt ∧ ∃ p9 : Nat → Bool, (zV gS cgneeded gG gL p9 gkb_7 gkk_8 on_2 ba_3 tp_4 st (Int32.toNatClampNeg mat_5) ∨ zV0 gS cgneeded gG gL p9 gkb_7 gkk_8 on_2 ba_3 tp_4 st (Int32.toNatClampNeg mat_5)) ∧ zMP nS kz kgf gk gv e_fresh gs p9 gsh sn) := Or.inr ⟨by omega, Or.inr ⟨by rw [hme9]; exact hv09.1, pp, Or.inr (by rw [hme9]; exact hv09.2), hmd⟩⟩
  have hSM_65 : cOv gT cgnext gH gaz gZ kz kgf gF gal (pm_s0 gF (Int32.toNatClampNeg fu) q1 q2 q3 q4) gs gkb_7 gkk_8 gk gv on_2 ba_3 tp_4 st e_fresh mat_5 (Int32.toInt 0) mh sp := cOv_0 (q := 0) (ct_0 hPx (by rw [hFz]; have h9a := zn_nat (x := fu) (by omega); have h9b := zn_nat (x := fz) (by omega); omega) htl hst (by omega) (by have h9c := htt; omega) (by have h9c := htt; omega) (by rw [hq_13, show Int32.toNatClampNeg on = 0 from by have h9d := zn_nat (x := on) (by omega); omega, zu_s]; have h9c := htt; omega) hf0 hq_16 hmh) hmh hspm
  exact loop_8 _ 0 st mh sp tp_4 ba_3 on_2 mat_5 mo_6 sn re gs gkb_7 gkk_8 gks_9 gsh gk gc gv e_fresh e_firstFree e_held e_mostHeld e_made e_reused e_freed e_doubled _ _ _ (Nat.le_refl _) (by have h9_0 : Int32.toInt 0 = 0 := (by decide); omega) (by have h9_0 : Int32.toInt 0 = 0 := (by decide); omega) (by have h9_0 : Int32.toInt 0 = 0 := (by decide); omega) (by have h9_0 : Int32.toInt 0 = 0 := (by decide); omega) (by have h9_0 : Int32.toInt 0 = 0 := (by decide); omega) (by have h9_0 : Int32.toInt 0 = 0 := (by decide); omega) (by have h9_0 : Int32.toInt 0 = 0 := (by decide); omega) (by have h9_0 : Int32.toInt 0 = 0 := (by decide); omega) hKL_63 hOK_64 hSM_65 (hP.sub [0, 1, 2, 3, 4, 5, 6, 7, 8, 9, 10, 11, 12, 13, 14, 15, 16, 17, 18, 19, 20, 21, 22, 23, 24, 25, 26, 27, 28, 29, 30] rfl) (hD.sub [0, 1, 2, 3, 4, 5, 6, 7, 8, 9, 10, 11, 12, 13, 14, 15, 16, 17, 18, 19, 20, 21, 22, 23, 24, 25, 26, 27, 28, 29, 30] (by decide) rfl) hS (lv_sub hl [0, 1, 2] rfl)

end
section
/-! the printer -/
theorem zl_cmp {v : Int32} {x y : Int64} (e : v = lg_cmp x y) : (v.toInt = 1 ∧ y.toInt < x.toInt) ∨ (v.toInt = 0 ∧ x.toInt = y.toInt) ∨ (v.toInt = -1 ∧ x.toInt < y.toInt) := by
  subst e
  unfold lg_cmp
  by_cases g : x > y
  · rw [if_pos g]; exact Or.inl ⟨by decide, Int64.lt_iff_toInt_lt.mp g⟩
  · rw [if_neg g]
    by_cases h : x = y
    · rw [if_pos h]; exact Or.inr (Or.inl ⟨by decide, by rw [h]⟩)
    · rw [if_neg h]
      refine Or.inr (Or.inr ⟨by decide, ?_⟩)
      have a : ¬ y.toInt < x.toInt := fun u => g (Int64.lt_iff_toInt_lt.mpr u)
      have b : x.toInt ≠ y.toInt := fun u => h (Int64.toInt_inj.mp u)
      omega
/-- cells that may be shown: what their fields refer to may be shown too -/
def zPq (n : Int) (wd : Nat → Nat) (gv : Nat → Int64) (Q : Nat → Prop) : Prop := ∀ c : Nat, Q c → (c : Int) < n ∧ ∀ k, k < wd c → zhs (gv (3 * c + k)) = 2 → 0 ≤ (gv (3 * c + k)).toInt32.toInt ∧ Q (Int32.toNatClampNeg (gv (3 * c + k)).toInt32)
/-- the cells that are open -/
def zPo (Q : Nat → Prop) (oc of : Nat → Int32) (po : Int32) : Prop := ∀ i : Nat, (i : Int) < po.toInt → 0 ≤ (oc i).toInt ∧ Q (Int32.toNatClampNeg (oc i)) ∧ 0 ≤ (of i).toInt
theorem zPo_ad {Q : Nat → Prop} {oc of oc2 of2 : Nat → Int32} {po po2 ce : Int32} (h : zPo Q oc of po) (h0 : 0 ≤ po.toInt) (hc : 0 ≤ ce.toInt) (hq : Q (Int32.toNatClampNeg ce)) (he : po2.toInt = po.toInt + 1 ∧ oc2 = upd oc (Int32.toNatClampNeg po) ce ∧ of2 = upd of (Int32.toNatClampNeg po) 0 ∨ po2.toInt = po.toInt ∧ oc2 = oc ∧ of2 = of) : zPo Q oc2 of2 po2 := fun i hi => by
  have hn := zn_nat h0
  rcases he with ⟨e1, e2, e3⟩ | ⟨e1, e2, e3⟩
  · rw [e2, e3]
    by_cases g : i = Int32.toNatClampNeg po
    · rw [g, zu_s, zu_s]; exact ⟨hc, hq, by decide⟩
    · rw [zu_n g, zu_n g]; exact h i (by omega)
  · rw [e2, e3]; exact h i (by omega)
theorem zPo_lo {Q : Nat → Prop} {oc of : Nat → Int32} {po po2 : Int32} (h : zPo Q oc of po) (e : po2.toInt ≤ po.toInt) : zPo Q oc of po2 := fun i hi => h i (by omega)
theorem zPo_f {Q : Nat → Prop} {oc of of2 : Nat → Int32} {po x : Int32} {j : Nat} (h : zPo Q oc of po) (e : of2 = upd of j x) (hx : 0 ≤ x.toInt) : zPo Q oc of2 po := fun i hi => by
  obtain ⟨a, b, c⟩ := h i hi
  refine ⟨a, b, ?_⟩
  rw [e]
  by_cases g : i = j
  · rw [g, zu_s]; exact hx
  · rw [zu_n g]; exact c
/-- what a run left may be shown -/
theorem zRes_q {kz : Int32} {kf gk gc : Nat → Int32} {gv : Nat → Int64} {fresh ff held dbl : Int32} {re : Int64} (h : zRes kz kf gk gc gv fresh ff held dbl re) : ∃ Q : Nat → Prop, zPq 400 (zwd kz kf gk) gv Q ∧ (zhs re = 2 → 0 ≤ re.toInt32.toInt ∧ Q (Int32.toNatClampNeg re.toInt32)) := by
  obtain ⟨lv, FL, a, b, c⟩ := h
  refine ⟨fun c => lv c = true, fun x hx => ⟨?_, fun k hk h2 => ⟨(b x hx k hk).1 h2, zCS_fl a hx hk h2⟩⟩, fun h2 => ⟨c.1 h2, ?_⟩⟩
  · have := (zCS_li a hx).2.1
    have := a.2.2.1
    omega
  · refine (zCS_lv a ?_).1
    show 1 ≤ zr re _
    rw [zr_c h2 (c.1 h2), if_pos rfl]
    exact Int.le_refl _
theorem zRep_q {kz : Int32} {kf gk : Nat → Int32} {gv : Nat → Int64} {fresh : Int32} {re : Int64} (h : zRep kz kf gk gv fresh re) : ∃ Q : Nat → Prop, zPq 4000 (zwd kz kf gk) gv Q ∧ (zhs re = 2 → 0 ≤ re.toInt32.toInt ∧ Q (Int32.toNatClampNeg re.toInt32)) := by
  obtain ⟨a, b, c⟩ := h
  refine ⟨fun c => (c : Int) < fresh.toInt, fun x hx => ⟨by omega, fun k hk h2 => ?_⟩, fun h2 => ?_⟩
  · have u := b x hx k hk
    have u1 := u.1.1 h2
    have u2 := u.2 h2
    have := zn_nat u1
    exact ⟨u1, by show ((_ : Nat) : Int) < _; omega⟩
  · have u1 := a.1.1 h2
    have u2 := a.2 h2
    have := zn_nat u1
    exact ⟨u1, by show ((_ : Nat) : Int) < _; omega⟩

end
section
theorem wi_1312 : Cond.constantLong RX8 92 (1000000000) ∈ zw := zw_in (List.mem_of_getElem? (i := 1312) (by decide +kernel)) (by decide +kernel)
theorem wi_1313 : Cond.constantLong RX8 94 (10) ∈ zw := zw_in (List.mem_of_getElem? (i := 1313) (by decide +kernel)) (by decide +kernel)
theorem dX8_putInt_0 : decode cX8_putInt 0 = .ok (.iload_n 1, 1) := by decide +kernel
theorem dX8_putInt_1 : decode cX8_putInt 1 = .ok (.i2l, 1) := by decide +kernel
theorem dX8_putInt_2 : decode cX8_putInt 2 = .ok (.lstore_n 2, 1) := by decide +kernel
theorem dX8_putInt_3 : decode cX8_putInt 3 = .ok (.lload_n 2, 1) := by decide +kernel
theorem dX8_putInt_4 : decode cX8_putInt 4 = .ok (.lconst 0, 1) := by decide +kernel
theorem dX8_putInt_5 : decode cX8_putInt 5 = .ok (.lcmp, 1) := by decide +kernel
theorem dX8_putInt_6 : decode cX8_putInt 6 = .ok (.ifCond .ge 12, 3) := by decide +kernel
theorem dX8_putInt_9 : decode cX8_putInt 9 = .ok (.aload_n 0, 1) := by decide +kernel
theorem dX8_putInt_10 : decode cX8_putInt 10 = .ok (.bipush 45, 2) := by decide +kernel
theorem dX8_putInt_12 : decode cX8_putInt 12 = .ok (.invokevirtual 53, 3) := by decide +kernel
theorem dX8_putInt_15 : decode cX8_putInt 15 = .ok (.lload_n 2, 1) := by decide +kernel
theorem dX8_putInt_16 : decode cX8_putInt 16 = .ok (.lneg, 1) := by decide +kernel
theorem dX8_putInt_17 : decode cX8_putInt 17 = .ok (.lstore_n 2, 1) := by decide +kernel
theorem dX8_putInt_18 : decode cX8_putInt 18 = .ok (.ldc2_w 92, 3) := by decide +kernel
theorem dX8_putInt_21 : decode cX8_putInt 21 = .ok (.lstore 4, 2) := by decide +kernel
theorem dX8_putInt_23 : decode cX8_putInt 23 = .ok (.lload 4, 2) := by decide +kernel
theorem dX8_putInt_25 : decode cX8_putInt 25 = .ok (.lconst 1, 1) := by decide +kernel
theorem dX8_putInt_26 : decode cX8_putInt 26 = .ok (.lcmp, 1) := by decide +kernel
theorem dX8_putInt_27 : decode cX8_putInt 27 = .ok (.ifCond .le 21, 3) := by decide +kernel
theorem dX8_putInt_30 : decode cX8_putInt 30 = .ok (.lload 4, 2) := by decide +kernel
theorem dX8_putInt_32 : decode cX8_putInt 32 = .ok (.lload_n 2, 1) := by decide +kernel
theorem dX8_putInt_33 : decode cX8_putInt 33 = .ok (.lcmp, 1) := by decide +kernel
theorem dX8_putInt_34 : decode cX8_putInt 34 = .ok (.ifCond .le 14, 3) := by decide +kernel
theorem dX8_putInt_37 : decode cX8_putInt 37 = .ok (.lload 4, 2) := by decide +kernel
theorem dX8_putInt_39 : decode cX8_putInt 39 = .ok (.ldc2_w 94, 3) := by decide +kernel
theorem dX8_putInt_42 : decode cX8_putInt 42 = .ok (.ldiv, 1) := by decide +kernel
theorem dX8_putInt_43 : decode cX8_putInt 43 = .ok (.lstore 4, 2) := by decide +kernel
theorem dX8_putInt_45 : decode cX8_putInt 45 = .ok (.goto (-22), 3) := by decide +kernel
theorem dX8_putInt_48 : decode cX8_putInt 48 = .ok (.lload 4, 2) := by decide +kernel
theorem dX8_putInt_50 : decode cX8_putInt 50 = .ok (.lconst 0, 1) := by decide +kernel
theorem dX8_putInt_51 : decode cX8_putInt 51 = .ok (.lcmp, 1) := by decide +kernel
theorem dX8_putInt_52 : decode cX8_putInt 52 = .ok (.ifCond .le 30, 3) := by decide +kernel
theorem dX8_putInt_55 : decode cX8_putInt 55 = .ok (.aload_n 0, 1) := by decide +kernel
theorem dX8_putInt_56 : decode cX8_putInt 56 = .ok (.bipush 48, 2) := by decide +kernel
theorem dX8_putInt_58 : decode cX8_putInt 58 = .ok (.lload_n 2, 1) := by decide +kernel
theorem dX8_putInt_59 : decode cX8_putInt 59 = .ok (.lload 4, 2) := by decide +kernel
theorem dX8_putInt_61 : decode cX8_putInt 61 = .ok (.ldiv, 1) := by decide +kernel
theorem dX8_putInt_62 : decode cX8_putInt 62 = .ok (.ldc2_w 94, 3) := by decide +kernel
theorem dX8_putInt_65 : decode cX8_putInt 65 = .ok (.lrem, 1) := by decide +kernel
theorem dX8_putInt_66 : decode cX8_putInt 66 = .ok (.l2i, 1) := by decide +kernel
theorem dX8_putInt_67 : decode cX8_putInt 67 = .ok (.iadd, 1) := by decide +kernel
theorem dX8_putInt_68 : decode cX8_putInt 68 = .ok (.invokevirtual 53, 3) := by decide +kernel
theorem dX8_putInt_71 : decode cX8_putInt 71 = .ok (.lload 4, 2) := by decide +kernel
theorem dX8_putInt_73 : decode cX8_putInt 73 = .ok (.ldc2_w 94, 3) := by decide +kernel
theorem dX8_putInt_76 : decode cX8_putInt 76 = .ok (.ldiv, 1) := by decide +kernel
theorem dX8_putInt_77 : decode cX8_putInt 77 = .ok (.lstore 4, 2) := by decide +kernel
theorem dX8_putInt_79 : decode cX8_putInt 79 = .ok (.goto (-31), 3) := by decide +kernel
theorem dX8_putInt_82 : decode cX8_putInt 82 = .ok (.return_, 1) := by decide +kernel
set_option maxHeartbeats 4000000 in
set_option maxRecDepth 100000 in
theorem c_X8_put_x (l : Launch) (dC : Nat → ClassId) (dI : Nat → Nat → Nat) (aK aV : Nat → Nat) (h0 : Nat) (pb : Nat) (psp : Nat) (poc : Nat) (pof : Nat) (pz : Int32) (ps : Int32) (tl : Int32) (po : Int32) (p2 : ClassId) (gsp : Nat → Int32) (ch : Int32) (sz : Nat) (hps0 : 0 ≤ ps.toInt) (hps1 : ps.toInt ≤ 4000) (hpo0 : 0 ≤ po.toInt) (hpo1 : po.toInt ≤ 2000) : Met l yX8_put (Cond.code yX8_put cX8_put 2 none :: zw) ({ frames := 8, cells := 0, slots := 0, locals := 200 }) (va_Pc [.ref h0, .int ch] (zP dC dI aK aV sz [(p2, .byte)] [(h0, .inr (8, [.ref pb, .int pz, .ref psp, .int ps, .int tl, .ref poc, .ref pof, .int po])), (psp, .inl (p2, 4000, .inl gsp))])) (va_Qv (fun u : Int32 × Int32 × (Nat → Int32) => match u with | (ps2, tl2, gsp2) => (0 ≤ ps2.toInt) ∧ (ps2.toInt ≤ 4000)) (fun u => match u with | (ps2, tl2, gsp2) => zQ dC dI (va_A [(h0, .inr (8, [.ref pb, .int pz, .ref psp, .int ps, .int tl, .ref poc, .ref pof, .int po])), (psp, .inl (p2, 4000, .inl gsp))] sz) [(p2, .byte)] [(h0, .inr (8, [.ref pb, .int pz, .ref psp, .int ps2, .int tl2, .ref poc, .ref pof, .int po])), (psp, .inl (p2, 4000, .inl gsp2))]) (va_A [(h0, .inr (8, [.ref pb, .int pz, .ref psp, .int ps, .int tl, .ref poc, .ref pof, .int po])), (psp, .inl (p2, 4000, .inl gsp))] sz)) 0 0 (va_A [(h0, .inr (8, [.ref pb, .int pz, .ref psp, .int ps, .int tl, .ref poc, .ref pof, .int po])), (psp, .inl (p2, 4000, .inl gsp))] sz) := by
  refine Met.ofW (cc := cX8_put) (maxL := 2) (ret := none) (by decide) rfl ?_
  intro p e s m args below meth c s₁ B hml hv
  obtain ⟨rfl, hsz, hP, hK, hD0, hN, hT⟩ := hv
  have hx := B.exec
  have hb := B.bytes
  have hr := B.returns
  have hts := atoms_spec (ws := Cond.code yX8_put cX8_put 2 none :: zw) B.pre
  have hA : ∀ w ∈ zw, w.before _ s = true := fun w h => hts w (List.mem_cons_of_mem _ h)
  have hown : s.vm.findClass RX8 = some m.cls := findClass_of_methodNamed B.named
  have hlocks := B.notSynchronized
  subst hsz
  have hD := hD0.self (sz := s.heap.size)
  generalize hAe : va_A [(h0, .inr (8, [.ref pb, .int pz, .ref psp, .int ps, .int tl, .ref poc, .ref pof, .int po])), (psp, .inl (p2, 4000, .inl gsp))] s.heap.size = A at hD hT ⊢
  have hAA : ∀ q : Nat, s.heap.size ≤ q → A q := fun q h => by rw [← hAe]; exact Or.inr h
  have hS : va_S A s.heap s.heap [] := va_S.rf
  have hl := lv_entry ([.ref h0, .int ch]) (n := 2) (Nat.le_of_ble_eq_true rfl)
  rw [lg_entry_eq]
  generalize (lg_sl ([.ref h0, .int ch]) ++ List.replicate (2 - (lg_sl ([.ref h0, .int ch])).length) Slot.unset).toArray = ls at hl ⊢
  have hl : lv_has ls 2 [(0, .ref h0), (1, .int ch)] := hl
  refine lv_aload_n hx hb dX8_put_0 rfl (lv_at hl 0 rfl) ?_
  refine va_get (D := (dC, dI)) (ci := 8) (v := .int ps) (C := RX8) (T := TX8) (N := 8) hx hb hA zin_X8 hown hK hP 0 rfl rfl 3 (by decide) (hA _ wi_562) (fun _ h9 => h9) rfl dX8_put_1 ?_
  refine lv_sipush (v := 4000) hx hb dX8_put_4 (by decide) ?_
  refine lv_icmp_ge (tgt := 34) hx hb dX8_put_7 (by decide) (fun c_1 => ?_) (fun c_1 => ?_)
  · have ic_1 : 4000 ≤ ps.toInt := zi_le c_1
    refine lv_aload_n hx hb dX8_put_34 rfl (lv_at hl 0 rfl) ?_
    refine lv_iconst (v := 1) hx hb dX8_put_35 (by decide) ?_
    refine va_put (D := (dC, dI)) (ci := 8) (v := .int 1) (ty := .boolean) (C := RX8) (T := TX8) (N := 8) hx hb hA zin_X8 tyX8 tyX8_ok nmX8 hown hK hP hD hS 0 rfl rfl 4 (by decide) (hA _ wi_563) (fun _ h9 => h9) rfl (by decide +kernel) rfl rfl (Nat.le_of_ble_eq_true rfl) dX8_put_36 (fun H locs hP hD hS => ?_)
    have hP : va_P (dC, dI) vwCl [(h0, .inr (8, [.ref pb, .int pz, .ref psp, .int ps, .int 1, .ref poc, .ref pof, .int po])), (psp, .inl (p2, 4000, .inl gsp))] H := hP
    have hD : va_D A [(h0, .inr (8, [.ref pb, .int pz, .ref psp, .int ps, .int 1, .ref poc, .ref pof, .int po])), (psp, .inl (p2, 4000, .inl gsp))] := hD
    have hP9 := hP.sub (ws' := [(h0, .inr (8, [.ref pb, .int pz, .ref psp, .int ps, .int 1, .ref poc, .ref pof, .int po])), (psp, .inl (p2, 4000, .inl gsp))]) [0, 1] rfl
    have hD9 := hD.sub (ws' := [(h0, .inr (8, [.ref pb, .int pz, .ref psp, .int ps, .int 1, .ref poc, .ref pof, .int po])), (psp, .inl (p2, 4000, .inl gsp))]) [0, 1] (by decide) rfl
    have hK9 := hK.sub (tys' := [(p2, .byte)]) [0] rfl
    exact W.vret hx hb hr (fun t ht hW => ⟨⟨(ps, 1, gsp), rfl, ⟨by omega, by omega⟩, by rw [ht]; exact hP9, va_K.moved hW.alike hK9, hD9⟩, hS.F ht⟩) hS.2.2 dX8_put_39
  · have ic_1 : ps.toInt < 4000 := zi_nle c_1
    refine lv_aload_n hx hb dX8_put_10 rfl (lv_at hl 0 rfl) ?_
    refine va_get (D := (dC, dI)) (ci := 8) (v := .ref psp) (C := RX8) (T := TX8) (N := 8) hx hb hA zin_X8 hown hK hP 0 rfl rfl 2 (by decide) (hA _ wi_561) (fun _ h9 => h9) rfl dX8_put_11 ?_
    refine lv_aload_n hx hb dX8_put_14 rfl (lv_at hl 0 rfl) ?_
    refine va_get (D := (dC, dI)) (ci := 8) (v := .int ps) (C := RX8) (T := TX8) (N := 8) hx hb hA zin_X8 hown hK hP 0 rfl rfl 3 (by decide) (hA _ wi_562) (fun _ h9 => h9) rfl dX8_put_15 ?_
    refine lv_iload_n hx hb dX8_put_18 rfl (lv_at hl 1 rfl) ?_
    obtain ⟨x_2, ex_2⟩ : ∃ z : Int32, z = (Int32.toInt8 ch).toInt32 := ⟨_, rfl⟩
    refine lv_i2b (v := x_2) hx hb dX8_put_19 ex_2.symm ?_
    refine va_bast hx hb hK hP hD hS 1 0 rfl rfl (vp_in_iff.mpr ⟨by omega, by omega⟩) dX8_put_20 (fun H locs hP hD hS => ?_)
    obtain ⟨f_3, ef_3⟩ : ∃ gz9 : Nat → Int32, gz9 = upd gsp (Int32.toNatClampNeg ps) (vp_nar .byte x_2) := ⟨_, rfl⟩
    rw [← ef_3] at hP hD
    have hP : va_P (dC, dI) vwCl [(h0, .inr (8, [.ref pb, .int pz, .ref psp, .int ps, .int tl, .ref poc, .ref pof, .int po])), (psp, .inl (p2, 4000, .inl f_3))] H := hP
    have hD : va_D A [(h0, .inr (8, [.ref pb, .int pz, .ref psp, .int ps, .int tl, .ref poc, .ref pof, .int po])), (psp, .inl (p2, 4000, .inl f_3))] := hD
    refine lv_aload_n hx hb dX8_put_21 rfl (lv_at hl 0 rfl) ?_
    refine lv_dup hx hb dX8_put_22 rfl ?_
    refine va_get (D := (dC, dI)) (ci := 8) (v := .int ps) (C := RX8) (T := TX8) (N := 8) hx hb hA zin_X8 hown hK hP 0 rfl rfl 3 (by decide) (hA _ wi_562) (fun _ h9 => h9) rfl dX8_put_23 ?_
    refine lv_iconst (v := 1) hx hb dX8_put_26 (by decide) ?_
    refine lv_iadd hx hb dX8_put_27 ?_
    refine lv_topi (fun x_4 ex_4 => ?_)
    have ix_4 : x_4.toInt = ps.toInt + 1 := by rw [ex_4]; exact zi_addc (by decide) (by omega) (by omega)
    refine va_put (D := (dC, dI)) (ci := 8) (v := .int x_4) (ty := .int) (C := RX8) (T := TX8) (N := 8) hx hb hA zin_X8 tyX8 tyX8_ok nmX8 hown hK hP hD hS 0 rfl rfl 3 (by decide) (hA _ wi_562) (fun _ h9 => h9) rfl (by decide +kernel) rfl rfl (Nat.le_of_ble_eq_true rfl) dX8_put_28 (fun H locs hP hD hS => ?_)
    have hP : va_P (dC, dI) vwCl [(h0, .inr (8, [.ref pb, .int pz, .ref psp, .int x_4, .int tl, .ref poc, .ref pof, .int po])), (psp, .inl (p2, 4000, .inl f_3))] H := hP
    have hD : va_D A [(h0, .inr (8, [.ref pb, .int pz, .ref psp, .int x_4, .int tl, .ref poc, .ref pof, .int po])), (psp, .inl (p2, 4000, .inl f_3))] := hD
    refine lv_goto (tgt := 39) hx hb dX8_put_31 (by decide) ?_
    have hP9 := hP.sub (ws' := [(h0, .inr (8, [.ref pb, .int pz, .ref psp, .int x_4, .int tl, .ref poc, .ref pof, .int po])), (psp, .inl (p2, 4000, .inl f_3))]) [0, 1] rfl
    have hD9 := hD.sub (ws' := [(h0, .inr (8, [.ref pb, .int pz, .ref psp, .int x_4, .int tl, .ref poc, .ref pof, .int po])), (psp, .inl (p2, 4000, .inl f_3))]) [0, 1] (by decide) rfl
    have hK9 := hK.sub (tys' := [(p2, .byte)]) [0] rfl
    exact W.vret hx hb hr (fun t ht hW => ⟨⟨(x_4, tl, f_3), rfl, ⟨by omega, by omega⟩, by rw [ht]; exact hP9, va_K.moved hW.alike hK9, hD9⟩, hS.F ht⟩) hS.2.2 dX8_put_39
set_option maxHeartbeats 4000000 in
set_option maxRecDepth 100000 in
theorem c_X8_putInt_x (l : Launch) (dC : Nat → ClassId) (dI : Nat → Nat → Nat) (aK aV : Nat → Nat) (h0 : Nat) (pb : Nat) (psp : Nat) (poc : Nat) (pof : Nat) (pz : Int32) (ps : Int32) (tl : Int32) (po : Int32) (p2 : ClassId) (gsp : Nat → Int32) (nu : Int32) (sz : Nat) (hps0 : 0 ≤ ps.toInt) (hps1 : ps.toInt ≤ 4000) (hpo0 : 0 ≤ po.toInt) (hpo1 : po.toInt ≤ 2000) : Met l yX8_putInt (Cond.code yX8_putInt cX8_putInt 6 none :: zw) ({ frames := 10, cells := 0, slots := 0, locals := 300 }) (va_Pc [.ref h0, .int nu] (zP dC dI aK aV sz [(p2, .byte)] [(h0, .inr (8, [.ref pb, .int pz, .ref psp, .int ps, .int tl, .ref poc, .ref pof, .int po])), (psp, .inl (p2, 4000, .inl gsp))])) (va_Qv (fun u : Int32 × Int32 × (Nat → Int32) => match u with | (ps2, tl2, gsp2) => (0 ≤ ps2.toInt) ∧ (ps2.toInt ≤ 4000)) (fun u => match u with | (ps2, tl2, gsp2) => zQ dC dI (va_A [(h0, .inr (8, [.ref pb, .int pz, .ref psp, .int ps, .int tl, .ref poc, .ref pof, .int po])), (psp, .inl (p2, 4000, .inl gsp))] sz) [(p2, .byte)] [(h0, .inr (8, [.ref pb, .int pz, .ref psp, .int ps2, .int tl2, .ref poc, .ref pof, .int po])), (psp, .inl (p2, 4000, .inl gsp2))]) (va_A [(h0, .inr (8, [.ref pb, .int pz, .ref psp, .int ps, .int tl, .ref poc, .ref pof, .int po])), (psp, .inl (p2, 4000, .inl gsp))] sz)) 0 0 (va_A [(h0, .inr (8, [.ref pb, .int pz, .ref psp, .int ps, .int tl, .ref poc, .ref pof, .int po])), (psp, .inl (p2, 4000, .inl gsp))] sz) := by
  refine Met.ofW (cc := cX8_putInt) (maxL := 6) (ret := none) (by decide) rfl ?_
  intro p e s m args below meth c s₁ B hml hv
  obtain ⟨rfl, hsz, hP, hK, hD0, hN, hT⟩ := hv
  have hx := B.exec
  have hb := B.bytes
  have hr := B.returns
  have hts := atoms_spec (ws := Cond.code yX8_putInt cX8_putInt 6 none :: zw) B.pre
  have hA : ∀ w ∈ zw, w.before _ s = true := fun w h => hts w (List.mem_cons_of_mem _ h)
  have hown : s.vm.findClass RX8 = some m.cls := findClass_of_methodNamed B.named
  have hlocks := B.notSynchronized
  subst hsz
  have hD := hD0.self (sz := s.heap.size)
  generalize hAe : va_A [(h0, .inr (8, [.ref pb, .int pz, .ref psp, .int ps, .int tl, .ref poc, .ref pof, .int po])), (psp, .inl (p2, 4000, .inl gsp))] s.heap.size = A at hD hT ⊢
  have hAA : ∀ q : Nat, s.heap.size ≤ q → A q := fun q h => by rw [← hAe]; exact Or.inr h
  have hS : va_S A s.heap s.heap [] := va_S.rf
  have hl := lv_entry ([.ref h0, .int nu]) (n := 6) (Nat.le_of_ble_eq_true rfl)
  rw [lg_entry_eq]
  generalize (lg_sl ([.ref h0, .int nu]) ++ List.replicate (6 - (lg_sl ([.ref h0, .int nu])).length) Slot.unset).toArray = ls at hl ⊢
  have hl : lv_has ls 6 [(0, .ref h0), (1, .int nu)] := hl
  refine lv_iload_n hx hb dX8_putInt_0 rfl (lv_at hl 1 rfl) ?_
  obtain ⟨x_1, ex_1⟩ : ∃ z : Int64, z = Int32.toInt64 nu := ⟨_, rfl⟩
  refine lv_i2l (v := x_1) hx hb dX8_putInt_1 ex_1.symm ?_
  refine lv_lstore_n (lv' := [(2, .long x_1), (0, .ref h0), (1, .int nu)]) hx hb dX8_putInt_2 rfl hl (by decide) rfl (fun ls hl => ?_)
  refine lv_lload_n hx hb dX8_putInt_3 rfl (lv_at hl 0 rfl) ?_
  refine lv_lconst (v := 0) hx hb dX8_putInt_4 (by decide) ?_
  refine W.lcmp hx hb dX8_putInt_5 ?_
  refine lv_topi (fun x_2 ex_2 => ?_)
  have lx_2 := zl_cmp ex_2
  have hl_3 : Int64.toInt 0 = 0 := by decide
  refine lv_if_ge (tgt := 18) hx hb dX8_putInt_6 (by decide) (fun c_4 => ?_) (fun c_4 => ?_)
  · have ic_4 : 0 ≤ x_2.toInt := zi_le c_4
    refine lv_ldc2 (v := 1000000000) hx hb hown (hA _ wi_1312) dX8_putInt_18 ?_
    refine lv_topl (fun un0 eun0 => ?_)
    have iun0 : un0.toInt = 1000000000 := by rw [eun0]; decide
    refine lv_lstore (lv' := [(4, .long un0), (2, .long x_1), (0, .ref h0), (1, .int nu)]) hx hb dX8_putInt_21 hl (by decide) rfl (fun ls hl => ?_)
    have loop_23 : ∀ (n9 : Nat) (un : Int64) (H : Heap) (locs : List Loc) (ls : Array Slot), (un.toInt + 1).toNat ≤ n9 → 0 ≤ un.toInt → un.toInt ≤ 1000000000 → va_P (dC, dI) vwCl [(h0, .inr (8, [.ref pb, .int pz, .ref psp, .int ps, .int tl, .ref poc, .ref pof, .int po])), (psp, .inl (p2, 4000, .inl gsp))] H → va_D A [(h0, .inr (8, [.ref pb, .int pz, .ref psp, .int ps, .int tl, .ref poc, .ref pof, .int po])), (psp, .inl (p2, 4000, .inl gsp))] → va_S A s.heap H locs → lv_has ls 6 [(4, .long un), (2, .long x_1), (0, .ref h0), (1, .int nu)] → W p l e (headSpec (Cond.code yX8_putInt cX8_putInt 6 none :: zw) ({ frames := 10, cells := 0, slots := 0, locals := 300 })).room s m #[.ref h0, .int nu] below meth c H locs 0 0 (MQ below (va_Qv (fun u : Int32 × Int32 × (Nat → Int32) => match u with | (ps2, tl2, gsp2) => (0 ≤ ps2.toInt) ∧ (ps2.toInt ≤ 4000)) (fun u => match u with | (ps2, tl2, gsp2) => zQ dC dI A [(p2, .byte)] [(h0, .inr (8, [.ref pb, .int pz, .ref psp, .int ps2, .int tl2, .ref poc, .ref pof, .int po])), (psp, .inl (p2, 4000, .inl gsp2))]) A) #[.ref h0, .int nu] s 0 0 A) (F0 m 23 ls []) := by
      intro n9
      induction n9 with
      | zero => intro un H locs ls hm hu0 hu1; exfalso; omega
      | succ n9 ih =>
        intro un H locs ls hm hu0 hu1 hP hD hS hl
        refine lv_lload hx hb dX8_putInt_23 (lv_at hl 0 rfl) ?_
        refine lv_lconst (v := 1) hx hb dX8_putInt_25 (by decide) ?_
        refine W.lcmp hx hb dX8_putInt_26 ?_
        refine lv_topi (fun x_5 ex_5 => ?_)
        have lx_5 := zl_cmp ex_5
        have hl_6 : Int64.toInt 1 = 1 := by decide
        refine lv_if_le (tgt := 48) hx hb dX8_putInt_27 (by decide) (fun c_7 => ?_) (fun c_7 => ?_)
        · have ic_7 : x_5.toInt ≤ 0 := zi_le c_7
          have loop_48 : ∀ (n9 : Nat) (uq : Int64) (lps : Int32) (ltl : Int32) (lgs : Nat → Int32) (H : Heap) (locs : List Loc) (ls : Array Slot), (uq.toInt + 1).toNat ≤ n9 → 0 ≤ uq.toInt → uq.toInt ≤ 1000000000 → 0 ≤ lps.toInt → lps.toInt ≤ 4000 → va_P (dC, dI) vwCl [(h0, .inr (8, [.ref pb, .int pz, .ref psp, .int lps, .int ltl, .ref poc, .ref pof, .int po])), (psp, .inl (p2, 4000, .inl lgs))] H → va_D A [(h0, .inr (8, [.ref pb, .int pz, .ref psp, .int lps, .int ltl, .ref poc, .ref pof, .int po])), (psp, .inl (p2, 4000, .inl lgs))] → va_S A s.heap H locs → lv_has ls 6 [(4, .long uq), (2, .long x_1), (0, .ref h0), (1, .int nu)] → W p l e (headSpec (Cond.code yX8_putInt cX8_putInt 6 none :: zw) ({ frames := 10, cells := 0, slots := 0, locals := 300 })).room s m #[.ref h0, .int nu] below meth c H locs 0 0 (MQ below (va_Qv (fun u : Int32 × Int32 × (Nat → Int32) => match u with | (ps2, tl2, gsp2) => (0 ≤ ps2.toInt) ∧ (ps2.toInt ≤ 4000)) (fun u => match u with | (ps2, tl2, gsp2) => zQ dC dI A [(p2, .byte)] [(h0, .inr (8, [.ref pb, .int pz, .ref psp, .int ps2, .int tl2, .ref poc, .ref pof, .int po])), (psp, .inl (p2, 4000, .inl gsp2))]) A) #[.ref h0, .int nu] s 0 0 A) (F0 m 48 ls []) := by
            intro n9
            induction n9 with
            | zero => intro uq lps ltl lgs H locs ls hm hq0 hq1 hl0 hl1; exfalso; omega
            | succ n9 ih_48 =>
              intro uq lps ltl lgs H locs ls hm hq0 hq1 hl0 hl1 hP hD hS hl
              refine lv_lload hx hb dX8_putInt_48 (lv_at hl 0 rfl) ?_
              refine lv_lconst (v := 0) hx hb dX8_putInt_50 (by decide) ?_
              refine W.lcmp hx hb dX8_putInt_51 ?_
              refine lv_topi (fun x_8 ex_8 => ?_)
              have lx_8 := zl_cmp ex_8
              have hl_9 : Int64.toInt 0 = 0 := by decide
              refine lv_if_le (tgt := 82) hx hb dX8_putInt_52 (by decide) (fun c_10 => ?_) (fun c_10 => ?_)
              · have ic_10 : x_8.toInt ≤ 0 := zi_le c_10
                have hP9 := hP.sub (ws' := [(h0, .inr (8, [.ref pb, .int pz, .ref psp, .int lps, .int ltl, .ref poc, .ref pof, .int po])), (psp, .inl (p2, 4000, .inl lgs))]) [0, 1] rfl
                have hD9 := hD.sub (ws' := [(h0, .inr (8, [.ref pb, .int pz, .ref psp, .int lps, .int ltl, .ref poc, .ref pof, .int po])), (psp, .inl (p2, 4000, .inl lgs))]) [0, 1] (by decide) rfl
                have hK9 := hK.sub (tys' := [(p2, .byte)]) [0] rfl
                exact W.vret hx hb hr (fun t ht hW => ⟨⟨(lps, ltl, lgs), rfl, ⟨by omega, by omega⟩, by rw [ht]; exact hP9, va_K.moved hW.alike hK9, hD9⟩, hS.F ht⟩) hS.2.2 dX8_putInt_82
              · have ic_10 : 0 < x_8.toInt := zi_nle c_10
                refine lv_aload_n hx hb dX8_putInt_55 rfl (lv_at hl 2 rfl) ?_
                refine lv_bipush (v := 48) hx hb dX8_putInt_56 (by decide) ?_
                refine lv_lload_n hx hb dX8_putInt_58 rfl (lv_at hl 1 rfl) ?_
                refine lv_lload hx hb dX8_putInt_59 (lv_at hl 0 rfl) ?_
                refine lv_ldiv hx hb dX8_putInt_61 (fun g => by have h9a : uq.toInt = 0 := (by rw [g]; decide); omega) ?_
                refine lv_topl (fun x_11 ex_11 => ?_)
                refine lv_ldc2 (v := 10) hx hb hown (hA _ wi_1313) dX8_putInt_62 ?_
                refine lv_lrem hx hb dX8_putInt_65 (by decide) ?_
                refine lv_topl (fun x_12 ex_12 => ?_)
                refine lv_l2i hx hb dX8_putInt_66 rfl ?_
                refine lv_topi (fun x_13 ex_13 => ?_)
                refine lv_iadd hx hb dX8_putInt_67 ?_
                refine lv_topi (fun x_14 ex_14 => ?_)
                have hPc := hP.sub (ws' := [(h0, .inr (8, [.ref pb, .int pz, .ref psp, .int lps, .int ltl, .ref poc, .ref pof, .int po])), (psp, .inl (p2, 4000, .inl lgs))]) [0, 1] rfl
                have hDc := hD.sub (ws' := [(h0, .inr (8, [.ref pb, .int pz, .ref psp, .int lps, .int ltl, .ref poc, .ref pof, .int po])), (psp, .inl (p2, 4000, .inl lgs))]) [0, 1] (by decide) rfl
                have hKc := hK.sub (tys' := [(p2, .byte)]) [0] rfl
                have hFc := va_free (wc := [(h0, .inr (8, [.ref pb, .int pz, .ref psp, .int lps, .int ltl, .ref poc, .ref pof, .int po])), (psp, .inl (p2, 4000, .inl lgs))]) hD hS hAA [0, 1] rfl
                refine va_callv (va_runV (As := [.int x_14]) (rest := []) ⟨hx, hb, hml, hown, hA⟩ (c_X8_put_x l dC dI aK aV h0 pb psp poc pof pz lps ltl po p2 lgs x_14 H.size (by omega) (by omega) (by omega) (by omega)) (cwV 1 hA (zw_V wi_1308 wi_1310 wi_69 wi_142 (zw_good wi_1311)) rfl rfl rfl (by decide +kernel) ⟨(Nat.le_of_ble_eq_true rfl), (Nat.le_of_ble_eq_true rfl)⟩) ⟨zP_blind, va_recv hKc hPc (ci := 8) (q0 := 0) rfl rfl, zz_pre hKc hPc hDc hN hT hS hFc⟩ rfl rfl hl.1 rfl (lv_room (Nat.le_of_ble_eq_true rfl)) dX8_putInt_68 ⟨(Nat.le_of_ble_eq_true rfl), (Nat.le_of_ble_eq_true rfl)⟩) hS (fun q _ h => hFc q h) hFc (fun u t H1 locs ht hvm hw hB hz1 hk1 hS => ?_)
                obtain ⟨ps_16, tl_17, gsp_18⟩ := u
                obtain ⟨hP1, hK1, hD1⟩ := hB
                rw [ht] at hP1
                have hK1 := va_K.moved hvm.symm hK1
                obtain ⟨hP, hD⟩ := va_join (wr := []) (w1 := [(h0, .inr (8, [.ref pb, .int pz, .ref psp, .int ps_16, .int tl_17, .ref poc, .ref pof, .int po])), (psp, .inl (p2, 4000, .inl gsp_18))]) hP hD [0, 1] [] rfl rfl (by decide) (by decide) hk1 hFc hP1 hD1
                have hK := (hK.sub (tys' := []) [] rfl).app hK1
                generalize H1 = H at hP hS ⊢
                have hP : va_P (dC, dI) vwCl [(h0, .inr (8, [.ref pb, .int pz, .ref psp, .int ps_16, .int tl_17, .ref poc, .ref pof, .int po])), (psp, .inl (p2, 4000, .inl gsp_18))] H := hP
                have hD : va_D A [(h0, .inr (8, [.ref pb, .int pz, .ref psp, .int ps_16, .int tl_17, .ref poc, .ref pof, .int po])), (psp, .inl (p2, 4000, .inl gsp_18))] := hD
                have hK : va_K (dC, dI) vwCl [(p2, .byte)] s := hK
                obtain ⟨hq_19, hq_20⟩ := hw
                refine lv_lload hx hb dX8_putInt_71 (lv_at hl 0 rfl) ?_
                refine lv_ldc2 (v := 10) hx hb hown (hA _ wi_1313) dX8_putInt_73 ?_
                refine lv_ldiv hx hb dX8_putInt_76 (by decide) ?_
                refine lv_topl (fun x_21 ex_21 => ?_)
                have ix_21 : x_21.toInt = uq.toInt / 10 := by rw [ex_21]; exact (lg_ldiv_nonneg (by omega) (by decide)).trans (by rw [show Int64.toInt 10 = 10 from by decide])
                refine lv_lstore (lv' := [(4, .long x_21), (2, .long x_1), (0, .ref h0), (1, .int nu)]) hx hb dX8_putInt_77 hl (by decide) rfl (fun ls hl => ?_)
                refine lv_goto (tgt := 48) hx hb dX8_putInt_79 (by decide) ?_
                exact ih_48 x_21 ps_16 tl_17 gsp_18 _ _ _ (by omega) (by omega) (by omega) (by omega) (by omega) (hP.sub [0, 1] rfl) (hD.sub [0, 1] (by decide) rfl) hS (lv_sub hl [0, 1, 2, 3] rfl)
          exact loop_48 _ un ps tl gsp _ _ _ (Nat.le_refl _) (by omega) (by omega) (by omega) (by omega) (hP.sub [0, 1] rfl) (hD.sub [0, 1] (by decide) rfl) hS (lv_sub hl [0, 1, 2, 3] rfl)
        · have ic_7 : 0 < x_5.toInt := zi_nle c_7
          refine lv_lload hx hb dX8_putInt_30 (lv_at hl 0 rfl) ?_
          refine lv_lload_n hx hb dX8_putInt_32 rfl (lv_at hl 1 rfl) ?_
          refine W.lcmp hx hb dX8_putInt_33 ?_
          refine lv_topi (fun x_22 ex_22 => ?_)
          have lx_22 := zl_cmp ex_22
          refine lv_if_le (tgt := 48) hx hb dX8_putInt_34 (by decide) (fun c_23 => ?_) (fun c_23 => ?_)
          · have ic_23 : x_22.toInt ≤ 0 := zi_le c_23
            have loop_48 : ∀ (n9 : Nat) (uq : Int64) (lps : Int32) (ltl : Int32) (lgs : Nat → Int32) (H : Heap) (locs : List Loc) (ls : Array Slot), (uq.toInt + 1).toNat ≤ n9 → 0 ≤ uq.toInt → uq.toInt ≤ 1000000000 → 0 ≤ lps.toInt → lps.toInt ≤ 4000 → va_P (dC, dI) vwCl [(h0, .inr (8, [.ref pb, .int pz, .ref psp, .int lps, .int ltl, .ref poc, .ref pof, .int po])), (psp, .inl (p2, 4000, .inl lgs))] H → va_D A [(h0, .inr (8, [.ref pb, .int pz, .ref psp, .int lps, .int ltl, .ref poc, .ref pof, .int po])), (psp, .inl (p2, 4000, .inl lgs))] → va_S A s.heap H locs → lv_has ls 6 [(4, .long uq), (2, .long x_1), (0, .ref h0), (1, .int nu)] → W p l e (headSpec (Cond.code yX8_putInt cX8_putInt 6 none :: zw) ({ frames := 10, cells := 0, slots := 0, locals := 300 })).room s m #[.ref h0, .int nu] below meth c H locs 0 0 (MQ below (va_Qv (fun u : Int32 × Int32 × (Nat → Int32) => match u with | (ps2, tl2, gsp2) => (0 ≤ ps2.toInt) ∧ (ps2.toInt ≤ 4000)) (fun u => match u with | (ps2, tl2, gsp2) => zQ dC dI A [(p2, .byte)] [(h0, .inr (8, [.ref pb, .int pz, .ref psp, .int ps2, .int tl2, .ref poc, .ref pof, .int po])), (psp, .inl (p2, 4000, .inl gsp2))]) A) #[.ref h0, .int nu] s 0 0 A) (F0 m 48 ls []) := by
              intro n9
              induction n9 with
              | zero => intro uq lps ltl lgs H locs ls hm hq0 hq1 hl0 hl1; exfalso; omega
              | succ n9 ih_48 =>
                intro uq lps ltl lgs H locs ls hm hq0 hq1 hl0 hl1 hP hD hS hl
                refine lv_lload hx hb dX8_putInt_48 (lv_at hl 0 rfl) ?_
                refine lv_lconst (v := 0) hx hb dX8_putInt_50 (by decide) ?_
                refine W.lcmp hx hb dX8_putInt_51 ?_
                refine lv_topi (fun x_24 ex_24 => ?_)
                have lx_24 := zl_cmp ex_24
                have hl_25 : Int64.toInt 0 = 0 := by decide
                refine lv_if_le (tgt := 82) hx hb dX8_putInt_52 (by decide) (fun c_26 => ?_) (fun c_26 => ?_)
                · have ic_26 : x_24.toInt ≤ 0 := zi_le c_26
                  have hP9 := hP.sub (ws' := [(h0, .inr (8, [.ref pb, .int pz, .ref psp, .int lps, .int ltl, .ref poc, .ref pof, .int po])), (psp, .inl (p2, 4000, .inl lgs))]) [0, 1] rfl
                  have hD9 := hD.sub (ws' := [(h0, .inr (8, [.ref pb, .int pz, .ref psp, .int lps, .int ltl, .ref poc, .ref pof, .int po])), (psp, .inl (p2, 4000, .inl lgs))]) [0, 1] (by decide) rfl
                  have hK9 := hK.sub (tys' := [(p2, .byte)]) [0] rfl
                  exact W.vret hx hb hr (fun t ht hW => ⟨⟨(lps, ltl, lgs), rfl, ⟨by omega, by omega⟩, by rw [ht]; exact hP9, va_K.moved hW.alike hK9, hD9⟩, hS.F ht⟩) hS.2.2 dX8_putInt_82
                · have ic_26 : 0 < x_24.toInt := zi_nle c_26
                  refine lv_aload_n hx hb dX8_putInt_55 rfl (lv_at hl 2 rfl) ?_
                  refine lv_bipush (v := 48) hx hb dX8_putInt_56 (by decide) ?_
                  refine lv_lload_n hx hb dX8_putInt_58 rfl (lv_at hl 1 rfl) ?_
                  refine lv_lload hx hb dX8_putInt_59 (lv_at hl 0 rfl) ?_
                  refine lv_ldiv hx hb dX8_putInt_61 (fun g => by have h9a : uq.toInt = 0 := (by rw [g]; decide); omega) ?_
                  refine lv_topl (fun x_27 ex_27 => ?_)
                  refine lv_ldc2 (v := 10) hx hb hown (hA _ wi_1313) dX8_putInt_62 ?_
                  refine lv_lrem hx hb dX8_putInt_65 (by decide) ?_
                  refine lv_topl (fun x_28 ex_28 => ?_)
                  refine lv_l2i hx hb dX8_putInt_66 rfl ?_
                  refine lv_topi (fun x_29 ex_29 => ?_)
                  refine lv_iadd hx hb dX8_putInt_67 ?_
                  refine lv_topi (fun x_30 ex_30 => ?_)
                  have hPc := hP.sub (ws' := [(h0, .inr (8, [.ref pb, .int pz, .ref psp, .int lps, .int ltl, .ref poc, .ref pof, .int po])), (psp, .inl (p2, 4000, .inl lgs))]) [0, 1] rfl
                  have hDc := hD.sub (ws' := [(h0, .inr (8, [.ref pb, .int pz, .ref psp, .int lps, .int ltl, .ref poc, .ref pof, .int po])), (psp, .inl (p2, 4000, .inl lgs))]) [0, 1] (by decide) rfl
                  have hKc := hK.sub (tys' := [(p2, .byte)]) [0] rfl
                  have hFc := va_free (wc := [(h0, .inr (8, [.ref pb, .int pz, .ref psp, .int lps, .int ltl, .ref poc, .ref pof, .int po])), (psp, .inl (p2, 4000, .inl lgs))]) hD hS hAA [0, 1] rfl
                  refine va_callv (va_runV (As := [.int x_30]) (rest := []) ⟨hx, hb, hml, hown, hA⟩ (c_X8_put_x l dC dI aK aV h0 pb psp poc pof pz lps ltl po p2 lgs x_30 H.size (by omega) (by omega) (by omega) (by omega)) (cwV 1 hA (zw_V wi_1308 wi_1310 wi_69 wi_142 (zw_good wi_1311)) rfl rfl rfl (by decide +kernel) ⟨(Nat.le_of_ble_eq_true rfl), (Nat.le_of_ble_eq_true rfl)⟩) ⟨zP_blind, va_recv hKc hPc (ci := 8) (q0 := 0) rfl rfl, zz_pre hKc hPc hDc hN hT hS hFc⟩ rfl rfl hl.1 rfl (lv_room (Nat.le_of_ble_eq_true rfl)) dX8_putInt_68 ⟨(Nat.le_of_ble_eq_true rfl), (Nat.le_of_ble_eq_true rfl)⟩) hS (fun q _ h => hFc q h) hFc (fun u t H1 locs ht hvm hw hB hz1 hk1 hS => ?_)
                  obtain ⟨ps_32, tl_33, gsp_34⟩ := u
                  obtain ⟨hP1, hK1, hD1⟩ := hB
                  rw [ht] at hP1
                  have hK1 := va_K.moved hvm.symm hK1
                  obtain ⟨hP, hD⟩ := va_join (wr := []) (w1 := [(h0, .inr (8, [.ref pb, .int pz, .ref psp, .int ps_32, .int tl_33, .ref poc, .ref pof, .int po])), (psp, .inl (p2, 4000, .inl gsp_34))]) hP hD [0, 1] [] rfl rfl (by decide) (by decide) hk1 hFc hP1 hD1
                  have hK := (hK.sub (tys' := []) [] rfl).app hK1
                  generalize H1 = H at hP hS ⊢
                  have hP : va_P (dC, dI) vwCl [(h0, .inr (8, [.ref pb, .int pz, .ref psp, .int ps_32, .int tl_33, .ref poc, .ref pof, .int po])), (psp, .inl (p2, 4000, .inl gsp_34))] H := hP
                  have hD : va_D A [(h0, .inr (8, [.ref pb, .int pz, .ref psp, .int ps_32, .int tl_33, .ref poc, .ref pof, .int po])), (psp, .inl (p2, 4000, .inl gsp_34))] := hD
                  have hK : va_K (dC, dI) vwCl [(p2, .byte)] s := hK
                  obtain ⟨hq_35, hq_36⟩ := hw
                  refine lv_lload hx hb dX8_putInt_71 (lv_at hl 0 rfl) ?_
                  refine lv_ldc2 (v := 10) hx hb hown (hA _ wi_1313) dX8_putInt_73 ?_
                  refine lv_ldiv hx hb dX8_putInt_76 (by decide) ?_
                  refine lv_topl (fun x_37 ex_37 => ?_)
                  have ix_37 : x_37.toInt = uq.toInt / 10 := by rw [ex_37]; exact (lg_ldiv_nonneg (by omega) (by decide)).trans (by rw [show Int64.toInt 10 = 10 from by decide])
                  refine lv_lstore (lv' := [(4, .long x_37), (2, .long x_1), (0, .ref h0), (1, .int nu)]) hx hb dX8_putInt_77 hl (by decide) rfl (fun ls hl => ?_)
                  refine lv_goto (tgt := 48) hx hb dX8_putInt_79 (by decide) ?_
                  exact ih_48 x_37 ps_32 tl_33 gsp_34 _ _ _ (by omega) (by omega) (by omega) (by omega) (by omega) (hP.sub [0, 1] rfl) (hD.sub [0, 1] (by decide) rfl) hS (lv_sub hl [0, 1, 2, 3] rfl)
            exact loop_48 _ un ps tl gsp _ _ _ (Nat.le_refl _) (by omega) (by omega) (by omega) (by omega) (hP.sub [0, 1] rfl) (hD.sub [0, 1] (by decide) rfl) hS (lv_sub hl [0, 1, 2, 3] rfl)
          · have ic_23 : 0 < x_22.toInt := zi_nle c_23
            refine lv_lload hx hb dX8_putInt_37 (lv_at hl 0 rfl) ?_
            refine lv_ldc2 (v := 10) hx hb hown (hA _ wi_1313) dX8_putInt_39 ?_
            refine lv_ldiv hx hb dX8_putInt_42 (by decide) ?_
            refine lv_topl (fun x_38 ex_38 => ?_)
            have ix_38 : x_38.toInt = un.toInt / 10 := by rw [ex_38]; exact (lg_ldiv_nonneg (by omega) (by decide)).trans (by rw [show Int64.toInt 10 = 10 from by decide])
            refine lv_lstore (lv' := [(4, .long x_38), (2, .long x_1), (0, .ref h0), (1, .int nu)]) hx hb dX8_putInt_43 hl (by decide) rfl (fun ls hl => ?_)
            refine lv_goto (tgt := 23) hx hb dX8_putInt_45 (by decide) ?_
            exact ih x_38 _ _ _ (by omega) (by omega) (by omega) (hP.sub [0, 1] rfl) (hD.sub [0, 1] (by decide) rfl) hS (lv_sub hl [0, 1, 2, 3] rfl)
    exact loop_23 _ un0 _ _ _ (Nat.le_refl _) (by omega) (by omega) (hP.sub [0, 1] rfl) (hD.sub [0, 1] (by decide) rfl) hS (lv_sub hl [0, 1, 2, 3] rfl)
  · have ic_4 : x_2.toInt < 0 := zi_nle c_4
    refine lv_aload_n hx hb dX8_putInt_9 rfl (lv_at hl 1 rfl) ?_
    refine lv_bipush (v := 45) hx hb dX8_putInt_10 (by decide) ?_
    have hPc := hP.sub (ws' := [(h0, .inr (8, [.ref pb, .int pz, .ref psp, .int ps, .int tl, .ref poc, .ref pof, .int po])), (psp, .inl (p2, 4000, .inl gsp))]) [0, 1] rfl
    have hDc := hD.sub (ws' := [(h0, .inr (8, [.ref pb, .int pz, .ref psp, .int ps, .int tl, .ref poc, .ref pof, .int po])), (psp, .inl (p2, 4000, .inl gsp))]) [0, 1] (by decide) rfl
    have hKc := hK.sub (tys' := [(p2, .byte)]) [0] rfl
    have hFc := va_free (wc := [(h0, .inr (8, [.ref pb, .int pz, .ref psp, .int ps, .int tl, .ref poc, .ref pof, .int po])), (psp, .inl (p2, 4000, .inl gsp))]) hD hS hAA [0, 1] rfl
    refine va_callv (va_runV (As := [.int 45]) (rest := []) ⟨hx, hb, hml, hown, hA⟩ (c_X8_put_x l dC dI aK aV h0 pb psp poc pof pz ps tl po p2 gsp 45 s.heap.size (by omega) (by omega) (by omega) (by omega)) (cwV 1 hA (zw_V wi_1308 wi_1310 wi_69 wi_142 (zw_good wi_1311)) rfl rfl rfl (by decide +kernel) ⟨(Nat.le_of_ble_eq_true rfl), (Nat.le_of_ble_eq_true rfl)⟩) ⟨zP_blind, va_recv hKc hPc (ci := 8) (q0 := 0) rfl rfl, zz_pre hKc hPc hDc hN hT hS hFc⟩ rfl rfl hl.1 rfl (lv_room (Nat.le_of_ble_eq_true rfl)) dX8_putInt_12 ⟨(Nat.le_of_ble_eq_true rfl), (Nat.le_of_ble_eq_true rfl)⟩) hS (fun q _ h => hFc q h) hFc (fun u t H1 locs ht hvm hw hB hz1 hk1 hS => ?_)
    obtain ⟨ps_40, tl_41, gsp_42⟩ := u
    obtain ⟨hP1, hK1, hD1⟩ := hB
    rw [ht] at hP1
    have hK1 := va_K.moved hvm.symm hK1
    obtain ⟨hP, hD⟩ := va_join (wr := []) (w1 := [(h0, .inr (8, [.ref pb, .int pz, .ref psp, .int ps_40, .int tl_41, .ref poc, .ref pof, .int po])), (psp, .inl (p2, 4000, .inl gsp_42))]) hP hD [0, 1] [] rfl rfl (by decide) (by decide) hk1 hFc hP1 hD1
    have hK := (hK.sub (tys' := []) [] rfl).app hK1
    generalize H1 = H at hP hS ⊢
    have hP : va_P (dC, dI) vwCl [(h0, .inr (8, [.ref pb, .int pz, .ref psp, .int ps_40, .int tl_41, .ref poc, .ref pof, .int po])), (psp, .inl (p2, 4000, .inl gsp_42))] H := hP
    have hD : va_D A [(h0, .inr (8, [.ref pb, .int pz, .ref psp, .int ps_40, .int tl_41, .ref poc, .ref pof, .int po])), (psp, .inl (p2, 4000, .inl gsp_42))] := hD
    have hK : va_K (dC, dI) vwCl [(p2, .byte)] s := hK
    obtain ⟨hq_43, hq_44⟩ := hw
    refine lv_lload_n hx hb dX8_putInt_15 rfl (lv_at hl 0 rfl) ?_
    refine lv_lneg hx hb dX8_putInt_16 ?_
    refine lv_topl (fun x_45 ex_45 => ?_)
    refine lv_lstore_n (lv' := [(2, .long x_45), (0, .ref h0), (1, .int nu)]) hx hb dX8_putInt_17 rfl hl (by decide) rfl (fun ls hl => ?_)
    refine lv_ldc2 (v := 1000000000) hx hb hown (hA _ wi_1312) dX8_putInt_18 ?_
    refine lv_topl (fun un0 eun0 => ?_)
    have iun0 : un0.toInt = 1000000000 := by rw [eun0]; decide
    refine lv_lstore (lv' := [(4, .long un0), (2, .long x_45), (0, .ref h0), (1, .int nu)]) hx hb dX8_putInt_21 hl (by decide) rfl (fun ls hl => ?_)
    have loop_23 : ∀ (n9 : Nat) (un : Int64) (H : Heap) (locs : List Loc) (ls : Array Slot), (un.toInt + 1).toNat ≤ n9 → 0 ≤ un.toInt → un.toInt ≤ 1000000000 → va_P (dC, dI) vwCl [(h0, .inr (8, [.ref pb, .int pz, .ref psp, .int ps_40, .int tl_41, .ref poc, .ref pof, .int po])), (psp, .inl (p2, 4000, .inl gsp_42))] H → va_D A [(h0, .inr (8, [.ref pb, .int pz, .ref psp, .int ps_40, .int tl_41, .ref poc, .ref pof, .int po])), (psp, .inl (p2, 4000, .inl gsp_42))] → va_S A s.heap H locs → lv_has ls 6 [(4, .long un), (2, .long x_45), (0, .ref h0), (1, .int nu)] → W p l e (headSpec (Cond.code yX8_putInt cX8_putInt 6 none :: zw) ({ frames := 10, cells := 0, slots := 0, locals := 300 })).room s m #[.ref h0, .int nu] below meth c H locs 0 0 (MQ below (va_Qv (fun u : Int32 × Int32 × (Nat → Int32) => match u with | (ps2, tl2, gsp2) => (0 ≤ ps2.toInt) ∧ (ps2.toInt ≤ 4000)) (fun u => match u with | (ps2, tl2, gsp2) => zQ dC dI A [(p2, .byte)] [(h0, .inr (8, [.ref pb, .int pz, .ref psp, .int ps2, .int tl2, .ref poc, .ref pof, .int po])), (psp, .inl (p2, 4000, .inl gsp2))]) A) #[.ref h0, .int nu] s 0 0 A) (F0 m 23 ls []) := by
      intro n9
      induction n9 with
      | zero => intro un H locs ls hm hu0 hu1; exfalso; omega
      | succ n9 ih =>
        intro un H locs ls hm hu0 hu1 hP hD hS hl
        refine lv_lload hx hb dX8_putInt_23 (lv_at hl 0 rfl) ?_
        refine lv_lconst (v := 1) hx hb dX8_putInt_25 (by decide) ?_
        refine W.lcmp hx hb dX8_putInt_26 ?_
        refine lv_topi (fun x_46 ex_46 => ?_)
        have lx_46 := zl_cmp ex_46
        have hl_47 : Int64.toInt 1 = 1 := by decide
        refine lv_if_le (tgt := 48) hx hb dX8_putInt_27 (by decide) (fun c_48 => ?_) (fun c_48 => ?_)
        · have ic_48 : x_46.toInt ≤ 0 := zi_le c_48
          have loop_48 : ∀ (n9 : Nat) (uq : Int64) (lps : Int32) (ltl : Int32) (lgs : Nat → Int32) (H : Heap) (locs : List Loc) (ls : Array Slot), (uq.toInt + 1).toNat ≤ n9 → 0 ≤ uq.toInt → uq.toInt ≤ 1000000000 → 0 ≤ lps.toInt → lps.toInt ≤ 4000 → va_P (dC, dI) vwCl [(h0, .inr (8, [.ref pb, .int pz, .ref psp, .int lps, .int ltl, .ref poc, .ref pof, .int po])), (psp, .inl (p2, 4000, .inl lgs))] H → va_D A [(h0, .inr (8, [.ref pb, .int pz, .ref psp, .int lps, .int ltl, .ref poc, .ref pof, .int po])), (psp, .inl (p2, 4000, .inl lgs))] → va_S A s.heap H locs → lv_has ls 6 [(4, .long uq), (2, .long x_45), (0, .ref h0), (1, .int nu)] → W p l e (headSpec (Cond.code yX8_putInt cX8_putInt 6 none :: zw) ({ frames := 10, cells := 0, slots := 0, locals := 300 })).room s m #[.ref h0, .int nu] below meth c H locs 0 0 (MQ below (va_Qv (fun u : Int32 × Int32 × (Nat → Int32) => match u with | (ps2, tl2, gsp2) => (0 ≤ ps2.toInt) ∧ (ps2.toInt ≤ 4000)) (fun u => match u with | (ps2, tl2, gsp2) => zQ dC dI A [(p2, .byte)] [(h0, .inr (8, [.ref pb, .int pz, .ref psp, .int ps2, .int tl2, .ref poc, .ref pof, .int po])), (psp, .inl (p2, 4000, .inl gsp2))]) A) #[.ref h0, .int nu] s 0 0 A) (F0 m 48 ls []) := by
            intro n9
            induction n9 with
            | zero => intro uq lps ltl lgs H locs ls hm hq0 hq1 hl0 hl1; exfalso; omega
            | succ n9 ih_48 =>
              intro uq lps ltl lgs H locs ls hm hq0 hq1 hl0 hl1 hP hD hS hl
              refine lv_lload hx hb dX8_putInt_48 (lv_at hl 0 rfl) ?_
              refine lv_lconst (v := 0) hx hb dX8_putInt_50 (by decide) ?_
              refine W.lcmp hx hb dX8_putInt_51 ?_
              refine lv_topi (fun x_49 ex_49 => ?_)
              have lx_49 := zl_cmp ex_49
              have hl_50 : Int64.toInt 0 = 0 := by decide
              refine lv_if_le (tgt := 82) hx hb dX8_putInt_52 (by decide) (fun c_51 => ?_) (fun c_51 => ?_)
              · have ic_51 : x_49.toInt ≤ 0 := zi_le c_51
                have hP9 := hP.sub (ws' := [(h0, .inr (8, [.ref pb, .int pz, .ref psp, .int lps, .int ltl, .ref poc, .ref pof, .int po])), (psp, .inl (p2, 4000, .inl lgs))]) [0, 1] rfl
                have hD9 := hD.sub (ws' := [(h0, .inr (8, [.ref pb, .int pz, .ref psp, .int lps, .int ltl, .ref poc, .ref pof, .int po])), (psp, .inl (p2, 4000, .inl lgs))]) [0, 1] (by decide) rfl
                have hK9 := hK.sub (tys' := [(p2, .byte)]) [0] rfl
                exact W.vret hx hb hr (fun t ht hW => ⟨⟨(lps, ltl, lgs), rfl, ⟨by omega, by omega⟩, by rw [ht]; exact hP9, va_K.moved hW.alike hK9, hD9⟩, hS.F ht⟩) hS.2.2 dX8_putInt_82
              · have ic_51 : 0 < x_49.toInt := zi_nle c_51
                refine lv_aload_n hx hb dX8_putInt_55 rfl (lv_at hl 2 rfl) ?_
                refine lv_bipush (v := 48) hx hb dX8_putInt_56 (by decide) ?_
                refine lv_lload_n hx hb dX8_putInt_58 rfl (lv_at hl 1 rfl) ?_
                refine lv_lload hx hb dX8_putInt_59 (lv_at hl 0 rfl) ?_
                refine lv_ldiv hx hb dX8_putInt_61 (fun g => by have h9a : uq.toInt = 0 := (by rw [g]; decide); omega) ?_
                refine lv_topl (fun x_52 ex_52 => ?_)
                refine lv_ldc2 (v := 10) hx hb hown (hA _ wi_1313) dX8_putInt_62 ?_
                refine lv_lrem hx hb dX8_putInt_65 (by decide) ?_
                refine lv_topl (fun x_53 ex_53 => ?_)
                refine lv_l2i hx hb dX8_putInt_66 rfl ?_
                refine lv_topi (fun x_54 ex_54 => ?_)
                refine lv_iadd hx hb dX8_putInt_67 ?_
                refine lv_topi (fun x_55 ex_55 => ?_)
                have hPc := hP.sub (ws' := [(h0, .inr (8, [.ref pb, .int pz, .ref psp, .int lps, .int ltl, .ref poc, .ref pof, .int po])), (psp, .inl (p2, 4000, .inl lgs))]) [0, 1] rfl
                have hDc := hD.sub (ws' := [(h0, .inr (8, [.ref pb, .int pz, .ref psp, .int lps, .int ltl, .ref poc, .ref pof, .int po])), (psp, .inl (p2, 4000, .inl lgs))]) [0, 1] (by decide) rfl
                have hKc := hK.sub (tys' := [(p2, .byte)]) [0] rfl
                have hFc := va_free (wc := [(h0, .inr (8, [.ref pb, .int pz, .ref psp, .int lps, .int ltl, .ref poc, .ref pof, .int po])), (psp, .inl (p2, 4000, .inl lgs))]) hD hS hAA [0, 1] rfl
                refine va_callv (va_runV (As := [.int x_55]) (rest := []) ⟨hx, hb, hml, hown, hA⟩ (c_X8_put_x l dC dI aK aV h0 pb psp poc pof pz lps ltl po p2 lgs x_55 H.size (by omega) (by omega) (by omega) (by omega)) (cwV 1 hA (zw_V wi_1308 wi_1310 wi_69 wi_142 (zw_good wi_1311)) rfl rfl rfl (by decide +kernel) ⟨(Nat.le_of_ble_eq_true rfl), (Nat.le_of_ble_eq_true rfl)⟩) ⟨zP_blind, va_recv hKc hPc (ci := 8) (q0 := 0) rfl rfl, zz_pre hKc hPc hDc hN hT hS hFc⟩ rfl rfl hl.1 rfl (lv_room (Nat.le_of_ble_eq_true rfl)) dX8_putInt_68 ⟨(Nat.le_of_ble_eq_true rfl), (Nat.le_of_ble_eq_true rfl)⟩) hS (fun q _ h => hFc q h) hFc (fun u t H1 locs ht hvm hw hB hz1 hk1 hS => ?_)
                obtain ⟨ps_57, tl_58, gsp_59⟩ := u
                obtain ⟨hP1, hK1, hD1⟩ := hB
                rw [ht] at hP1
                have hK1 := va_K.moved hvm.symm hK1
                obtain ⟨hP, hD⟩ := va_join (wr := []) (w1 := [(h0, .inr (8, [.ref pb, .int pz, .ref psp, .int ps_57, .int tl_58, .ref poc, .ref pof, .int po])), (psp, .inl (p2, 4000, .inl gsp_59))]) hP hD [0, 1] [] rfl rfl (by decide) (by decide) hk1 hFc hP1 hD1
                have hK := (hK.sub (tys' := []) [] rfl).app hK1
                generalize H1 = H at hP hS ⊢
                have hP : va_P (dC, dI) vwCl [(h0, .inr (8, [.ref pb, .int pz, .ref psp, .int ps_57, .int tl_58, .ref poc, .ref pof, .int po])), (psp, .inl (p2, 4000, .inl gsp_59))] H := hP
                have hD : va_D A [(h0, .inr (8, [.ref pb, .int pz, .ref psp, .int ps_57, .int tl_58, .ref poc, .ref pof, .int po])), (psp, .inl (p2, 4000, .inl gsp_59))] := hD
                have hK : va_K (dC, dI) vwCl [(p2, .byte)] s := hK
                obtain ⟨hq_60, hq_61⟩ := hw
                refine lv_lload hx hb dX8_putInt_71 (lv_at hl 0 rfl) ?_
                refine lv_ldc2 (v := 10) hx hb hown (hA _ wi_1313) dX8_putInt_73 ?_
                refine lv_ldiv hx hb dX8_putInt_76 (by decide) ?_
                refine lv_topl (fun x_62 ex_62 => ?_)
                have ix_62 : x_62.toInt = uq.toInt / 10 := by rw [ex_62]; exact (lg_ldiv_nonneg (by omega) (by decide)).trans (by rw [show Int64.toInt 10 = 10 from by decide])
                refine lv_lstore (lv' := [(4, .long x_62), (2, .long x_45), (0, .ref h0), (1, .int nu)]) hx hb dX8_putInt_77 hl (by decide) rfl (fun ls hl => ?_)
                refine lv_goto (tgt := 48) hx hb dX8_putInt_79 (by decide) ?_
                exact ih_48 x_62 ps_57 tl_58 gsp_59 _ _ _ (by omega) (by omega) (by omega) (by omega) (by omega) (hP.sub [0, 1] rfl) (hD.sub [0, 1] (by decide) rfl) hS (lv_sub hl [0, 1, 2, 3] rfl)
          exact loop_48 _ un ps_40 tl_41 gsp_42 _ _ _ (Nat.le_refl _) (by omega) (by omega) (by omega) (by omega) (hP.sub [0, 1] rfl) (hD.sub [0, 1] (by decide) rfl) hS (lv_sub hl [0, 1, 2, 3] rfl)
        · have ic_48 : 0 < x_46.toInt := zi_nle c_48
          refine lv_lload hx hb dX8_putInt_30 (lv_at hl 0 rfl) ?_
          refine lv_lload_n hx hb dX8_putInt_32 rfl (lv_at hl 1 rfl) ?_
          refine W.lcmp hx hb dX8_putInt_33 ?_
          refine lv_topi (fun x_63 ex_63 => ?_)
          have lx_63 := zl_cmp ex_63
          refine lv_if_le (tgt := 48) hx hb dX8_putInt_34 (by decide) (fun c_64 => ?_) (fun c_64 => ?_)
          · have ic_64 : x_63.toInt ≤ 0 := zi_le c_64
            have loop_48 : ∀ (n9 : Nat) (uq : Int64) (lps : Int32) (ltl : Int32) (lgs : Nat → Int32) (H : Heap) (locs : List Loc) (ls : Array Slot), (uq.toInt + 1).toNat ≤ n9 → 0 ≤ uq.toInt → uq.toInt ≤ 1000000000 → 0 ≤ lps.toInt → lps.toInt ≤ 4000 → va_P (dC, dI) vwCl [(h0, .inr (8, [.ref pb, .int pz, .ref psp, .int lps, .int ltl, .ref poc, .ref pof, .int po])), (psp, .inl (p2, 4000, .inl lgs))] H → va_D A [(h0, .inr (8, [.ref pb, .int pz, .ref psp, .int lps, .int ltl, .ref poc, .ref pof, .int po])), (psp, .inl (p2, 4000, .inl lgs))] → va_S A s.heap H locs → lv_has ls 6 [(4, .long uq), (2, .long x_45), (0, .ref h0), (1, .int nu)] → W p l e (headSpec (Cond.code yX8_putInt cX8_putInt 6 none :: zw) ({ frames := 10, cells := 0, slots := 0, locals := 300 })).room s m #[.ref h0, .int nu] below meth c H locs 0 0 (MQ below (va_Qv (fun u : Int32 × Int32 × (Nat → Int32) => match u with | (ps2, tl2, gsp2) => (0 ≤ ps2.toInt) ∧ (ps2.toInt ≤ 4000)) (fun u => match u with | (ps2, tl2, gsp2) => zQ dC dI A [(p2, .byte)] [(h0, .inr (8, [.ref pb, .int pz, .ref psp, .int ps2, .int tl2, .ref poc, .ref pof, .int po])), (psp, .inl (p2, 4000, .inl gsp2))]) A) #[.ref h0, .int nu] s 0 0 A) (F0 m 48 ls []) := by
              intro n9
              induction n9 with
              | zero => intro uq lps ltl lgs H locs ls hm hq0 hq1 hl0 hl1; exfalso; omega
              | succ n9 ih_48 =>
                intro uq lps ltl lgs H locs ls hm hq0 hq1 hl0 hl1 hP hD hS hl
                refine lv_lload hx hb dX8_putInt_48 (lv_at hl 0 rfl) ?_
                refine lv_lconst (v := 0) hx hb dX8_putInt_50 (by decide) ?_
                refine W.lcmp hx hb dX8_putInt_51 ?_
                refine lv_topi (fun x_65 ex_65 => ?_)
                have lx_65 := zl_cmp ex_65
                have hl_66 : Int64.toInt 0 = 0 := by decide
                refine lv_if_le (tgt := 82) hx hb dX8_putInt_52 (by decide) (fun c_67 => ?_) (fun c_67 => ?_)
                · have ic_67 : x_65.toInt ≤ 0 := zi_le c_67
                  have hP9 := hP.sub (ws' := [(h0, .inr (8, [.ref pb, .int pz, .ref psp, .int lps, .int ltl, .ref poc, .ref pof, .int po])), (psp, .inl (p2, 4000, .inl lgs))]) [0, 1] rfl
                  have hD9 := hD.sub (ws' := [(h0, .inr (8, [.ref pb, .int pz, .ref psp, .int lps, .int ltl, .ref poc, .ref pof, .int po])), (psp, .inl (p2, 4000, .inl lgs))]) [0, 1] (by decide) rfl
                  have hK9 := hK.sub (tys' := [(p2, .byte)]) [0] rfl
                  exact W.vret hx hb hr (fun t ht hW => ⟨⟨(lps, ltl, lgs), rfl, ⟨by omega, by omega⟩, by rw [ht]; exact hP9, va_K.moved hW.alike hK9, hD9⟩, hS.F ht⟩) hS.2.2 dX8_putInt_82
                · have ic_67 : 0 < x_65.toInt := zi_nle c_67
                  refine lv_aload_n hx hb dX8_putInt_55 rfl (lv_at hl 2 rfl) ?_
                  refine lv_bipush (v := 48) hx hb dX8_putInt_56 (by decide) ?_
                  refine lv_lload_n hx hb dX8_putInt_58 rfl (lv_at hl 1 rfl) ?_
                  refine lv_lload hx hb dX8_putInt_59 (lv_at hl 0 rfl) ?_
                  refine lv_ldiv hx hb dX8_putInt_61 (fun g => by have h9a : uq.toInt = 0 := (by rw [g]; decide); omega) ?_
                  refine lv_topl (fun x_68 ex_68 => ?_)
                  refine lv_ldc2 (v := 10) hx hb hown (hA _ wi_1313) dX8_putInt_62 ?_
                  refine lv_lrem hx hb dX8_putInt_65 (by decide) ?_
                  refine lv_topl (fun x_69 ex_69 => ?_)
                  refine lv_l2i hx hb dX8_putInt_66 rfl ?_
                  refine lv_topi (fun x_70 ex_70 => ?_)
                  refine lv_iadd hx hb dX8_putInt_67 ?_
                  refine lv_topi (fun x_71 ex_71 => ?_)
                  have hPc := hP.sub (ws' := [(h0, .inr (8, [.ref pb, .int pz, .ref psp, .int lps, .int ltl, .ref poc, .ref pof, .int po])), (psp, .inl (p2, 4000, .inl lgs))]) [0, 1] rfl
                  have hDc := hD.sub (ws' := [(h0, .inr (8, [.ref pb, .int pz, .ref psp, .int lps, .int ltl, .ref poc, .ref pof, .int po])), (psp, .inl (p2, 4000, .inl lgs))]) [0, 1] (by decide) rfl
                  have hKc := hK.sub (tys' := [(p2, .byte)]) [0] rfl
                  have hFc := va_free (wc := [(h0, .inr (8, [.ref pb, .int pz, .ref psp, .int lps, .int ltl, .ref poc, .ref pof, .int po])), (psp, .inl (p2, 4000, .inl lgs))]) hD hS hAA [0, 1] rfl
                  refine va_callv (va_runV (As := [.int x_71]) (rest := []) ⟨hx, hb, hml, hown, hA⟩ (c_X8_put_x l dC dI aK aV h0 pb psp poc pof pz lps ltl po p2 lgs x_71 H.size (by omega) (by omega) (by omega) (by omega)) (cwV 1 hA (zw_V wi_1308 wi_1310 wi_69 wi_142 (zw_good wi_1311)) rfl rfl rfl (by decide +kernel) ⟨(Nat.le_of_ble_eq_true rfl), (Nat.le_of_ble_eq_true rfl)⟩) ⟨zP_blind, va_recv hKc hPc (ci := 8) (q0 := 0) rfl rfl, zz_pre hKc hPc hDc hN hT hS hFc⟩ rfl rfl hl.1 rfl (lv_room (Nat.le_of_ble_eq_true rfl)) dX8_putInt_68 ⟨(Nat.le_of_ble_eq_true rfl), (Nat.le_of_ble_eq_true rfl)⟩) hS (fun q _ h => hFc q h) hFc (fun u t H1 locs ht hvm hw hB hz1 hk1 hS => ?_)
                  obtain ⟨ps_73, tl_74, gsp_75⟩ := u
                  obtain ⟨hP1, hK1, hD1⟩ := hB
                  rw [ht] at hP1
                  have hK1 := va_K.moved hvm.symm hK1
                  obtain ⟨hP, hD⟩ := va_join (wr := []) (w1 := [(h0, .inr (8, [.ref pb, .int pz, .ref psp, .int ps_73, .int tl_74, .ref poc, .ref pof, .int po])), (psp, .inl (p2, 4000, .inl gsp_75))]) hP hD [0, 1] [] rfl rfl (by decide) (by decide) hk1 hFc hP1 hD1
                  have hK := (hK.sub (tys' := []) [] rfl).app hK1
                  generalize H1 = H at hP hS ⊢
                  have hP : va_P (dC, dI) vwCl [(h0, .inr (8, [.ref pb, .int pz, .ref psp, .int ps_73, .int tl_74, .ref poc, .ref pof, .int po])), (psp, .inl (p2, 4000, .inl gsp_75))] H := hP
                  have hD : va_D A [(h0, .inr (8, [.ref pb, .int pz, .ref psp, .int ps_73, .int tl_74, .ref poc, .ref pof, .int po])), (psp, .inl (p2, 4000, .inl gsp_75))] := hD
                  have hK : va_K (dC, dI) vwCl [(p2, .byte)] s := hK
                  obtain ⟨hq_76, hq_77⟩ := hw
                  refine lv_lload hx hb dX8_putInt_71 (lv_at hl 0 rfl) ?_
                  refine lv_ldc2 (v := 10) hx hb hown (hA _ wi_1313) dX8_putInt_73 ?_
                  refine lv_ldiv hx hb dX8_putInt_76 (by decide) ?_
                  refine lv_topl (fun x_78 ex_78 => ?_)
                  have ix_78 : x_78.toInt = uq.toInt / 10 := by rw [ex_78]; exact (lg_ldiv_nonneg (by omega) (by decide)).trans (by rw [show Int64.toInt 10 = 10 from by decide])
                  refine lv_lstore (lv' := [(4, .long x_78), (2, .long x_45), (0, .ref h0), (1, .int nu)]) hx hb dX8_putInt_77 hl (by decide) rfl (fun ls hl => ?_)
                  refine lv_goto (tgt := 48) hx hb dX8_putInt_79 (by decide) ?_
                  exact ih_48 x_78 ps_73 tl_74 gsp_75 _ _ _ (by omega) (by omega) (by omega) (by omega) (by omega) (hP.sub [0, 1] rfl) (hD.sub [0, 1] (by decide) rfl) hS (lv_sub hl [0, 1, 2, 3] rfl)
            exact loop_48 _ un ps_40 tl_41 gsp_42 _ _ _ (Nat.le_refl _) (by omega) (by omega) (by omega) (by omega) (hP.sub [0, 1] rfl) (hD.sub [0, 1] (by decide) rfl) hS (lv_sub hl [0, 1, 2, 3] rfl)
          · have ic_64 : 0 < x_63.toInt := zi_nle c_64
            refine lv_lload hx hb dX8_putInt_37 (lv_at hl 0 rfl) ?_
            refine lv_ldc2 (v := 10) hx hb hown (hA _ wi_1313) dX8_putInt_39 ?_
            refine lv_ldiv hx hb dX8_putInt_42 (by decide) ?_
            refine lv_topl (fun x_79 ex_79 => ?_)
            have ix_79 : x_79.toInt = un.toInt / 10 := by rw [ex_79]; exact (lg_ldiv_nonneg (by omega) (by decide)).trans (by rw [show Int64.toInt 10 = 10 from by decide])
            refine lv_lstore (lv' := [(4, .long x_79), (2, .long x_45), (0, .ref h0), (1, .int nu)]) hx hb dX8_putInt_43 hl (by decide) rfl (fun ls hl => ?_)
            refine lv_goto (tgt := 23) hx hb dX8_putInt_45 (by decide) ?_
            exact ih x_79 _ _ _ (by omega) (by omega) (by omega) (hP.sub [0, 1] rfl) (hD.sub [0, 1] (by decide) rfl) hS (lv_sub hl [0, 1, 2, 3] rfl)
    exact loop_23 _ un0 _ _ _ (Nat.le_refl _) (by omega) (by omega) (hP.sub [0, 1] rfl) (hD.sub [0, 1] (by decide) rfl) hS (lv_sub hl [0, 1, 2, 3] rfl)

end
