theorem wi_487 : Cond.fieldLink RX5 9 "ReuseHouse$Machine" "counted" "Z" ∈ zw := zw_in (List.mem_of_getElem? (i := 487) (by decide +kernel)) (by decide +kernel)
theorem wi_1137 : Cond.code yX5_has cX5_has 2 (some .boolean) ∈ zw := zw_in (List.mem_of_getElem? (i := 1137) (by decide +kernel)) (by decide +kernel)
theorem wi_1135 : Cond.methodLink RX5 175 yX5_has ∈ zw := zw_in (List.mem_of_getElem? (i := 1135) (by decide +kernel)) (by decide +kernel)
theorem wi_1136 : Cond.static yX5_has ∈ zw := zw_in (List.mem_of_getElem? (i := 1136) (by decide +kernel)) (by decide +kernel)
theorem wi_486 : Cond.fieldLink RX5 83 "ReuseHouse$Machine" "cells" "LReuseHouse$Cells;" ∈ zw := zw_in (List.mem_of_getElem? (i := 486) (by decide +kernel)) (by decide +kernel)
theorem wi_1141 : Cond.code yX1_drop cX1_drop 7 none ∈ zw := zw_in (List.mem_of_getElem? (i := 1141) (by decide +kernel)) (by decide +kernel)
theorem wi_1138 : Cond.methodLink RX5 179 yX1_drop ∈ zw := zw_in (List.mem_of_getElem? (i := 1138) (by decide +kernel)) (by decide +kernel)
theorem wi_1139 : Cond.instanceMethod yX1_drop ∈ zw := zw_in (List.mem_of_getElem? (i := 1139) (by decide +kernel)) (by decide +kernel)
theorem wi_1140 : Cond.selects RX1 yX1_drop yX1_drop ∈ zw := zw_in (List.mem_of_getElem? (i := 1140) (by decide +kernel)) (by decide +kernel)
theorem dX5_dropNames_0 : decode cX5_dropNames 0 = .ok (.aload_n 0, 1) := by decide +kernel
theorem dX5_dropNames_1 : decode cX5_dropNames 1 = .ok (.getfield 9, 3) := by decide +kernel
theorem dX5_dropNames_4 : decode cX5_dropNames 4 = .ok (.ifCond .ne 4, 3) := by decide +kernel
theorem dX5_dropNames_7 : decode cX5_dropNames 7 = .ok (.return_, 1) := by decide +kernel
theorem dX5_dropNames_8 : decode cX5_dropNames 8 = .ok (.iconst 0, 1) := by decide +kernel
theorem dX5_dropNames_9 : decode cX5_dropNames 9 = .ok (.istore_n 2, 1) := by decide +kernel
theorem dX5_dropNames_10 : decode cX5_dropNames 10 = .ok (.iload_n 2, 1) := by decide +kernel
theorem dX5_dropNames_11 : decode cX5_dropNames 11 = .ok (.bipush 24, 2) := by decide +kernel
theorem dX5_dropNames_13 : decode cX5_dropNames 13 = .ok (.if_icmp .ge 41, 3) := by decide +kernel
theorem dX5_dropNames_16 : decode cX5_dropNames 16 = .ok (.iload_n 1, 1) := by decide +kernel
theorem dX5_dropNames_17 : decode cX5_dropNames 17 = .ok (.iload_n 2, 1) := by decide +kernel
theorem dX5_dropNames_18 : decode cX5_dropNames 18 = .ok (.ishr, 1) := by decide +kernel
theorem dX5_dropNames_19 : decode cX5_dropNames 19 = .ok (.ifCond .eq 35, 3) := by decide +kernel
theorem dX5_dropNames_22 : decode cX5_dropNames 22 = .ok (.iload_n 1, 1) := by decide +kernel
theorem dX5_dropNames_23 : decode cX5_dropNames 23 = .ok (.iload_n 2, 1) := by decide +kernel
theorem dX5_dropNames_24 : decode cX5_dropNames 24 = .ok (.invokestatic 175, 3) := by decide +kernel
theorem dX5_dropNames_27 : decode cX5_dropNames 27 = .ok (.ifCond .eq 21, 3) := by decide +kernel
theorem dX5_dropNames_30 : decode cX5_dropNames 30 = .ok (.aload_n 0, 1) := by decide +kernel
theorem dX5_dropNames_31 : decode cX5_dropNames 31 = .ok (.getfield 83, 3) := by decide +kernel
theorem dX5_dropNames_34 : decode cX5_dropNames 34 = .ok (.aload_n 0, 1) := by decide +kernel
theorem dX5_dropNames_35 : decode cX5_dropNames 35 = .ok (.getfield 15, 3) := by decide +kernel
theorem dX5_dropNames_38 : decode cX5_dropNames 38 = .ok (.aload_n 0, 1) := by decide +kernel
theorem dX5_dropNames_39 : decode cX5_dropNames 39 = .ok (.getfield 23, 3) := by decide +kernel
theorem dX5_dropNames_42 : decode cX5_dropNames 42 = .ok (.iload_n 2, 1) := by decide +kernel
theorem dX5_dropNames_43 : decode cX5_dropNames 43 = .ok (.iadd, 1) := by decide +kernel
theorem dX5_dropNames_44 : decode cX5_dropNames 44 = .ok (.laload, 1) := by decide +kernel
theorem dX5_dropNames_45 : decode cX5_dropNames 45 = .ok (.invokevirtual 179, 3) := by decide +kernel
theorem dX5_dropNames_48 : decode cX5_dropNames 48 = .ok (.iinc 2 1, 3) := by decide +kernel
theorem dX5_dropNames_51 : decode cX5_dropNames 51 = .ok (.goto (-41), 3) := by decide +kernel
theorem dX5_dropNames_54 : decode cX5_dropNames 54 = .ok (.return_, 1) := by decide +kernel
set_option maxHeartbeats 4000000 in
set_option maxRecDepth 100000 in
theorem c_X5_dropNames_c (l : Launch) (dC : Nat → ClassId) (dI : Nat → Nat → Nat) (aK aV : Nat → Nat) (h0 : Nat) (mp : Nat) (gco : Nat) (mce : Nat) (sk : Nat) (kb : Nat) (kk : Nat) (ks : Nat) (sh : Nat) (mcn : Int32) (tp : Int32) (ba : Int32) (on : Int32) (sn : Int32) (mat : Int32) (alw : Int32) (st : Int32) (mo : Int32) (mh : Int32) (sp : Int32) (re : Int64) (sk1 : ClassId) (gs : Nat → Int64) (ek : Nat) (ec : Nat) (ef : Nat) (gki : Nat) (e1 : ClassId) (e2 : ClassId) (e3 : ClassId) (e_limit : Int32) (e_fresh : Int32) (e_firstFree : Int32) (e_held : Int32) (e_mostHeld : Int32) (e_made : Int32) (e_reused : Int32) (e_freed : Int32) (e_doubled : Int32) (gk : Nat → Int32) (gc : Nat → Int32) (gv : Nat → Int64) (kw : Nat) (kf : Nat) (k1 : ClassId) (k2 : ClassId) (kz : Int32) (kgw : Nat → Int64) (kgf : Nat → Int32) (na : Int32) (gsh : Nat → Int32) (nS : Nat) (pp : Nat → Bool) (sz : Nat) (hcn : mcn.toInt = 1) (hdb : e_doubled.toInt < 999990) (hkz0 : 0 ≤ kz.toInt) (hkz1 : kz.toInt ≤ 20) (hkf : zx 4 kgf) (hnS : nS = 22424) (hba0 : 0 ≤ ba.toInt) (hba1 : ba.toInt + 24 ≤ 22424) (hmd : zMD nS kz kgf gk gc gv e_fresh e_firstFree e_held e_doubled gs pp gsh sn) (hpm : ∀ k, k < 24 → zbit na k = true → pp (Int32.toNatClampNeg ba + k) = true) : Met l yX5_dropNames (Cond.code yX5_dropNames cX5_dropNames 3 none :: zw) ({ frames := 16, cells := 0, slots := 0, locals := 600 }) (va_Pc [.ref h0, .int na] (zP dC dI aK aV sz [(sk1, .long), (e1, .int), (e2, .int), (e3, .long), (k1, .long), (k2, .int)] [(h0, .inr (5, [.ref mp, .ref gco, .ref mce, .int mcn, .ref sk, .int tp, .int ba, .ref kb, .ref kk, .ref ks, .int on, .ref sh, .int sn, .int mat, .int alw, .int st, .int mo, .int mh, .int sp, .long re])), (sk, .inl (sk1, 22424, .inr (.inl gs))), (mce, .inr (1, [.ref ek, .ref ec, .ref ef, .ref gki, .int e_limit, .int e_fresh, .int e_firstFree, .int e_held, .int e_mostHeld, .int e_made, .int e_reused, .int e_freed, .int e_doubled])), (ek, .inl (e1, 400, .inl gk)), (ec, .inl (e2, 400, .inl gc)), (ef, .inl (e3, 1200, .inr (.inl gv))), (gki, .inr (4, [.ref kw, .ref kf, .int kz])), (kw, .inl (k1, 20, .inr (.inl kgw))), (kf, .inl (k2, 20, .inl kgf))])) (va_Qv (fun u : (Nat → Int32) × Int32 × Int32 × Int32 => match u with | (gc2, ff2, he2, fd2) => (∃ p2, zMD nS kz kgf gk gc2 gv e_fresh ff2 he2 e_doubled gs p2 gsh sn ∧ ∀ j : Nat, pp j = true → (∀ k, k < 24 → zbit na k = true → j ≠ Int32.toNatClampNeg ba + k) → p2 j = true)) (fun u => match u with | (gc2, ff2, he2, fd2) => zQ dC dI (va_A [(h0, .inr (5, [.ref mp, .ref gco, .ref mce, .int mcn, .ref sk, .int tp, .int ba, .ref kb, .ref kk, .ref ks, .int on, .ref sh, .int sn, .int mat, .int alw, .int st, .int mo, .int mh, .int sp, .long re])), (sk, .inl (sk1, 22424, .inr (.inl gs))), (mce, .inr (1, [.ref ek, .ref ec, .ref ef, .ref gki, .int e_limit, .int e_fresh, .int e_firstFree, .int e_held, .int e_mostHeld, .int e_made, .int e_reused, .int e_freed, .int e_doubled])), (ek, .inl (e1, 400, .inl gk)), (ec, .inl (e2, 400, .inl gc)), (ef, .inl (e3, 1200, .inr (.inl gv))), (gki, .inr (4, [.ref kw, .ref kf, .int kz])), (kw, .inl (k1, 20, .inr (.inl kgw))), (kf, .inl (k2, 20, .inl kgf))] sz) [(sk1, .long), (e1, .int), (e2, .int), (e3, .long), (k1, .long), (k2, .int)] [(h0, .inr (5, [.ref mp, .ref gco, .ref mce, .int mcn, .ref sk, .int tp, .int ba, .ref kb, .ref kk, .ref ks, .int on, .ref sh, .int sn, .int mat, .int alw, .int st, .int mo, .int mh, .int sp, .long re])), (sk, .inl (sk1, 22424, .inr (.inl gs))), (mce, .inr (1, [.ref ek, .ref ec, .ref ef, .ref gki, .int e_limit, .int e_fresh, .int ff2, .int he2, .int e_mostHeld, .int e_made, .int e_reused, .int fd2, .int e_doubled])), (ek, .inl (e1, 400, .inl gk)), (ec, .inl (e2, 400, .inl gc2)), (ef, .inl (e3, 1200, .inr (.inl gv))), (gki, .inr (4, [.ref kw, .ref kf, .int kz])), (kw, .inl (k1, 20, .inr (.inl kgw))), (kf, .inl (k2, 20, .inl kgf))]) (va_A [(h0, .inr (5, [.ref mp, .ref gco, .ref mce, .int mcn, .ref sk, .int tp, .int ba, .ref kb, .ref kk, .ref ks, .int on, .ref sh, .int sn, .int mat, .int alw, .int st, .int mo, .int mh, .int sp, .long re])), (sk, .inl (sk1, 22424, .inr (.inl gs))), (mce, .inr (1, [.ref ek, .ref ec, .ref ef, .ref gki, .int e_limit, .int e_fresh, .int e_firstFree, .int e_held, .int e_mostHeld, .int e_made, .int e_reused, .int e_freed, .int e_doubled])), (ek, .inl (e1, 400, .inl gk)), (ec, .inl (e2, 400, .inl gc)), (ef, .inl (e3, 1200, .inr (.inl gv))), (gki, .inr (4, [.ref kw, .ref kf, .int kz])), (kw, .inl (k1, 20, .inr (.inl kgw))), (kf, .inl (k2, 20, .inl kgf))] sz)) 0 0 (va_A [(h0, .inr (5, [.ref mp, .ref gco, .ref mce, .int mcn, .ref sk, .int tp, .int ba, .ref kb, .ref kk, .ref ks, .int on, .ref sh, .int sn, .int mat, .int alw, .int st, .int mo, .int mh, .int sp, .long re])), (sk, .inl (sk1, 22424, .inr (.inl gs))), (mce, .inr (1, [.ref ek, .ref ec, .ref ef, .ref gki, .int e_limit, .int e_fresh, .int e_firstFree, .int e_held, .int e_mostHeld, .int e_made, .int e_reused, .int e_freed, .int e_doubled])), (ek, .inl (e1, 400, .inl gk)), (ec, .inl (e2, 400, .inl gc)), (ef, .inl (e3, 1200, .inr (.inl gv))), (gki, .inr (4, [.ref kw, .ref kf, .int kz])), (kw, .inl (k1, 20, .inr (.inl kgw))), (kf, .inl (k2, 20, .inl kgf))] sz) := by
  refine Met.ofW (cc := cX5_dropNames) (maxL := 3) (ret := none) (by decide) rfl ?_
  intro p e s m args below meth c s₁ B hml hv
  obtain ⟨rfl, hsz, hP, hK, hD0, hN, hT⟩ := hv
  have hx := B.exec
  have hb := B.bytes
  have hr := B.returns
  have hts := atoms_spec (ws := Cond.code yX5_dropNames cX5_dropNames 3 none :: zw) B.pre
  have hA : ∀ w ∈ zw, w.before _ s = true := fun w h => hts w (List.mem_cons_of_mem _ h)
  have hown : s.vm.findClass RX5 = some m.cls := findClass_of_methodNamed B.named
  have hlocks := B.notSynchronized
  subst hsz
  have hD := hD0.self (sz := s.heap.size)
  generalize hAe : va_A [(h0, .inr (5, [.ref mp, .ref gco, .ref mce, .int mcn, .ref sk, .int tp, .int ba, .ref kb, .ref kk, .ref ks, .int on, .ref sh, .int sn, .int mat, .int alw, .int st, .int mo, .int mh, .int sp, .long re])), (sk, .inl (sk1, 22424, .inr (.inl gs))), (mce, .inr (1, [.ref ek, .ref ec, .ref ef, .ref gki, .int e_limit, .int e_fresh, .int e_firstFree, .int e_held, .int e_mostHeld, .int e_made, .int e_reused, .int e_freed, .int e_doubled])), (ek, .inl (e1, 400, .inl gk)), (ec, .inl (e2, 400, .inl gc)), (ef, .inl (e3, 1200, .inr (.inl gv))), (gki, .inr (4, [.ref kw, .ref kf, .int kz])), (kw, .inl (k1, 20, .inr (.inl kgw))), (kf, .inl (k2, 20, .inl kgf))] s.heap.size = A at hD hT ⊢
  have hAA : ∀ q : Nat, s.heap.size ≤ q → A q := fun q h => by rw [← hAe]; exact Or.inr h
  have hS : va_S A s.heap s.heap [] := va_S.rf
  have hl := lv_entry ([.ref h0, .int na]) (n := 3) (Nat.le_of_ble_eq_true rfl)
  rw [lg_entry_eq]
  generalize (lg_sl ([.ref h0, .int na]) ++ List.replicate (3 - (lg_sl ([.ref h0, .int na])).length) Slot.unset).toArray = ls at hl ⊢
  have hl : lv_has ls 3 [(0, .ref h0), (1, .int na)] := hl
  refine lv_aload_n hx hb dX5_dropNames_0 rfl (lv_at hl 0 rfl) ?_
  refine va_get (D := (dC, dI)) (ci := 5) (v := .int mcn) (C := RX5) (T := TX5) (N := 20) hx hb hA zin_X5 hown hK hP 0 rfl rfl 3 (by decide) (hA _ wi_487) (fun _ h9 => h9) rfl dX5_dropNames_1 ?_
  refine lv_if_ne (tgt := 8) hx hb dX5_dropNames_4 (by decide) (fun c_1 => ?_) (fun c_1 => ?_)
  · have ic_1 : mcn.toInt ≠ 0 := zi_ne c_1
    refine lv_iconst (v := 0) hx hb dX5_dropNames_8 (by decide) ?_
    refine lv_istore_n (lv' := [(2, .int 0), (0, .ref h0), (1, .int na)]) hx hb dX5_dropNames_9 rfl hl (by decide) rfl (fun ls hl => ?_)
    have loop_10 : ∀ (n9 : Nat) (i : Int32) (lff : Int32) (lhe : Int32) (lfd : Int32) (lgc : Nat → Int32) (H : Heap) (locs : List Loc) (ls : Array Slot), (24 - i.toInt + 1).toNat ≤ n9 → 0 ≤ i.toInt → i.toInt ≤ 24 → (∃ p2, zMD nS kz kgf gk lgc gv e_fresh lff lhe e_doubled gs p2 gsh sn ∧ ∀ j : Nat, pp j = true → (∀ k, k < Int32.toNatClampNeg i → zbit na k = true → j ≠ Int32.toNatClampNeg ba + k) → p2 j = true) → va_P (dC, dI) vwCl [(h0, .inr (5, [.ref mp, .ref gco, .ref mce, .int mcn, .ref sk, .int tp, .int ba, .ref kb, .ref kk, .ref ks, .int on, .ref sh, .int sn, .int mat, .int alw, .int st, .int mo, .int mh, .int sp, .long re])), (sk, .inl (sk1, 22424, .inr (.inl gs))), (mce, .inr (1, [.ref ek, .ref ec, .ref ef, .ref gki, .int e_limit, .int e_fresh, .int lff, .int lhe, .int e_mostHeld, .int e_made, .int e_reused, .int lfd, .int e_doubled])), (ek, .inl (e1, 400, .inl gk)), (ec, .inl (e2, 400, .inl lgc)), (ef, .inl (e3, 1200, .inr (.inl gv))), (gki, .inr (4, [.ref kw, .ref kf, .int kz])), (kw, .inl (k1, 20, .inr (.inl kgw))), (kf, .inl (k2, 20, .inl kgf))] H → va_D A [(h0, .inr (5, [.ref mp, .ref gco, .ref mce, .int mcn, .ref sk, .int tp, .int ba, .ref kb, .ref kk, .ref ks, .int on, .ref sh, .int sn, .int mat, .int alw, .int st, .int mo, .int mh, .int sp, .long re])), (sk, .inl (sk1, 22424, .inr (.inl gs))), (mce, .inr (1, [.ref ek, .ref ec, .ref ef, .ref gki, .int e_limit, .int e_fresh, .int lff, .int lhe, .int e_mostHeld, .int e_made, .int e_reused, .int lfd, .int e_doubled])), (ek, .inl (e1, 400, .inl gk)), (ec, .inl (e2, 400, .inl lgc)), (ef, .inl (e3, 1200, .inr (.inl gv))), (gki, .inr (4, [.ref kw, .ref kf, .int kz])), (kw, .inl (k1, 20, .inr (.inl kgw))), (kf, .inl (k2, 20, .inl kgf))] → va_S A s.heap H locs → lv_has ls 3 [(2, .int i), (0, .ref h0), (1, .int na)] → W p l e (headSpec (Cond.code yX5_dropNames cX5_dropNames 3 none :: zw) ({ frames := 16, cells := 0, slots := 0, locals := 600 })).room s m #[.ref h0, .int na] below meth c H locs 0 0 (MQ below (va_Qv (fun u : (Nat → Int32) × Int32 × Int32 × Int32 => match u with | (gc2, ff2, he2, fd2) => (∃ p2, zMD nS kz kgf gk gc2 gv e_fresh ff2 he2 e_doubled gs p2 gsh sn ∧ ∀ j : Nat, pp j = true → (∀ k, k < 24 → zbit na k = true → j ≠ Int32.toNatClampNeg ba + k) → p2 j = true)) (fun u => match u with | (gc2, ff2, he2, fd2) => zQ dC dI A [(sk1, .long), (e1, .int), (e2, .int), (e3, .long), (k1, .long), (k2, .int)] [(h0, .inr (5, [.ref mp, .ref gco, .ref mce, .int mcn, .ref sk, .int tp, .int ba, .ref kb, .ref kk, .ref ks, .int on, .ref sh, .int sn, .int mat, .int alw, .int st, .int mo, .int mh, .int sp, .long re])), (sk, .inl (sk1, 22424, .inr (.inl gs))), (mce, .inr (1, [.ref ek, .ref ec, .ref ef, .ref gki, .int e_limit, .int e_fresh, .int ff2, .int he2, .int e_mostHeld, .int e_made, .int e_reused, .int fd2, .int e_doubled])), (ek, .inl (e1, 400, .inl gk)), (ec, .inl (e2, 400, .inl gc2)), (ef, .inl (e3, 1200, .inr (.inl gv))), (gki, .inr (4, [.ref kw, .ref kf, .int kz])), (kw, .inl (k1, 20, .inr (.inl kgw))), (kf, .inl (k2, 20, .inl kgf))]) A) #[.ref h0, .int na] s 0 0 A) (F0 m 10 ls []) := by
      intro n9
      induction n9 with
      | zero => intro i lff lhe lfd lgc H locs ls hm hi0 hi1 hlc; exfalso; omega
      | succ n9 ih =>
        intro i lff lhe lfd lgc H locs ls hm hi0 hi1 hlc hP hD hS hl
        refine lv_iload_n hx hb dX5_dropNames_10 rfl (lv_at hl 0 rfl) ?_
        refine lv_bipush (v := 24) hx hb dX5_dropNames_11 (by decide) ?_
        refine lv_icmp_ge (tgt := 54) hx hb dX5_dropNames_13 (by decide) (fun c_2 => ?_) (fun c_2 => ?_)
        · have ic_2 : 24 ≤ i.toInt := zi_le c_2
          have hP9 := hP.sub (ws' := [(h0, .inr (5, [.ref mp, .ref gco, .ref mce, .int mcn, .ref sk, .int tp, .int ba, .ref kb, .ref kk, .ref ks, .int on, .ref sh, .int sn, .int mat, .int alw, .int st, .int mo, .int mh, .int sp, .long re])), (sk, .inl (sk1, 22424, .inr (.inl gs))), (mce, .inr (1, [.ref ek, .ref ec, .ref ef, .ref gki, .int e_limit, .int e_fresh, .int lff, .int lhe, .int e_mostHeld, .int e_made, .int e_reused, .int lfd, .int e_doubled])), (ek, .inl (e1, 400, .inl gk)), (ec, .inl (e2, 400, .inl lgc)), (ef, .inl (e3, 1200, .inr (.inl gv))), (gki, .inr (4, [.ref kw, .ref kf, .int kz])), (kw, .inl (k1, 20, .inr (.inl kgw))), (kf, .inl (k2, 20, .inl kgf))]) [0, 1, 2, 3, 4, 5, 6, 7, 8] rfl
          have hD9 := hD.sub (ws' := [(h0, .inr (5, [.ref mp, .ref gco, .ref mce, .int mcn, .ref sk, .int tp, .int ba, .ref kb, .ref kk, .ref ks, .int on, .ref sh, .int sn, .int mat, .int alw, .int st, .int mo, .int mh, .int sp, .long re])), (sk, .inl (sk1, 22424, .inr (.inl gs))), (mce, .inr (1, [.ref ek, .ref ec, .ref ef, .ref gki, .int e_limit, .int e_fresh, .int lff, .int lhe, .int e_mostHeld, .int e_made, .int e_reused, .int lfd, .int e_doubled])), (ek, .inl (e1, 400, .inl gk)), (ec, .inl (e2, 400, .inl lgc)), (ef, .inl (e3, 1200, .inr (.inl gv))), (gki, .inr (4, [.ref kw, .ref kf, .int kz])), (kw, .inl (k1, 20, .inr (.inl kgw))), (kf, .inl (k2, 20, .inl kgf))]) [0, 1, 2, 3, 4, 5, 6, 7, 8] (by decide) rfl
          have hK9 := hK.sub (tys' := [(sk1, .long), (e1, .int), (e2, .int), (e3, .long), (k1, .long), (k2, .int)]) [0, 1, 2, 3, 4, 5] rfl
          exact W.vret hx hb hr (fun t ht hW => ⟨⟨(lgc, lff, lhe, lfd), rfl, (by obtain ⟨p2, u1, u2⟩ := hlc; exact ⟨p2, u1, fun j hj h => u2 j hj (fun k hk => h k (by have := zn_nat (x := i) (by omega); omega))⟩), by rw [ht]; exact hP9, va_K.moved hW.alike hK9, hD9⟩, hS.F ht⟩) hS.2.2 dX5_dropNames_54
        · have ic_2 : i.toInt < 24 := zi_nle c_2
          refine lv_iload_n hx hb dX5_dropNames_16 rfl (lv_at hl 2 rfl) ?_
          refine lv_iload_n hx hb dX5_dropNames_17 rfl (lv_at hl 0 rfl) ?_
          refine lv_ishr hx hb dX5_dropNames_18 ?_
          refine lv_topi (fun x_3 ex_3 => ?_)
          refine lv_if_eq (tgt := 54) hx hb dX5_dropNames_19 (by decide) (fun c_4 => ?_) (fun c_4 => ?_)
          · have ic_4 : x_3.toInt = 0 := zi_eq c_4
            have hP9 := hP.sub (ws' := [(h0, .inr (5, [.ref mp, .ref gco, .ref mce, .int mcn, .ref sk, .int tp, .int ba, .ref kb, .ref kk, .ref ks, .int on, .ref sh, .int sn, .int mat, .int alw, .int st, .int mo, .int mh, .int sp, .long re])), (sk, .inl (sk1, 22424, .inr (.inl gs))), (mce, .inr (1, [.ref ek, .ref ec, .ref ef, .ref gki, .int e_limit, .int e_fresh, .int lff, .int lhe, .int e_mostHeld, .int e_made, .int e_reused, .int lfd, .int e_doubled])), (ek, .inl (e1, 400, .inl gk)), (ec, .inl (e2, 400, .inl lgc)), (ef, .inl (e3, 1200, .inr (.inl gv))), (gki, .inr (4, [.ref kw, .ref kf, .int kz])), (kw, .inl (k1, 20, .inr (.inl kgw))), (kf, .inl (k2, 20, .inl kgf))]) [0, 1, 2, 3, 4, 5, 6, 7, 8] rfl
            have hD9 := hD.sub (ws' := [(h0, .inr (5, [.ref mp, .ref gco, .ref mce, .int mcn, .ref sk, .int tp, .int ba, .ref kb, .ref kk, .ref ks, .int on, .ref sh, .int sn, .int mat, .int alw, .int st, .int mo, .int mh, .int sp, .long re])), (sk, .inl (sk1, 22424, .inr (.inl gs))), (mce, .inr (1, [.ref ek, .ref ec, .ref ef, .ref gki, .int e_limit, .int e_fresh, .int lff, .int lhe, .int e_mostHeld, .int e_made, .int e_reused, .int lfd, .int e_doubled])), (ek, .inl (e1, 400, .inl gk)), (ec, .inl (e2, 400, .inl lgc)), (ef, .inl (e3, 1200, .inr (.inl gv))), (gki, .inr (4, [.ref kw, .ref kf, .int kz])), (kw, .inl (k1, 20, .inr (.inl kgw))), (kf, .inl (k2, 20, .inl kgf))]) [0, 1, 2, 3, 4, 5, 6, 7, 8] (by decide) rfl
            have hK9 := hK.sub (tys' := [(sk1, .long), (e1, .int), (e2, .int), (e3, .long), (k1, .long), (k2, .int)]) [0, 1, 2, 3, 4, 5] rfl
            exact W.vret hx hb hr (fun t ht hW => ⟨⟨(lgc, lff, lhe, lfd), rfl, (by obtain ⟨p2, u1, u2⟩ := hlc; exact ⟨p2, u1, fun j hj h => u2 j hj (fun k hk => h k (by have := zn_nat (x := i) (by omega); omega))⟩), by rw [ht]; exact hP9, va_K.moved hW.alike hK9, hD9⟩, hS.F ht⟩) hS.2.2 dX5_dropNames_54
          · have ic_4 : x_3.toInt ≠ 0 := zi_ne c_4
            refine lv_iload_n hx hb dX5_dropNames_22 rfl (lv_at hl 2 rfl) ?_
            refine lv_iload_n hx hb dX5_dropNames_23 rfl (lv_at hl 0 rfl) ?_
            have hPc := hP.sub (ws' := []) [] rfl
            have hDc := hD.sub (ws' := []) [] (by decide) rfl
            have hKc := hK.sub (tys' := []) [] rfl
            have hFc := va_free (wc := []) hD hS hAA [] rfl
            refine va_calli (va_runS (As := [.int na, .int i]) (rest := []) ⟨hx, hb, hml, hown, hA⟩ (c_X5_has l dC dI aK aV na i H.size (by omega) (by omega)) (va_cwS 2 hA (zw_S wi_1135 wi_1136 wi_139 (zw_good wi_1137)) rfl rfl rfl (by decide +kernel) ⟨(Nat.le_of_ble_eq_true rfl), (Nat.le_of_ble_eq_true rfl)⟩) ⟨zP_blind, zz_pre hKc hPc hDc hN hT hS hFc⟩ rfl rfl hl.1 rfl (lv_room (Nat.le_of_ble_eq_true rfl)) dX5_dropNames_24 ⟨(Nat.le_of_ble_eq_true rfl), (Nat.le_of_ble_eq_true rfl)⟩) hS (fun q _ h => hFc q h) hFc (fun r_5 u t H1 locs ht hvm hw hB hz1 hk1 hS => ?_)
            obtain ⟨hP1, hK1, hD1⟩ := hB
            rw [ht] at hP1
            have hK1 := va_K.moved hvm.symm hK1
            obtain ⟨hP, hD⟩ := va_join (wr := [(h0, .inr (5, [.ref mp, .ref gco, .ref mce, .int mcn, .ref sk, .int tp, .int ba, .ref kb, .ref kk, .ref ks, .int on, .ref sh, .int sn, .int mat, .int alw, .int st, .int mo, .int mh, .int sp, .long re])), (sk, .inl (sk1, 22424, .inr (.inl gs))), (mce, .inr (1, [.ref ek, .ref ec, .ref ef, .ref gki, .int e_limit, .int e_fresh, .int lff, .int lhe, .int e_mostHeld, .int e_made, .int e_reused, .int lfd, .int e_doubled])), (ek, .inl (e1, 400, .inl gk)), (ec, .inl (e2, 400, .inl lgc)), (ef, .inl (e3, 1200, .inr (.inl gv))), (gki, .inr (4, [.ref kw, .ref kf, .int kz])), (kw, .inl (k1, 20, .inr (.inl kgw))), (kf, .inl (k2, 20, .inl kgf))]) (w1 := []) hP hD [] [0, 1, 2, 3, 4, 5, 6, 7, 8] rfl rfl (by decide) (by decide) hk1 hFc hP1 hD1
            have hK := (hK.sub (tys' := [(sk1, .long), (e1, .int), (e2, .int), (e3, .long), (k1, .long), (k2, .int)]) [0, 1, 2, 3, 4, 5] rfl).app hK1
            generalize H1 = H at hP hS ⊢
            have hP : va_P (dC, dI) vwCl [(h0, .inr (5, [.ref mp, .ref gco, .ref mce, .int mcn, .ref sk, .int tp, .int ba, .ref kb, .ref kk, .ref ks, .int on, .ref sh, .int sn, .int mat, .int alw, .int st, .int mo, .int mh, .int sp, .long re])), (sk, .inl (sk1, 22424, .inr (.inl gs))), (mce, .inr (1, [.ref ek, .ref ec, .ref ef, .ref gki, .int e_limit, .int e_fresh, .int lff, .int lhe, .int e_mostHeld, .int e_made, .int e_reused, .int lfd, .int e_doubled])), (ek, .inl (e1, 400, .inl gk)), (ec, .inl (e2, 400, .inl lgc)), (ef, .inl (e3, 1200, .inr (.inl gv))), (gki, .inr (4, [.ref kw, .ref kf, .int kz])), (kw, .inl (k1, 20, .inr (.inl kgw))), (kf, .inl (k2, 20, .inl kgf))] H := hP
            have hD : va_D A [(h0, .inr (5, [.ref mp, .ref gco, .ref mce, .int mcn, .ref sk, .int tp, .int ba, .ref kb, .ref kk, .ref ks, .int on, .ref sh, .int sn, .int mat, .int alw, .int st, .int mo, .int mh, .int sp, .long re])), (sk, .inl (sk1, 22424, .inr (.inl gs))), (mce, .inr (1, [.ref ek, .ref ec, .ref ef, .ref gki, .int e_limit, .int e_fresh, .int lff, .int lhe, .int e_mostHeld, .int e_made, .int e_reused, .int lfd, .int e_doubled])), (ek, .inl (e1, 400, .inl gk)), (ec, .inl (e2, 400, .inl lgc)), (ef, .inl (e3, 1200, .inr (.inl gv))), (gki, .inr (4, [.ref kw, .ref kf, .int kz])), (kw, .inl (k1, 20, .inr (.inl kgw))), (kf, .inl (k2, 20, .inl kgf))] := hD
            have hK : va_K (dC, dI) vwCl [(sk1, .long), (e1, .int), (e2, .int), (e3, .long), (k1, .long), (k2, .int)] s := hK
            have hw_r_5 := hw
            try dsimp only at hw_r_5
            have hq_6 := hw
            refine lv_if_eq (tgt := 48) hx hb dX5_dropNames_27 (by decide) (fun c_7 => ?_) (fun c_7 => ?_)
            · have ic_7 : r_5.toInt = 0 := zi_eq c_7
              obtain ⟨x_8, ex_8⟩ : ∃ y : Int32, y = i + Int32.ofInt 1 := ⟨_, rfl⟩
              refine lv_iinc (v := x_8) (lv' := [(2, .int x_8), (0, .ref h0), (1, .int na)]) hx hb dX5_dropNames_48 hl (k := 0) rfl (by rw [ex_8]) (by decide) rfl (fun ls hl => ?_)
              have ix_8 : x_8.toInt = i.toInt + 1 := by rw [ex_8]; exact zi_addc (by decide) (by omega) (by omega)
              refine lv_goto (tgt := 10) hx hb dX5_dropNames_51 (by decide) ?_
              have hlc_9 : ∃ p2, zMD nS kz kgf gk lgc gv e_fresh lff lhe e_doubled gs p2 gsh sn ∧ ∀ j : Nat, pp j = true → (∀ k, k < Int32.toNatClampNeg x_8 → zbit na k = true → j ≠ Int32.toNatClampNeg ba + k) → p2 j = true := by obtain ⟨p2, u1, u2⟩ := hlc; exact ⟨p2, u1, fun j hj h => u2 j hj (fun k hk => h k (by have := zn_nat (x := i) (by omega); have := zn_nat (x := x_8) (by omega); omega))⟩
              exact ih x_8 lff lhe lfd lgc _ _ _ (by omega) (by omega) (by omega) hlc_9 (hP.sub [0, 1, 2, 3, 4, 5, 6, 7, 8] rfl) (hD.sub [0, 1, 2, 3, 4, 5, 6, 7, 8] (by decide) rfl) hS (lv_sub hl [0, 1, 2] rfl)
            · have ic_7 : r_5.toInt ≠ 0 := zi_ne c_7
              have hb9 : zbit na (Int32.toNatClampNeg i) = true := hq_6.elim (fun g => g.2) (fun g => absurd g.1 (by omega))
              obtain ⟨p9, ⟨lv9, FL9, hm9⟩, hp9⟩ := hlc
              have hni9 := zn_nat (x := i) (by omega)
              have hnb9 := zn_nat (x := ba) (by omega)
              have hpj9 : p9 (Int32.toNatClampNeg ba + Int32.toNatClampNeg i) = true := hp9 _ (hpm _ (by omega) hb9) (fun k hk _ => by omega)
              refine lv_aload_n hx hb dX5_dropNames_30 rfl (lv_at hl 1 rfl) ?_
              refine va_get (D := (dC, dI)) (ci := 5) (v := .ref mce) (C := RX5) (T := TX5) (N := 20) hx hb hA zin_X5 hown hK hP 0 rfl rfl 2 (by decide) (hA _ wi_486) (fun _ h9 => h9) rfl dX5_dropNames_31 ?_
              refine lv_aload_n hx hb dX5_dropNames_34 rfl (lv_at hl 1 rfl) ?_
              refine va_get (D := (dC, dI)) (ci := 5) (v := .ref sk) (C := RX5) (T := TX5) (N := 20) hx hb hA zin_X5 hown hK hP 0 rfl rfl 4 (by decide) (hA _ wi_488) (fun _ h9 => h9) rfl dX5_dropNames_35 ?_
              refine lv_aload_n hx hb dX5_dropNames_38 rfl (lv_at hl 1 rfl) ?_
              refine va_get (D := (dC, dI)) (ci := 5) (v := .int ba) (C := RX5) (T := TX5) (N := 20) hx hb hA zin_X5 hown hK hP 0 rfl rfl 6 (by decide) (hA _ wi_490) (fun _ h9 => h9) rfl dX5_dropNames_39 ?_
              refine lv_iload_n hx hb dX5_dropNames_42 rfl (lv_at hl 0 rfl) ?_
              refine lv_iadd hx hb dX5_dropNames_43 ?_
              refine lv_topi (fun x_10 ex_10 => ?_)
              have ix_10 : x_10.toInt = ba.toInt + i.toInt := by rw [ex_10]; exact zi_addc rfl (by omega) (by omega)
              refine va_lald hx hb hK hP 1 0 rfl rfl (vp_in_iff.mpr ⟨by omega, by omega⟩) dX5_dropNames_44 ?_
              refine lv_topl (fun x_11 ex_11 => ?_)
              have hv9 : x_11 = gs (Int32.toNatClampNeg ba + Int32.toNatClampNeg i) := by rw [ex_11]; exact congrArg gs (by have := zn_nat (x := x_10) (by omega); omega)
              have ht9 := zMx_tk hm9 hpj9 hv9
              have hPc := hP.sub (ws' := [(mce, .inr (1, [.ref ek, .ref ec, .ref ef, .ref gki, .int e_limit, .int e_fresh, .int lff, .int lhe, .int e_mostHeld, .int e_made, .int e_reused, .int lfd, .int e_doubled])), (ek, .inl (e1, 400, .inl gk)), (ec, .inl (e2, 400, .inl lgc)), (ef, .inl (e3, 1200, .inr (.inl gv))), (gki, .inr (4, [.ref kw, .ref kf, .int kz])), (kw, .inl (k1, 20, .inr (.inl kgw))), (kf, .inl (k2, 20, .inl kgf))]) [2, 3, 4, 5, 6, 7, 8] rfl
              have hDc := hD.sub (ws' := [(mce, .inr (1, [.ref ek, .ref ec, .ref ef, .ref gki, .int e_limit, .int e_fresh, .int lff, .int lhe, .int e_mostHeld, .int e_made, .int e_reused, .int lfd, .int e_doubled])), (ek, .inl (e1, 400, .inl gk)), (ec, .inl (e2, 400, .inl lgc)), (ef, .inl (e3, 1200, .inr (.inl gv))), (gki, .inr (4, [.ref kw, .ref kf, .int kz])), (kw, .inl (k1, 20, .inr (.inl kgw))), (kf, .inl (k2, 20, .inl kgf))]) [2, 3, 4, 5, 6, 7, 8] (by decide) rfl
              have hKc := hK.sub (tys' := [(e1, .int), (e2, .int), (e3, .long), (k1, .long), (k2, .int)]) [1, 2, 3, 4, 5] rfl
              have hFc := va_free (wc := [(mce, .inr (1, [.ref ek, .ref ec, .ref ef, .ref gki, .int e_limit, .int e_fresh, .int lff, .int lhe, .int e_mostHeld, .int e_made, .int e_reused, .int lfd, .int e_doubled])), (ek, .inl (e1, 400, .inl gk)), (ec, .inl (e2, 400, .inl lgc)), (ef, .inl (e3, 1200, .inr (.inl gv))), (gki, .inr (4, [.ref kw, .ref kf, .int kz])), (kw, .inl (k1, 20, .inr (.inl kgw))), (kf, .inl (k2, 20, .inl kgf))]) hD hS hAA [2, 3, 4, 5, 6, 7, 8] rfl
              refine va_callv (va_runV (As := [.long x_11]) (rest := []) ⟨hx, hb, hml, hown, hA⟩ (c_X1_drop_x l dC dI aK aV mce ek ec ef gki e1 e2 e3 e_limit e_fresh lff lhe e_mostHeld e_made e_reused lfd e_doubled gk lgc gv kw kf k1 k2 kz kgw kgf x_11 lv9 (fun c => zRS nS gs (zpR p9 (Int32.toNatClampNeg ba + Int32.toNatClampNeg i)) c + zr x_11 c) (fun c => zRS nS gs (zpR p9 (Int32.toNatClampNeg ba + Int32.toNatClampNeg i)) c) FL9 H.size (by omega) (by omega) hkf ht9.1 ht9.2 (fun _ => rfl) (fun _ => zRS_0) (by omega)) (cwV 1 hA (zw_V wi_1138 wi_1139 wi_1140 wi_140 (zw_good wi_1141)) rfl rfl rfl (by decide +kernel) ⟨(Nat.le_of_ble_eq_true rfl), (Nat.le_of_ble_eq_true rfl)⟩) ⟨zP_blind, va_recv hKc hPc (ci := 1) (q0 := 0) rfl rfl, zz_pre hKc hPc hDc hN hT hS hFc⟩ rfl rfl hl.1 rfl (lv_room (Nat.le_of_ble_eq_true rfl)) dX5_dropNames_45 ⟨(Nat.le_of_ble_eq_true rfl), (Nat.le_of_ble_eq_true rfl)⟩) hS (fun q _ h => hFc q h) hFc (fun u t H1 locs ht hvm hw hB hz1 hk1 hS => ?_)
              obtain ⟨gc_13, ff_14, he_15, fd_16⟩ := u
              obtain ⟨hP1, hK1, hD1⟩ := hB
              rw [ht] at hP1
              have hK1 := va_K.moved hvm.symm hK1
              obtain ⟨hP, hD⟩ := va_join (wr := [(h0, .inr (5, [.ref mp, .ref gco, .ref mce, .int mcn, .ref sk, .int tp, .int ba, .ref kb, .ref kk, .ref ks, .int on, .ref sh, .int sn, .int mat, .int alw, .int st, .int mo, .int mh, .int sp, .long re])), (sk, .inl (sk1, 22424, .inr (.inl gs)))]) (w1 := [(mce, .inr (1, [.ref ek, .ref ec, .ref ef, .ref gki, .int e_limit, .int e_fresh, .int ff_14, .int he_15, .int e_mostHeld, .int e_made, .int e_reused, .int fd_16, .int e_doubled])), (ek, .inl (e1, 400, .inl gk)), (ec, .inl (e2, 400, .inl gc_13)), (ef, .inl (e3, 1200, .inr (.inl gv))), (gki, .inr (4, [.ref kw, .ref kf, .int kz])), (kw, .inl (k1, 20, .inr (.inl kgw))), (kf, .inl (k2, 20, .inl kgf))]) hP hD [2, 3, 4, 5, 6, 7, 8] [0, 1] rfl rfl (by decide) (by decide) hk1 hFc hP1 hD1
              have hK := (hK.sub (tys' := [(sk1, .long)]) [0] rfl).app hK1
              generalize H1 = H at hP hS ⊢
              have hP : va_P (dC, dI) vwCl [(h0, .inr (5, [.ref mp, .ref gco, .ref mce, .int mcn, .ref sk, .int tp, .int ba, .ref kb, .ref kk, .ref ks, .int on, .ref sh, .int sn, .int mat, .int alw, .int st, .int mo, .int mh, .int sp, .long re])), (sk, .inl (sk1, 22424, .inr (.inl gs))), (mce, .inr (1, [.ref ek, .ref ec, .ref ef, .ref gki, .int e_limit, .int e_fresh, .int ff_14, .int he_15, .int e_mostHeld, .int e_made, .int e_reused, .int fd_16, .int e_doubled])), (ek, .inl (e1, 400, .inl gk)), (ec, .inl (e2, 400, .inl gc_13)), (ef, .inl (e3, 1200, .inr (.inl gv))), (gki, .inr (4, [.ref kw, .ref kf, .int kz])), (kw, .inl (k1, 20, .inr (.inl kgw))), (kf, .inl (k2, 20, .inl kgf))] H := hP
              have hD : va_D A [(h0, .inr (5, [.ref mp, .ref gco, .ref mce, .int mcn, .ref sk, .int tp, .int ba, .ref kb, .ref kk, .ref ks, .int on, .ref sh, .int sn, .int mat, .int alw, .int st, .int mo, .int mh, .int sp, .long re])), (sk, .inl (sk1, 22424, .inr (.inl gs))), (mce, .inr (1, [.ref ek, .ref ec, .ref ef, .ref gki, .int e_limit, .int e_fresh, .int ff_14, .int he_15, .int e_mostHeld, .int e_made, .int e_reused, .int fd_16, .int e_doubled])), (ek, .inl (e1, 400, .inl gk)), (ec, .inl (e2, 400, .inl gc_13)), (ef, .inl (e3, 1200, .inr (.inl gv))), (gki, .inr (4, [.ref kw, .ref kf, .int kz])), (kw, .inl (k1, 20, .inr (.inl kgw))), (kf, .inl (k2, 20, .inl kgf))] := hD
              have hK : va_K (dC, dI) vwCl [(sk1, .long), (e1, .int), (e2, .int), (e3, .long), (k1, .long), (k2, .int)] s := hK
              have hq_17 := hw
              obtain ⟨lv8, FL8, hz9, hl9, hf9⟩ := hq_17
              obtain ⟨x_18, ex_18⟩ : ∃ y : Int32, y = i + Int32.ofInt 1 := ⟨_, rfl⟩
              refine lv_iinc (v := x_18) (lv' := [(2, .int x_18), (0, .ref h0), (1, .int na)]) hx hb dX5_dropNames_48 hl (k := 0) rfl (by rw [ex_18]) (by decide) rfl (fun ls hl => ?_)
              have ix_18 : x_18.toInt = i.toInt + 1 := by rw [ex_18]; exact zi_addc (by decide) (by omega) (by omega)
              refine lv_goto (tgt := 10) hx hb dX5_dropNames_51 (by decide) ?_
              have hlc_19 : ∃ p2, zMD nS kz kgf gk gc_13 gv e_fresh ff_14 he_15 e_doubled gs p2 gsh sn ∧ ∀ j : Nat, pp j = true → (∀ k, k < Int32.toNatClampNeg x_18 → zbit na k = true → j ≠ Int32.toNatClampNeg ba + k) → p2 j = true := ⟨_, zMx_dn hm9 hz9 hl9 hf9, fun j hj h => by have hx9 := zn_nat (x := i) (by omega); have hy9 := zn_nat (x := x_18) (by omega); exact (zpR_n (show j ≠ Int32.toNatClampNeg ba + Int32.toNatClampNeg i from h _ (by omega) hb9)).trans (hp9 j hj (fun k hk => h k (by omega)))⟩
              exact ih x_18 ff_14 he_15 fd_16 gc_13 _ _ _ (by omega) (by omega) (by omega) hlc_19 (hP.sub [0, 1, 2, 3, 4, 5, 6, 7, 8] rfl) (hD.sub [0, 1, 2, 3, 4, 5, 6, 7, 8] (by decide) rfl) hS (lv_sub hl [0, 1, 2] rfl)
    have hlc_20 : ∃ p2, zMD nS kz kgf gk gc gv e_fresh e_firstFree e_held e_doubled gs p2 gsh sn ∧ ∀ j : Nat, pp j = true → (∀ k, k < Int32.toNatClampNeg 0 → zbit na k = true → j ≠ Int32.toNatClampNeg ba + k) → p2 j = true := ⟨pp, hmd, fun _ h _ => h⟩
    exact loop_10 _ 0 e_firstFree e_held e_freed gc _ _ _ (Nat.le_refl _) (by have h9_0 : Int32.toInt 0 = 0 := (by decide); omega) (by have h9_0 : Int32.toInt 0 = 0 := (by decide); omega) hlc_20 (hP.sub [0, 1, 2, 3, 4, 5, 6, 7, 8] rfl) (hD.sub [0, 1, 2, 3, 4, 5, 6, 7, 8] (by decide) rfl) hS (lv_sub hl [0, 1, 2] rfl)
  · have ic_1 : mcn.toInt = 0 := zi_eq c_1
    exfalso
    omega
set_option maxHeartbeats 4000000 in
set_option maxRecDepth 100000 in
theorem c_X5_dropNames_p (l : Launch) (dC : Nat → ClassId) (dI : Nat → Nat → Nat) (aK aV : Nat → Nat) (h0 : Nat) (mp : Nat) (gco : Nat) (mce : Nat) (sk : Nat) (kb : Nat) (kk : Nat) (ks : Nat) (sh : Nat) (mcn : Int32) (tp : Int32) (ba : Int32) (on : Int32) (sn : Int32) (mat : Int32) (alw : Int32) (st : Int32) (mo : Int32) (mh : Int32) (sp : Int32) (re : Int64) (na : Int32) (sz : Nat) (hcn : mcn.toInt = 0) : Met l yX5_dropNames (Cond.code yX5_dropNames cX5_dropNames 3 none :: zw) ({ frames := 16, cells := 0, slots := 0, locals := 600 }) (va_Pc [.ref h0, .int na] (zP dC dI aK aV sz [] [(h0, .inr (5, [.ref mp, .ref gco, .ref mce, .int mcn, .ref sk, .int tp, .int ba, .ref kb, .ref kk, .ref ks, .int on, .ref sh, .int sn, .int mat, .int alw, .int st, .int mo, .int mh, .int sp, .long re]))])) (va_Qv (fun u : Unit => True) (fun u => zQ dC dI (va_A [(h0, .inr (5, [.ref mp, .ref gco, .ref mce, .int mcn, .ref sk, .int tp, .int ba, .ref kb, .ref kk, .ref ks, .int on, .ref sh, .int sn, .int mat, .int alw, .int st, .int mo, .int mh, .int sp, .long re]))] sz) [] [(h0, .inr (5, [.ref mp, .ref gco, .ref mce, .int mcn, .ref sk, .int tp, .int ba, .ref kb, .ref kk, .ref ks, .int on, .ref sh, .int sn, .int mat, .int alw, .int st, .int mo, .int mh, .int sp, .long re]))]) (va_A [(h0, .inr (5, [.ref mp, .ref gco, .ref mce, .int mcn, .ref sk, .int tp, .int ba, .ref kb, .ref kk, .ref ks, .int on, .ref sh, .int sn, .int mat, .int alw, .int st, .int mo, .int mh, .int sp, .long re]))] sz)) 0 0 (va_A [(h0, .inr (5, [.ref mp, .ref gco, .ref mce, .int mcn, .ref sk, .int tp, .int ba, .ref kb, .ref kk, .ref ks, .int on, .ref sh, .int sn, .int mat, .int alw, .int st, .int mo, .int mh, .int sp, .long re]))] sz) := by
  refine Met.ofW (cc := cX5_dropNames) (maxL := 3) (ret := none) (by decide) rfl ?_
  intro p e s m args below meth c s₁ B hml hv
  obtain ⟨rfl, hsz, hP, hK, hD0, hN, hT⟩ := hv
  have hx := B.exec
  have hb := B.bytes
  have hr := B.returns
  have hts := atoms_spec (ws := Cond.code yX5_dropNames cX5_dropNames 3 none :: zw) B.pre
  have hA : ∀ w ∈ zw, w.before _ s = true := fun w h => hts w (List.mem_cons_of_mem _ h)
  have hown : s.vm.findClass RX5 = some m.cls := findClass_of_methodNamed B.named
  have hlocks := B.notSynchronized
  subst hsz
  have hD := hD0.self (sz := s.heap.size)
  generalize hAe : va_A [(h0, .inr (5, [.ref mp, .ref gco, .ref mce, .int mcn, .ref sk, .int tp, .int ba, .ref kb, .ref kk, .ref ks, .int on, .ref sh, .int sn, .int mat, .int alw, .int st, .int mo, .int mh, .int sp, .long re]))] s.heap.size = A at hD hT ⊢
  have hAA : ∀ q : Nat, s.heap.size ≤ q → A q := fun q h => by rw [← hAe]; exact Or.inr h
  have hS : va_S A s.heap s.heap [] := va_S.rf
  have hl := lv_entry ([.ref h0, .int na]) (n := 3) (Nat.le_of_ble_eq_true rfl)
  rw [lg_entry_eq]
  generalize (lg_sl ([.ref h0, .int na]) ++ List.replicate (3 - (lg_sl ([.ref h0, .int na])).length) Slot.unset).toArray = ls at hl ⊢
  have hl : lv_has ls 3 [(0, .ref h0), (1, .int na)] := hl
  refine lv_aload_n hx hb dX5_dropNames_0 rfl (lv_at hl 0 rfl) ?_
  refine va_get (D := (dC, dI)) (ci := 5) (v := .int mcn) (C := RX5) (T := TX5) (N := 20) hx hb hA zin_X5 hown hK hP 0 rfl rfl 3 (by decide) (hA _ wi_487) (fun _ h9 => h9) rfl dX5_dropNames_1 ?_
  refine lv_if_ne (tgt := 8) hx hb dX5_dropNames_4 (by decide) (fun c_1 => ?_) (fun c_1 => ?_)
  · have ic_1 : mcn.toInt ≠ 0 := zi_ne c_1
    exfalso
    omega
  · have ic_1 : mcn.toInt = 0 := zi_eq c_1
    have hP9 := hP.sub (ws' := [(h0, .inr (5, [.ref mp, .ref gco, .ref mce, .int mcn, .ref sk, .int tp, .int ba, .ref kb, .ref kk, .ref ks, .int on, .ref sh, .int sn, .int mat, .int alw, .int st, .int mo, .int mh, .int sp, .long re]))]) [0] rfl
    have hD9 := hD.sub (ws' := [(h0, .inr (5, [.ref mp, .ref gco, .ref mce, .int mcn, .ref sk, .int tp, .int ba, .ref kb, .ref kk, .ref ks, .int on, .ref sh, .int sn, .int mat, .int alw, .int st, .int mo, .int mh, .int sp, .long re]))]) [0] (by decide) rfl
    have hK9 := hK.sub (tys' := []) [] rfl
    exact W.vret hx hb hr (fun t ht hW => ⟨⟨(), rfl, trivial, by rw [ht]; exact hP9, va_K.moved hW.alike hK9, hD9⟩, hS.F ht⟩) hS.2.2 dX5_dropNames_7
