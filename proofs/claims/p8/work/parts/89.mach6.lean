theorem wi_315 : Cond.fieldLink RX5 260 "ReuseHouse$Program" "arms" "LReuseHouse$Arms;" ∈ zw := zw_in (List.mem_of_getElem? (i := 315) (by decide +kernel)) (by decide +kernel)
theorem wi_230 : Cond.fieldLink RX5 276 "ReuseHouse$Arms" "kind" "[I" ∈ zw := zw_in (List.mem_of_getElem? (i := 230) (by decide +kernel)) (by decide +kernel)
theorem wi_234 : Cond.fieldLink RX5 289 "ReuseHouse$Arms" "next" "[I" ∈ zw := zw_in (List.mem_of_getElem? (i := 234) (by decide +kernel)) (by decide +kernel)
theorem dX5_fittingArm_0 : decode cX5_fittingArm 0 = .ok (.iload_n 1, 1) := by decide +kernel
theorem dX5_fittingArm_1 : decode cX5_fittingArm 1 = .ok (.istore_n 3, 1) := by decide +kernel
theorem dX5_fittingArm_2 : decode cX5_fittingArm 2 = .ok (.iconst 0, 1) := by decide +kernel
theorem dX5_fittingArm_3 : decode cX5_fittingArm 3 = .ok (.istore 4, 2) := by decide +kernel
theorem dX5_fittingArm_5 : decode cX5_fittingArm 5 = .ok (.iload 4, 2) := by decide +kernel
theorem dX5_fittingArm_7 : decode cX5_fittingArm 7 = .ok (.bipush 8, 2) := by decide +kernel
theorem dX5_fittingArm_9 : decode cX5_fittingArm 9 = .ok (.if_icmp .ge 56, 3) := by decide +kernel
theorem dX5_fittingArm_12 : decode cX5_fittingArm 12 = .ok (.iload_n 3, 1) := by decide +kernel
theorem dX5_fittingArm_13 : decode cX5_fittingArm 13 = .ok (.iconst (-1), 1) := by decide +kernel
theorem dX5_fittingArm_14 : decode cX5_fittingArm 14 = .ok (.if_icmp .eq 51, 3) := by decide +kernel
theorem dX5_fittingArm_17 : decode cX5_fittingArm 17 = .ok (.aload_n 0, 1) := by decide +kernel
theorem dX5_fittingArm_18 : decode cX5_fittingArm 18 = .ok (.getfield 67, 3) := by decide +kernel
theorem dX5_fittingArm_21 : decode cX5_fittingArm 21 = .ok (.getfield 260, 3) := by decide +kernel
theorem dX5_fittingArm_24 : decode cX5_fittingArm 24 = .ok (.getfield 276, 3) := by decide +kernel
theorem dX5_fittingArm_27 : decode cX5_fittingArm 27 = .ok (.iload_n 3, 1) := by decide +kernel
theorem dX5_fittingArm_28 : decode cX5_fittingArm 28 = .ok (.iaload, 1) := by decide +kernel
theorem dX5_fittingArm_29 : decode cX5_fittingArm 29 = .ok (.istore 5, 2) := by decide +kernel
theorem dX5_fittingArm_31 : decode cX5_fittingArm 31 = .ok (.iload 5, 2) := by decide +kernel
theorem dX5_fittingArm_33 : decode cX5_fittingArm 33 = .ok (.bipush (-2), 2) := by decide +kernel
theorem dX5_fittingArm_35 : decode cX5_fittingArm 35 = .ok (.if_icmp .eq 9, 3) := by decide +kernel
theorem dX5_fittingArm_38 : decode cX5_fittingArm 38 = .ok (.iload 5, 2) := by decide +kernel
theorem dX5_fittingArm_40 : decode cX5_fittingArm 40 = .ok (.iload_n 2, 1) := by decide +kernel
theorem dX5_fittingArm_41 : decode cX5_fittingArm 41 = .ok (.if_icmp .ne 5, 3) := by decide +kernel
theorem dX5_fittingArm_44 : decode cX5_fittingArm 44 = .ok (.iload_n 3, 1) := by decide +kernel
theorem dX5_fittingArm_45 : decode cX5_fittingArm 45 = .ok (.ireturn, 1) := by decide +kernel
theorem dX5_fittingArm_46 : decode cX5_fittingArm 46 = .ok (.aload_n 0, 1) := by decide +kernel
theorem dX5_fittingArm_47 : decode cX5_fittingArm 47 = .ok (.getfield 67, 3) := by decide +kernel
theorem dX5_fittingArm_50 : decode cX5_fittingArm 50 = .ok (.getfield 260, 3) := by decide +kernel
theorem dX5_fittingArm_53 : decode cX5_fittingArm 53 = .ok (.getfield 289, 3) := by decide +kernel
theorem dX5_fittingArm_56 : decode cX5_fittingArm 56 = .ok (.iload_n 3, 1) := by decide +kernel
theorem dX5_fittingArm_57 : decode cX5_fittingArm 57 = .ok (.iaload, 1) := by decide +kernel
theorem dX5_fittingArm_58 : decode cX5_fittingArm 58 = .ok (.istore_n 3, 1) := by decide +kernel
theorem dX5_fittingArm_59 : decode cX5_fittingArm 59 = .ok (.iinc 4 1, 3) := by decide +kernel
theorem dX5_fittingArm_62 : decode cX5_fittingArm 62 = .ok (.goto (-57), 3) := by decide +kernel
theorem dX5_fittingArm_65 : decode cX5_fittingArm 65 = .ok (.iconst (-1), 1) := by decide +kernel
theorem dX5_fittingArm_66 : decode cX5_fittingArm 66 = .ok (.ireturn, 1) := by decide +kernel
set_option maxHeartbeats 4000000 in
set_option maxRecDepth 100000 in
theorem c_X5_fittingArm (l : Launch) (dC : Nat → ClassId) (dI : Nat → Nat → Nat) (aK aV : Nat → Nat) (h0 : Nat) (mp : Nat) (gco : Nat) (mce : Nat) (sk : Nat) (kb : Nat) (kk : Nat) (ks : Nat) (sh : Nat) (mcn : Int32) (tp : Int32) (ba : Int32) (on : Int32) (sn : Int32) (mat : Int32) (alw : Int32) (st : Int32) (mo : Int32) (mh : Int32) (sp : Int32) (re : Int64) (gar : Nat) (gki : Nat) (gfu : Nat) (akind : Nat) (anext : Nat) (abefore : Nat) (aleave : Nat) (afirstSlot : Nat) (abuilds : Nat) (az : Int32) (akkind : ClassId) (aknext : ClassId) (agkind : Nat → Int32) (agnext : Nat → Int32) (fr : Int32) (kd : Int32) (gA : List Nat) (sz : Nat) (hli : zli agnext fr gA) (hrg : ∀ m ∈ gA, m < 400) : Met l yX5_fittingArm (Cond.code yX5_fittingArm cX5_fittingArm 6 (some .int) :: zw) ({ frames := 8, cells := 0, slots := 0, locals := 200 }) (va_Pc [.ref h0, .int fr, .int kd] (zP dC dI aK aV sz [(akkind, .int), (aknext, .int)] [(h0, .inr (5, [.ref mp, .ref gco, .ref mce, .int mcn, .ref sk, .int tp, .int ba, .ref kb, .ref kk, .ref ks, .int on, .ref sh, .int sn, .int mat, .int alw, .int st, .int mo, .int mh, .int sp, .long re])), (mp, .inr (9, [.ref gco, .ref gar, .ref gki, .ref gfu])), (gar, .inr (0, [.ref akind, .ref anext, .ref abefore, .ref aleave, .ref afirstSlot, .ref abuilds, .int az])), (akind, .inl (akkind, 400, .inl agkind)), (anext, .inl (aknext, 400, .inl agnext))])) (va_Qi (fun (r : Int32) (u : Unit) => (r.toInt = -1 ∨ 0 ≤ r.toInt ∧ r.toInt < 400 ∧ Int32.toNatClampNeg r ∈ gA ∧ ((agkind (Int32.toNatClampNeg r)).toInt = -2 ∨ agkind (Int32.toNatClampNeg r) = kd)) ∧ (r = cfa agkind agnext kd 8 fr)) (fun u => zQ dC dI (va_A [(h0, .inr (5, [.ref mp, .ref gco, .ref mce, .int mcn, .ref sk, .int tp, .int ba, .ref kb, .ref kk, .ref ks, .int on, .ref sh, .int sn, .int mat, .int alw, .int st, .int mo, .int mh, .int sp, .long re])), (mp, .inr (9, [.ref gco, .ref gar, .ref gki, .ref gfu])), (gar, .inr (0, [.ref akind, .ref anext, .ref abefore, .ref aleave, .ref afirstSlot, .ref abuilds, .int az])), (akind, .inl (akkind, 400, .inl agkind)), (anext, .inl (aknext, 400, .inl agnext))] sz) [(akkind, .int), (aknext, .int)] [(h0, .inr (5, [.ref mp, .ref gco, .ref mce, .int mcn, .ref sk, .int tp, .int ba, .ref kb, .ref kk, .ref ks, .int on, .ref sh, .int sn, .int mat, .int alw, .int st, .int mo, .int mh, .int sp, .long re])), (mp, .inr (9, [.ref gco, .ref gar, .ref gki, .ref gfu])), (gar, .inr (0, [.ref akind, .ref anext, .ref abefore, .ref aleave, .ref afirstSlot, .ref abuilds, .int az])), (akind, .inl (akkind, 400, .inl agkind)), (anext, .inl (aknext, 400, .inl agnext))]) (va_A [(h0, .inr (5, [.ref mp, .ref gco, .ref mce, .int mcn, .ref sk, .int tp, .int ba, .ref kb, .ref kk, .ref ks, .int on, .ref sh, .int sn, .int mat, .int alw, .int st, .int mo, .int mh, .int sp, .long re])), (mp, .inr (9, [.ref gco, .ref gar, .ref gki, .ref gfu])), (gar, .inr (0, [.ref akind, .ref anext, .ref abefore, .ref aleave, .ref afirstSlot, .ref abuilds, .int az])), (akind, .inl (akkind, 400, .inl agkind)), (anext, .inl (aknext, 400, .inl agnext))] sz)) 0 0 (va_A [(h0, .inr (5, [.ref mp, .ref gco, .ref mce, .int mcn, .ref sk, .int tp, .int ba, .ref kb, .ref kk, .ref ks, .int on, .ref sh, .int sn, .int mat, .int alw, .int st, .int mo, .int mh, .int sp, .long re])), (mp, .inr (9, [.ref gco, .ref gar, .ref gki, .ref gfu])), (gar, .inr (0, [.ref akind, .ref anext, .ref abefore, .ref aleave, .ref afirstSlot, .ref abuilds, .int az])), (akind, .inl (akkind, 400, .inl agkind)), (anext, .inl (aknext, 400, .inl agnext))] sz) := by
  refine Met.ofW (cc := cX5_fittingArm) (maxL := 6) (ret := (some .int)) (by decide) rfl ?_
  intro p e s m args below meth c s₁ B hml hv
  obtain ⟨rfl, hsz, hP, hK, hD0, hN, hT⟩ := hv
  have hx := B.exec
  have hb := B.bytes
  have hr := B.returns
  have hts := atoms_spec (ws := Cond.code yX5_fittingArm cX5_fittingArm 6 (some .int) :: zw) B.pre
  have hA : ∀ w ∈ zw, w.before _ s = true := fun w h => hts w (List.mem_cons_of_mem _ h)
  have hown : s.vm.findClass RX5 = some m.cls := findClass_of_methodNamed B.named
  have hlocks := B.notSynchronized
  subst hsz
  have hD := hD0.self (sz := s.heap.size)
  generalize hAe : va_A [(h0, .inr (5, [.ref mp, .ref gco, .ref mce, .int mcn, .ref sk, .int tp, .int ba, .ref kb, .ref kk, .ref ks, .int on, .ref sh, .int sn, .int mat, .int alw, .int st, .int mo, .int mh, .int sp, .long re])), (mp, .inr (9, [.ref gco, .ref gar, .ref gki, .ref gfu])), (gar, .inr (0, [.ref akind, .ref anext, .ref abefore, .ref aleave, .ref afirstSlot, .ref abuilds, .int az])), (akind, .inl (akkind, 400, .inl agkind)), (anext, .inl (aknext, 400, .inl agnext))] s.heap.size = A at hD hT ⊢
  have hAA : ∀ q : Nat, s.heap.size ≤ q → A q := fun q h => by rw [← hAe]; exact Or.inr h
  have hS : va_S A s.heap s.heap [] := va_S.rf
  have hl := lv_entry ([.ref h0, .int fr, .int kd]) (n := 6) (Nat.le_of_ble_eq_true rfl)
  rw [lg_entry_eq]
  generalize (lg_sl ([.ref h0, .int fr, .int kd]) ++ List.replicate (6 - (lg_sl ([.ref h0, .int fr, .int kd])).length) Slot.unset).toArray = ls at hl ⊢
  have hl : lv_has ls 6 [(0, .ref h0), (1, .int fr), (2, .int kd)] := hl
  refine lv_iload_n hx hb dX5_fittingArm_0 rfl (lv_at hl 1 rfl) ?_
  refine lv_istore_n (lv' := [(3, .int fr), (0, .ref h0), (1, .int fr), (2, .int kd)]) hx hb dX5_fittingArm_1 rfl hl (by decide) rfl (fun ls hl => ?_)
  refine lv_iconst (v := 0) hx hb dX5_fittingArm_2 (by decide) ?_
  refine lv_istore (lv' := [(4, .int 0), (3, .int fr), (0, .ref h0), (1, .int fr), (2, .int kd)]) hx hb dX5_fittingArm_3 hl (by decide) rfl (fun ls hl => ?_)
  have loop_5 : ∀ (n9 : Nat) (am : Int32) (i : Int32) (H : Heap) (locs : List Loc) (ls : Array Slot), (8 - i.toInt + 1).toNat ≤ n9 → 0 ≤ i.toInt → i.toInt ≤ 8 → (∃ A2 : List Nat, zli agnext am A2 ∧ ∀ m ∈ A2, m ∈ gA) → cfa agkind agnext kd (8 - Int32.toNatClampNeg i) am = cfa agkind agnext kd 8 fr → va_P (dC, dI) vwCl [(h0, .inr (5, [.ref mp, .ref gco, .ref mce, .int mcn, .ref sk, .int tp, .int ba, .ref kb, .ref kk, .ref ks, .int on, .ref sh, .int sn, .int mat, .int alw, .int st, .int mo, .int mh, .int sp, .long re])), (mp, .inr (9, [.ref gco, .ref gar, .ref gki, .ref gfu])), (gar, .inr (0, [.ref akind, .ref anext, .ref abefore, .ref aleave, .ref afirstSlot, .ref abuilds, .int az])), (akind, .inl (akkind, 400, .inl agkind)), (anext, .inl (aknext, 400, .inl agnext))] H → va_D A [(h0, .inr (5, [.ref mp, .ref gco, .ref mce, .int mcn, .ref sk, .int tp, .int ba, .ref kb, .ref kk, .ref ks, .int on, .ref sh, .int sn, .int mat, .int alw, .int st, .int mo, .int mh, .int sp, .long re])), (mp, .inr (9, [.ref gco, .ref gar, .ref gki, .ref gfu])), (gar, .inr (0, [.ref akind, .ref anext, .ref abefore, .ref aleave, .ref afirstSlot, .ref abuilds, .int az])), (akind, .inl (akkind, 400, .inl agkind)), (anext, .inl (aknext, 400, .inl agnext))] → va_S A s.heap H locs → lv_has ls 6 [(4, .int i), (3, .int am), (0, .ref h0), (1, .int fr), (2, .int kd)] → W p l e (headSpec (Cond.code yX5_fittingArm cX5_fittingArm 6 (some .int) :: zw) ({ frames := 8, cells := 0, slots := 0, locals := 200 })).room s m #[.ref h0, .int fr, .int kd] below meth c H locs 0 0 (MQ below (va_Qi (fun (r : Int32) (u : Unit) => (r.toInt = -1 ∨ 0 ≤ r.toInt ∧ r.toInt < 400 ∧ Int32.toNatClampNeg r ∈ gA ∧ ((agkind (Int32.toNatClampNeg r)).toInt = -2 ∨ agkind (Int32.toNatClampNeg r) = kd)) ∧ (r = cfa agkind agnext kd 8 fr)) (fun u => zQ dC dI A [(akkind, .int), (aknext, .int)] [(h0, .inr (5, [.ref mp, .ref gco, .ref mce, .int mcn, .ref sk, .int tp, .int ba, .ref kb, .ref kk, .ref ks, .int on, .ref sh, .int sn, .int mat, .int alw, .int st, .int mo, .int mh, .int sp, .long re])), (mp, .inr (9, [.ref gco, .ref gar, .ref gki, .ref gfu])), (gar, .inr (0, [.ref akind, .ref anext, .ref abefore, .ref aleave, .ref afirstSlot, .ref abuilds, .int az])), (akind, .inl (akkind, 400, .inl agkind)), (anext, .inl (aknext, 400, .inl agnext))]) A) #[.ref h0, .int fr, .int kd] s 0 0 A) (F0 m 5 ls []) := by
    intro n9
    induction n9 with
    | zero => intro am i H locs ls hm hi0 hi1 hla hcf; exfalso; omega
    | succ n9 ih =>
      intro am i H locs ls hm hi0 hi1 hla hcf hP hD hS hl
      refine lv_iload hx hb dX5_fittingArm_5 (lv_at hl 0 rfl) ?_
      refine lv_bipush (v := 8) hx hb dX5_fittingArm_7 (by decide) ?_
      refine lv_icmp_ge (tgt := 65) hx hb dX5_fittingArm_9 (by decide) (fun c_1 => ?_) (fun c_1 => ?_)
      · have ic_1 : 8 ≤ i.toInt := zi_le c_1
        refine lv_iconst (v := (-1)) hx hb dX5_fittingArm_65 (by decide) ?_
        have hlit : Int32.toInt (-1) = (-1) := by decide
        have hP9 := hP.sub (ws' := [(h0, .inr (5, [.ref mp, .ref gco, .ref mce, .int mcn, .ref sk, .int tp, .int ba, .ref kb, .ref kk, .ref ks, .int on, .ref sh, .int sn, .int mat, .int alw, .int st, .int mo, .int mh, .int sp, .long re])), (mp, .inr (9, [.ref gco, .ref gar, .ref gki, .ref gfu])), (gar, .inr (0, [.ref akind, .ref anext, .ref abefore, .ref aleave, .ref afirstSlot, .ref abuilds, .int az])), (akind, .inl (akkind, 400, .inl agkind)), (anext, .inl (aknext, 400, .inl agnext))]) [0, 1, 2, 3, 4] rfl
        have hD9 := hD.sub (ws' := [(h0, .inr (5, [.ref mp, .ref gco, .ref mce, .int mcn, .ref sk, .int tp, .int ba, .ref kb, .ref kk, .ref ks, .int on, .ref sh, .int sn, .int mat, .int alw, .int st, .int mo, .int mh, .int sp, .long re])), (mp, .inr (9, [.ref gco, .ref gar, .ref gki, .ref gfu])), (gar, .inr (0, [.ref akind, .ref anext, .ref abefore, .ref aleave, .ref afirstSlot, .ref abuilds, .int az])), (akind, .inl (akkind, 400, .inl agkind)), (anext, .inl (aknext, 400, .inl agnext))]) [0, 1, 2, 3, 4] (by decide) rfl
        have hK9 := hK.sub (tys' := [(akkind, .int), (aknext, .int)]) [0, 1] rfl
        exact W.iret (v := (-1)) hx hb hr (fun t ht hW => ⟨⟨(-1), (), rfl, ⟨(Or.inl (by decide)), (by rw [← hcf]; exact (cfa_no (by have := zn_nat (x := i) (by omega); omega)).symm)⟩, by rw [ht]; exact hP9, va_K.moved hW.alike hK9, hD9⟩, hS.F ht⟩) hS.2.2 dX5_fittingArm_66
      · have ic_1 : i.toInt < 8 := zi_nle c_1
        refine lv_iload_n hx hb dX5_fittingArm_12 rfl (lv_at hl 1 rfl) ?_
        refine lv_iconst (v := (-1)) hx hb dX5_fittingArm_13 (by decide) ?_
        refine lv_icmp_eq (tgt := 65) hx hb dX5_fittingArm_14 (by decide) (fun c_2 => ?_) (fun c_2 => ?_)
        · have ic_2 : am.toInt = (-1) := zi_eq c_2
          refine lv_iconst (v := (-1)) hx hb dX5_fittingArm_65 (by decide) ?_
          have hlit : Int32.toInt (-1) = (-1) := by decide
          have hP9 := hP.sub (ws' := [(h0, .inr (5, [.ref mp, .ref gco, .ref mce, .int mcn, .ref sk, .int tp, .int ba, .ref kb, .ref kk, .ref ks, .int on, .ref sh, .int sn, .int mat, .int alw, .int st, .int mo, .int mh, .int sp, .long re])), (mp, .inr (9, [.ref gco, .ref gar, .ref gki, .ref gfu])), (gar, .inr (0, [.ref akind, .ref anext, .ref abefore, .ref aleave, .ref afirstSlot, .ref abuilds, .int az])), (akind, .inl (akkind, 400, .inl agkind)), (anext, .inl (aknext, 400, .inl agnext))]) [0, 1, 2, 3, 4] rfl
          have hD9 := hD.sub (ws' := [(h0, .inr (5, [.ref mp, .ref gco, .ref mce, .int mcn, .ref sk, .int tp, .int ba, .ref kb, .ref kk, .ref ks, .int on, .ref sh, .int sn, .int mat, .int alw, .int st, .int mo, .int mh, .int sp, .long re])), (mp, .inr (9, [.ref gco, .ref gar, .ref gki, .ref gfu])), (gar, .inr (0, [.ref akind, .ref anext, .ref abefore, .ref aleave, .ref afirstSlot, .ref abuilds, .int az])), (akind, .inl (akkind, 400, .inl agkind)), (anext, .inl (aknext, 400, .inl agnext))]) [0, 1, 2, 3, 4] (by decide) rfl
          have hK9 := hK.sub (tys' := [(akkind, .int), (aknext, .int)]) [0, 1] rfl
          exact W.iret (v := (-1)) hx hb hr (fun t ht hW => ⟨⟨(-1), (), rfl, ⟨(Or.inl (by decide)), (by rw [← hcf]; exact (cfa_no (by have := zn_nat (x := i) (by omega); omega)).symm)⟩, by rw [ht]; exact hP9, va_K.moved hW.alike hK9, hD9⟩, hS.F ht⟩) hS.2.2 dX5_fittingArm_66
        · have ic_2 : am.toInt ≠ (-1) := zi_ne c_2
          obtain ⟨A3, hZ9, hA9⟩ := hla
          obtain ⟨y9, A4, hL9, hx9, hT9⟩ := zli_c hZ9 (by omega)
          have hrg9 := hrg y9 (hA9 _ (by rw [hL9]; exact List.mem_cons_self))
          have hy9 : Int32.toNatClampNeg am = y9 := by have := zn_nat (x := am) (by omega); omega
          refine lv_aload_n hx hb dX5_fittingArm_17 rfl (lv_at hl 2 rfl) ?_
          refine va_get (D := (dC, dI)) (ci := 5) (v := .ref mp) (C := RX5) (T := TX5) (N := 20) hx hb hA zin_X5 hown hK hP 0 rfl rfl 0 (by decide) (hA _ wi_484) (fun _ h9 => h9) rfl dX5_fittingArm_18 ?_
          refine va_get (D := (dC, dI)) (ci := 9) (v := .ref gar) (C := RX9) (T := TX9) (N := 4) hx hb hA zin_X9 hown hK hP 1 rfl rfl 1 (by decide) (hA _ wi_315) (fun _ h9 => h9) rfl dX5_fittingArm_21 ?_
          refine va_get (D := (dC, dI)) (ci := 0) (v := .ref akind) (C := RX0) (T := TX0) (N := 7) hx hb hA zin_X0 hown hK hP 2 rfl rfl 0 (by decide) (hA _ wi_230) (fun _ h9 => h9) rfl dX5_fittingArm_24 ?_
          refine lv_iload_n hx hb dX5_fittingArm_27 rfl (lv_at hl 1 rfl) ?_
          refine va_iald hx hb hK hP 3 0 rfl rfl (vp_in_iff.mpr ⟨by omega, by omega⟩) dX5_fittingArm_28 ?_
          refine lv_topi (fun x_3 ex_3 => ?_)
          refine lv_istore (lv' := [(5, .int x_3), (4, .int i), (3, .int am), (0, .ref h0), (1, .int fr), (2, .int kd)]) hx hb dX5_fittingArm_29 hl (by decide) rfl (fun ls hl => ?_)
          refine lv_iload hx hb dX5_fittingArm_31 (lv_at hl 0 rfl) ?_
          refine lv_bipush (v := (-2)) hx hb dX5_fittingArm_33 (by decide) ?_
          refine lv_icmp_eq (tgt := 44) hx hb dX5_fittingArm_35 (by decide) (fun c_4 => ?_) (fun c_4 => ?_)
          · have ic_4 : x_3.toInt = (-2) := zi_eq c_4
            refine lv_iload_n hx hb dX5_fittingArm_44 rfl (lv_at hl 2 rfl) ?_
            have hP9 := hP.sub (ws' := [(h0, .inr (5, [.ref mp, .ref gco, .ref mce, .int mcn, .ref sk, .int tp, .int ba, .ref kb, .ref kk, .ref ks, .int on, .ref sh, .int sn, .int mat, .int alw, .int st, .int mo, .int mh, .int sp, .long re])), (mp, .inr (9, [.ref gco, .ref gar, .ref gki, .ref gfu])), (gar, .inr (0, [.ref akind, .ref anext, .ref abefore, .ref aleave, .ref afirstSlot, .ref abuilds, .int az])), (akind, .inl (akkind, 400, .inl agkind)), (anext, .inl (aknext, 400, .inl agnext))]) [0, 1, 2, 3, 4] rfl
            have hD9 := hD.sub (ws' := [(h0, .inr (5, [.ref mp, .ref gco, .ref mce, .int mcn, .ref sk, .int tp, .int ba, .ref kb, .ref kk, .ref ks, .int on, .ref sh, .int sn, .int mat, .int alw, .int st, .int mo, .int mh, .int sp, .long re])), (mp, .inr (9, [.ref gco, .ref gar, .ref gki, .ref gfu])), (gar, .inr (0, [.ref akind, .ref anext, .ref abefore, .ref aleave, .ref afirstSlot, .ref abuilds, .int az])), (akind, .inl (akkind, 400, .inl agkind)), (anext, .inl (aknext, 400, .inl agnext))]) [0, 1, 2, 3, 4] (by decide) rfl
            have hK9 := hK.sub (tys' := [(akkind, .int), (aknext, .int)]) [0, 1] rfl
            exact W.iret (v := am) hx hb hr (fun t ht hW => ⟨⟨am, (), rfl, ⟨(Or.inr ⟨by omega, by omega, by rw [hy9]; exact hA9 _ (by rw [hL9]; exact List.mem_cons_self), Or.inl (by rw [← ex_3]; omega)⟩), (by rw [← hcf, show 8 - Int32.toNatClampNeg i = (7 - Int32.toNatClampNeg i) + 1 from by have := zn_nat (x := i) (by omega); omega]; exact (cfa_hit (by omega) (Or.inl (by rw [← ex_3]; omega))).symm)⟩, by rw [ht]; exact hP9, va_K.moved hW.alike hK9, hD9⟩, hS.F ht⟩) hS.2.2 dX5_fittingArm_45
          · have ic_4 : x_3.toInt ≠ (-2) := zi_ne c_4
            refine lv_iload hx hb dX5_fittingArm_38 (lv_at hl 0 rfl) ?_
            refine lv_iload_n hx hb dX5_fittingArm_40 rfl (lv_at hl 5 rfl) ?_
            refine lv_icmp_ne (tgt := 46) hx hb dX5_fittingArm_41 (by decide) (fun c_5 => ?_) (fun c_5 => ?_)
            · have ic_5 : x_3.toInt ≠ kd.toInt := zi_ne c_5
              refine lv_aload_n hx hb dX5_fittingArm_46 rfl (lv_at hl 3 rfl) ?_
              refine va_get (D := (dC, dI)) (ci := 5) (v := .ref mp) (C := RX5) (T := TX5) (N := 20) hx hb hA zin_X5 hown hK hP 0 rfl rfl 0 (by decide) (hA _ wi_484) (fun _ h9 => h9) rfl dX5_fittingArm_47 ?_
              refine va_get (D := (dC, dI)) (ci := 9) (v := .ref gar) (C := RX9) (T := TX9) (N := 4) hx hb hA zin_X9 hown hK hP 1 rfl rfl 1 (by decide) (hA _ wi_315) (fun _ h9 => h9) rfl dX5_fittingArm_50 ?_
              refine va_get (D := (dC, dI)) (ci := 0) (v := .ref anext) (C := RX0) (T := TX0) (N := 7) hx hb hA zin_X0 hown hK hP 2 rfl rfl 1 (by decide) (hA _ wi_234) (fun _ h9 => h9) rfl dX5_fittingArm_53 ?_
              refine lv_iload_n hx hb dX5_fittingArm_56 rfl (lv_at hl 2 rfl) ?_
              refine va_iald hx hb hK hP 4 1 rfl rfl (vp_in_iff.mpr ⟨by omega, by omega⟩) dX5_fittingArm_57 ?_
              refine lv_topi (fun x_6 ex_6 => ?_)
              refine lv_istore_n (lv' := [(3, .int x_6), (5, .int x_3), (4, .int i), (0, .ref h0), (1, .int fr), (2, .int kd)]) hx hb dX5_fittingArm_58 rfl hl (by decide) rfl (fun ls hl => ?_)
              obtain ⟨x_7, ex_7⟩ : ∃ y : Int32, y = i + Int32.ofInt 1 := ⟨_, rfl⟩
              refine lv_iinc (v := x_7) (lv' := [(4, .int x_7), (3, .int x_6), (5, .int x_3), (0, .ref h0), (1, .int fr), (2, .int kd)]) hx hb dX5_fittingArm_59 hl (k := 2) rfl (by rw [ex_7]) (by decide) rfl (fun ls hl => ?_)
              have ix_7 : x_7.toInt = i.toInt + 1 := by rw [ex_7]; exact zi_addc (by decide) (by omega) (by omega)
              refine lv_goto (tgt := 5) hx hb dX5_fittingArm_62 (by decide) ?_
              have hla_8 : ∃ A2 : List Nat, zli agnext x_6 A2 ∧ ∀ m ∈ A2, m ∈ gA := ⟨A4, by rw [ex_6, hy9]; exact hT9, fun m hm => hA9 m (by rw [hL9]; exact List.mem_cons_of_mem _ hm)⟩
              have hcf_9 : cfa agkind agnext kd (8 - Int32.toNatClampNeg x_7) x_6 = cfa agkind agnext kd 8 fr := by rw [← hcf, show 8 - Int32.toNatClampNeg i = (8 - Int32.toNatClampNeg x_7) + 1 from by have := zn_nat (x := i) (by omega); have := zn_nat (x := x_7) (by omega); omega, ex_6]; exact (cfa_st (by omega) (by rw [← ex_3]; omega) (fun g => by rw [← ex_3] at g; have := congrArg Int32.toInt g; omega)).symm
              exact ih x_6 x_7 _ _ _ (by omega) (by omega) (by omega) hla_8 hcf_9 (hP.sub [0, 1, 2, 3, 4] rfl) (hD.sub [0, 1, 2, 3, 4] (by decide) rfl) hS (lv_sub hl [0, 1, 3, 4, 5] rfl)
            · have ic_5 : x_3.toInt = kd.toInt := zi_eq c_5
              refine lv_iload_n hx hb dX5_fittingArm_44 rfl (lv_at hl 2 rfl) ?_
              have hP9 := hP.sub (ws' := [(h0, .inr (5, [.ref mp, .ref gco, .ref mce, .int mcn, .ref sk, .int tp, .int ba, .ref kb, .ref kk, .ref ks, .int on, .ref sh, .int sn, .int mat, .int alw, .int st, .int mo, .int mh, .int sp, .long re])), (mp, .inr (9, [.ref gco, .ref gar, .ref gki, .ref gfu])), (gar, .inr (0, [.ref akind, .ref anext, .ref abefore, .ref aleave, .ref afirstSlot, .ref abuilds, .int az])), (akind, .inl (akkind, 400, .inl agkind)), (anext, .inl (aknext, 400, .inl agnext))]) [0, 1, 2, 3, 4] rfl
              have hD9 := hD.sub (ws' := [(h0, .inr (5, [.ref mp, .ref gco, .ref mce, .int mcn, .ref sk, .int tp, .int ba, .ref kb, .ref kk, .ref ks, .int on, .ref sh, .int sn, .int mat, .int alw, .int st, .int mo, .int mh, .int sp, .long re])), (mp, .inr (9, [.ref gco, .ref gar, .ref gki, .ref gfu])), (gar, .inr (0, [.ref akind, .ref anext, .ref abefore, .ref aleave, .ref afirstSlot, .ref abuilds, .int az])), (akind, .inl (akkind, 400, .inl agkind)), (anext, .inl (aknext, 400, .inl agnext))]) [0, 1, 2, 3, 4] (by decide) rfl
              have hK9 := hK.sub (tys' := [(akkind, .int), (aknext, .int)]) [0, 1] rfl
              exact W.iret (v := am) hx hb hr (fun t ht hW => ⟨⟨am, (), rfl, ⟨(Or.inr ⟨by omega, by omega, by rw [hy9]; exact hA9 _ (by rw [hL9]; exact List.mem_cons_self), Or.inr (by rw [← ex_3]; exact Int32.toInt_inj.mp (by omega))⟩), (by rw [← hcf, show 8 - Int32.toNatClampNeg i = (7 - Int32.toNatClampNeg i) + 1 from by have := zn_nat (x := i) (by omega); omega]; exact (cfa_hit (by omega) (Or.inr (by rw [← ex_3]; exact Int32.toInt_inj.mp (by omega)))).symm)⟩, by rw [ht]; exact hP9, va_K.moved hW.alike hK9, hD9⟩, hS.F ht⟩) hS.2.2 dX5_fittingArm_45
  have hla_10 : ∃ A2 : List Nat, zli agnext fr A2 ∧ ∀ m ∈ A2, m ∈ gA := ⟨gA, hli, fun _ h => h⟩
  have hcf_11 : cfa agkind agnext kd (8 - Int32.toNatClampNeg 0) fr = cfa agkind agnext kd 8 fr := rfl
  exact loop_5 _ fr 0 _ _ _ (Nat.le_refl _) (by have h9_0 : Int32.toInt 0 = 0 := (by decide); omega) (by have h9_0 : Int32.toInt 0 = 0 := (by decide); omega) hla_10 hcf_11 (hP.sub [0, 1, 2, 3, 4] rfl) (hD.sub [0, 1, 2, 3, 4] (by decide) rfl) hS (lv_sub hl [0, 1, 2, 3, 4] rfl)
