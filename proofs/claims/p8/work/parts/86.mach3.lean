theorem wi_489 : Cond.fieldLink RX5 19 "ReuseHouse$Machine" "top" "I" ∈ zw := zw_in (List.mem_of_getElem? (i := 489) (by decide +kernel)) (by decide +kernel)
theorem wi_488 : Cond.fieldLink RX5 15 "ReuseHouse$Machine" "stack" "[J" ∈ zw := zw_in (List.mem_of_getElem? (i := 488) (by decide +kernel)) (by decide +kernel)
theorem wi_503 : Cond.fieldLink RX5 57 "ReuseHouse$Machine" "how" "I" ∈ zw := zw_in (List.mem_of_getElem? (i := 503) (by decide +kernel)) (by decide +kernel)
theorem wi_485 : Cond.fieldLink RX5 77 "ReuseHouse$Machine" "code" "LReuseHouse$Code;" ∈ zw := zw_in (List.mem_of_getElem? (i := 485) (by decide +kernel)) (by decide +kernel)
theorem wi_189 : Cond.fieldLink RX5 159 "ReuseHouse$Code" "place" "[I" ∈ zw := zw_in (List.mem_of_getElem? (i := 189) (by decide +kernel)) (by decide +kernel)
theorem wi_505 : Cond.fieldLink RX5 60 "ReuseHouse$Machine" "stopPlace" "I" ∈ zw := zw_in (List.mem_of_getElem? (i := 505) (by decide +kernel)) (by decide +kernel)
theorem wi_499 : Cond.fieldLink RX5 51 "ReuseHouse$Machine" "steps" "I" ∈ zw := zw_in (List.mem_of_getElem? (i := 499) (by decide +kernel)) (by decide +kernel)
theorem wi_498 : Cond.fieldLink RX5 48 "ReuseHouse$Machine" "allowed" "I" ∈ zw := zw_in (List.mem_of_getElem? (i := 498) (by decide +kernel)) (by decide +kernel)
theorem wi_1170 : Cond.code yX5_stop cX5_stop 3 none ∈ zw := zw_in (List.mem_of_getElem? (i := 1170) (by decide +kernel)) (by decide +kernel)
theorem wi_1167 : Cond.methodLink RX5 162 yX5_stop ∈ zw := zw_in (List.mem_of_getElem? (i := 1167) (by decide +kernel)) (by decide +kernel)
theorem wi_1169 : Cond.instanceMethod yX5_stop ∈ zw := zw_in (List.mem_of_getElem? (i := 1169) (by decide +kernel)) (by decide +kernel)
theorem wi_47 : Cond.selects RX5 yX5_stop yX5_stop ∈ zw := zw_in (List.mem_of_getElem? (i := 47) (by decide +kernel)) (by decide +kernel)
theorem wi_139 : Cond.initialized RX5 ∈ zw := zw_in (List.mem_of_getElem? (i := 139) (by decide +kernel)) (by decide +kernel)
theorem wi_193 : Cond.fieldLink RX5 95 "ReuseHouse$Code" "next" "[I" ∈ zw := zw_in (List.mem_of_getElem? (i := 193) (by decide +kernel)) (by decide +kernel)
theorem wi_497 : Cond.fieldLink RX5 45 "ReuseHouse$Machine" "at" "I" ∈ zw := zw_in (List.mem_of_getElem? (i := 497) (by decide +kernel)) (by decide +kernel)
theorem wi_484 : Cond.fieldLink RX5 67 "ReuseHouse$Machine" "program" "LReuseHouse$Program;" ∈ zw := zw_in (List.mem_of_getElem? (i := 484) (by decide +kernel)) (by decide +kernel)
theorem wi_324 : Cond.fieldLink RX5 165 "ReuseHouse$Program" "functions" "LReuseHouse$Functions;" ∈ zw := zw_in (List.mem_of_getElem? (i := 324) (by decide +kernel)) (by decide +kernel)
theorem wi_1118 : Cond.methodLink RX5 169 yX3_fact ∈ zw := zw_in (List.mem_of_getElem? (i := 1118) (by decide +kernel)) (by decide +kernel)
theorem dX5_goBehind_0 : decode cX5_goBehind 0 = .ok (.aload_n 0, 1) := by decide +kernel
theorem dX5_goBehind_1 : decode cX5_goBehind 1 = .ok (.iload_n 1, 1) := by decide +kernel
theorem dX5_goBehind_2 : decode cX5_goBehind 2 = .ok (.iconst (-1), 1) := by decide +kernel
theorem dX5_goBehind_3 : decode cX5_goBehind 3 = .ok (.if_icmp .ne 7, 3) := by decide +kernel
theorem dX5_goBehind_6 : decode cX5_goBehind 6 = .ok (.iconst (-1), 1) := by decide +kernel
theorem dX5_goBehind_7 : decode cX5_goBehind 7 = .ok (.goto 12, 3) := by decide +kernel
theorem dX5_goBehind_10 : decode cX5_goBehind 10 = .ok (.aload_n 0, 1) := by decide +kernel
theorem dX5_goBehind_11 : decode cX5_goBehind 11 = .ok (.getfield 77, 3) := by decide +kernel
theorem dX5_goBehind_14 : decode cX5_goBehind 14 = .ok (.getfield 95, 3) := by decide +kernel
theorem dX5_goBehind_17 : decode cX5_goBehind 17 = .ok (.iload_n 1, 1) := by decide +kernel
theorem dX5_goBehind_18 : decode cX5_goBehind 18 = .ok (.iaload, 1) := by decide +kernel
theorem dX5_goBehind_19 : decode cX5_goBehind 19 = .ok (.putfield 45, 3) := by decide +kernel
theorem dX5_goBehind_22 : decode cX5_goBehind 22 = .ok (.return_, 1) := by decide +kernel
theorem dX5_has_0 : decode cX5_has 0 = .ok (.iload_n 0, 1) := by decide +kernel
theorem dX5_has_1 : decode cX5_has 1 = .ok (.iload_n 1, 1) := by decide +kernel
theorem dX5_has_2 : decode cX5_has 2 = .ok (.ishr, 1) := by decide +kernel
theorem dX5_has_3 : decode cX5_has 3 = .ok (.iconst 1, 1) := by decide +kernel
theorem dX5_has_4 : decode cX5_has 4 = .ok (.iand, 1) := by decide +kernel
theorem dX5_has_5 : decode cX5_has 5 = .ok (.iconst 1, 1) := by decide +kernel
theorem dX5_has_6 : decode cX5_has 6 = .ok (.if_icmp .ne 7, 3) := by decide +kernel
theorem dX5_has_9 : decode cX5_has 9 = .ok (.iconst 1, 1) := by decide +kernel
theorem dX5_has_10 : decode cX5_has 10 = .ok (.goto 4, 3) := by decide +kernel
theorem dX5_has_13 : decode cX5_has 13 = .ok (.iconst 0, 1) := by decide +kernel
theorem dX5_has_14 : decode cX5_has 14 = .ok (.ireturn, 1) := by decide +kernel
theorem dX5_pop_0 : decode cX5_pop 0 = .ok (.aload_n 0, 1) := by decide +kernel
theorem dX5_pop_1 : decode cX5_pop 1 = .ok (.getfield 19, 3) := by decide +kernel
theorem dX5_pop_4 : decode cX5_pop 4 = .ok (.ifCond .le 13, 3) := by decide +kernel
theorem dX5_pop_7 : decode cX5_pop 7 = .ok (.aload_n 0, 1) := by decide +kernel
theorem dX5_pop_8 : decode cX5_pop 8 = .ok (.dup, 1) := by decide +kernel
theorem dX5_pop_9 : decode cX5_pop 9 = .ok (.getfield 19, 3) := by decide +kernel
theorem dX5_pop_12 : decode cX5_pop 12 = .ok (.iconst 1, 1) := by decide +kernel
theorem dX5_pop_13 : decode cX5_pop 13 = .ok (.isub, 1) := by decide +kernel
theorem dX5_pop_14 : decode cX5_pop 14 = .ok (.putfield 19, 3) := by decide +kernel
theorem dX5_pop_17 : decode cX5_pop 17 = .ok (.aload_n 0, 1) := by decide +kernel
theorem dX5_pop_18 : decode cX5_pop 18 = .ok (.getfield 15, 3) := by decide +kernel
theorem dX5_pop_21 : decode cX5_pop 21 = .ok (.aload_n 0, 1) := by decide +kernel
theorem dX5_pop_22 : decode cX5_pop 22 = .ok (.getfield 19, 3) := by decide +kernel
theorem dX5_pop_25 : decode cX5_pop 25 = .ok (.laload, 1) := by decide +kernel
theorem dX5_pop_26 : decode cX5_pop 26 = .ok (.lreturn, 1) := by decide +kernel
theorem dX5_push_0 : decode cX5_push 0 = .ok (.aload_n 0, 1) := by decide +kernel
theorem dX5_push_1 : decode cX5_push 1 = .ok (.getfield 19, 3) := by decide +kernel
theorem dX5_push_4 : decode cX5_push 4 = .ok (.sipush 22424, 3) := by decide +kernel
theorem dX5_push_7 : decode cX5_push 7 = .ok (.if_icmp .ge 23, 3) := by decide +kernel
theorem dX5_push_10 : decode cX5_push 10 = .ok (.aload_n 0, 1) := by decide +kernel
theorem dX5_push_11 : decode cX5_push 11 = .ok (.getfield 15, 3) := by decide +kernel
theorem dX5_push_14 : decode cX5_push 14 = .ok (.aload_n 0, 1) := by decide +kernel
theorem dX5_push_15 : decode cX5_push 15 = .ok (.getfield 19, 3) := by decide +kernel
theorem dX5_push_18 : decode cX5_push 18 = .ok (.lload_n 1, 1) := by decide +kernel
theorem dX5_push_19 : decode cX5_push 19 = .ok (.lastore, 1) := by decide +kernel
theorem dX5_push_20 : decode cX5_push 20 = .ok (.aload_n 0, 1) := by decide +kernel
theorem dX5_push_21 : decode cX5_push 21 = .ok (.dup, 1) := by decide +kernel
theorem dX5_push_22 : decode cX5_push 22 = .ok (.getfield 19, 3) := by decide +kernel
theorem dX5_push_25 : decode cX5_push 25 = .ok (.iconst 1, 1) := by decide +kernel
theorem dX5_push_26 : decode cX5_push 26 = .ok (.iadd, 1) := by decide +kernel
theorem dX5_push_27 : decode cX5_push 27 = .ok (.putfield 19, 3) := by decide +kernel
theorem dX5_push_30 : decode cX5_push 30 = .ok (.return_, 1) := by decide +kernel
theorem dX5_step_0 : decode cX5_step 0 = .ok (.aload_n 0, 1) := by decide +kernel
theorem dX5_step_1 : decode cX5_step 1 = .ok (.getfield 51, 3) := by decide +kernel
theorem dX5_step_4 : decode cX5_step 4 = .ok (.aload_n 0, 1) := by decide +kernel
theorem dX5_step_5 : decode cX5_step 5 = .ok (.getfield 48, 3) := by decide +kernel
theorem dX5_step_8 : decode cX5_step 8 = .ok (.if_icmp .lt 11, 3) := by decide +kernel
theorem dX5_step_11 : decode cX5_step 11 = .ok (.aload_n 0, 1) := by decide +kernel
theorem dX5_step_12 : decode cX5_step 12 = .ok (.iconst 5, 1) := by decide +kernel
theorem dX5_step_13 : decode cX5_step 13 = .ok (.iload_n 1, 1) := by decide +kernel
theorem dX5_step_14 : decode cX5_step 14 = .ok (.invokevirtual 162, 3) := by decide +kernel
theorem dX5_step_17 : decode cX5_step 17 = .ok (.iconst 0, 1) := by decide +kernel
theorem dX5_step_18 : decode cX5_step 18 = .ok (.ireturn, 1) := by decide +kernel
theorem dX5_step_19 : decode cX5_step 19 = .ok (.aload_n 0, 1) := by decide +kernel
theorem dX5_step_20 : decode cX5_step 20 = .ok (.dup, 1) := by decide +kernel
theorem dX5_step_21 : decode cX5_step 21 = .ok (.getfield 51, 3) := by decide +kernel
theorem dX5_step_24 : decode cX5_step 24 = .ok (.iconst 1, 1) := by decide +kernel
theorem dX5_step_25 : decode cX5_step 25 = .ok (.iadd, 1) := by decide +kernel
theorem dX5_step_26 : decode cX5_step 26 = .ok (.putfield 51, 3) := by decide +kernel
theorem dX5_step_29 : decode cX5_step 29 = .ok (.iconst 1, 1) := by decide +kernel
theorem dX5_step_30 : decode cX5_step 30 = .ok (.ireturn, 1) := by decide +kernel
theorem dX5_stop_0 : decode cX5_stop 0 = .ok (.aload_n 0, 1) := by decide +kernel
theorem dX5_stop_1 : decode cX5_stop 1 = .ok (.iload_n 1, 1) := by decide +kernel
theorem dX5_stop_2 : decode cX5_stop 2 = .ok (.putfield 57, 3) := by decide +kernel
theorem dX5_stop_5 : decode cX5_stop 5 = .ok (.aload_n 0, 1) := by decide +kernel
theorem dX5_stop_6 : decode cX5_stop 6 = .ok (.aload_n 0, 1) := by decide +kernel
theorem dX5_stop_7 : decode cX5_stop 7 = .ok (.getfield 77, 3) := by decide +kernel
theorem dX5_stop_10 : decode cX5_stop 10 = .ok (.getfield 159, 3) := by decide +kernel
theorem dX5_stop_13 : decode cX5_stop 13 = .ok (.iload_n 2, 1) := by decide +kernel
theorem dX5_stop_14 : decode cX5_stop 14 = .ok (.iaload, 1) := by decide +kernel
theorem dX5_stop_15 : decode cX5_stop 15 = .ok (.putfield 60, 3) := by decide +kernel
theorem dX5_stop_18 : decode cX5_stop 18 = .ok (.return_, 1) := by decide +kernel
theorem dX5_toldBits_0 : decode cX5_toldBits 0 = .ok (.iconst 1, 1) := by decide +kernel
theorem dX5_toldBits_1 : decode cX5_toldBits 1 = .ok (.aload_n 0, 1) := by decide +kernel
theorem dX5_toldBits_2 : decode cX5_toldBits 2 = .ok (.getfield 67, 3) := by decide +kernel
theorem dX5_toldBits_5 : decode cX5_toldBits 5 = .ok (.getfield 165, 3) := by decide +kernel
theorem dX5_toldBits_8 : decode cX5_toldBits 8 = .ok (.iload_n 1, 1) := by decide +kernel
theorem dX5_toldBits_9 : decode cX5_toldBits 9 = .ok (.iconst 0, 1) := by decide +kernel
theorem dX5_toldBits_10 : decode cX5_toldBits 10 = .ok (.invokevirtual 169, 3) := by decide +kernel
theorem dX5_toldBits_13 : decode cX5_toldBits 13 = .ok (.ishl, 1) := by decide +kernel
theorem dX5_toldBits_14 : decode cX5_toldBits 14 = .ok (.iconst 1, 1) := by decide +kernel
theorem dX5_toldBits_15 : decode cX5_toldBits 15 = .ok (.isub, 1) := by decide +kernel
theorem dX5_toldBits_16 : decode cX5_toldBits 16 = .ok (.ireturn, 1) := by decide +kernel
theorem zbf {b : Bool} (h : ¬ b = true) : b = false := by
  cases b with
  | false => rfl
  | true => exact (h rfl).elim
set_option maxHeartbeats 4000000 in
set_option maxRecDepth 100000 in
theorem c_X5_push (l : Launch) (dC : Nat → ClassId) (dI : Nat → Nat → Nat) (aK aV : Nat → Nat) (h0 : Nat) (mp : Nat) (gco : Nat) (mce : Nat) (sk : Nat) (kb : Nat) (kk : Nat) (ks : Nat) (sh : Nat) (mcn : Int32) (tp : Int32) (ba : Int32) (on : Int32) (sn : Int32) (mat : Int32) (alw : Int32) (st : Int32) (mo : Int32) (mh : Int32) (sp : Int32) (re : Int64) (sk1 : ClassId) (gs : Nat → Int64) (va : Int64) (sz : Nat) (ht0 : 0 ≤ tp.toInt) (ht1 : tp.toInt < 22424) : Met l yX5_push (Cond.code yX5_push cX5_push 3 none :: zw) ({ frames := 8, cells := 0, slots := 0, locals := 200 }) (va_Pc [.ref h0, .long va] (zP dC dI aK aV sz [(sk1, .long)] [(h0, .inr (5, [.ref mp, .ref gco, .ref mce, .int mcn, .ref sk, .int tp, .int ba, .ref kb, .ref kk, .ref ks, .int on, .ref sh, .int sn, .int mat, .int alw, .int st, .int mo, .int mh, .int sp, .long re])), (sk, .inl (sk1, 22424, .inr (.inl gs)))])) (va_Qv (fun u : Int32 × (Nat → Int64) => match u with | (tp2, gs2) => (tp2.toInt = tp.toInt + 1) ∧ (gs2 = vp_updL gs (Int32.toNatClampNeg tp) va)) (fun u => match u with | (tp2, gs2) => zQ dC dI (va_A [(h0, .inr (5, [.ref mp, .ref gco, .ref mce, .int mcn, .ref sk, .int tp, .int ba, .ref kb, .ref kk, .ref ks, .int on, .ref sh, .int sn, .int mat, .int alw, .int st, .int mo, .int mh, .int sp, .long re])), (sk, .inl (sk1, 22424, .inr (.inl gs)))] sz) [(sk1, .long)] [(h0, .inr (5, [.ref mp, .ref gco, .ref mce, .int mcn, .ref sk, .int tp2, .int ba, .ref kb, .ref kk, .ref ks, .int on, .ref sh, .int sn, .int mat, .int alw, .int st, .int mo, .int mh, .int sp, .long re])), (sk, .inl (sk1, 22424, .inr (.inl gs2)))]) (va_A [(h0, .inr (5, [.ref mp, .ref gco, .ref mce, .int mcn, .ref sk, .int tp, .int ba, .ref kb, .ref kk, .ref ks, .int on, .ref sh, .int sn, .int mat, .int alw, .int st, .int mo, .int mh, .int sp, .long re])), (sk, .inl (sk1, 22424, .inr (.inl gs)))] sz)) 0 0 (va_A [(h0, .inr (5, [.ref mp, .ref gco, .ref mce, .int mcn, .ref sk, .int tp, .int ba, .ref kb, .ref kk, .ref ks, .int on, .ref sh, .int sn, .int mat, .int alw, .int st, .int mo, .int mh, .int sp, .long re])), (sk, .inl (sk1, 22424, .inr (.inl gs)))] sz) := by
  refine Met.ofW (cc := cX5_push) (maxL := 3) (ret := none) (by decide) rfl ?_
  intro p e s m args below meth c s₁ B hml hv
  obtain ⟨rfl, hsz, hP, hK, hD0, hN, hT⟩ := hv
  have hx := B.exec
  have hb := B.bytes
  have hr := B.returns
  have hts := atoms_spec (ws := Cond.code yX5_push cX5_push 3 none :: zw) B.pre
  have hA : ∀ w ∈ zw, w.before _ s = true := fun w h => hts w (List.mem_cons_of_mem _ h)
  have hown : s.vm.findClass RX5 = some m.cls := findClass_of_methodNamed B.named
  have hlocks := B.notSynchronized
  subst hsz
  have hD := hD0.self (sz := s.heap.size)
  generalize hAe : va_A [(h0, .inr (5, [.ref mp, .ref gco, .ref mce, .int mcn, .ref sk, .int tp, .int ba, .ref kb, .ref kk, .ref ks, .int on, .ref sh, .int sn, .int mat, .int alw, .int st, .int mo, .int mh, .int sp, .long re])), (sk, .inl (sk1, 22424, .inr (.inl gs)))] s.heap.size = A at hD hT ⊢
  have hAA : ∀ q : Nat, s.heap.size ≤ q → A q := fun q h => by rw [← hAe]; exact Or.inr h
  have hS : va_S A s.heap s.heap [] := va_S.rf
  have hl := lv_entry ([.ref h0, .long va]) (n := 3) (Nat.le_of_ble_eq_true rfl)
  rw [lg_entry_eq]
  generalize (lg_sl ([.ref h0, .long va]) ++ List.replicate (3 - (lg_sl ([.ref h0, .long va])).length) Slot.unset).toArray = ls at hl ⊢
  have hl : lv_has ls 3 [(0, .ref h0), (1, .long va)] := hl
  refine lv_aload_n hx hb dX5_push_0 rfl (lv_at hl 0 rfl) ?_
  refine va_get (D := (dC, dI)) (ci := 5) (v := .int tp) (C := RX5) (T := TX5) (N := 20) hx hb hA zin_X5 hown hK hP 0 rfl rfl 5 (by decide) (hA _ wi_489) (fun _ h9 => h9) rfl dX5_push_1 ?_
  refine lv_sipush (v := 22424) hx hb dX5_push_4 (by decide) ?_
  refine lv_icmp_ge (tgt := 30) hx hb dX5_push_7 (by decide) (fun c_1 => ?_) (fun c_1 => ?_)
  · have ic_1 : 22424 ≤ tp.toInt := zi_le c_1
    exfalso
    omega
  · have ic_1 : tp.toInt < 22424 := zi_nle c_1
    refine lv_aload_n hx hb dX5_push_10 rfl (lv_at hl 0 rfl) ?_
    refine va_get (D := (dC, dI)) (ci := 5) (v := .ref sk) (C := RX5) (T := TX5) (N := 20) hx hb hA zin_X5 hown hK hP 0 rfl rfl 4 (by decide) (hA _ wi_488) (fun _ h9 => h9) rfl dX5_push_11 ?_
    refine lv_aload_n hx hb dX5_push_14 rfl (lv_at hl 0 rfl) ?_
    refine va_get (D := (dC, dI)) (ci := 5) (v := .int tp) (C := RX5) (T := TX5) (N := 20) hx hb hA zin_X5 hown hK hP 0 rfl rfl 5 (by decide) (hA _ wi_489) (fun _ h9 => h9) rfl dX5_push_15 ?_
    refine lv_lload_n hx hb dX5_push_18 rfl (lv_at hl 1 rfl) ?_
    refine va_last hx hb hK hP hD hS 1 0 rfl rfl (vp_in_iff.mpr ⟨by omega, by omega⟩) dX5_push_19 (fun H locs hP hD hS => ?_)
    obtain ⟨f_2, ef_2⟩ : ∃ gz9 : Nat → Int64, gz9 = vp_updL gs (Int32.toNatClampNeg tp) va := ⟨_, rfl⟩
    rw [← ef_2] at hP hD
    have hP : va_P (dC, dI) vwCl [(h0, .inr (5, [.ref mp, .ref gco, .ref mce, .int mcn, .ref sk, .int tp, .int ba, .ref kb, .ref kk, .ref ks, .int on, .ref sh, .int sn, .int mat, .int alw, .int st, .int mo, .int mh, .int sp, .long re])), (sk, .inl (sk1, 22424, .inr (.inl f_2)))] H := hP
    have hD : va_D A [(h0, .inr (5, [.ref mp, .ref gco, .ref mce, .int mcn, .ref sk, .int tp, .int ba, .ref kb, .ref kk, .ref ks, .int on, .ref sh, .int sn, .int mat, .int alw, .int st, .int mo, .int mh, .int sp, .long re])), (sk, .inl (sk1, 22424, .inr (.inl f_2)))] := hD
    refine lv_aload_n hx hb dX5_push_20 rfl (lv_at hl 0 rfl) ?_
    refine lv_dup hx hb dX5_push_21 rfl ?_
    refine va_get (D := (dC, dI)) (ci := 5) (v := .int tp) (C := RX5) (T := TX5) (N := 20) hx hb hA zin_X5 hown hK hP 0 rfl rfl 5 (by decide) (hA _ wi_489) (fun _ h9 => h9) rfl dX5_push_22 ?_
    refine lv_iconst (v := 1) hx hb dX5_push_25 (by decide) ?_
    refine lv_iadd hx hb dX5_push_26 ?_
    refine lv_topi (fun x_3 ex_3 => ?_)
    have ix_3 : x_3.toInt = tp.toInt + 1 := by rw [ex_3]; exact zi_addc (by decide) (by omega) (by omega)
    refine va_put (D := (dC, dI)) (ci := 5) (v := .int x_3) (ty := .int) (C := RX5) (T := TX5) (N := 20) hx hb hA zin_X5 tyX5 tyX5_ok nmX5 hown hK hP hD hS 0 rfl rfl 5 (by decide) (hA _ wi_489) (fun _ h9 => h9) rfl (by decide +kernel) rfl rfl (Nat.le_of_ble_eq_true rfl) dX5_push_27 (fun H locs hP hD hS => ?_)
    have hP : va_P (dC, dI) vwCl [(h0, .inr (5, [.ref mp, .ref gco, .ref mce, .int mcn, .ref sk, .int x_3, .int ba, .ref kb, .ref kk, .ref ks, .int on, .ref sh, .int sn, .int mat, .int alw, .int st, .int mo, .int mh, .int sp, .long re])), (sk, .inl (sk1, 22424, .inr (.inl f_2)))] H := hP
    have hD : va_D A [(h0, .inr (5, [.ref mp, .ref gco, .ref mce, .int mcn, .ref sk, .int x_3, .int ba, .ref kb, .ref kk, .ref ks, .int on, .ref sh, .int sn, .int mat, .int alw, .int st, .int mo, .int mh, .int sp, .long re])), (sk, .inl (sk1, 22424, .inr (.inl f_2)))] := hD
    have hP9 := hP.sub (ws' := [(h0, .inr (5, [.ref mp, .ref gco, .ref mce, .int mcn, .ref sk, .int x_3, .int ba, .ref kb, .ref kk, .ref ks, .int on, .ref sh, .int sn, .int mat, .int alw, .int st, .int mo, .int mh, .int sp, .long re])), (sk, .inl (sk1, 22424, .inr (.inl f_2)))]) [0, 1] rfl
    have hD9 := hD.sub (ws' := [(h0, .inr (5, [.ref mp, .ref gco, .ref mce, .int mcn, .ref sk, .int x_3, .int ba, .ref kb, .ref kk, .ref ks, .int on, .ref sh, .int sn, .int mat, .int alw, .int st, .int mo, .int mh, .int sp, .long re])), (sk, .inl (sk1, 22424, .inr (.inl f_2)))]) [0, 1] (by decide) rfl
    have hK9 := hK.sub (tys' := [(sk1, .long)]) [0] rfl
    exact W.vret hx hb hr (fun t ht hW => ⟨⟨(x_3, f_2), rfl, ⟨by omega, ef_2⟩, by rw [ht]; exact hP9, va_K.moved hW.alike hK9, hD9⟩, hS.F ht⟩) hS.2.2 dX5_push_30
set_option maxHeartbeats 4000000 in
set_option maxRecDepth 100000 in
theorem c_X5_pop (l : Launch) (dC : Nat → ClassId) (dI : Nat → Nat → Nat) (aK aV : Nat → Nat) (h0 : Nat) (mp : Nat) (gco : Nat) (mce : Nat) (sk : Nat) (kb : Nat) (kk : Nat) (ks : Nat) (sh : Nat) (mcn : Int32) (tp : Int32) (ba : Int32) (on : Int32) (sn : Int32) (mat : Int32) (alw : Int32) (st : Int32) (mo : Int32) (mh : Int32) (sp : Int32) (re : Int64) (sk1 : ClassId) (gs : Nat → Int64) (sz : Nat) (ht0 : 1 ≤ tp.toInt) (ht1 : tp.toInt ≤ 22424) : Met l yX5_pop (Cond.code yX5_pop cX5_pop 1 (some .long) :: zw) ({ frames := 8, cells := 0, slots := 0, locals := 200 }) (va_Pc [.ref h0] (zP dC dI aK aV sz [(sk1, .long)] [(h0, .inr (5, [.ref mp, .ref gco, .ref mce, .int mcn, .ref sk, .int tp, .int ba, .ref kb, .ref kk, .ref ks, .int on, .ref sh, .int sn, .int mat, .int alw, .int st, .int mo, .int mh, .int sp, .long re])), (sk, .inl (sk1, 22424, .inr (.inl gs)))])) (va_Ql (fun (r : Int64) (u : Int32) => match u with | tp2 => (tp2.toInt = tp.toInt - 1) ∧ (r = gs (Int32.toNatClampNeg tp2))) (fun u => match u with | tp2 => zQ dC dI (va_A [(h0, .inr (5, [.ref mp, .ref gco, .ref mce, .int mcn, .ref sk, .int tp, .int ba, .ref kb, .ref kk, .ref ks, .int on, .ref sh, .int sn, .int mat, .int alw, .int st, .int mo, .int mh, .int sp, .long re])), (sk, .inl (sk1, 22424, .inr (.inl gs)))] sz) [(sk1, .long)] [(h0, .inr (5, [.ref mp, .ref gco, .ref mce, .int mcn, .ref sk, .int tp2, .int ba, .ref kb, .ref kk, .ref ks, .int on, .ref sh, .int sn, .int mat, .int alw, .int st, .int mo, .int mh, .int sp, .long re])), (sk, .inl (sk1, 22424, .inr (.inl gs)))]) (va_A [(h0, .inr (5, [.ref mp, .ref gco, .ref mce, .int mcn, .ref sk, .int tp, .int ba, .ref kb, .ref kk, .ref ks, .int on, .ref sh, .int sn, .int mat, .int alw, .int st, .int mo, .int mh, .int sp, .long re])), (sk, .inl (sk1, 22424, .inr (.inl gs)))] sz)) 0 0 (va_A [(h0, .inr (5, [.ref mp, .ref gco, .ref mce, .int mcn, .ref sk, .int tp, .int ba, .ref kb, .ref kk, .ref ks, .int on, .ref sh, .int sn, .int mat, .int alw, .int st, .int mo, .int mh, .int sp, .long re])), (sk, .inl (sk1, 22424, .inr (.inl gs)))] sz) := by
  refine Met.ofW (cc := cX5_pop) (maxL := 1) (ret := (some .long)) (by decide) rfl ?_
  intro p e s m args below meth c s₁ B hml hv
  obtain ⟨rfl, hsz, hP, hK, hD0, hN, hT⟩ := hv
  have hx := B.exec
  have hb := B.bytes
  have hr := B.returns
  have hts := atoms_spec (ws := Cond.code yX5_pop cX5_pop 1 (some .long) :: zw) B.pre
  have hA : ∀ w ∈ zw, w.before _ s = true := fun w h => hts w (List.mem_cons_of_mem _ h)
  have hown : s.vm.findClass RX5 = some m.cls := findClass_of_methodNamed B.named
  have hlocks := B.notSynchronized
  subst hsz
  have hD := hD0.self (sz := s.heap.size)
  generalize hAe : va_A [(h0, .inr (5, [.ref mp, .ref gco, .ref mce, .int mcn, .ref sk, .int tp, .int ba, .ref kb, .ref kk, .ref ks, .int on, .ref sh, .int sn, .int mat, .int alw, .int st, .int mo, .int mh, .int sp, .long re])), (sk, .inl (sk1, 22424, .inr (.inl gs)))] s.heap.size = A at hD hT ⊢
  have hAA : ∀ q : Nat, s.heap.size ≤ q → A q := fun q h => by rw [← hAe]; exact Or.inr h
  have hS : va_S A s.heap s.heap [] := va_S.rf
  have hl := lv_entry ([.ref h0]) (n := 1) (Nat.le_of_ble_eq_true rfl)
  rw [lg_entry_eq]
  generalize (lg_sl ([.ref h0]) ++ List.replicate (1 - (lg_sl ([.ref h0])).length) Slot.unset).toArray = ls at hl ⊢
  have hl : lv_has ls 1 [(0, .ref h0)] := hl
  refine lv_aload_n hx hb dX5_pop_0 rfl (lv_at hl 0 rfl) ?_
  refine va_get (D := (dC, dI)) (ci := 5) (v := .int tp) (C := RX5) (T := TX5) (N := 20) hx hb hA zin_X5 hown hK hP 0 rfl rfl 5 (by decide) (hA _ wi_489) (fun _ h9 => h9) rfl dX5_pop_1 ?_
  refine lv_if_le (tgt := 17) hx hb dX5_pop_4 (by decide) (fun c_1 => ?_) (fun c_1 => ?_)
  · have ic_1 : tp.toInt ≤ 0 := zi_le c_1
    exfalso
    omega
  · have ic_1 : 0 < tp.toInt := zi_nle c_1
    refine lv_aload_n hx hb dX5_pop_7 rfl (lv_at hl 0 rfl) ?_
    refine lv_dup hx hb dX5_pop_8 rfl ?_
    refine va_get (D := (dC, dI)) (ci := 5) (v := .int tp) (C := RX5) (T := TX5) (N := 20) hx hb hA zin_X5 hown hK hP 0 rfl rfl 5 (by decide) (hA _ wi_489) (fun _ h9 => h9) rfl dX5_pop_9 ?_
    refine lv_iconst (v := 1) hx hb dX5_pop_12 (by decide) ?_
    refine lv_isub hx hb dX5_pop_13 ?_
    refine lv_topi (fun x_2 ex_2 => ?_)
    have ix_2 : x_2.toInt = tp.toInt - 1 := by rw [ex_2]; exact zi_subc (by decide) (by omega) (by omega)
    refine va_put (D := (dC, dI)) (ci := 5) (v := .int x_2) (ty := .int) (C := RX5) (T := TX5) (N := 20) hx hb hA zin_X5 tyX5 tyX5_ok nmX5 hown hK hP hD hS 0 rfl rfl 5 (by decide) (hA _ wi_489) (fun _ h9 => h9) rfl (by decide +kernel) rfl rfl (Nat.le_of_ble_eq_true rfl) dX5_pop_14 (fun H locs hP hD hS => ?_)
    have hP : va_P (dC, dI) vwCl [(h0, .inr (5, [.ref mp, .ref gco, .ref mce, .int mcn, .ref sk, .int x_2, .int ba, .ref kb, .ref kk, .ref ks, .int on, .ref sh, .int sn, .int mat, .int alw, .int st, .int mo, .int mh, .int sp, .long re])), (sk, .inl (sk1, 22424, .inr (.inl gs)))] H := hP
    have hD : va_D A [(h0, .inr (5, [.ref mp, .ref gco, .ref mce, .int mcn, .ref sk, .int x_2, .int ba, .ref kb, .ref kk, .ref ks, .int on, .ref sh, .int sn, .int mat, .int alw, .int st, .int mo, .int mh, .int sp, .long re])), (sk, .inl (sk1, 22424, .inr (.inl gs)))] := hD
    refine lv_aload_n hx hb dX5_pop_17 rfl (lv_at hl 0 rfl) ?_
    refine va_get (D := (dC, dI)) (ci := 5) (v := .ref sk) (C := RX5) (T := TX5) (N := 20) hx hb hA zin_X5 hown hK hP 0 rfl rfl 4 (by decide) (hA _ wi_488) (fun _ h9 => h9) rfl dX5_pop_18 ?_
    refine lv_aload_n hx hb dX5_pop_21 rfl (lv_at hl 0 rfl) ?_
    refine va_get (D := (dC, dI)) (ci := 5) (v := .int x_2) (C := RX5) (T := TX5) (N := 20) hx hb hA zin_X5 hown hK hP 0 rfl rfl 5 (by decide) (hA _ wi_489) (fun _ h9 => h9) rfl dX5_pop_22 ?_
    refine va_lald hx hb hK hP 1 0 rfl rfl (vp_in_iff.mpr ⟨by omega, by omega⟩) dX5_pop_25 ?_
    refine lv_topl (fun x_3 ex_3 => ?_)
    have hP9 := hP.sub (ws' := [(h0, .inr (5, [.ref mp, .ref gco, .ref mce, .int mcn, .ref sk, .int x_2, .int ba, .ref kb, .ref kk, .ref ks, .int on, .ref sh, .int sn, .int mat, .int alw, .int st, .int mo, .int mh, .int sp, .long re])), (sk, .inl (sk1, 22424, .inr (.inl gs)))]) [0, 1] rfl
    have hD9 := hD.sub (ws' := [(h0, .inr (5, [.ref mp, .ref gco, .ref mce, .int mcn, .ref sk, .int x_2, .int ba, .ref kb, .ref kk, .ref ks, .int on, .ref sh, .int sn, .int mat, .int alw, .int st, .int mo, .int mh, .int sp, .long re])), (sk, .inl (sk1, 22424, .inr (.inl gs)))]) [0, 1] (by decide) rfl
    have hK9 := hK.sub (tys' := [(sk1, .long)]) [0] rfl
    exact W.lret (v := x_3) hx hb hr (fun t ht hW => ⟨⟨x_3, (x_2), rfl, ⟨by omega, ex_3⟩, by rw [ht]; exact hP9, va_K.moved hW.alike hK9, hD9⟩, hS.F ht⟩) hS.2.2 dX5_pop_26
set_option maxHeartbeats 4000000 in
set_option maxRecDepth 100000 in
theorem c_X5_stop (l : Launch) (dC : Nat → ClassId) (dI : Nat → Nat → Nat) (aK aV : Nat → Nat) (h0 : Nat) (mp : Nat) (gco : Nat) (mce : Nat) (sk : Nat) (kb : Nat) (kk : Nat) (ks : Nat) (sh : Nat) (mcn : Int32) (tp : Int32) (ba : Int32) (on : Int32) (sn : Int32) (mat : Int32) (alw : Int32) (st : Int32) (mo : Int32) (mh : Int32) (sp : Int32) (re : Int64) (cop : Nat) (ca : Nat) (cb : Nat) (cplace : Nat) (cnext : Nat) (cneeded : Nat) (cz : Int32) (ct : Int32) (ckplace : ClassId) (cgplace : Nat → Int32) (ou : Int32) (ro : Int32) (sz : Nat) (hr0 : 0 ≤ ro.toInt) (hr1 : ro.toInt < 3000) : Met l yX5_stop (Cond.code yX5_stop cX5_stop 3 none :: zw) ({ frames := 8, cells := 0, slots := 0, locals := 200 }) (va_Pc [.ref h0, .int ou, .int ro] (zP dC dI aK aV sz [(ckplace, .int)] [(h0, .inr (5, [.ref mp, .ref gco, .ref mce, .int mcn, .ref sk, .int tp, .int ba, .ref kb, .ref kk, .ref ks, .int on, .ref sh, .int sn, .int mat, .int alw, .int st, .int mo, .int mh, .int sp, .long re])), (gco, .inr (2, [.ref cop, .ref ca, .ref cb, .ref cplace, .ref cnext, .ref cneeded, .int cz, .int ct])), (cplace, .inl (ckplace, 3000, .inl cgplace))])) (va_Qv (fun u : Int32 => match u with | sp2 => True) (fun u => match u with | sp2 => zQ dC dI (va_A [(h0, .inr (5, [.ref mp, .ref gco, .ref mce, .int mcn, .ref sk, .int tp, .int ba, .ref kb, .ref kk, .ref ks, .int on, .ref sh, .int sn, .int mat, .int alw, .int st, .int mo, .int mh, .int sp, .long re])), (gco, .inr (2, [.ref cop, .ref ca, .ref cb, .ref cplace, .ref cnext, .ref cneeded, .int cz, .int ct])), (cplace, .inl (ckplace, 3000, .inl cgplace))] sz) [(ckplace, .int)] [(h0, .inr (5, [.ref mp, .ref gco, .ref mce, .int mcn, .ref sk, .int tp, .int ba, .ref kb, .ref kk, .ref ks, .int on, .ref sh, .int sn, .int mat, .int alw, .int st, .int mo, .int ou, .int sp2, .long re])), (gco, .inr (2, [.ref cop, .ref ca, .ref cb, .ref cplace, .ref cnext, .ref cneeded, .int cz, .int ct])), (cplace, .inl (ckplace, 3000, .inl cgplace))]) (va_A [(h0, .inr (5, [.ref mp, .ref gco, .ref mce, .int mcn, .ref sk, .int tp, .int ba, .ref kb, .ref kk, .ref ks, .int on, .ref sh, .int sn, .int mat, .int alw, .int st, .int mo, .int mh, .int sp, .long re])), (gco, .inr (2, [.ref cop, .ref ca, .ref cb, .ref cplace, .ref cnext, .ref cneeded, .int cz, .int ct])), (cplace, .inl (ckplace, 3000, .inl cgplace))] sz)) 0 0 (va_A [(h0, .inr (5, [.ref mp, .ref gco, .ref mce, .int mcn, .ref sk, .int tp, .int ba, .ref kb, .ref kk, .ref ks, .int on, .ref sh, .int sn, .int mat, .int alw, .int st, .int mo, .int mh, .int sp, .long re])), (gco, .inr (2, [.ref cop, .ref ca, .ref cb, .ref cplace, .ref cnext, .ref cneeded, .int cz, .int ct])), (cplace, .inl (ckplace, 3000, .inl cgplace))] sz) := by
  refine Met.ofW (cc := cX5_stop) (maxL := 3) (ret := none) (by decide) rfl ?_
  intro p e s m args below meth c s₁ B hml hv
  obtain ⟨rfl, hsz, hP, hK, hD0, hN, hT⟩ := hv
  have hx := B.exec
  have hb := B.bytes
  have hr := B.returns
  have hts := atoms_spec (ws := Cond.code yX5_stop cX5_stop 3 none :: zw) B.pre
  have hA : ∀ w ∈ zw, w.before _ s = true := fun w h => hts w (List.mem_cons_of_mem _ h)
  have hown : s.vm.findClass RX5 = some m.cls := findClass_of_methodNamed B.named
  have hlocks := B.notSynchronized
  subst hsz
  have hD := hD0.self (sz := s.heap.size)
  generalize hAe : va_A [(h0, .inr (5, [.ref mp, .ref gco, .ref mce, .int mcn, .ref sk, .int tp, .int ba, .ref kb, .ref kk, .ref ks, .int on, .ref sh, .int sn, .int mat, .int alw, .int st, .int mo, .int mh, .int sp, .long re])), (gco, .inr (2, [.ref cop, .ref ca, .ref cb, .ref cplace, .ref cnext, .ref cneeded, .int cz, .int ct])), (cplace, .inl (ckplace, 3000, .inl cgplace))] s.heap.size = A at hD hT ⊢
  have hAA : ∀ q : Nat, s.heap.size ≤ q → A q := fun q h => by rw [← hAe]; exact Or.inr h
  have hS : va_S A s.heap s.heap [] := va_S.rf
  have hl := lv_entry ([.ref h0, .int ou, .int ro]) (n := 3) (Nat.le_of_ble_eq_true rfl)
  rw [lg_entry_eq]
  generalize (lg_sl ([.ref h0, .int ou, .int ro]) ++ List.replicate (3 - (lg_sl ([.ref h0, .int ou, .int ro])).length) Slot.unset).toArray = ls at hl ⊢
  have hl : lv_has ls 3 [(0, .ref h0), (1, .int ou), (2, .int ro)] := hl
  refine lv_aload_n hx hb dX5_stop_0 rfl (lv_at hl 0 rfl) ?_
  refine lv_iload_n hx hb dX5_stop_1 rfl (lv_at hl 1 rfl) ?_
  refine va_put (D := (dC, dI)) (ci := 5) (v := .int ou) (ty := .int) (C := RX5) (T := TX5) (N := 20) hx hb hA zin_X5 tyX5 tyX5_ok nmX5 hown hK hP hD hS 0 rfl rfl 17 (by decide) (hA _ wi_503) (fun _ h9 => h9) rfl (by decide +kernel) rfl rfl (Nat.le_of_ble_eq_true rfl) dX5_stop_2 (fun H locs hP hD hS => ?_)
  have hP : va_P (dC, dI) vwCl [(h0, .inr (5, [.ref mp, .ref gco, .ref mce, .int mcn, .ref sk, .int tp, .int ba, .ref kb, .ref kk, .ref ks, .int on, .ref sh, .int sn, .int mat, .int alw, .int st, .int mo, .int ou, .int sp, .long re])), (gco, .inr (2, [.ref cop, .ref ca, .ref cb, .ref cplace, .ref cnext, .ref cneeded, .int cz, .int ct])), (cplace, .inl (ckplace, 3000, .inl cgplace))] H := hP
  have hD : va_D A [(h0, .inr (5, [.ref mp, .ref gco, .ref mce, .int mcn, .ref sk, .int tp, .int ba, .ref kb, .ref kk, .ref ks, .int on, .ref sh, .int sn, .int mat, .int alw, .int st, .int mo, .int ou, .int sp, .long re])), (gco, .inr (2, [.ref cop, .ref ca, .ref cb, .ref cplace, .ref cnext, .ref cneeded, .int cz, .int ct])), (cplace, .inl (ckplace, 3000, .inl cgplace))] := hD
  refine lv_aload_n hx hb dX5_stop_5 rfl (lv_at hl 0 rfl) ?_
  refine lv_aload_n hx hb dX5_stop_6 rfl (lv_at hl 0 rfl) ?_
  refine va_get (D := (dC, dI)) (ci := 5) (v := .ref gco) (C := RX5) (T := TX5) (N := 20) hx hb hA zin_X5 hown hK hP 0 rfl rfl 1 (by decide) (hA _ wi_485) (fun _ h9 => h9) rfl dX5_stop_7 ?_
  refine va_get (D := (dC, dI)) (ci := 2) (v := .ref cplace) (C := RX2) (T := TX2) (N := 8) hx hb hA zin_X2 hown hK hP 1 rfl rfl 3 (by decide) (hA _ wi_189) (fun _ h9 => h9) rfl dX5_stop_10 ?_
  refine lv_iload_n hx hb dX5_stop_13 rfl (lv_at hl 2 rfl) ?_
  refine va_iald hx hb hK hP 2 0 rfl rfl (vp_in_iff.mpr ⟨by omega, by omega⟩) dX5_stop_14 ?_
  refine lv_topi (fun x_1 ex_1 => ?_)
  refine va_put (D := (dC, dI)) (ci := 5) (v := .int x_1) (ty := .int) (C := RX5) (T := TX5) (N := 20) hx hb hA zin_X5 tyX5 tyX5_ok nmX5 hown hK hP hD hS 0 rfl rfl 18 (by decide) (hA _ wi_505) (fun _ h9 => h9) rfl (by decide +kernel) rfl rfl (Nat.le_of_ble_eq_true rfl) dX5_stop_15 (fun H locs hP hD hS => ?_)
  have hP : va_P (dC, dI) vwCl [(h0, .inr (5, [.ref mp, .ref gco, .ref mce, .int mcn, .ref sk, .int tp, .int ba, .ref kb, .ref kk, .ref ks, .int on, .ref sh, .int sn, .int mat, .int alw, .int st, .int mo, .int ou, .int x_1, .long re])), (gco, .inr (2, [.ref cop, .ref ca, .ref cb, .ref cplace, .ref cnext, .ref cneeded, .int cz, .int ct])), (cplace, .inl (ckplace, 3000, .inl cgplace))] H := hP
  have hD : va_D A [(h0, .inr (5, [.ref mp, .ref gco, .ref mce, .int mcn, .ref sk, .int tp, .int ba, .ref kb, .ref kk, .ref ks, .int on, .ref sh, .int sn, .int mat, .int alw, .int st, .int mo, .int ou, .int x_1, .long re])), (gco, .inr (2, [.ref cop, .ref ca, .ref cb, .ref cplace, .ref cnext, .ref cneeded, .int cz, .int ct])), (cplace, .inl (ckplace, 3000, .inl cgplace))] := hD
  have hP9 := hP.sub (ws' := [(h0, .inr (5, [.ref mp, .ref gco, .ref mce, .int mcn, .ref sk, .int tp, .int ba, .ref kb, .ref kk, .ref ks, .int on, .ref sh, .int sn, .int mat, .int alw, .int st, .int mo, .int ou, .int x_1, .long re])), (gco, .inr (2, [.ref cop, .ref ca, .ref cb, .ref cplace, .ref cnext, .ref cneeded, .int cz, .int ct])), (cplace, .inl (ckplace, 3000, .inl cgplace))]) [0, 1, 2] rfl
  have hD9 := hD.sub (ws' := [(h0, .inr (5, [.ref mp, .ref gco, .ref mce, .int mcn, .ref sk, .int tp, .int ba, .ref kb, .ref kk, .ref ks, .int on, .ref sh, .int sn, .int mat, .int alw, .int st, .int mo, .int ou, .int x_1, .long re])), (gco, .inr (2, [.ref cop, .ref ca, .ref cb, .ref cplace, .ref cnext, .ref cneeded, .int cz, .int ct])), (cplace, .inl (ckplace, 3000, .inl cgplace))]) [0, 1, 2] (by decide) rfl
  have hK9 := hK.sub (tys' := [(ckplace, .int)]) [0] rfl
  exact W.vret hx hb hr (fun t ht hW => ⟨⟨(x_1), rfl, trivial, by rw [ht]; exact hP9, va_K.moved hW.alike hK9, hD9⟩, hS.F ht⟩) hS.2.2 dX5_stop_18
set_option maxHeartbeats 4000000 in
set_option maxRecDepth 100000 in
theorem c_X5_step (l : Launch) (dC : Nat → ClassId) (dI : Nat → Nat → Nat) (aK aV : Nat → Nat) (h0 : Nat) (mp : Nat) (gco : Nat) (mce : Nat) (sk : Nat) (kb : Nat) (kk : Nat) (ks : Nat) (sh : Nat) (mcn : Int32) (tp : Int32) (ba : Int32) (on : Int32) (sn : Int32) (mat : Int32) (alw : Int32) (st : Int32) (mo : Int32) (mh : Int32) (sp : Int32) (re : Int64) (cop : Nat) (ca : Nat) (cb : Nat) (cplace : Nat) (cnext : Nat) (cneeded : Nat) (cz : Int32) (ct : Int32) (ckplace : ClassId) (cgplace : Nat → Int32) (ro : Int32) (sz : Nat) (hr0 : 0 ≤ ro.toInt) (hr1 : ro.toInt < 3000) (hst : 0 ≤ st.toInt) (hal : alw.toInt ≤ 20000) : Met l yX5_step (Cond.code yX5_step cX5_step 2 (some .boolean) :: zw) ({ frames := 10, cells := 0, slots := 0, locals := 300 }) (va_Pc [.ref h0, .int ro] (zP dC dI aK aV sz [(ckplace, .int)] [(h0, .inr (5, [.ref mp, .ref gco, .ref mce, .int mcn, .ref sk, .int tp, .int ba, .ref kb, .ref kk, .ref ks, .int on, .ref sh, .int sn, .int mat, .int alw, .int st, .int mo, .int mh, .int sp, .long re])), (gco, .inr (2, [.ref cop, .ref ca, .ref cb, .ref cplace, .ref cnext, .ref cneeded, .int cz, .int ct])), (cplace, .inl (ckplace, 3000, .inl cgplace))])) (va_Qi (fun (r : Int32) (u : Int32 × Int32 × Int32) => match u with | (st2, mh2, sp2) => (r.toInt = 1 ∧ st2.toInt = st.toInt + 1 ∧ st2.toInt ≤ alw.toInt ∧ mh2.toInt = mh.toInt ∨ r.toInt = 0 ∧ mh2.toInt = 5 ∧ alw.toInt ≤ st.toInt)) (fun u => match u with | (st2, mh2, sp2) => zQ dC dI (va_A [(h0, .inr (5, [.ref mp, .ref gco, .ref mce, .int mcn, .ref sk, .int tp, .int ba, .ref kb, .ref kk, .ref ks, .int on, .ref sh, .int sn, .int mat, .int alw, .int st, .int mo, .int mh, .int sp, .long re])), (gco, .inr (2, [.ref cop, .ref ca, .ref cb, .ref cplace, .ref cnext, .ref cneeded, .int cz, .int ct])), (cplace, .inl (ckplace, 3000, .inl cgplace))] sz) [(ckplace, .int)] [(h0, .inr (5, [.ref mp, .ref gco, .ref mce, .int mcn, .ref sk, .int tp, .int ba, .ref kb, .ref kk, .ref ks, .int on, .ref sh, .int sn, .int mat, .int alw, .int st2, .int mo, .int mh2, .int sp2, .long re])), (gco, .inr (2, [.ref cop, .ref ca, .ref cb, .ref cplace, .ref cnext, .ref cneeded, .int cz, .int ct])), (cplace, .inl (ckplace, 3000, .inl cgplace))]) (va_A [(h0, .inr (5, [.ref mp, .ref gco, .ref mce, .int mcn, .ref sk, .int tp, .int ba, .ref kb, .ref kk, .ref ks, .int on, .ref sh, .int sn, .int mat, .int alw, .int st, .int mo, .int mh, .int sp, .long re])), (gco, .inr (2, [.ref cop, .ref ca, .ref cb, .ref cplace, .ref cnext, .ref cneeded, .int cz, .int ct])), (cplace, .inl (ckplace, 3000, .inl cgplace))] sz)) 0 0 (va_A [(h0, .inr (5, [.ref mp, .ref gco, .ref mce, .int mcn, .ref sk, .int tp, .int ba, .ref kb, .ref kk, .ref ks, .int on, .ref sh, .int sn, .int mat, .int alw, .int st, .int mo, .int mh, .int sp, .long re])), (gco, .inr (2, [.ref cop, .ref ca, .ref cb, .ref cplace, .ref cnext, .ref cneeded, .int cz, .int ct])), (cplace, .inl (ckplace, 3000, .inl cgplace))] sz) := by
  refine Met.ofW (cc := cX5_step) (maxL := 2) (ret := (some .boolean)) (by decide) rfl ?_
  intro p e s m args below meth c s₁ B hml hv
  obtain ⟨rfl, hsz, hP, hK, hD0, hN, hT⟩ := hv
  have hx := B.exec
  have hb := B.bytes
  have hr := B.returns
  have hts := atoms_spec (ws := Cond.code yX5_step cX5_step 2 (some .boolean) :: zw) B.pre
  have hA : ∀ w ∈ zw, w.before _ s = true := fun w h => hts w (List.mem_cons_of_mem _ h)
  have hown : s.vm.findClass RX5 = some m.cls := findClass_of_methodNamed B.named
  have hlocks := B.notSynchronized
  subst hsz
  have hD := hD0.self (sz := s.heap.size)
  generalize hAe : va_A [(h0, .inr (5, [.ref mp, .ref gco, .ref mce, .int mcn, .ref sk, .int tp, .int ba, .ref kb, .ref kk, .ref ks, .int on, .ref sh, .int sn, .int mat, .int alw, .int st, .int mo, .int mh, .int sp, .long re])), (gco, .inr (2, [.ref cop, .ref ca, .ref cb, .ref cplace, .ref cnext, .ref cneeded, .int cz, .int ct])), (cplace, .inl (ckplace, 3000, .inl cgplace))] s.heap.size = A at hD hT ⊢
  have hAA : ∀ q : Nat, s.heap.size ≤ q → A q := fun q h => by rw [← hAe]; exact Or.inr h
  have hS : va_S A s.heap s.heap [] := va_S.rf
  have hl := lv_entry ([.ref h0, .int ro]) (n := 2) (Nat.le_of_ble_eq_true rfl)
  rw [lg_entry_eq]
  generalize (lg_sl ([.ref h0, .int ro]) ++ List.replicate (2 - (lg_sl ([.ref h0, .int ro])).length) Slot.unset).toArray = ls at hl ⊢
  have hl : lv_has ls 2 [(0, .ref h0), (1, .int ro)] := hl
  refine lv_aload_n hx hb dX5_step_0 rfl (lv_at hl 0 rfl) ?_
  refine va_get (D := (dC, dI)) (ci := 5) (v := .int st) (C := RX5) (T := TX5) (N := 20) hx hb hA zin_X5 hown hK hP 0 rfl rfl 15 (by decide) (hA _ wi_499) (fun _ h9 => h9) rfl dX5_step_1 ?_
  refine lv_aload_n hx hb dX5_step_4 rfl (lv_at hl 0 rfl) ?_
  refine va_get (D := (dC, dI)) (ci := 5) (v := .int alw) (C := RX5) (T := TX5) (N := 20) hx hb hA zin_X5 hown hK hP 0 rfl rfl 14 (by decide) (hA _ wi_498) (fun _ h9 => h9) rfl dX5_step_5 ?_
  refine lv_icmp_lt (tgt := 19) hx hb dX5_step_8 (by decide) (fun c_1 => ?_) (fun c_1 => ?_)
  · have ic_1 : st.toInt < alw.toInt := zi_lt c_1
    refine lv_aload_n hx hb dX5_step_19 rfl (lv_at hl 0 rfl) ?_
    refine lv_dup hx hb dX5_step_20 rfl ?_
    refine va_get (D := (dC, dI)) (ci := 5) (v := .int st) (C := RX5) (T := TX5) (N := 20) hx hb hA zin_X5 hown hK hP 0 rfl rfl 15 (by decide) (hA _ wi_499) (fun _ h9 => h9) rfl dX5_step_21 ?_
    refine lv_iconst (v := 1) hx hb dX5_step_24 (by decide) ?_
    refine lv_iadd hx hb dX5_step_25 ?_
    refine lv_topi (fun x_2 ex_2 => ?_)
    have ix_2 : x_2.toInt = st.toInt + 1 := by rw [ex_2]; exact zi_addc (by decide) (by omega) (by omega)
    refine va_put (D := (dC, dI)) (ci := 5) (v := .int x_2) (ty := .int) (C := RX5) (T := TX5) (N := 20) hx hb hA zin_X5 tyX5 tyX5_ok nmX5 hown hK hP hD hS 0 rfl rfl 15 (by decide) (hA _ wi_499) (fun _ h9 => h9) rfl (by decide +kernel) rfl rfl (Nat.le_of_ble_eq_true rfl) dX5_step_26 (fun H locs hP hD hS => ?_)
    have hP : va_P (dC, dI) vwCl [(h0, .inr (5, [.ref mp, .ref gco, .ref mce, .int mcn, .ref sk, .int tp, .int ba, .ref kb, .ref kk, .ref ks, .int on, .ref sh, .int sn, .int mat, .int alw, .int x_2, .int mo, .int mh, .int sp, .long re])), (gco, .inr (2, [.ref cop, .ref ca, .ref cb, .ref cplace, .ref cnext, .ref cneeded, .int cz, .int ct])), (cplace, .inl (ckplace, 3000, .inl cgplace))] H := hP
    have hD : va_D A [(h0, .inr (5, [.ref mp, .ref gco, .ref mce, .int mcn, .ref sk, .int tp, .int ba, .ref kb, .ref kk, .ref ks, .int on, .ref sh, .int sn, .int mat, .int alw, .int x_2, .int mo, .int mh, .int sp, .long re])), (gco, .inr (2, [.ref cop, .ref ca, .ref cb, .ref cplace, .ref cnext, .ref cneeded, .int cz, .int ct])), (cplace, .inl (ckplace, 3000, .inl cgplace))] := hD
    refine lv_iconst (v := 1) hx hb dX5_step_29 (by decide) ?_
    have hlit : Int32.toInt 1 = 1 := by decide
    have hP9 := hP.sub (ws' := [(h0, .inr (5, [.ref mp, .ref gco, .ref mce, .int mcn, .ref sk, .int tp, .int ba, .ref kb, .ref kk, .ref ks, .int on, .ref sh, .int sn, .int mat, .int alw, .int x_2, .int mo, .int mh, .int sp, .long re])), (gco, .inr (2, [.ref cop, .ref ca, .ref cb, .ref cplace, .ref cnext, .ref cneeded, .int cz, .int ct])), (cplace, .inl (ckplace, 3000, .inl cgplace))]) [0, 1, 2] rfl
    have hD9 := hD.sub (ws' := [(h0, .inr (5, [.ref mp, .ref gco, .ref mce, .int mcn, .ref sk, .int tp, .int ba, .ref kb, .ref kk, .ref ks, .int on, .ref sh, .int sn, .int mat, .int alw, .int x_2, .int mo, .int mh, .int sp, .long re])), (gco, .inr (2, [.ref cop, .ref ca, .ref cb, .ref cplace, .ref cnext, .ref cneeded, .int cz, .int ct])), (cplace, .inl (ckplace, 3000, .inl cgplace))]) [0, 1, 2] (by decide) rfl
    have hK9 := hK.sub (tys' := [(ckplace, .int)]) [0] rfl
    exact W.zret (v := 1) hx hb hr rfl (fun t ht hW => ⟨⟨1, (x_2, mh, sp), rfl, by omega, by rw [ht]; exact hP9, va_K.moved hW.alike hK9, hD9⟩, hS.F ht⟩) hS.2.2 dX5_step_30
  · have ic_1 : alw.toInt ≤ st.toInt := zi_nlt c_1
    refine lv_aload_n hx hb dX5_step_11 rfl (lv_at hl 0 rfl) ?_
    refine lv_iconst (v := 5) hx hb dX5_step_12 (by decide) ?_
    refine lv_iload_n hx hb dX5_step_13 rfl (lv_at hl 1 rfl) ?_
    have hPc := hP.sub (ws' := [(h0, .inr (5, [.ref mp, .ref gco, .ref mce, .int mcn, .ref sk, .int tp, .int ba, .ref kb, .ref kk, .ref ks, .int on, .ref sh, .int sn, .int mat, .int alw, .int st, .int mo, .int mh, .int sp, .long re])), (gco, .inr (2, [.ref cop, .ref ca, .ref cb, .ref cplace, .ref cnext, .ref cneeded, .int cz, .int ct])), (cplace, .inl (ckplace, 3000, .inl cgplace))]) [0, 1, 2] rfl
    have hDc := hD.sub (ws' := [(h0, .inr (5, [.ref mp, .ref gco, .ref mce, .int mcn, .ref sk, .int tp, .int ba, .ref kb, .ref kk, .ref ks, .int on, .ref sh, .int sn, .int mat, .int alw, .int st, .int mo, .int mh, .int sp, .long re])), (gco, .inr (2, [.ref cop, .ref ca, .ref cb, .ref cplace, .ref cnext, .ref cneeded, .int cz, .int ct])), (cplace, .inl (ckplace, 3000, .inl cgplace))]) [0, 1, 2] (by decide) rfl
    have hKc := hK.sub (tys' := [(ckplace, .int)]) [0] rfl
    have hFc := va_free (wc := [(h0, .inr (5, [.ref mp, .ref gco, .ref mce, .int mcn, .ref sk, .int tp, .int ba, .ref kb, .ref kk, .ref ks, .int on, .ref sh, .int sn, .int mat, .int alw, .int st, .int mo, .int mh, .int sp, .long re])), (gco, .inr (2, [.ref cop, .ref ca, .ref cb, .ref cplace, .ref cnext, .ref cneeded, .int cz, .int ct])), (cplace, .inl (ckplace, 3000, .inl cgplace))]) hD hS hAA [0, 1, 2] rfl
    refine va_callv (va_runV (As := [.int 5, .int ro]) (rest := []) ⟨hx, hb, hml, hown, hA⟩ (c_X5_stop l dC dI aK aV h0 mp gco mce sk kb kk ks sh mcn tp ba on sn mat alw st mo mh sp re cop ca cb cplace cnext cneeded cz ct ckplace cgplace 5 ro s.heap.size (by omega) (by omega)) (cwV 2 hA (zw_V wi_1167 wi_1169 wi_47 wi_139 (zw_good wi_1170)) rfl rfl rfl (by decide +kernel) ⟨(Nat.le_of_ble_eq_true rfl), (Nat.le_of_ble_eq_true rfl)⟩) ⟨zP_blind, va_recv hKc hPc (ci := 5) (q0 := 0) rfl rfl, zz_pre hKc hPc hDc hN hT hS hFc⟩ rfl rfl hl.1 rfl (lv_room (Nat.le_of_ble_eq_true rfl)) dX5_step_14 ⟨(Nat.le_of_ble_eq_true rfl), (Nat.le_of_ble_eq_true rfl)⟩) hS (fun q _ h => hFc q h) hFc (fun u t H1 locs ht hvm hw hB hz1 hk1 hS => ?_)
    obtain ⟨sp_4, rfl⟩ : ∃ z, z = u := ⟨_, rfl⟩
    obtain ⟨hP1, hK1, hD1⟩ := hB
    rw [ht] at hP1
    have hK1 := va_K.moved hvm.symm hK1
    obtain ⟨hP, hD⟩ := va_join (wr := []) (w1 := [(h0, .inr (5, [.ref mp, .ref gco, .ref mce, .int mcn, .ref sk, .int tp, .int ba, .ref kb, .ref kk, .ref ks, .int on, .ref sh, .int sn, .int mat, .int alw, .int st, .int mo, .int 5, .int sp_4, .long re])), (gco, .inr (2, [.ref cop, .ref ca, .ref cb, .ref cplace, .ref cnext, .ref cneeded, .int cz, .int ct])), (cplace, .inl (ckplace, 3000, .inl cgplace))]) hP hD [0, 1, 2] [] rfl rfl (by decide) (by decide) hk1 hFc hP1 hD1
    have hK := (hK.sub (tys' := []) [] rfl).app hK1
    generalize H1 = H at hP hS ⊢
    have hP : va_P (dC, dI) vwCl [(h0, .inr (5, [.ref mp, .ref gco, .ref mce, .int mcn, .ref sk, .int tp, .int ba, .ref kb, .ref kk, .ref ks, .int on, .ref sh, .int sn, .int mat, .int alw, .int st, .int mo, .int 5, .int sp_4, .long re])), (gco, .inr (2, [.ref cop, .ref ca, .ref cb, .ref cplace, .ref cnext, .ref cneeded, .int cz, .int ct])), (cplace, .inl (ckplace, 3000, .inl cgplace))] H := hP
    have hD : va_D A [(h0, .inr (5, [.ref mp, .ref gco, .ref mce, .int mcn, .ref sk, .int tp, .int ba, .ref kb, .ref kk, .ref ks, .int on, .ref sh, .int sn, .int mat, .int alw, .int st, .int mo, .int 5, .int sp_4, .long re])), (gco, .inr (2, [.ref cop, .ref ca, .ref cb, .ref cplace, .ref cnext, .ref cneeded, .int cz, .int ct])), (cplace, .inl (ckplace, 3000, .inl cgplace))] := hD
    have hK : va_K (dC, dI) vwCl [(ckplace, .int)] s := hK
    have h95 : Int32.toInt 5 = 5 := by decide
    refine lv_iconst (v := 0) hx hb dX5_step_17 (by decide) ?_
    have hlit : Int32.toInt 0 = 0 := by decide
    have hP9 := hP.sub (ws' := [(h0, .inr (5, [.ref mp, .ref gco, .ref mce, .int mcn, .ref sk, .int tp, .int ba, .ref kb, .ref kk, .ref ks, .int on, .ref sh, .int sn, .int mat, .int alw, .int st, .int mo, .int 5, .int sp_4, .long re])), (gco, .inr (2, [.ref cop, .ref ca, .ref cb, .ref cplace, .ref cnext, .ref cneeded, .int cz, .int ct])), (cplace, .inl (ckplace, 3000, .inl cgplace))]) [0, 1, 2] rfl
    have hD9 := hD.sub (ws' := [(h0, .inr (5, [.ref mp, .ref gco, .ref mce, .int mcn, .ref sk, .int tp, .int ba, .ref kb, .ref kk, .ref ks, .int on, .ref sh, .int sn, .int mat, .int alw, .int st, .int mo, .int 5, .int sp_4, .long re])), (gco, .inr (2, [.ref cop, .ref ca, .ref cb, .ref cplace, .ref cnext, .ref cneeded, .int cz, .int ct])), (cplace, .inl (ckplace, 3000, .inl cgplace))]) [0, 1, 2] (by decide) rfl
    have hK9 := hK.sub (tys' := [(ckplace, .int)]) [0] rfl
    exact W.zret (v := 0) hx hb hr rfl (fun t ht hW => ⟨⟨0, (st, 5, sp_4), rfl, by omega, by rw [ht]; exact hP9, va_K.moved hW.alike hK9, hD9⟩, hS.F ht⟩) hS.2.2 dX5_step_18
set_option maxHeartbeats 4000000 in
set_option maxRecDepth 100000 in
theorem c_X5_goBehind (l : Launch) (dC : Nat → ClassId) (dI : Nat → Nat → Nat) (aK aV : Nat → Nat) (h0 : Nat) (mp : Nat) (gco : Nat) (mce : Nat) (sk : Nat) (kb : Nat) (kk : Nat) (ks : Nat) (sh : Nat) (mcn : Int32) (tp : Int32) (ba : Int32) (on : Int32) (sn : Int32) (mat : Int32) (alw : Int32) (st : Int32) (mo : Int32) (mh : Int32) (sp : Int32) (re : Int64) (cop : Nat) (ca : Nat) (cb : Nat) (cplace : Nat) (cnext : Nat) (cneeded : Nat) (cz : Int32) (ct : Int32) (cknext : ClassId) (cgnext : Nat → Int32) (qr : Int32) (sz : Nat) (hq0 : -1 ≤ qr.toInt) (hq1 : qr.toInt < 3000) : Met l yX5_goBehind (Cond.code yX5_goBehind cX5_goBehind 2 none :: zw) ({ frames := 8, cells := 0, slots := 0, locals := 200 }) (va_Pc [.ref h0, .int qr] (zP dC dI aK aV sz [(cknext, .int)] [(h0, .inr (5, [.ref mp, .ref gco, .ref mce, .int mcn, .ref sk, .int tp, .int ba, .ref kb, .ref kk, .ref ks, .int on, .ref sh, .int sn, .int mat, .int alw, .int st, .int mo, .int mh, .int sp, .long re])), (gco, .inr (2, [.ref cop, .ref ca, .ref cb, .ref cplace, .ref cnext, .ref cneeded, .int cz, .int ct])), (cnext, .inl (cknext, 3000, .inl cgnext))])) (va_Qv (fun u : Int32 => match u with | mat2 => (qr.toInt = -1 ∧ mat2.toInt = -1 ∨ qr.toInt ≠ -1 ∧ mat2 = cgnext (Int32.toNatClampNeg qr))) (fun u => match u with | mat2 => zQ dC dI (va_A [(h0, .inr (5, [.ref mp, .ref gco, .ref mce, .int mcn, .ref sk, .int tp, .int ba, .ref kb, .ref kk, .ref ks, .int on, .ref sh, .int sn, .int mat, .int alw, .int st, .int mo, .int mh, .int sp, .long re])), (gco, .inr (2, [.ref cop, .ref ca, .ref cb, .ref cplace, .ref cnext, .ref cneeded, .int cz, .int ct])), (cnext, .inl (cknext, 3000, .inl cgnext))] sz) [(cknext, .int)] [(h0, .inr (5, [.ref mp, .ref gco, .ref mce, .int mcn, .ref sk, .int tp, .int ba, .ref kb, .ref kk, .ref ks, .int on, .ref sh, .int sn, .int mat2, .int alw, .int st, .int mo, .int mh, .int sp, .long re])), (gco, .inr (2, [.ref cop, .ref ca, .ref cb, .ref cplace, .ref cnext, .ref cneeded, .int cz, .int ct])), (cnext, .inl (cknext, 3000, .inl cgnext))]) (va_A [(h0, .inr (5, [.ref mp, .ref gco, .ref mce, .int mcn, .ref sk, .int tp, .int ba, .ref kb, .ref kk, .ref ks, .int on, .ref sh, .int sn, .int mat, .int alw, .int st, .int mo, .int mh, .int sp, .long re])), (gco, .inr (2, [.ref cop, .ref ca, .ref cb, .ref cplace, .ref cnext, .ref cneeded, .int cz, .int ct])), (cnext, .inl (cknext, 3000, .inl cgnext))] sz)) 0 0 (va_A [(h0, .inr (5, [.ref mp, .ref gco, .ref mce, .int mcn, .ref sk, .int tp, .int ba, .ref kb, .ref kk, .ref ks, .int on, .ref sh, .int sn, .int mat, .int alw, .int st, .int mo, .int mh, .int sp, .long re])), (gco, .inr (2, [.ref cop, .ref ca, .ref cb, .ref cplace, .ref cnext, .ref cneeded, .int cz, .int ct])), (cnext, .inl (cknext, 3000, .inl cgnext))] sz) := by
  refine Met.ofW (cc := cX5_goBehind) (maxL := 2) (ret := none) (by decide) rfl ?_
  intro p e s m args below meth c s₁ B hml hv
  obtain ⟨rfl, hsz, hP, hK, hD0, hN, hT⟩ := hv
  have hx := B.exec
  have hb := B.bytes
  have hr := B.returns
  have hts := atoms_spec (ws := Cond.code yX5_goBehind cX5_goBehind 2 none :: zw) B.pre
  have hA : ∀ w ∈ zw, w.before _ s = true := fun w h => hts w (List.mem_cons_of_mem _ h)
  have hown : s.vm.findClass RX5 = some m.cls := findClass_of_methodNamed B.named
  have hlocks := B.notSynchronized
  subst hsz
  have hD := hD0.self (sz := s.heap.size)
  generalize hAe : va_A [(h0, .inr (5, [.ref mp, .ref gco, .ref mce, .int mcn, .ref sk, .int tp, .int ba, .ref kb, .ref kk, .ref ks, .int on, .ref sh, .int sn, .int mat, .int alw, .int st, .int mo, .int mh, .int sp, .long re])), (gco, .inr (2, [.ref cop, .ref ca, .ref cb, .ref cplace, .ref cnext, .ref cneeded, .int cz, .int ct])), (cnext, .inl (cknext, 3000, .inl cgnext))] s.heap.size = A at hD hT ⊢
  have hAA : ∀ q : Nat, s.heap.size ≤ q → A q := fun q h => by rw [← hAe]; exact Or.inr h
  have hS : va_S A s.heap s.heap [] := va_S.rf
  have hl := lv_entry ([.ref h0, .int qr]) (n := 2) (Nat.le_of_ble_eq_true rfl)
  rw [lg_entry_eq]
  generalize (lg_sl ([.ref h0, .int qr]) ++ List.replicate (2 - (lg_sl ([.ref h0, .int qr])).length) Slot.unset).toArray = ls at hl ⊢
  have hl : lv_has ls 2 [(0, .ref h0), (1, .int qr)] := hl
  refine lv_aload_n hx hb dX5_goBehind_0 rfl (lv_at hl 0 rfl) ?_
  refine lv_iload_n hx hb dX5_goBehind_1 rfl (lv_at hl 1 rfl) ?_
  refine lv_iconst (v := (-1)) hx hb dX5_goBehind_2 (by decide) ?_
  refine lv_icmp_ne (tgt := 10) hx hb dX5_goBehind_3 (by decide) (fun c_1 => ?_) (fun c_1 => ?_)
  · have ic_1 : qr.toInt ≠ (-1) := zi_ne c_1
    refine lv_aload_n hx hb dX5_goBehind_10 rfl (lv_at hl 0 rfl) ?_
    refine va_get (D := (dC, dI)) (ci := 5) (v := .ref gco) (C := RX5) (T := TX5) (N := 20) hx hb hA zin_X5 hown hK hP 0 rfl rfl 1 (by decide) (hA _ wi_485) (fun _ h9 => h9) rfl dX5_goBehind_11 ?_
    refine va_get (D := (dC, dI)) (ci := 2) (v := .ref cnext) (C := RX2) (T := TX2) (N := 8) hx hb hA zin_X2 hown hK hP 1 rfl rfl 4 (by decide) (hA _ wi_193) (fun _ h9 => h9) rfl dX5_goBehind_14 ?_
    refine lv_iload_n hx hb dX5_goBehind_17 rfl (lv_at hl 1 rfl) ?_
    refine va_iald hx hb hK hP 2 0 rfl rfl (vp_in_iff.mpr ⟨by omega, by omega⟩) dX5_goBehind_18 ?_
    refine lv_topi (fun x_2 ex_2 => ?_)
    refine va_put (D := (dC, dI)) (ci := 5) (v := .int x_2) (ty := .int) (C := RX5) (T := TX5) (N := 20) hx hb hA zin_X5 tyX5 tyX5_ok nmX5 hown hK hP hD hS 0 rfl rfl 13 (by decide) (hA _ wi_497) (fun _ h9 => h9) rfl (by decide +kernel) rfl rfl (Nat.le_of_ble_eq_true rfl) dX5_goBehind_19 (fun H locs hP hD hS => ?_)
    have hP : va_P (dC, dI) vwCl [(h0, .inr (5, [.ref mp, .ref gco, .ref mce, .int mcn, .ref sk, .int tp, .int ba, .ref kb, .ref kk, .ref ks, .int on, .ref sh, .int sn, .int x_2, .int alw, .int st, .int mo, .int mh, .int sp, .long re])), (gco, .inr (2, [.ref cop, .ref ca, .ref cb, .ref cplace, .ref cnext, .ref cneeded, .int cz, .int ct])), (cnext, .inl (cknext, 3000, .inl cgnext))] H := hP
    have hD : va_D A [(h0, .inr (5, [.ref mp, .ref gco, .ref mce, .int mcn, .ref sk, .int tp, .int ba, .ref kb, .ref kk, .ref ks, .int on, .ref sh, .int sn, .int x_2, .int alw, .int st, .int mo, .int mh, .int sp, .long re])), (gco, .inr (2, [.ref cop, .ref ca, .ref cb, .ref cplace, .ref cnext, .ref cneeded, .int cz, .int ct])), (cnext, .inl (cknext, 3000, .inl cgnext))] := hD
    have hP9 := hP.sub (ws' := [(h0, .inr (5, [.ref mp, .ref gco, .ref mce, .int mcn, .ref sk, .int tp, .int ba, .ref kb, .ref kk, .ref ks, .int on, .ref sh, .int sn, .int x_2, .int alw, .int st, .int mo, .int mh, .int sp, .long re])), (gco, .inr (2, [.ref cop, .ref ca, .ref cb, .ref cplace, .ref cnext, .ref cneeded, .int cz, .int ct])), (cnext, .inl (cknext, 3000, .inl cgnext))]) [0, 1, 2] rfl
    have hD9 := hD.sub (ws' := [(h0, .inr (5, [.ref mp, .ref gco, .ref mce, .int mcn, .ref sk, .int tp, .int ba, .ref kb, .ref kk, .ref ks, .int on, .ref sh, .int sn, .int x_2, .int alw, .int st, .int mo, .int mh, .int sp, .long re])), (gco, .inr (2, [.ref cop, .ref ca, .ref cb, .ref cplace, .ref cnext, .ref cneeded, .int cz, .int ct])), (cnext, .inl (cknext, 3000, .inl cgnext))]) [0, 1, 2] (by decide) rfl
    have hK9 := hK.sub (tys' := [(cknext, .int)]) [0] rfl
    exact W.vret hx hb hr (fun t ht hW => ⟨⟨(x_2), rfl, (Or.inr ⟨by omega, ex_2⟩), by rw [ht]; exact hP9, va_K.moved hW.alike hK9, hD9⟩, hS.F ht⟩) hS.2.2 dX5_goBehind_22
  · have ic_1 : qr.toInt = (-1) := zi_eq c_1
    refine lv_iconst (v := (-1)) hx hb dX5_goBehind_6 (by decide) ?_
    refine lv_goto (tgt := 19) hx hb dX5_goBehind_7 (by decide) ?_
    refine va_put (D := (dC, dI)) (ci := 5) (v := .int (-1)) (ty := .int) (C := RX5) (T := TX5) (N := 20) hx hb hA zin_X5 tyX5 tyX5_ok nmX5 hown hK hP hD hS 0 rfl rfl 13 (by decide) (hA _ wi_497) (fun _ h9 => h9) rfl (by decide +kernel) rfl rfl (Nat.le_of_ble_eq_true rfl) dX5_goBehind_19 (fun H locs hP hD hS => ?_)
    have hP : va_P (dC, dI) vwCl [(h0, .inr (5, [.ref mp, .ref gco, .ref mce, .int mcn, .ref sk, .int tp, .int ba, .ref kb, .ref kk, .ref ks, .int on, .ref sh, .int sn, .int (-1), .int alw, .int st, .int mo, .int mh, .int sp, .long re])), (gco, .inr (2, [.ref cop, .ref ca, .ref cb, .ref cplace, .ref cnext, .ref cneeded, .int cz, .int ct])), (cnext, .inl (cknext, 3000, .inl cgnext))] H := hP
    have hD : va_D A [(h0, .inr (5, [.ref mp, .ref gco, .ref mce, .int mcn, .ref sk, .int tp, .int ba, .ref kb, .ref kk, .ref ks, .int on, .ref sh, .int sn, .int (-1), .int alw, .int st, .int mo, .int mh, .int sp, .long re])), (gco, .inr (2, [.ref cop, .ref ca, .ref cb, .ref cplace, .ref cnext, .ref cneeded, .int cz, .int ct])), (cnext, .inl (cknext, 3000, .inl cgnext))] := hD
    have hP9 := hP.sub (ws' := [(h0, .inr (5, [.ref mp, .ref gco, .ref mce, .int mcn, .ref sk, .int tp, .int ba, .ref kb, .ref kk, .ref ks, .int on, .ref sh, .int sn, .int (-1), .int alw, .int st, .int mo, .int mh, .int sp, .long re])), (gco, .inr (2, [.ref cop, .ref ca, .ref cb, .ref cplace, .ref cnext, .ref cneeded, .int cz, .int ct])), (cnext, .inl (cknext, 3000, .inl cgnext))]) [0, 1, 2] rfl
    have hD9 := hD.sub (ws' := [(h0, .inr (5, [.ref mp, .ref gco, .ref mce, .int mcn, .ref sk, .int tp, .int ba, .ref kb, .ref kk, .ref ks, .int on, .ref sh, .int sn, .int (-1), .int alw, .int st, .int mo, .int mh, .int sp, .long re])), (gco, .inr (2, [.ref cop, .ref ca, .ref cb, .ref cplace, .ref cnext, .ref cneeded, .int cz, .int ct])), (cnext, .inl (cknext, 3000, .inl cgnext))]) [0, 1, 2] (by decide) rfl
    have hK9 := hK.sub (tys' := [(cknext, .int)]) [0] rfl
    exact W.vret hx hb hr (fun t ht hW => ⟨⟨((-1)), rfl, (Or.inl ⟨by omega, by decide⟩), by rw [ht]; exact hP9, va_K.moved hW.alike hK9, hD9⟩, hS.F ht⟩) hS.2.2 dX5_goBehind_22
set_option maxHeartbeats 4000000 in
set_option maxRecDepth 100000 in
theorem c_X5_has (l : Launch) (dC : Nat → ClassId) (dI : Nat → Nat → Nat) (aK aV : Nat → Nat) (na : Int32) (sl : Int32) (sz : Nat) (hs0 : 0 ≤ sl.toInt) (hs1 : sl.toInt < 32) : Met l yX5_has (Cond.code yX5_has cX5_has 2 (some .boolean) :: zw) ({ frames := 8, cells := 0, slots := 0, locals := 200 }) (va_Pc [.int na, .int sl] (zP dC dI aK aV sz [] [])) (va_Qi (fun (r : Int32) (u : Unit) => (r.toInt = 1 ∧ zbit na (Int32.toNatClampNeg sl) = true ∨ r.toInt = 0 ∧ zbit na (Int32.toNatClampNeg sl) = false)) (fun u => zQ dC dI (va_A [] sz) [] []) (va_A [] sz)) 0 0 (va_A [] sz) := by
  refine Met.ofW (cc := cX5_has) (maxL := 2) (ret := (some .boolean)) (by decide) rfl ?_
  intro p e s m args below meth c s₁ B hml hv
  obtain ⟨rfl, hsz, hP, hK, hD0, hN, hT⟩ := hv
  have hx := B.exec
  have hb := B.bytes
  have hr := B.returns
  have hts := atoms_spec (ws := Cond.code yX5_has cX5_has 2 (some .boolean) :: zw) B.pre
  have hA : ∀ w ∈ zw, w.before _ s = true := fun w h => hts w (List.mem_cons_of_mem _ h)
  have hown : s.vm.findClass RX5 = some m.cls := findClass_of_methodNamed B.named
  have hlocks := B.notSynchronized
  subst hsz
  have hD := hD0.self (sz := s.heap.size)
  generalize hAe : va_A [] s.heap.size = A at hD hT ⊢
  have hAA : ∀ q : Nat, s.heap.size ≤ q → A q := fun q h => by rw [← hAe]; exact Or.inr h
  have hS : va_S A s.heap s.heap [] := va_S.rf
  have hl := lv_entry ([.int na, .int sl]) (n := 2) (Nat.le_of_ble_eq_true rfl)
  rw [lg_entry_eq]
  generalize (lg_sl ([.int na, .int sl]) ++ List.replicate (2 - (lg_sl ([.int na, .int sl])).length) Slot.unset).toArray = ls at hl ⊢
  have hl : lv_has ls 2 [(0, .int na), (1, .int sl)] := hl
  refine lv_iload_n hx hb dX5_has_0 rfl (lv_at hl 0 rfl) ?_
  refine lv_iload_n hx hb dX5_has_1 rfl (lv_at hl 1 rfl) ?_
  refine lv_ishr hx hb dX5_has_2 ?_
  refine lv_topi (fun x_1 ex_1 => ?_)
  refine lv_iconst (v := 1) hx hb dX5_has_3 (by decide) ?_
  refine lv_iand hx hb dX5_has_4 ?_
  refine lv_topi (fun x_2 ex_2 => ?_)
  refine lv_iconst (v := 1) hx hb dX5_has_5 (by decide) ?_
  refine lv_icmp_ne (tgt := 13) hx hb dX5_has_6 (by decide) (fun c_3 => ?_) (fun c_3 => ?_)
  · have ic_3 : x_2.toInt ≠ 1 := zi_ne c_3
    refine lv_iconst (v := 0) hx hb dX5_has_13 (by decide) ?_
    have hlit : Int32.toInt 0 = 0 := by decide
    have hP9 := hP.sub (ws' := []) [] rfl
    have hD9 := hD.sub (ws' := []) [] (by decide) rfl
    have hK9 := hK.sub (tys' := []) [] rfl
    exact W.zret (v := 0) hx hb hr rfl (fun t ht hW => ⟨⟨0, (), rfl, (Or.inr ⟨by decide, by rw [← zbit_sr (x := na) hs0 hs1, ← ex_1]; exact zbf (fun g => by have h8 := zi_eq (zbit_and1.mpr g); have h9 : Int32.toInt 1 = 1 := (by decide); rw [← ex_2] at h8; omega)⟩), by rw [ht]; exact hP9, va_K.moved hW.alike hK9, hD9⟩, hS.F ht⟩) hS.2.2 dX5_has_14
  · have ic_3 : x_2.toInt = 1 := zi_eq c_3
    refine lv_iconst (v := 1) hx hb dX5_has_9 (by decide) ?_
    refine lv_goto (tgt := 14) hx hb dX5_has_10 (by decide) ?_
    have hlit : Int32.toInt 1 = 1 := by decide
    have hP9 := hP.sub (ws' := []) [] rfl
    have hD9 := hD.sub (ws' := []) [] (by decide) rfl
    have hK9 := hK.sub (tys' := []) [] rfl
    exact W.zret (v := 1) hx hb hr rfl (fun t ht hW => ⟨⟨1, (), rfl, (Or.inl ⟨by decide, by rw [← zbit_sr (x := na) hs0 hs1]; exact zbit_and1.mp (by rw [← ex_1, ← ex_2]; exact Int32.toInt_inj.mp (by have h9 : Int32.toInt 1 = 1 := (by decide); omega))⟩), by rw [ht]; exact hP9, va_K.moved hW.alike hK9, hD9⟩, hS.F ht⟩) hS.2.2 dX5_has_14
set_option maxHeartbeats 4000000 in
set_option maxRecDepth 100000 in
theorem c_X5_toldBits (l : Launch) (dC : Nat → ClassId) (dI : Nat → Nat → Nat) (aK aV : Nat → Nat) (h0 : Nat) (mp : Nat) (gco : Nat) (mce : Nat) (sk : Nat) (kb : Nat) (kk : Nat) (ks : Nat) (sh : Nat) (mcn : Int32) (tp : Int32) (ba : Int32) (on : Int32) (sn : Int32) (mat : Int32) (alw : Int32) (st : Int32) (mo : Int32) (mh : Int32) (sp : Int32) (re : Int64) (gar : Nat) (gki : Nat) (gfu : Nat) (fw : Nat) (fe : Nat) (ff : Nat) (f1 : ClassId) (f2 : ClassId) (f3 : ClassId) (fz : Int32) (fgw : Nat → Int64) (fge : Nat → Int32) (fgf : Nat → Int32) (fu : Int32) (sz : Nat) (hf0 : 0 ≤ fz.toInt) (hf1 : fz.toInt ≤ 30) (hu0 : 0 ≤ fu.toInt) (hu1 : fu.toInt < fz.toInt) (htd : 0 ≤ (fgf (5 * Int32.toNatClampNeg fu)).toInt ∧ (fgf (5 * Int32.toNatClampNeg fu)).toInt ≤ 6) : Met l yX5_toldBits (Cond.code yX5_toldBits cX5_toldBits 2 (some .int) :: zw) ({ frames := 12, cells := 0, slots := 0, locals := 400 }) (va_Pc [.ref h0, .int fu] (zP dC dI aK aV sz [(f1, .long), (f2, .int), (f3, .int)] [(h0, .inr (5, [.ref mp, .ref gco, .ref mce, .int mcn, .ref sk, .int tp, .int ba, .ref kb, .ref kk, .ref ks, .int on, .ref sh, .int sn, .int mat, .int alw, .int st, .int mo, .int mh, .int sp, .long re])), (mp, .inr (9, [.ref gco, .ref gar, .ref gki, .ref gfu])), (gfu, .inr (3, [.ref fw, .ref fe, .ref ff, .int fz])), (fw, .inl (f1, 30, .inr (.inl fgw))), (fe, .inl (f2, 30, .inl fge)), (ff, .inl (f3, 150, .inl fgf))])) (va_Qi (fun (r : Int32) (u : Unit) => (∀ k, k < 32 → zbit r k = decide ((k : Int) < (fgf (5 * Int32.toNatClampNeg fu)).toInt))) (fun u => zQ dC dI (va_A [(h0, .inr (5, [.ref mp, .ref gco, .ref mce, .int mcn, .ref sk, .int tp, .int ba, .ref kb, .ref kk, .ref ks, .int on, .ref sh, .int sn, .int mat, .int alw, .int st, .int mo, .int mh, .int sp, .long re])), (mp, .inr (9, [.ref gco, .ref gar, .ref gki, .ref gfu])), (gfu, .inr (3, [.ref fw, .ref fe, .ref ff, .int fz])), (fw, .inl (f1, 30, .inr (.inl fgw))), (fe, .inl (f2, 30, .inl fge)), (ff, .inl (f3, 150, .inl fgf))] sz) [(f1, .long), (f2, .int), (f3, .int)] [(h0, .inr (5, [.ref mp, .ref gco, .ref mce, .int mcn, .ref sk, .int tp, .int ba, .ref kb, .ref kk, .ref ks, .int on, .ref sh, .int sn, .int mat, .int alw, .int st, .int mo, .int mh, .int sp, .long re])), (mp, .inr (9, [.ref gco, .ref gar, .ref gki, .ref gfu])), (gfu, .inr (3, [.ref fw, .ref fe, .ref ff, .int fz])), (fw, .inl (f1, 30, .inr (.inl fgw))), (fe, .inl (f2, 30, .inl fge)), (ff, .inl (f3, 150, .inl fgf))]) (va_A [(h0, .inr (5, [.ref mp, .ref gco, .ref mce, .int mcn, .ref sk, .int tp, .int ba, .ref kb, .ref kk, .ref ks, .int on, .ref sh, .int sn, .int mat, .int alw, .int st, .int mo, .int mh, .int sp, .long re])), (mp, .inr (9, [.ref gco, .ref gar, .ref gki, .ref gfu])), (gfu, .inr (3, [.ref fw, .ref fe, .ref ff, .int fz])), (fw, .inl (f1, 30, .inr (.inl fgw))), (fe, .inl (f2, 30, .inl fge)), (ff, .inl (f3, 150, .inl fgf))] sz)) 0 0 (va_A [(h0, .inr (5, [.ref mp, .ref gco, .ref mce, .int mcn, .ref sk, .int tp, .int ba, .ref kb, .ref kk, .ref ks, .int on, .ref sh, .int sn, .int mat, .int alw, .int st, .int mo, .int mh, .int sp, .long re])), (mp, .inr (9, [.ref gco, .ref gar, .ref gki, .ref gfu])), (gfu, .inr (3, [.ref fw, .ref fe, .ref ff, .int fz])), (fw, .inl (f1, 30, .inr (.inl fgw))), (fe, .inl (f2, 30, .inl fge)), (ff, .inl (f3, 150, .inl fgf))] sz) := by
  refine Met.ofW (cc := cX5_toldBits) (maxL := 2) (ret := (some .int)) (by decide) rfl ?_
  intro p e s m args below meth c s₁ B hml hv
  obtain ⟨rfl, hsz, hP, hK, hD0, hN, hT⟩ := hv
  have hx := B.exec
  have hb := B.bytes
  have hr := B.returns
  have hts := atoms_spec (ws := Cond.code yX5_toldBits cX5_toldBits 2 (some .int) :: zw) B.pre
  have hA : ∀ w ∈ zw, w.before _ s = true := fun w h => hts w (List.mem_cons_of_mem _ h)
  have hown : s.vm.findClass RX5 = some m.cls := findClass_of_methodNamed B.named
  have hlocks := B.notSynchronized
  subst hsz
  have hD := hD0.self (sz := s.heap.size)
  generalize hAe : va_A [(h0, .inr (5, [.ref mp, .ref gco, .ref mce, .int mcn, .ref sk, .int tp, .int ba, .ref kb, .ref kk, .ref ks, .int on, .ref sh, .int sn, .int mat, .int alw, .int st, .int mo, .int mh, .int sp, .long re])), (mp, .inr (9, [.ref gco, .ref gar, .ref gki, .ref gfu])), (gfu, .inr (3, [.ref fw, .ref fe, .ref ff, .int fz])), (fw, .inl (f1, 30, .inr (.inl fgw))), (fe, .inl (f2, 30, .inl fge)), (ff, .inl (f3, 150, .inl fgf))] s.heap.size = A at hD hT ⊢
  have hAA : ∀ q : Nat, s.heap.size ≤ q → A q := fun q h => by rw [← hAe]; exact Or.inr h
  have hS : va_S A s.heap s.heap [] := va_S.rf
  have hl := lv_entry ([.ref h0, .int fu]) (n := 2) (Nat.le_of_ble_eq_true rfl)
  rw [lg_entry_eq]
  generalize (lg_sl ([.ref h0, .int fu]) ++ List.replicate (2 - (lg_sl ([.ref h0, .int fu])).length) Slot.unset).toArray = ls at hl ⊢
  have hl : lv_has ls 2 [(0, .ref h0), (1, .int fu)] := hl
  refine lv_iconst (v := 1) hx hb dX5_toldBits_0 (by decide) ?_
  refine lv_aload_n hx hb dX5_toldBits_1 rfl (lv_at hl 0 rfl) ?_
  refine va_get (D := (dC, dI)) (ci := 5) (v := .ref mp) (C := RX5) (T := TX5) (N := 20) hx hb hA zin_X5 hown hK hP 0 rfl rfl 0 (by decide) (hA _ wi_484) (fun _ h9 => h9) rfl dX5_toldBits_2 ?_
  refine va_get (D := (dC, dI)) (ci := 9) (v := .ref gfu) (C := RX9) (T := TX9) (N := 4) hx hb hA zin_X9 hown hK hP 1 rfl rfl 3 (by decide) (hA _ wi_324) (fun _ h9 => h9) rfl dX5_toldBits_5 ?_
  refine lv_iload_n hx hb dX5_toldBits_8 rfl (lv_at hl 1 rfl) ?_
  refine lv_iconst (v := 0) hx hb dX5_toldBits_9 (by decide) ?_
  have hPc := hP.sub (ws' := [(gfu, .inr (3, [.ref fw, .ref fe, .ref ff, .int fz])), (fw, .inl (f1, 30, .inr (.inl fgw))), (fe, .inl (f2, 30, .inl fge)), (ff, .inl (f3, 150, .inl fgf))]) [2, 3, 4, 5] rfl
  have hDc := hD.sub (ws' := [(gfu, .inr (3, [.ref fw, .ref fe, .ref ff, .int fz])), (fw, .inl (f1, 30, .inr (.inl fgw))), (fe, .inl (f2, 30, .inl fge)), (ff, .inl (f3, 150, .inl fgf))]) [2, 3, 4, 5] (by decide) rfl
  have hKc := hK.sub (tys' := [(f1, .long), (f2, .int), (f3, .int)]) [0, 1, 2] rfl
  have hFc := va_free (wc := [(gfu, .inr (3, [.ref fw, .ref fe, .ref ff, .int fz])), (fw, .inl (f1, 30, .inr (.inl fgw))), (fe, .inl (f2, 30, .inl fge)), (ff, .inl (f3, 150, .inl fgf))]) hD hS hAA [2, 3, 4, 5] rfl
  refine va_calli (va_runV (As := [.int fu, .int 0]) (rest := [.int 1]) ⟨hx, hb, hml, hown, hA⟩ (c_X3_fact_x l dC dI aK aV gfu fw fe ff f1 f2 f3 fz fgw fge fgf fu 0 s.heap.size (by omega) (by omega) (by omega) (by omega) (by have h9_0 : Int32.toInt 0 = 0 := (by decide); omega) (by have h9_0 : Int32.toInt 0 = 0 := (by decide); omega)) (cwV 2 hA (zw_V wi_1118 wi_907 wi_908 wi_135 (zw_good wi_909)) rfl rfl rfl (by decide +kernel) ⟨(Nat.le_of_ble_eq_true rfl), (Nat.le_of_ble_eq_true rfl)⟩) ⟨zP_blind, va_recv hKc hPc (ci := 3) (q0 := 0) rfl rfl, zz_pre hKc hPc hDc hN hT hS hFc⟩ rfl rfl hl.1 rfl (lv_room (Nat.le_of_ble_eq_true rfl)) dX5_toldBits_10 ⟨(Nat.le_of_ble_eq_true rfl), (Nat.le_of_ble_eq_true rfl)⟩) hS (fun q _ h => hFc q h) hFc (fun r_1 u t H1 locs ht hvm hw hB hz1 hk1 hS => ?_)
  obtain ⟨hP1, hK1, hD1⟩ := hB
  rw [ht] at hP1
  have hK1 := va_K.moved hvm.symm hK1
  obtain ⟨hP, hD⟩ := va_join (wr := [(h0, .inr (5, [.ref mp, .ref gco, .ref mce, .int mcn, .ref sk, .int tp, .int ba, .ref kb, .ref kk, .ref ks, .int on, .ref sh, .int sn, .int mat, .int alw, .int st, .int mo, .int mh, .int sp, .long re])), (mp, .inr (9, [.ref gco, .ref gar, .ref gki, .ref gfu]))]) (w1 := [(gfu, .inr (3, [.ref fw, .ref fe, .ref ff, .int fz])), (fw, .inl (f1, 30, .inr (.inl fgw))), (fe, .inl (f2, 30, .inl fge)), (ff, .inl (f3, 150, .inl fgf))]) hP hD [2, 3, 4, 5] [0, 1] rfl rfl (by decide) (by decide) hk1 hFc hP1 hD1
  have hK := (hK.sub (tys' := []) [] rfl).app hK1
  generalize H1 = H at hP hS ⊢
  have hP : va_P (dC, dI) vwCl [(h0, .inr (5, [.ref mp, .ref gco, .ref mce, .int mcn, .ref sk, .int tp, .int ba, .ref kb, .ref kk, .ref ks, .int on, .ref sh, .int sn, .int mat, .int alw, .int st, .int mo, .int mh, .int sp, .long re])), (mp, .inr (9, [.ref gco, .ref gar, .ref gki, .ref gfu])), (gfu, .inr (3, [.ref fw, .ref fe, .ref ff, .int fz])), (fw, .inl (f1, 30, .inr (.inl fgw))), (fe, .inl (f2, 30, .inl fge)), (ff, .inl (f3, 150, .inl fgf))] H := hP
  have hD : va_D A [(h0, .inr (5, [.ref mp, .ref gco, .ref mce, .int mcn, .ref sk, .int tp, .int ba, .ref kb, .ref kk, .ref ks, .int on, .ref sh, .int sn, .int mat, .int alw, .int st, .int mo, .int mh, .int sp, .long re])), (mp, .inr (9, [.ref gco, .ref gar, .ref gki, .ref gfu])), (gfu, .inr (3, [.ref fw, .ref fe, .ref ff, .int fz])), (fw, .inl (f1, 30, .inr (.inl fgw))), (fe, .inl (f2, 30, .inl fge)), (ff, .inl (f3, 150, .inl fgf))] := hD
  have hK : va_K (dC, dI) vwCl [(f1, .long), (f2, .int), (f3, .int)] s := hK
  have hw_r_1 := hw
  try dsimp only at hw_r_1
  have hq_2 := hw
  have htf9 : r_1 = fgf (5 * Int32.toNatClampNeg fu) := by rw [hq_2]; exact congrArg fgf (by have h9 : Int32.toNatClampNeg 0 = 0 := (by decide); omega)
  refine lv_ishl hx hb dX5_toldBits_13 ?_
  refine lv_topi (fun x_3 ex_3 => ?_)
  refine lv_iconst (v := 1) hx hb dX5_toldBits_14 (by decide) ?_
  refine lv_isub hx hb dX5_toldBits_15 ?_
  refine lv_topi (fun x_4 ex_4 => ?_)
  have hP9 := hP.sub (ws' := [(h0, .inr (5, [.ref mp, .ref gco, .ref mce, .int mcn, .ref sk, .int tp, .int ba, .ref kb, .ref kk, .ref ks, .int on, .ref sh, .int sn, .int mat, .int alw, .int st, .int mo, .int mh, .int sp, .long re])), (mp, .inr (9, [.ref gco, .ref gar, .ref gki, .ref gfu])), (gfu, .inr (3, [.ref fw, .ref fe, .ref ff, .int fz])), (fw, .inl (f1, 30, .inr (.inl fgw))), (fe, .inl (f2, 30, .inl fge)), (ff, .inl (f3, 150, .inl fgf))]) [0, 1, 2, 3, 4, 5] rfl
  have hD9 := hD.sub (ws' := [(h0, .inr (5, [.ref mp, .ref gco, .ref mce, .int mcn, .ref sk, .int tp, .int ba, .ref kb, .ref kk, .ref ks, .int on, .ref sh, .int sn, .int mat, .int alw, .int st, .int mo, .int mh, .int sp, .long re])), (mp, .inr (9, [.ref gco, .ref gar, .ref gki, .ref gfu])), (gfu, .inr (3, [.ref fw, .ref fe, .ref ff, .int fz])), (fw, .inl (f1, 30, .inr (.inl fgw))), (fe, .inl (f2, 30, .inl fge)), (ff, .inl (f3, 150, .inl fgf))]) [0, 1, 2, 3, 4, 5] (by decide) rfl
  have hK9 := hK.sub (tys' := [(f1, .long), (f2, .int), (f3, .int)]) [0, 1, 2] rfl
  exact W.iret (v := x_4) hx hb hr (fun t ht hW => ⟨⟨x_4, (), rfl, (fun k hk => by rw [ex_4, ex_3, htf9]; exact zbit_td htd.1 htd.2 hk), by rw [ht]; exact hP9, va_K.moved hW.alike hK9, hD9⟩, hS.F ht⟩) hS.2.2 dX5_toldBits_16
