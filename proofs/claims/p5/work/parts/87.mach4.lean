theorem wi_1166 : Cond.code yX5_step cX5_step 2 (some .boolean) ∈ zw := zw_in (List.mem_of_getElem? (i := 1166) (by decide +kernel)) (by decide +kernel)
theorem wi_1163 : Cond.methodLink RX5 116 yX5_step ∈ zw := zw_in (List.mem_of_getElem? (i := 1163) (by decide +kernel)) (by decide +kernel)
theorem wi_1165 : Cond.instanceMethod yX5_step ∈ zw := zw_in (List.mem_of_getElem? (i := 1165) (by decide +kernel)) (by decide +kernel)
theorem wi_46 : Cond.selects RX5 yX5_step yX5_step ∈ zw := zw_in (List.mem_of_getElem? (i := 46) (by decide +kernel)) (by decide +kernel)
theorem wi_182 : Cond.fieldLink RX5 103 "ReuseHouse$Code" "a" "[I" ∈ zw := zw_in (List.mem_of_getElem? (i := 182) (by decide +kernel)) (by decide +kernel)
theorem wi_1103 : Cond.code yX1_ofInt cX1_ofInt 1 (some .long) ∈ zw := zw_in (List.mem_of_getElem? (i := 1103) (by decide +kernel)) (by decide +kernel)
theorem wi_1175 : Cond.methodLink RX5 183 yX1_ofInt ∈ zw := zw_in (List.mem_of_getElem? (i := 1175) (by decide +kernel)) (by decide +kernel)
theorem wi_1102 : Cond.static yX1_ofInt ∈ zw := zw_in (List.mem_of_getElem? (i := 1102) (by decide +kernel)) (by decide +kernel)
theorem wi_1108 : Cond.code yX5_push cX5_push 3 none ∈ zw := zw_in (List.mem_of_getElem? (i := 1108) (by decide +kernel)) (by decide +kernel)
theorem wi_1176 : Cond.methodLink RX5 187 yX5_push ∈ zw := zw_in (List.mem_of_getElem? (i := 1176) (by decide +kernel)) (by decide +kernel)
theorem wi_1106 : Cond.instanceMethod yX5_push ∈ zw := zw_in (List.mem_of_getElem? (i := 1106) (by decide +kernel)) (by decide +kernel)
theorem wi_1107 : Cond.selects RX5 yX5_push yX5_push ∈ zw := zw_in (List.mem_of_getElem? (i := 1107) (by decide +kernel)) (by decide +kernel)
theorem wi_1191 : Cond.code yX1_ofKind cX1_ofKind 1 (some .long) ∈ zw := zw_in (List.mem_of_getElem? (i := 1191) (by decide +kernel)) (by decide +kernel)
theorem wi_1189 : Cond.methodLink RX5 190 yX1_ofKind ∈ zw := zw_in (List.mem_of_getElem? (i := 1189) (by decide +kernel)) (by decide +kernel)
theorem wi_1190 : Cond.static yX1_ofKind ∈ zw := zw_in (List.mem_of_getElem? (i := 1190) (by decide +kernel)) (by decide +kernel)
theorem wi_1230 : Cond.code yX5_pop cX5_pop 1 (some .long) ∈ zw := zw_in (List.mem_of_getElem? (i := 1230) (by decide +kernel)) (by decide +kernel)
theorem wi_1227 : Cond.methodLink RX5 196 yX5_pop ∈ zw := zw_in (List.mem_of_getElem? (i := 1227) (by decide +kernel)) (by decide +kernel)
theorem wi_1229 : Cond.instanceMethod yX5_pop ∈ zw := zw_in (List.mem_of_getElem? (i := 1229) (by decide +kernel)) (by decide +kernel)
theorem wi_56 : Cond.selects RX5 yX5_pop yX5_pop ∈ zw := zw_in (List.mem_of_getElem? (i := 56) (by decide +kernel)) (by decide +kernel)
theorem wi_1235 : Cond.methodLink RX5 200 yX1_isInt ∈ zw := zw_in (List.mem_of_getElem? (i := 1235) (by decide +kernel)) (by decide +kernel)
theorem wi_178 : Cond.fieldLink RX5 100 "ReuseHouse$Code" "op" "[I" ∈ zw := zw_in (List.mem_of_getElem? (i := 178) (by decide +kernel)) (by decide +kernel)
theorem wi_1286 : Cond.code yX5_reckon cX5_reckon 3 (some .int) ∈ zw := zw_in (List.mem_of_getElem? (i := 1286) (by decide +kernel)) (by decide +kernel)
theorem wi_1284 : Cond.methodLink RX5 204 yX5_reckon ∈ zw := zw_in (List.mem_of_getElem? (i := 1284) (by decide +kernel)) (by decide +kernel)
theorem wi_1285 : Cond.static yX5_reckon ∈ zw := zw_in (List.mem_of_getElem? (i := 1285) (by decide +kernel)) (by decide +kernel)
theorem dX5_kindAlone_0 : decode cX5_kindAlone 0 = .ok (.aload_n 0, 1) := by decide +kernel
theorem dX5_kindAlone_1 : decode cX5_kindAlone 1 = .ok (.iload_n 1, 1) := by decide +kernel
theorem dX5_kindAlone_2 : decode cX5_kindAlone 2 = .ok (.invokevirtual 116, 3) := by decide +kernel
theorem dX5_kindAlone_5 : decode cX5_kindAlone 5 = .ok (.ifCond .eq 19, 3) := by decide +kernel
theorem dX5_kindAlone_8 : decode cX5_kindAlone 8 = .ok (.aload_n 0, 1) := by decide +kernel
theorem dX5_kindAlone_9 : decode cX5_kindAlone 9 = .ok (.aload_n 0, 1) := by decide +kernel
theorem dX5_kindAlone_10 : decode cX5_kindAlone 10 = .ok (.getfield 77, 3) := by decide +kernel
theorem dX5_kindAlone_13 : decode cX5_kindAlone 13 = .ok (.getfield 103, 3) := by decide +kernel
theorem dX5_kindAlone_16 : decode cX5_kindAlone 16 = .ok (.iload_n 1, 1) := by decide +kernel
theorem dX5_kindAlone_17 : decode cX5_kindAlone 17 = .ok (.iaload, 1) := by decide +kernel
theorem dX5_kindAlone_18 : decode cX5_kindAlone 18 = .ok (.invokestatic 190, 3) := by decide +kernel
theorem dX5_kindAlone_21 : decode cX5_kindAlone 21 = .ok (.invokevirtual 187, 3) := by decide +kernel
theorem dX5_kindAlone_24 : decode cX5_kindAlone 24 = .ok (.return_, 1) := by decide +kernel
theorem dX5_number_0 : decode cX5_number 0 = .ok (.aload_n 0, 1) := by decide +kernel
theorem dX5_number_1 : decode cX5_number 1 = .ok (.iload_n 1, 1) := by decide +kernel
theorem dX5_number_2 : decode cX5_number 2 = .ok (.invokevirtual 116, 3) := by decide +kernel
theorem dX5_number_5 : decode cX5_number 5 = .ok (.ifCond .eq 19, 3) := by decide +kernel
theorem dX5_number_8 : decode cX5_number 8 = .ok (.aload_n 0, 1) := by decide +kernel
theorem dX5_number_9 : decode cX5_number 9 = .ok (.aload_n 0, 1) := by decide +kernel
theorem dX5_number_10 : decode cX5_number 10 = .ok (.getfield 77, 3) := by decide +kernel
theorem dX5_number_13 : decode cX5_number 13 = .ok (.getfield 103, 3) := by decide +kernel
theorem dX5_number_16 : decode cX5_number 16 = .ok (.iload_n 1, 1) := by decide +kernel
theorem dX5_number_17 : decode cX5_number 17 = .ok (.iaload, 1) := by decide +kernel
theorem dX5_number_18 : decode cX5_number 18 = .ok (.invokestatic 183, 3) := by decide +kernel
theorem dX5_number_21 : decode cX5_number 21 = .ok (.invokevirtual 187, 3) := by decide +kernel
theorem dX5_number_24 : decode cX5_number 24 = .ok (.return_, 1) := by decide +kernel
theorem dX5_reckon_0 : decode cX5_reckon 0 = .ok (.iload_n 0, 1) := by decide +kernel
theorem dX5_reckon_1 : decode cX5_reckon 1 = .ok (.tableswitch 39 8 10 #[27, 31, 35], 27) := by decide +kernel
theorem dX5_reckon_28 : decode cX5_reckon 28 = .ok (.iload_n 1, 1) := by decide +kernel
theorem dX5_reckon_29 : decode cX5_reckon 29 = .ok (.iload_n 2, 1) := by decide +kernel
theorem dX5_reckon_30 : decode cX5_reckon 30 = .ok (.iadd, 1) := by decide +kernel
theorem dX5_reckon_31 : decode cX5_reckon 31 = .ok (.ireturn, 1) := by decide +kernel
theorem dX5_reckon_32 : decode cX5_reckon 32 = .ok (.iload_n 1, 1) := by decide +kernel
theorem dX5_reckon_33 : decode cX5_reckon 33 = .ok (.iload_n 2, 1) := by decide +kernel
theorem dX5_reckon_34 : decode cX5_reckon 34 = .ok (.isub, 1) := by decide +kernel
theorem dX5_reckon_35 : decode cX5_reckon 35 = .ok (.ireturn, 1) := by decide +kernel
theorem dX5_reckon_36 : decode cX5_reckon 36 = .ok (.iload_n 1, 1) := by decide +kernel
theorem dX5_reckon_37 : decode cX5_reckon 37 = .ok (.iload_n 2, 1) := by decide +kernel
theorem dX5_reckon_38 : decode cX5_reckon 38 = .ok (.imul, 1) := by decide +kernel
theorem dX5_reckon_39 : decode cX5_reckon 39 = .ok (.ireturn, 1) := by decide +kernel
theorem dX5_reckon_40 : decode cX5_reckon 40 = .ok (.iload_n 1, 1) := by decide +kernel
theorem dX5_reckon_41 : decode cX5_reckon 41 = .ok (.iload_n 2, 1) := by decide +kernel
theorem dX5_reckon_42 : decode cX5_reckon 42 = .ok (.if_icmp .ge 7, 3) := by decide +kernel
theorem dX5_reckon_45 : decode cX5_reckon 45 = .ok (.iconst 1, 1) := by decide +kernel
theorem dX5_reckon_46 : decode cX5_reckon 46 = .ok (.goto 4, 3) := by decide +kernel
theorem dX5_reckon_49 : decode cX5_reckon 49 = .ok (.iconst 0, 1) := by decide +kernel
theorem dX5_reckon_50 : decode cX5_reckon 50 = .ok (.ireturn, 1) := by decide +kernel
theorem dX5_sign_0 : decode cX5_sign 0 = .ok (.aload_n 0, 1) := by decide +kernel
theorem dX5_sign_1 : decode cX5_sign 1 = .ok (.invokevirtual 196, 3) := by decide +kernel
theorem dX5_sign_4 : decode cX5_sign 4 = .ok (.lstore_n 2, 1) := by decide +kernel
theorem dX5_sign_5 : decode cX5_sign 5 = .ok (.aload_n 0, 1) := by decide +kernel
theorem dX5_sign_6 : decode cX5_sign 6 = .ok (.invokevirtual 196, 3) := by decide +kernel
theorem dX5_sign_9 : decode cX5_sign 9 = .ok (.lstore 4, 2) := by decide +kernel
theorem dX5_sign_11 : decode cX5_sign 11 = .ok (.lload 4, 2) := by decide +kernel
theorem dX5_sign_13 : decode cX5_sign 13 = .ok (.invokestatic 200, 3) := by decide +kernel
theorem dX5_sign_16 : decode cX5_sign 16 = .ok (.ifCond .eq 10, 3) := by decide +kernel
theorem dX5_sign_19 : decode cX5_sign 19 = .ok (.lload_n 2, 1) := by decide +kernel
theorem dX5_sign_20 : decode cX5_sign 20 = .ok (.invokestatic 200, 3) := by decide +kernel
theorem dX5_sign_23 : decode cX5_sign 23 = .ok (.ifCond .ne 10, 3) := by decide +kernel
theorem dX5_sign_26 : decode cX5_sign 26 = .ok (.aload_n 0, 1) := by decide +kernel
theorem dX5_sign_27 : decode cX5_sign 27 = .ok (.iconst 2, 1) := by decide +kernel
theorem dX5_sign_28 : decode cX5_sign 28 = .ok (.iload_n 1, 1) := by decide +kernel
theorem dX5_sign_29 : decode cX5_sign 29 = .ok (.invokevirtual 162, 3) := by decide +kernel
theorem dX5_sign_32 : decode cX5_sign 32 = .ok (.return_, 1) := by decide +kernel
theorem dX5_sign_33 : decode cX5_sign 33 = .ok (.aload_n 0, 1) := by decide +kernel
theorem dX5_sign_34 : decode cX5_sign 34 = .ok (.aload_n 0, 1) := by decide +kernel
theorem dX5_sign_35 : decode cX5_sign 35 = .ok (.getfield 77, 3) := by decide +kernel
theorem dX5_sign_38 : decode cX5_sign 38 = .ok (.getfield 100, 3) := by decide +kernel
theorem dX5_sign_41 : decode cX5_sign 41 = .ok (.iload_n 1, 1) := by decide +kernel
theorem dX5_sign_42 : decode cX5_sign 42 = .ok (.iaload, 1) := by decide +kernel
theorem dX5_sign_43 : decode cX5_sign 43 = .ok (.lload 4, 2) := by decide +kernel
theorem dX5_sign_45 : decode cX5_sign 45 = .ok (.l2i, 1) := by decide +kernel
theorem dX5_sign_46 : decode cX5_sign 46 = .ok (.lload_n 2, 1) := by decide +kernel
theorem dX5_sign_47 : decode cX5_sign 47 = .ok (.l2i, 1) := by decide +kernel
theorem dX5_sign_48 : decode cX5_sign 48 = .ok (.invokestatic 204, 3) := by decide +kernel
theorem dX5_sign_51 : decode cX5_sign 51 = .ok (.invokestatic 183, 3) := by decide +kernel
theorem dX5_sign_54 : decode cX5_sign 54 = .ok (.invokevirtual 187, 3) := by decide +kernel
theorem dX5_sign_57 : decode cX5_sign 57 = .ok (.return_, 1) := by decide +kernel
set_option maxHeartbeats 4000000 in
set_option maxRecDepth 100000 in
theorem c_X5_number (l : Launch) (dC : Nat → ClassId) (dI : Nat → Nat → Nat) (aK aV : Nat → Nat) (h0 : Nat) (mp : Nat) (gco : Nat) (mce : Nat) (sk : Nat) (kb : Nat) (kk : Nat) (ks : Nat) (sh : Nat) (mcn : Int32) (tp : Int32) (ba : Int32) (on : Int32) (sn : Int32) (mat : Int32) (alw : Int32) (st : Int32) (mo : Int32) (mh : Int32) (sp : Int32) (re : Int64) (sk1 : ClassId) (gs : Nat → Int64) (cop : Nat) (ca : Nat) (cb : Nat) (cplace : Nat) (cnext : Nat) (cneeded : Nat) (cz : Int32) (ct : Int32) (cka : ClassId) (ckplace : ClassId) (cga : Nat → Int32) (cgplace : Nat → Int32) (ro : Int32) (sz : Nat) (hr0 : 0 ≤ ro.toInt) (hr1 : ro.toInt < 3000) (ht0 : 0 ≤ tp.toInt) (ht1 : tp.toInt < 22424) (hst : 0 ≤ st.toInt) (hal : alw.toInt ≤ 20000) : Met l yX5_number (Cond.code yX5_number cX5_number 2 none :: zw) ({ frames := 12, cells := 0, slots := 0, locals := 400 }) (va_Pc [.ref h0, .int ro] (zP dC dI aK aV sz [(sk1, .long), (cka, .int), (ckplace, .int)] [(h0, .inr (5, [.ref mp, .ref gco, .ref mce, .int mcn, .ref sk, .int tp, .int ba, .ref kb, .ref kk, .ref ks, .int on, .ref sh, .int sn, .int mat, .int alw, .int st, .int mo, .int mh, .int sp, .long re])), (sk, .inl (sk1, 22424, .inr (.inl gs))), (gco, .inr (2, [.ref cop, .ref ca, .ref cb, .ref cplace, .ref cnext, .ref cneeded, .int cz, .int ct])), (ca, .inl (cka, 3000, .inl cga)), (cplace, .inl (ckplace, 3000, .inl cgplace))])) (va_Qv (fun u : Int32 × Int32 × Int32 × Int32 × (Nat → Int64) => match u with | (st2, mh2, sp2, tp2, gs2) => (mh2.toInt = 5 ∧ alw.toInt ≤ st.toInt ∨ mh2.toInt = mh.toInt ∧ st2.toInt = st.toInt + 1 ∧ st2.toInt ≤ alw.toInt ∧ tp2.toInt = tp.toInt + 1) ∧ (mh2.toInt = 5 ∨ ∃ v : Int64, gs2 = vp_updL gs (Int32.toNatClampNeg tp) v ∧ zhs v = 0 ∧ v.toInt32 = cga (Int32.toNatClampNeg ro)) ∧ (cSpl (cgplace (Int32.toNatClampNeg ro)) sp mh sp2 mh2)) (fun u => match u with | (st2, mh2, sp2, tp2, gs2) => zQ dC dI (va_A [(h0, .inr (5, [.ref mp, .ref gco, .ref mce, .int mcn, .ref sk, .int tp, .int ba, .ref kb, .ref kk, .ref ks, .int on, .ref sh, .int sn, .int mat, .int alw, .int st, .int mo, .int mh, .int sp, .long re])), (sk, .inl (sk1, 22424, .inr (.inl gs))), (gco, .inr (2, [.ref cop, .ref ca, .ref cb, .ref cplace, .ref cnext, .ref cneeded, .int cz, .int ct])), (ca, .inl (cka, 3000, .inl cga)), (cplace, .inl (ckplace, 3000, .inl cgplace))] sz) [(sk1, .long), (cka, .int), (ckplace, .int)] [(h0, .inr (5, [.ref mp, .ref gco, .ref mce, .int mcn, .ref sk, .int tp2, .int ba, .ref kb, .ref kk, .ref ks, .int on, .ref sh, .int sn, .int mat, .int alw, .int st2, .int mo, .int mh2, .int sp2, .long re])), (sk, .inl (sk1, 22424, .inr (.inl gs2))), (gco, .inr (2, [.ref cop, .ref ca, .ref cb, .ref cplace, .ref cnext, .ref cneeded, .int cz, .int ct])), (ca, .inl (cka, 3000, .inl cga)), (cplace, .inl (ckplace, 3000, .inl cgplace))]) (va_A [(h0, .inr (5, [.ref mp, .ref gco, .ref mce, .int mcn, .ref sk, .int tp, .int ba, .ref kb, .ref kk, .ref ks, .int on, .ref sh, .int sn, .int mat, .int alw, .int st, .int mo, .int mh, .int sp, .long re])), (sk, .inl (sk1, 22424, .inr (.inl gs))), (gco, .inr (2, [.ref cop, .ref ca, .ref cb, .ref cplace, .ref cnext, .ref cneeded, .int cz, .int ct])), (ca, .inl (cka, 3000, .inl cga)), (cplace, .inl (ckplace, 3000, .inl cgplace))] sz)) 0 0 (va_A [(h0, .inr (5, [.ref mp, .ref gco, .ref mce, .int mcn, .ref sk, .int tp, .int ba, .ref kb, .ref kk, .ref ks, .int on, .ref sh, .int sn, .int mat, .int alw, .int st, .int mo, .int mh, .int sp, .long re])), (sk, .inl (sk1, 22424, .inr (.inl gs))), (gco, .inr (2, [.ref cop, .ref ca, .ref cb, .ref cplace, .ref cnext, .ref cneeded, .int cz, .int ct])), (ca, .inl (cka, 3000, .inl cga)), (cplace, .inl (ckplace, 3000, .inl cgplace))] sz) := by
  refine Met.ofW (cc := cX5_number) (maxL := 2) (ret := none) (by decide) rfl ?_
  intro p e s m args below meth c s₁ B hml hv
  obtain ⟨rfl, hsz, hP, hK, hD0, hN, hT⟩ := hv
  have hx := B.exec
  have hb := B.bytes
  have hr := B.returns
  have hts := atoms_spec (ws := Cond.code yX5_number cX5_number 2 none :: zw) B.pre
  have hA : ∀ w ∈ zw, w.before _ s = true := fun w h => hts w (List.mem_cons_of_mem _ h)
  have hown : s.vm.findClass RX5 = some m.cls := findClass_of_methodNamed B.named
  have hlocks := B.notSynchronized
  subst hsz
  have hD := hD0.self (sz := s.heap.size)
  generalize hAe : va_A [(h0, .inr (5, [.ref mp, .ref gco, .ref mce, .int mcn, .ref sk, .int tp, .int ba, .ref kb, .ref kk, .ref ks, .int on, .ref sh, .int sn, .int mat, .int alw, .int st, .int mo, .int mh, .int sp, .long re])), (sk, .inl (sk1, 22424, .inr (.inl gs))), (gco, .inr (2, [.ref cop, .ref ca, .ref cb, .ref cplace, .ref cnext, .ref cneeded, .int cz, .int ct])), (ca, .inl (cka, 3000, .inl cga)), (cplace, .inl (ckplace, 3000, .inl cgplace))] s.heap.size = A at hD hT ⊢
  have hAA : ∀ q : Nat, s.heap.size ≤ q → A q := fun q h => by rw [← hAe]; exact Or.inr h
  have hS : va_S A s.heap s.heap [] := va_S.rf
  have hl := lv_entry ([.ref h0, .int ro]) (n := 2) (Nat.le_of_ble_eq_true rfl)
  rw [lg_entry_eq]
  generalize (lg_sl ([.ref h0, .int ro]) ++ List.replicate (2 - (lg_sl ([.ref h0, .int ro])).length) Slot.unset).toArray = ls at hl ⊢
  have hl : lv_has ls 2 [(0, .ref h0), (1, .int ro)] := hl
  refine lv_aload_n hx hb dX5_number_0 rfl (lv_at hl 0 rfl) ?_
  refine lv_iload_n hx hb dX5_number_1 rfl (lv_at hl 1 rfl) ?_
  have hPc := hP.sub (ws' := [(h0, .inr (5, [.ref mp, .ref gco, .ref mce, .int mcn, .ref sk, .int tp, .int ba, .ref kb, .ref kk, .ref ks, .int on, .ref sh, .int sn, .int mat, .int alw, .int st, .int mo, .int mh, .int sp, .long re])), (gco, .inr (2, [.ref cop, .ref ca, .ref cb, .ref cplace, .ref cnext, .ref cneeded, .int cz, .int ct])), (cplace, .inl (ckplace, 3000, .inl cgplace))]) [0, 2, 4] rfl
  have hDc := hD.sub (ws' := [(h0, .inr (5, [.ref mp, .ref gco, .ref mce, .int mcn, .ref sk, .int tp, .int ba, .ref kb, .ref kk, .ref ks, .int on, .ref sh, .int sn, .int mat, .int alw, .int st, .int mo, .int mh, .int sp, .long re])), (gco, .inr (2, [.ref cop, .ref ca, .ref cb, .ref cplace, .ref cnext, .ref cneeded, .int cz, .int ct])), (cplace, .inl (ckplace, 3000, .inl cgplace))]) [0, 2, 4] (by decide) rfl
  have hKc := hK.sub (tys' := [(ckplace, .int)]) [2] rfl
  have hFc := va_free (wc := [(h0, .inr (5, [.ref mp, .ref gco, .ref mce, .int mcn, .ref sk, .int tp, .int ba, .ref kb, .ref kk, .ref ks, .int on, .ref sh, .int sn, .int mat, .int alw, .int st, .int mo, .int mh, .int sp, .long re])), (gco, .inr (2, [.ref cop, .ref ca, .ref cb, .ref cplace, .ref cnext, .ref cneeded, .int cz, .int ct])), (cplace, .inl (ckplace, 3000, .inl cgplace))]) hD hS hAA [0, 2, 4] rfl
  refine va_calli (va_runV (As := [.int ro]) (rest := []) ⟨hx, hb, hml, hown, hA⟩ (c_X5_step l dC dI aK aV h0 mp gco mce sk kb kk ks sh mcn tp ba on sn mat alw st mo mh sp re cop ca cb cplace cnext cneeded cz ct ckplace cgplace ro s.heap.size (by omega) (by omega) (by omega) (by omega)) (cwV 1 hA (zw_V wi_1163 wi_1165 wi_46 wi_139 (zw_good wi_1166)) rfl rfl rfl (by decide +kernel) ⟨(Nat.le_of_ble_eq_true rfl), (Nat.le_of_ble_eq_true rfl)⟩) ⟨zP_blind, va_recv hKc hPc (ci := 5) (q0 := 0) rfl rfl, zz_pre hKc hPc hDc hN hT hS hFc⟩ rfl rfl hl.1 rfl (lv_room (Nat.le_of_ble_eq_true rfl)) dX5_number_2 ⟨(Nat.le_of_ble_eq_true rfl), (Nat.le_of_ble_eq_true rfl)⟩) hS (fun q _ h => hFc q h) hFc (fun r_1 u t H1 locs ht hvm hw hB hz1 hk1 hS => ?_)
  obtain ⟨st_2, mh_3, sp_4⟩ := u
  obtain ⟨hP1, hK1, hD1⟩ := hB
  rw [ht] at hP1
  have hK1 := va_K.moved hvm.symm hK1
  obtain ⟨hP, hD⟩ := va_join (wr := [(sk, .inl (sk1, 22424, .inr (.inl gs))), (ca, .inl (cka, 3000, .inl cga))]) (w1 := [(h0, .inr (5, [.ref mp, .ref gco, .ref mce, .int mcn, .ref sk, .int tp, .int ba, .ref kb, .ref kk, .ref ks, .int on, .ref sh, .int sn, .int mat, .int alw, .int st_2, .int mo, .int mh_3, .int sp_4, .long re])), (gco, .inr (2, [.ref cop, .ref ca, .ref cb, .ref cplace, .ref cnext, .ref cneeded, .int cz, .int ct])), (cplace, .inl (ckplace, 3000, .inl cgplace))]) hP hD [0, 2, 4] [1, 3] rfl rfl (by decide) (by decide) hk1 hFc hP1 hD1
  have hK := (hK.sub (tys' := [(sk1, .long), (cka, .int)]) [0, 1] rfl).app hK1
  generalize H1 = H at hP hS ⊢
  have hP : va_P (dC, dI) vwCl [(sk, .inl (sk1, 22424, .inr (.inl gs))), (ca, .inl (cka, 3000, .inl cga)), (h0, .inr (5, [.ref mp, .ref gco, .ref mce, .int mcn, .ref sk, .int tp, .int ba, .ref kb, .ref kk, .ref ks, .int on, .ref sh, .int sn, .int mat, .int alw, .int st_2, .int mo, .int mh_3, .int sp_4, .long re])), (gco, .inr (2, [.ref cop, .ref ca, .ref cb, .ref cplace, .ref cnext, .ref cneeded, .int cz, .int ct])), (cplace, .inl (ckplace, 3000, .inl cgplace))] H := hP
  have hD : va_D A [(sk, .inl (sk1, 22424, .inr (.inl gs))), (ca, .inl (cka, 3000, .inl cga)), (h0, .inr (5, [.ref mp, .ref gco, .ref mce, .int mcn, .ref sk, .int tp, .int ba, .ref kb, .ref kk, .ref ks, .int on, .ref sh, .int sn, .int mat, .int alw, .int st_2, .int mo, .int mh_3, .int sp_4, .long re])), (gco, .inr (2, [.ref cop, .ref ca, .ref cb, .ref cplace, .ref cnext, .ref cneeded, .int cz, .int ct])), (cplace, .inl (ckplace, 3000, .inl cgplace))] := hD
  have hK : va_K (dC, dI) vwCl [(sk1, .long), (cka, .int), (ckplace, .int)] s := hK
  have hw_r_1 := hw
  try dsimp only at hw_r_1
  obtain ⟨hq_5, hq_6⟩ := hw
  refine lv_if_eq (tgt := 24) hx hb dX5_number_5 (by decide) (fun c_7 => ?_) (fun c_7 => ?_)
  · have ic_7 : r_1.toInt = 0 := zi_eq c_7
    have hP9 := hP.sub (ws' := [(h0, .inr (5, [.ref mp, .ref gco, .ref mce, .int mcn, .ref sk, .int tp, .int ba, .ref kb, .ref kk, .ref ks, .int on, .ref sh, .int sn, .int mat, .int alw, .int st_2, .int mo, .int mh_3, .int sp_4, .long re])), (sk, .inl (sk1, 22424, .inr (.inl gs))), (gco, .inr (2, [.ref cop, .ref ca, .ref cb, .ref cplace, .ref cnext, .ref cneeded, .int cz, .int ct])), (ca, .inl (cka, 3000, .inl cga)), (cplace, .inl (ckplace, 3000, .inl cgplace))]) [2, 0, 3, 1, 4] rfl
    have hD9 := hD.sub (ws' := [(h0, .inr (5, [.ref mp, .ref gco, .ref mce, .int mcn, .ref sk, .int tp, .int ba, .ref kb, .ref kk, .ref ks, .int on, .ref sh, .int sn, .int mat, .int alw, .int st_2, .int mo, .int mh_3, .int sp_4, .long re])), (sk, .inl (sk1, 22424, .inr (.inl gs))), (gco, .inr (2, [.ref cop, .ref ca, .ref cb, .ref cplace, .ref cnext, .ref cneeded, .int cz, .int ct])), (ca, .inl (cka, 3000, .inl cga)), (cplace, .inl (ckplace, 3000, .inl cgplace))]) [2, 0, 3, 1, 4] (by decide) rfl
    have hK9 := hK.sub (tys' := [(sk1, .long), (cka, .int), (ckplace, .int)]) [0, 1, 2] rfl
    exact W.vret hx hb hr (fun t ht hW => ⟨⟨(st_2, mh_3, sp_4, tp, gs), rfl, ⟨by omega, (Or.inl (by omega)), hq_6⟩, by rw [ht]; exact hP9, va_K.moved hW.alike hK9, hD9⟩, hS.F ht⟩) hS.2.2 dX5_number_24
  · have ic_7 : r_1.toInt ≠ 0 := zi_ne c_7
    refine lv_aload_n hx hb dX5_number_8 rfl (lv_at hl 0 rfl) ?_
    refine lv_aload_n hx hb dX5_number_9 rfl (lv_at hl 0 rfl) ?_
    refine va_get (D := (dC, dI)) (ci := 5) (v := .ref gco) (C := RX5) (T := TX5) (N := 20) hx hb hA zin_X5 hown hK hP 2 rfl rfl 1 (by decide) (hA _ wi_485) (fun _ h9 => h9) rfl dX5_number_10 ?_
    refine va_get (D := (dC, dI)) (ci := 2) (v := .ref ca) (C := RX2) (T := TX2) (N := 8) hx hb hA zin_X2 hown hK hP 3 rfl rfl 1 (by decide) (hA _ wi_182) (fun _ h9 => h9) rfl dX5_number_13 ?_
    refine lv_iload_n hx hb dX5_number_16 rfl (lv_at hl 1 rfl) ?_
    refine va_iald hx hb hK hP 1 1 rfl rfl (vp_in_iff.mpr ⟨by omega, by omega⟩) dX5_number_17 ?_
    refine lv_topi (fun x_8 ex_8 => ?_)
    have hPc := hP.sub (ws' := []) [] rfl
    have hDc := hD.sub (ws' := []) [] (by decide) rfl
    have hKc := hK.sub (tys' := []) [] rfl
    have hFc := va_free (wc := []) hD hS hAA [] rfl
    refine va_calll (va_runS (As := [.int x_8]) (rest := [.ref h0]) ⟨hx, hb, hml, hown, hA⟩ (c_X1_ofInt_x l dC dI aK aV x_8 H.size) (va_cwS 1 hA (zw_S wi_1175 wi_1102 wi_140 (zw_good wi_1103)) rfl rfl rfl (by decide +kernel) ⟨(Nat.le_of_ble_eq_true rfl), (Nat.le_of_ble_eq_true rfl)⟩) ⟨zP_blind, zz_pre hKc hPc hDc hN hT hS hFc⟩ rfl rfl hl.1 rfl (lv_room (Nat.le_of_ble_eq_true rfl)) dX5_number_18 ⟨(Nat.le_of_ble_eq_true rfl), (Nat.le_of_ble_eq_true rfl)⟩) hS (fun q _ h => hFc q h) hFc (fun r_9 u t H1 locs ht hvm hw hB hz1 hk1 hS => ?_)
    obtain ⟨hP1, hK1, hD1⟩ := hB
    rw [ht] at hP1
    have hK1 := va_K.moved hvm.symm hK1
    obtain ⟨hP, hD⟩ := va_join (wr := [(sk, .inl (sk1, 22424, .inr (.inl gs))), (ca, .inl (cka, 3000, .inl cga)), (h0, .inr (5, [.ref mp, .ref gco, .ref mce, .int mcn, .ref sk, .int tp, .int ba, .ref kb, .ref kk, .ref ks, .int on, .ref sh, .int sn, .int mat, .int alw, .int st_2, .int mo, .int mh_3, .int sp_4, .long re])), (gco, .inr (2, [.ref cop, .ref ca, .ref cb, .ref cplace, .ref cnext, .ref cneeded, .int cz, .int ct])), (cplace, .inl (ckplace, 3000, .inl cgplace))]) (w1 := []) hP hD [] [0, 1, 2, 3, 4] rfl rfl (by decide) (by decide) hk1 hFc hP1 hD1
    have hK := (hK.sub (tys' := [(sk1, .long), (cka, .int), (ckplace, .int)]) [0, 1, 2] rfl).app hK1
    generalize H1 = H at hP hS ⊢
    have hP : va_P (dC, dI) vwCl [(sk, .inl (sk1, 22424, .inr (.inl gs))), (ca, .inl (cka, 3000, .inl cga)), (h0, .inr (5, [.ref mp, .ref gco, .ref mce, .int mcn, .ref sk, .int tp, .int ba, .ref kb, .ref kk, .ref ks, .int on, .ref sh, .int sn, .int mat, .int alw, .int st_2, .int mo, .int mh_3, .int sp_4, .long re])), (gco, .inr (2, [.ref cop, .ref ca, .ref cb, .ref cplace, .ref cnext, .ref cneeded, .int cz, .int ct])), (cplace, .inl (ckplace, 3000, .inl cgplace))] H := hP
    have hD : va_D A [(sk, .inl (sk1, 22424, .inr (.inl gs))), (ca, .inl (cka, 3000, .inl cga)), (h0, .inr (5, [.ref mp, .ref gco, .ref mce, .int mcn, .ref sk, .int tp, .int ba, .ref kb, .ref kk, .ref ks, .int on, .ref sh, .int sn, .int mat, .int alw, .int st_2, .int mo, .int mh_3, .int sp_4, .long re])), (gco, .inr (2, [.ref cop, .ref ca, .ref cb, .ref cplace, .ref cnext, .ref cneeded, .int cz, .int ct])), (cplace, .inl (ckplace, 3000, .inl cgplace))] := hD
    have hK : va_K (dC, dI) vwCl [(sk1, .long), (cka, .int), (ckplace, .int)] s := hK
    obtain ⟨hq_10, hq_11⟩ := hw
    have hPc := hP.sub (ws' := [(h0, .inr (5, [.ref mp, .ref gco, .ref mce, .int mcn, .ref sk, .int tp, .int ba, .ref kb, .ref kk, .ref ks, .int on, .ref sh, .int sn, .int mat, .int alw, .int st_2, .int mo, .int mh_3, .int sp_4, .long re])), (sk, .inl (sk1, 22424, .inr (.inl gs)))]) [2, 0] rfl
    have hDc := hD.sub (ws' := [(h0, .inr (5, [.ref mp, .ref gco, .ref mce, .int mcn, .ref sk, .int tp, .int ba, .ref kb, .ref kk, .ref ks, .int on, .ref sh, .int sn, .int mat, .int alw, .int st_2, .int mo, .int mh_3, .int sp_4, .long re])), (sk, .inl (sk1, 22424, .inr (.inl gs)))]) [2, 0] (by decide) rfl
    have hKc := hK.sub (tys' := [(sk1, .long)]) [0] rfl
    have hFc := va_free (wc := [(h0, .inr (5, [.ref mp, .ref gco, .ref mce, .int mcn, .ref sk, .int tp, .int ba, .ref kb, .ref kk, .ref ks, .int on, .ref sh, .int sn, .int mat, .int alw, .int st_2, .int mo, .int mh_3, .int sp_4, .long re])), (sk, .inl (sk1, 22424, .inr (.inl gs)))]) hD hS hAA [2, 0] rfl
    refine va_callv (va_runV (As := [.long r_9]) (rest := []) ⟨hx, hb, hml, hown, hA⟩ (c_X5_push l dC dI aK aV h0 mp gco mce sk kb kk ks sh mcn tp ba on sn mat alw st_2 mo mh_3 sp_4 re sk1 gs r_9 H.size (by omega) (by omega)) (cwV 1 hA (zw_V wi_1176 wi_1106 wi_1107 wi_139 (zw_good wi_1108)) rfl rfl rfl (by decide +kernel) ⟨(Nat.le_of_ble_eq_true rfl), (Nat.le_of_ble_eq_true rfl)⟩) ⟨zP_blind, va_recv hKc hPc (ci := 5) (q0 := 0) rfl rfl, zz_pre hKc hPc hDc hN hT hS hFc⟩ rfl rfl hl.1 rfl (lv_room (Nat.le_of_ble_eq_true rfl)) dX5_number_21 ⟨(Nat.le_of_ble_eq_true rfl), (Nat.le_of_ble_eq_true rfl)⟩) hS (fun q _ h => hFc q h) hFc (fun u t H1 locs ht hvm hw hB hz1 hk1 hS => ?_)
    obtain ⟨tp_13, gs_14⟩ := u
    obtain ⟨hP1, hK1, hD1⟩ := hB
    rw [ht] at hP1
    have hK1 := va_K.moved hvm.symm hK1
    obtain ⟨hP, hD⟩ := va_join (wr := [(ca, .inl (cka, 3000, .inl cga)), (gco, .inr (2, [.ref cop, .ref ca, .ref cb, .ref cplace, .ref cnext, .ref cneeded, .int cz, .int ct])), (cplace, .inl (ckplace, 3000, .inl cgplace))]) (w1 := [(h0, .inr (5, [.ref mp, .ref gco, .ref mce, .int mcn, .ref sk, .int tp_13, .int ba, .ref kb, .ref kk, .ref ks, .int on, .ref sh, .int sn, .int mat, .int alw, .int st_2, .int mo, .int mh_3, .int sp_4, .long re])), (sk, .inl (sk1, 22424, .inr (.inl gs_14)))]) hP hD [2, 0] [1, 3, 4] rfl rfl (by decide) (by decide) hk1 hFc hP1 hD1
    have hK := (hK.sub (tys' := [(cka, .int), (ckplace, .int)]) [1, 2] rfl).app hK1
    generalize H1 = H at hP hS ⊢
    have hP : va_P (dC, dI) vwCl [(ca, .inl (cka, 3000, .inl cga)), (gco, .inr (2, [.ref cop, .ref ca, .ref cb, .ref cplace, .ref cnext, .ref cneeded, .int cz, .int ct])), (cplace, .inl (ckplace, 3000, .inl cgplace)), (h0, .inr (5, [.ref mp, .ref gco, .ref mce, .int mcn, .ref sk, .int tp_13, .int ba, .ref kb, .ref kk, .ref ks, .int on, .ref sh, .int sn, .int mat, .int alw, .int st_2, .int mo, .int mh_3, .int sp_4, .long re])), (sk, .inl (sk1, 22424, .inr (.inl gs_14)))] H := hP
    have hD : va_D A [(ca, .inl (cka, 3000, .inl cga)), (gco, .inr (2, [.ref cop, .ref ca, .ref cb, .ref cplace, .ref cnext, .ref cneeded, .int cz, .int ct])), (cplace, .inl (ckplace, 3000, .inl cgplace)), (h0, .inr (5, [.ref mp, .ref gco, .ref mce, .int mcn, .ref sk, .int tp_13, .int ba, .ref kb, .ref kk, .ref ks, .int on, .ref sh, .int sn, .int mat, .int alw, .int st_2, .int mo, .int mh_3, .int sp_4, .long re])), (sk, .inl (sk1, 22424, .inr (.inl gs_14)))] := hD
    have hK : va_K (dC, dI) vwCl [(cka, .int), (ckplace, .int), (sk1, .long)] s := hK
    obtain ⟨hq_15, hq_16⟩ := hw
    have hP9 := hP.sub (ws' := [(h0, .inr (5, [.ref mp, .ref gco, .ref mce, .int mcn, .ref sk, .int tp_13, .int ba, .ref kb, .ref kk, .ref ks, .int on, .ref sh, .int sn, .int mat, .int alw, .int st_2, .int mo, .int mh_3, .int sp_4, .long re])), (sk, .inl (sk1, 22424, .inr (.inl gs_14))), (gco, .inr (2, [.ref cop, .ref ca, .ref cb, .ref cplace, .ref cnext, .ref cneeded, .int cz, .int ct])), (ca, .inl (cka, 3000, .inl cga)), (cplace, .inl (ckplace, 3000, .inl cgplace))]) [3, 4, 1, 0, 2] rfl
    have hD9 := hD.sub (ws' := [(h0, .inr (5, [.ref mp, .ref gco, .ref mce, .int mcn, .ref sk, .int tp_13, .int ba, .ref kb, .ref kk, .ref ks, .int on, .ref sh, .int sn, .int mat, .int alw, .int st_2, .int mo, .int mh_3, .int sp_4, .long re])), (sk, .inl (sk1, 22424, .inr (.inl gs_14))), (gco, .inr (2, [.ref cop, .ref ca, .ref cb, .ref cplace, .ref cnext, .ref cneeded, .int cz, .int ct])), (ca, .inl (cka, 3000, .inl cga)), (cplace, .inl (ckplace, 3000, .inl cgplace))]) [3, 4, 1, 0, 2] (by decide) rfl
    have hK9 := hK.sub (tys' := [(sk1, .long), (cka, .int), (ckplace, .int)]) [2, 0, 1] rfl
    exact W.vret hx hb hr (fun t ht hW => ⟨⟨(st_2, mh_3, sp_4, tp_13, gs_14), rfl, ⟨by omega, (Or.inr ⟨_, hq_16, hq_10, by rw [hq_11, ex_8]⟩), hq_6⟩, by rw [ht]; exact hP9, va_K.moved hW.alike hK9, hD9⟩, hS.F ht⟩) hS.2.2 dX5_number_24
set_option maxHeartbeats 4000000 in
set_option maxRecDepth 100000 in
theorem c_X5_kindAlone (l : Launch) (dC : Nat → ClassId) (dI : Nat → Nat → Nat) (aK aV : Nat → Nat) (h0 : Nat) (mp : Nat) (gco : Nat) (mce : Nat) (sk : Nat) (kb : Nat) (kk : Nat) (ks : Nat) (sh : Nat) (mcn : Int32) (tp : Int32) (ba : Int32) (on : Int32) (sn : Int32) (mat : Int32) (alw : Int32) (st : Int32) (mo : Int32) (mh : Int32) (sp : Int32) (re : Int64) (sk1 : ClassId) (gs : Nat → Int64) (cop : Nat) (ca : Nat) (cb : Nat) (cplace : Nat) (cnext : Nat) (cneeded : Nat) (cz : Int32) (ct : Int32) (cka : ClassId) (ckplace : ClassId) (cga : Nat → Int32) (cgplace : Nat → Int32) (ro : Int32) (sz : Nat) (hr0 : 0 ≤ ro.toInt) (hr1 : ro.toInt < 3000) (ht0 : 0 ≤ tp.toInt) (ht1 : tp.toInt < 22424) (hst : 0 ≤ st.toInt) (hal : alw.toInt ≤ 20000) : Met l yX5_kindAlone (Cond.code yX5_kindAlone cX5_kindAlone 2 none :: zw) ({ frames := 12, cells := 0, slots := 0, locals := 400 }) (va_Pc [.ref h0, .int ro] (zP dC dI aK aV sz [(sk1, .long), (cka, .int), (ckplace, .int)] [(h0, .inr (5, [.ref mp, .ref gco, .ref mce, .int mcn, .ref sk, .int tp, .int ba, .ref kb, .ref kk, .ref ks, .int on, .ref sh, .int sn, .int mat, .int alw, .int st, .int mo, .int mh, .int sp, .long re])), (sk, .inl (sk1, 22424, .inr (.inl gs))), (gco, .inr (2, [.ref cop, .ref ca, .ref cb, .ref cplace, .ref cnext, .ref cneeded, .int cz, .int ct])), (ca, .inl (cka, 3000, .inl cga)), (cplace, .inl (ckplace, 3000, .inl cgplace))])) (va_Qv (fun u : Int32 × Int32 × Int32 × Int32 × (Nat → Int64) => match u with | (st2, mh2, sp2, tp2, gs2) => (mh2.toInt = 5 ∧ alw.toInt ≤ st.toInt ∨ mh2.toInt = mh.toInt ∧ st2.toInt = st.toInt + 1 ∧ st2.toInt ≤ alw.toInt ∧ tp2.toInt = tp.toInt + 1) ∧ (mh2.toInt = 5 ∨ ∃ v : Int64, gs2 = vp_updL gs (Int32.toNatClampNeg tp) v ∧ zhs v = 1 ∧ v.toInt32 = cga (Int32.toNatClampNeg ro)) ∧ (cSpl (cgplace (Int32.toNatClampNeg ro)) sp mh sp2 mh2)) (fun u => match u with | (st2, mh2, sp2, tp2, gs2) => zQ dC dI (va_A [(h0, .inr (5, [.ref mp, .ref gco, .ref mce, .int mcn, .ref sk, .int tp, .int ba, .ref kb, .ref kk, .ref ks, .int on, .ref sh, .int sn, .int mat, .int alw, .int st, .int mo, .int mh, .int sp, .long re])), (sk, .inl (sk1, 22424, .inr (.inl gs))), (gco, .inr (2, [.ref cop, .ref ca, .ref cb, .ref cplace, .ref cnext, .ref cneeded, .int cz, .int ct])), (ca, .inl (cka, 3000, .inl cga)), (cplace, .inl (ckplace, 3000, .inl cgplace))] sz) [(sk1, .long), (cka, .int), (ckplace, .int)] [(h0, .inr (5, [.ref mp, .ref gco, .ref mce, .int mcn, .ref sk, .int tp2, .int ba, .ref kb, .ref kk, .ref ks, .int on, .ref sh, .int sn, .int mat, .int alw, .int st2, .int mo, .int mh2, .int sp2, .long re])), (sk, .inl (sk1, 22424, .inr (.inl gs2))), (gco, .inr (2, [.ref cop, .ref ca, .ref cb, .ref cplace, .ref cnext, .ref cneeded, .int cz, .int ct])), (ca, .inl (cka, 3000, .inl cga)), (cplace, .inl (ckplace, 3000, .inl cgplace))]) (va_A [(h0, .inr (5, [.ref mp, .ref gco, .ref mce, .int mcn, .ref sk, .int tp, .int ba, .ref kb, .ref kk, .ref ks, .int on, .ref sh, .int sn, .int mat, .int alw, .int st, .int mo, .int mh, .int sp, .long re])), (sk, .inl (sk1, 22424, .inr (.inl gs))), (gco, .inr (2, [.ref cop, .ref ca, .ref cb, .ref cplace, .ref cnext, .ref cneeded, .int cz, .int ct])), (ca, .inl (cka, 3000, .inl cga)), (cplace, .inl (ckplace, 3000, .inl cgplace))] sz)) 0 0 (va_A [(h0, .inr (5, [.ref mp, .ref gco, .ref mce, .int mcn, .ref sk, .int tp, .int ba, .ref kb, .ref kk, .ref ks, .int on, .ref sh, .int sn, .int mat, .int alw, .int st, .int mo, .int mh, .int sp, .long re])), (sk, .inl (sk1, 22424, .inr (.inl gs))), (gco, .inr (2, [.ref cop, .ref ca, .ref cb, .ref cplace, .ref cnext, .ref cneeded, .int cz, .int ct])), (ca, .inl (cka, 3000, .inl cga)), (cplace, .inl (ckplace, 3000, .inl cgplace))] sz) := by
  refine Met.ofW (cc := cX5_kindAlone) (maxL := 2) (ret := none) (by decide) rfl ?_
  intro p e s m args below meth c s₁ B hml hv
  obtain ⟨rfl, hsz, hP, hK, hD0, hN, hT⟩ := hv
  have hx := B.exec
  have hb := B.bytes
  have hr := B.returns
  have hts := atoms_spec (ws := Cond.code yX5_kindAlone cX5_kindAlone 2 none :: zw) B.pre
  have hA : ∀ w ∈ zw, w.before _ s = true := fun w h => hts w (List.mem_cons_of_mem _ h)
  have hown : s.vm.findClass RX5 = some m.cls := findClass_of_methodNamed B.named
  have hlocks := B.notSynchronized
  subst hsz
  have hD := hD0.self (sz := s.heap.size)
  generalize hAe : va_A [(h0, .inr (5, [.ref mp, .ref gco, .ref mce, .int mcn, .ref sk, .int tp, .int ba, .ref kb, .ref kk, .ref ks, .int on, .ref sh, .int sn, .int mat, .int alw, .int st, .int mo, .int mh, .int sp, .long re])), (sk, .inl (sk1, 22424, .inr (.inl gs))), (gco, .inr (2, [.ref cop, .ref ca, .ref cb, .ref cplace, .ref cnext, .ref cneeded, .int cz, .int ct])), (ca, .inl (cka, 3000, .inl cga)), (cplace, .inl (ckplace, 3000, .inl cgplace))] s.heap.size = A at hD hT ⊢
  have hAA : ∀ q : Nat, s.heap.size ≤ q → A q := fun q h => by rw [← hAe]; exact Or.inr h
  have hS : va_S A s.heap s.heap [] := va_S.rf
  have hl := lv_entry ([.ref h0, .int ro]) (n := 2) (Nat.le_of_ble_eq_true rfl)
  rw [lg_entry_eq]
  generalize (lg_sl ([.ref h0, .int ro]) ++ List.replicate (2 - (lg_sl ([.ref h0, .int ro])).length) Slot.unset).toArray = ls at hl ⊢
  have hl : lv_has ls 2 [(0, .ref h0), (1, .int ro)] := hl
  refine lv_aload_n hx hb dX5_kindAlone_0 rfl (lv_at hl 0 rfl) ?_
  refine lv_iload_n hx hb dX5_kindAlone_1 rfl (lv_at hl 1 rfl) ?_
  have hPc := hP.sub (ws' := [(h0, .inr (5, [.ref mp, .ref gco, .ref mce, .int mcn, .ref sk, .int tp, .int ba, .ref kb, .ref kk, .ref ks, .int on, .ref sh, .int sn, .int mat, .int alw, .int st, .int mo, .int mh, .int sp, .long re])), (gco, .inr (2, [.ref cop, .ref ca, .ref cb, .ref cplace, .ref cnext, .ref cneeded, .int cz, .int ct])), (cplace, .inl (ckplace, 3000, .inl cgplace))]) [0, 2, 4] rfl
  have hDc := hD.sub (ws' := [(h0, .inr (5, [.ref mp, .ref gco, .ref mce, .int mcn, .ref sk, .int tp, .int ba, .ref kb, .ref kk, .ref ks, .int on, .ref sh, .int sn, .int mat, .int alw, .int st, .int mo, .int mh, .int sp, .long re])), (gco, .inr (2, [.ref cop, .ref ca, .ref cb, .ref cplace, .ref cnext, .ref cneeded, .int cz, .int ct])), (cplace, .inl (ckplace, 3000, .inl cgplace))]) [0, 2, 4] (by decide) rfl
  have hKc := hK.sub (tys' := [(ckplace, .int)]) [2] rfl
  have hFc := va_free (wc := [(h0, .inr (5, [.ref mp, .ref gco, .ref mce, .int mcn, .ref sk, .int tp, .int ba, .ref kb, .ref kk, .ref ks, .int on, .ref sh, .int sn, .int mat, .int alw, .int st, .int mo, .int mh, .int sp, .long re])), (gco, .inr (2, [.ref cop, .ref ca, .ref cb, .ref cplace, .ref cnext, .ref cneeded, .int cz, .int ct])), (cplace, .inl (ckplace, 3000, .inl cgplace))]) hD hS hAA [0, 2, 4] rfl
  refine va_calli (va_runV (As := [.int ro]) (rest := []) ⟨hx, hb, hml, hown, hA⟩ (c_X5_step l dC dI aK aV h0 mp gco mce sk kb kk ks sh mcn tp ba on sn mat alw st mo mh sp re cop ca cb cplace cnext cneeded cz ct ckplace cgplace ro s.heap.size (by omega) (by omega) (by omega) (by omega)) (cwV 1 hA (zw_V wi_1163 wi_1165 wi_46 wi_139 (zw_good wi_1166)) rfl rfl rfl (by decide +kernel) ⟨(Nat.le_of_ble_eq_true rfl), (Nat.le_of_ble_eq_true rfl)⟩) ⟨zP_blind, va_recv hKc hPc (ci := 5) (q0 := 0) rfl rfl, zz_pre hKc hPc hDc hN hT hS hFc⟩ rfl rfl hl.1 rfl (lv_room (Nat.le_of_ble_eq_true rfl)) dX5_kindAlone_2 ⟨(Nat.le_of_ble_eq_true rfl), (Nat.le_of_ble_eq_true rfl)⟩) hS (fun q _ h => hFc q h) hFc (fun r_1 u t H1 locs ht hvm hw hB hz1 hk1 hS => ?_)
  obtain ⟨st_2, mh_3, sp_4⟩ := u
  obtain ⟨hP1, hK1, hD1⟩ := hB
  rw [ht] at hP1
  have hK1 := va_K.moved hvm.symm hK1
  obtain ⟨hP, hD⟩ := va_join (wr := [(sk, .inl (sk1, 22424, .inr (.inl gs))), (ca, .inl (cka, 3000, .inl cga))]) (w1 := [(h0, .inr (5, [.ref mp, .ref gco, .ref mce, .int mcn, .ref sk, .int tp, .int ba, .ref kb, .ref kk, .ref ks, .int on, .ref sh, .int sn, .int mat, .int alw, .int st_2, .int mo, .int mh_3, .int sp_4, .long re])), (gco, .inr (2, [.ref cop, .ref ca, .ref cb, .ref cplace, .ref cnext, .ref cneeded, .int cz, .int ct])), (cplace, .inl (ckplace, 3000, .inl cgplace))]) hP hD [0, 2, 4] [1, 3] rfl rfl (by decide) (by decide) hk1 hFc hP1 hD1
  have hK := (hK.sub (tys' := [(sk1, .long), (cka, .int)]) [0, 1] rfl).app hK1
  generalize H1 = H at hP hS ⊢
  have hP : va_P (dC, dI) vwCl [(sk, .inl (sk1, 22424, .inr (.inl gs))), (ca, .inl (cka, 3000, .inl cga)), (h0, .inr (5, [.ref mp, .ref gco, .ref mce, .int mcn, .ref sk, .int tp, .int ba, .ref kb, .ref kk, .ref ks, .int on, .ref sh, .int sn, .int mat, .int alw, .int st_2, .int mo, .int mh_3, .int sp_4, .long re])), (gco, .inr (2, [.ref cop, .ref ca, .ref cb, .ref cplace, .ref cnext, .ref cneeded, .int cz, .int ct])), (cplace, .inl (ckplace, 3000, .inl cgplace))] H := hP
  have hD : va_D A [(sk, .inl (sk1, 22424, .inr (.inl gs))), (ca, .inl (cka, 3000, .inl cga)), (h0, .inr (5, [.ref mp, .ref gco, .ref mce, .int mcn, .ref sk, .int tp, .int ba, .ref kb, .ref kk, .ref ks, .int on, .ref sh, .int sn, .int mat, .int alw, .int st_2, .int mo, .int mh_3, .int sp_4, .long re])), (gco, .inr (2, [.ref cop, .ref ca, .ref cb, .ref cplace, .ref cnext, .ref cneeded, .int cz, .int ct])), (cplace, .inl (ckplace, 3000, .inl cgplace))] := hD
  have hK : va_K (dC, dI) vwCl [(sk1, .long), (cka, .int), (ckplace, .int)] s := hK
  have hw_r_1 := hw
  try dsimp only at hw_r_1
  obtain ⟨hq_5, hq_6⟩ := hw
  refine lv_if_eq (tgt := 24) hx hb dX5_kindAlone_5 (by decide) (fun c_7 => ?_) (fun c_7 => ?_)
  · have ic_7 : r_1.toInt = 0 := zi_eq c_7
    have hP9 := hP.sub (ws' := [(h0, .inr (5, [.ref mp, .ref gco, .ref mce, .int mcn, .ref sk, .int tp, .int ba, .ref kb, .ref kk, .ref ks, .int on, .ref sh, .int sn, .int mat, .int alw, .int st_2, .int mo, .int mh_3, .int sp_4, .long re])), (sk, .inl (sk1, 22424, .inr (.inl gs))), (gco, .inr (2, [.ref cop, .ref ca, .ref cb, .ref cplace, .ref cnext, .ref cneeded, .int cz, .int ct])), (ca, .inl (cka, 3000, .inl cga)), (cplace, .inl (ckplace, 3000, .inl cgplace))]) [2, 0, 3, 1, 4] rfl
    have hD9 := hD.sub (ws' := [(h0, .inr (5, [.ref mp, .ref gco, .ref mce, .int mcn, .ref sk, .int tp, .int ba, .ref kb, .ref kk, .ref ks, .int on, .ref sh, .int sn, .int mat, .int alw, .int st_2, .int mo, .int mh_3, .int sp_4, .long re])), (sk, .inl (sk1, 22424, .inr (.inl gs))), (gco, .inr (2, [.ref cop, .ref ca, .ref cb, .ref cplace, .ref cnext, .ref cneeded, .int cz, .int ct])), (ca, .inl (cka, 3000, .inl cga)), (cplace, .inl (ckplace, 3000, .inl cgplace))]) [2, 0, 3, 1, 4] (by decide) rfl
    have hK9 := hK.sub (tys' := [(sk1, .long), (cka, .int), (ckplace, .int)]) [0, 1, 2] rfl
    exact W.vret hx hb hr (fun t ht hW => ⟨⟨(st_2, mh_3, sp_4, tp, gs), rfl, ⟨by omega, (Or.inl (by omega)), hq_6⟩, by rw [ht]; exact hP9, va_K.moved hW.alike hK9, hD9⟩, hS.F ht⟩) hS.2.2 dX5_kindAlone_24
  · have ic_7 : r_1.toInt ≠ 0 := zi_ne c_7
    refine lv_aload_n hx hb dX5_kindAlone_8 rfl (lv_at hl 0 rfl) ?_
    refine lv_aload_n hx hb dX5_kindAlone_9 rfl (lv_at hl 0 rfl) ?_
    refine va_get (D := (dC, dI)) (ci := 5) (v := .ref gco) (C := RX5) (T := TX5) (N := 20) hx hb hA zin_X5 hown hK hP 2 rfl rfl 1 (by decide) (hA _ wi_485) (fun _ h9 => h9) rfl dX5_kindAlone_10 ?_
    refine va_get (D := (dC, dI)) (ci := 2) (v := .ref ca) (C := RX2) (T := TX2) (N := 8) hx hb hA zin_X2 hown hK hP 3 rfl rfl 1 (by decide) (hA _ wi_182) (fun _ h9 => h9) rfl dX5_kindAlone_13 ?_
    refine lv_iload_n hx hb dX5_kindAlone_16 rfl (lv_at hl 1 rfl) ?_
    refine va_iald hx hb hK hP 1 1 rfl rfl (vp_in_iff.mpr ⟨by omega, by omega⟩) dX5_kindAlone_17 ?_
    refine lv_topi (fun x_8 ex_8 => ?_)
    have hPc := hP.sub (ws' := []) [] rfl
    have hDc := hD.sub (ws' := []) [] (by decide) rfl
    have hKc := hK.sub (tys' := []) [] rfl
    have hFc := va_free (wc := []) hD hS hAA [] rfl
    refine va_calll (va_runS (As := [.int x_8]) (rest := [.ref h0]) ⟨hx, hb, hml, hown, hA⟩ (c_X1_ofKind_x l dC dI aK aV x_8 H.size) (va_cwS 1 hA (zw_S wi_1189 wi_1190 wi_140 (zw_good wi_1191)) rfl rfl rfl (by decide +kernel) ⟨(Nat.le_of_ble_eq_true rfl), (Nat.le_of_ble_eq_true rfl)⟩) ⟨zP_blind, zz_pre hKc hPc hDc hN hT hS hFc⟩ rfl rfl hl.1 rfl (lv_room (Nat.le_of_ble_eq_true rfl)) dX5_kindAlone_18 ⟨(Nat.le_of_ble_eq_true rfl), (Nat.le_of_ble_eq_true rfl)⟩) hS (fun q _ h => hFc q h) hFc (fun r_9 u t H1 locs ht hvm hw hB hz1 hk1 hS => ?_)
    obtain ⟨hP1, hK1, hD1⟩ := hB
    rw [ht] at hP1
    have hK1 := va_K.moved hvm.symm hK1
    obtain ⟨hP, hD⟩ := va_join (wr := [(sk, .inl (sk1, 22424, .inr (.inl gs))), (ca, .inl (cka, 3000, .inl cga)), (h0, .inr (5, [.ref mp, .ref gco, .ref mce, .int mcn, .ref sk, .int tp, .int ba, .ref kb, .ref kk, .ref ks, .int on, .ref sh, .int sn, .int mat, .int alw, .int st_2, .int mo, .int mh_3, .int sp_4, .long re])), (gco, .inr (2, [.ref cop, .ref ca, .ref cb, .ref cplace, .ref cnext, .ref cneeded, .int cz, .int ct])), (cplace, .inl (ckplace, 3000, .inl cgplace))]) (w1 := []) hP hD [] [0, 1, 2, 3, 4] rfl rfl (by decide) (by decide) hk1 hFc hP1 hD1
    have hK := (hK.sub (tys' := [(sk1, .long), (cka, .int), (ckplace, .int)]) [0, 1, 2] rfl).app hK1
    generalize H1 = H at hP hS ⊢
    have hP : va_P (dC, dI) vwCl [(sk, .inl (sk1, 22424, .inr (.inl gs))), (ca, .inl (cka, 3000, .inl cga)), (h0, .inr (5, [.ref mp, .ref gco, .ref mce, .int mcn, .ref sk, .int tp, .int ba, .ref kb, .ref kk, .ref ks, .int on, .ref sh, .int sn, .int mat, .int alw, .int st_2, .int mo, .int mh_3, .int sp_4, .long re])), (gco, .inr (2, [.ref cop, .ref ca, .ref cb, .ref cplace, .ref cnext, .ref cneeded, .int cz, .int ct])), (cplace, .inl (ckplace, 3000, .inl cgplace))] H := hP
    have hD : va_D A [(sk, .inl (sk1, 22424, .inr (.inl gs))), (ca, .inl (cka, 3000, .inl cga)), (h0, .inr (5, [.ref mp, .ref gco, .ref mce, .int mcn, .ref sk, .int tp, .int ba, .ref kb, .ref kk, .ref ks, .int on, .ref sh, .int sn, .int mat, .int alw, .int st_2, .int mo, .int mh_3, .int sp_4, .long re])), (gco, .inr (2, [.ref cop, .ref ca, .ref cb, .ref cplace, .ref cnext, .ref cneeded, .int cz, .int ct])), (cplace, .inl (ckplace, 3000, .inl cgplace))] := hD
    have hK : va_K (dC, dI) vwCl [(sk1, .long), (cka, .int), (ckplace, .int)] s := hK
    obtain ⟨hq_10, hq_11⟩ := hw
    have hPc := hP.sub (ws' := [(h0, .inr (5, [.ref mp, .ref gco, .ref mce, .int mcn, .ref sk, .int tp, .int ba, .ref kb, .ref kk, .ref ks, .int on, .ref sh, .int sn, .int mat, .int alw, .int st_2, .int mo, .int mh_3, .int sp_4, .long re])), (sk, .inl (sk1, 22424, .inr (.inl gs)))]) [2, 0] rfl
    have hDc := hD.sub (ws' := [(h0, .inr (5, [.ref mp, .ref gco, .ref mce, .int mcn, .ref sk, .int tp, .int ba, .ref kb, .ref kk, .ref ks, .int on, .ref sh, .int sn, .int mat, .int alw, .int st_2, .int mo, .int mh_3, .int sp_4, .long re])), (sk, .inl (sk1, 22424, .inr (.inl gs)))]) [2, 0] (by decide) rfl
    have hKc := hK.sub (tys' := [(sk1, .long)]) [0] rfl
    have hFc := va_free (wc := [(h0, .inr (5, [.ref mp, .ref gco, .ref mce, .int mcn, .ref sk, .int tp, .int ba, .ref kb, .ref kk, .ref ks, .int on, .ref sh, .int sn, .int mat, .int alw, .int st_2, .int mo, .int mh_3, .int sp_4, .long re])), (sk, .inl (sk1, 22424, .inr (.inl gs)))]) hD hS hAA [2, 0] rfl
    refine va_callv (va_runV (As := [.long r_9]) (rest := []) ⟨hx, hb, hml, hown, hA⟩ (c_X5_push l dC dI aK aV h0 mp gco mce sk kb kk ks sh mcn tp ba on sn mat alw st_2 mo mh_3 sp_4 re sk1 gs r_9 H.size (by omega) (by omega)) (cwV 1 hA (zw_V wi_1176 wi_1106 wi_1107 wi_139 (zw_good wi_1108)) rfl rfl rfl (by decide +kernel) ⟨(Nat.le_of_ble_eq_true rfl), (Nat.le_of_ble_eq_true rfl)⟩) ⟨zP_blind, va_recv hKc hPc (ci := 5) (q0 := 0) rfl rfl, zz_pre hKc hPc hDc hN hT hS hFc⟩ rfl rfl hl.1 rfl (lv_room (Nat.le_of_ble_eq_true rfl)) dX5_kindAlone_21 ⟨(Nat.le_of_ble_eq_true rfl), (Nat.le_of_ble_eq_true rfl)⟩) hS (fun q _ h => hFc q h) hFc (fun u t H1 locs ht hvm hw hB hz1 hk1 hS => ?_)
    obtain ⟨tp_13, gs_14⟩ := u
    obtain ⟨hP1, hK1, hD1⟩ := hB
    rw [ht] at hP1
    have hK1 := va_K.moved hvm.symm hK1
    obtain ⟨hP, hD⟩ := va_join (wr := [(ca, .inl (cka, 3000, .inl cga)), (gco, .inr (2, [.ref cop, .ref ca, .ref cb, .ref cplace, .ref cnext, .ref cneeded, .int cz, .int ct])), (cplace, .inl (ckplace, 3000, .inl cgplace))]) (w1 := [(h0, .inr (5, [.ref mp, .ref gco, .ref mce, .int mcn, .ref sk, .int tp_13, .int ba, .ref kb, .ref kk, .ref ks, .int on, .ref sh, .int sn, .int mat, .int alw, .int st_2, .int mo, .int mh_3, .int sp_4, .long re])), (sk, .inl (sk1, 22424, .inr (.inl gs_14)))]) hP hD [2, 0] [1, 3, 4] rfl rfl (by decide) (by decide) hk1 hFc hP1 hD1
    have hK := (hK.sub (tys' := [(cka, .int), (ckplace, .int)]) [1, 2] rfl).app hK1
    generalize H1 = H at hP hS ⊢
    have hP : va_P (dC, dI) vwCl [(ca, .inl (cka, 3000, .inl cga)), (gco, .inr (2, [.ref cop, .ref ca, .ref cb, .ref cplace, .ref cnext, .ref cneeded, .int cz, .int ct])), (cplace, .inl (ckplace, 3000, .inl cgplace)), (h0, .inr (5, [.ref mp, .ref gco, .ref mce, .int mcn, .ref sk, .int tp_13, .int ba, .ref kb, .ref kk, .ref ks, .int on, .ref sh, .int sn, .int mat, .int alw, .int st_2, .int mo, .int mh_3, .int sp_4, .long re])), (sk, .inl (sk1, 22424, .inr (.inl gs_14)))] H := hP
    have hD : va_D A [(ca, .inl (cka, 3000, .inl cga)), (gco, .inr (2, [.ref cop, .ref ca, .ref cb, .ref cplace, .ref cnext, .ref cneeded, .int cz, .int ct])), (cplace, .inl (ckplace, 3000, .inl cgplace)), (h0, .inr (5, [.ref mp, .ref gco, .ref mce, .int mcn, .ref sk, .int tp_13, .int ba, .ref kb, .ref kk, .ref ks, .int on, .ref sh, .int sn, .int mat, .int alw, .int st_2, .int mo, .int mh_3, .int sp_4, .long re])), (sk, .inl (sk1, 22424, .inr (.inl gs_14)))] := hD
    have hK : va_K (dC, dI) vwCl [(cka, .int), (ckplace, .int), (sk1, .long)] s := hK
    obtain ⟨hq_15, hq_16⟩ := hw
    have hP9 := hP.sub (ws' := [(h0, .inr (5, [.ref mp, .ref gco, .ref mce, .int mcn, .ref sk, .int tp_13, .int ba, .ref kb, .ref kk, .ref ks, .int on, .ref sh, .int sn, .int mat, .int alw, .int st_2, .int mo, .int mh_3, .int sp_4, .long re])), (sk, .inl (sk1, 22424, .inr (.inl gs_14))), (gco, .inr (2, [.ref cop, .ref ca, .ref cb, .ref cplace, .ref cnext, .ref cneeded, .int cz, .int ct])), (ca, .inl (cka, 3000, .inl cga)), (cplace, .inl (ckplace, 3000, .inl cgplace))]) [3, 4, 1, 0, 2] rfl
    have hD9 := hD.sub (ws' := [(h0, .inr (5, [.ref mp, .ref gco, .ref mce, .int mcn, .ref sk, .int tp_13, .int ba, .ref kb, .ref kk, .ref ks, .int on, .ref sh, .int sn, .int mat, .int alw, .int st_2, .int mo, .int mh_3, .int sp_4, .long re])), (sk, .inl (sk1, 22424, .inr (.inl gs_14))), (gco, .inr (2, [.ref cop, .ref ca, .ref cb, .ref cplace, .ref cnext, .ref cneeded, .int cz, .int ct])), (ca, .inl (cka, 3000, .inl cga)), (cplace, .inl (ckplace, 3000, .inl cgplace))]) [3, 4, 1, 0, 2] (by decide) rfl
    have hK9 := hK.sub (tys' := [(sk1, .long), (cka, .int), (ckplace, .int)]) [2, 0, 1] rfl
    exact W.vret hx hb hr (fun t ht hW => ⟨⟨(st_2, mh_3, sp_4, tp_13, gs_14), rfl, ⟨by omega, (Or.inr ⟨_, hq_16, hq_10, by rw [hq_11, ex_8]⟩), hq_6⟩, by rw [ht]; exact hP9, va_K.moved hW.alike hK9, hD9⟩, hS.F ht⟩) hS.2.2 dX5_kindAlone_24
set_option maxHeartbeats 4000000 in
set_option maxRecDepth 100000 in
theorem c_X5_reckon (l : Launch) (dC : Nat → ClassId) (dI : Nat → Nat → Nat) (aK aV : Nat → Nat) (oo : Int32) (lf_ : Int32) (rg : Int32) (sz : Nat)  : Met l yX5_reckon (Cond.code yX5_reckon cX5_reckon 3 (some .int) :: zw) ({ frames := 8, cells := 0, slots := 0, locals := 200 }) (va_Pc [.int oo, .int lf_, .int rg] (zP dC dI aK aV sz [] [])) (va_Qi (fun (r : Int32) (u : Unit) => (r = crk (Int32.toInt oo) lf_ rg)) (fun u => zQ dC dI (va_A [] sz) [] []) (va_A [] sz)) 0 0 (va_A [] sz) := by
  refine Met.ofW (cc := cX5_reckon) (maxL := 3) (ret := (some .int)) (by decide) rfl ?_
  intro p e s m args below meth c s₁ B hml hv
  obtain ⟨rfl, hsz, hP, hK, hD0, hN, hT⟩ := hv
  have hx := B.exec
  have hb := B.bytes
  have hr := B.returns
  have hts := atoms_spec (ws := Cond.code yX5_reckon cX5_reckon 3 (some .int) :: zw) B.pre
  have hA : ∀ w ∈ zw, w.before _ s = true := fun w h => hts w (List.mem_cons_of_mem _ h)
  have hown : s.vm.findClass RX5 = some m.cls := findClass_of_methodNamed B.named
  have hlocks := B.notSynchronized
  subst hsz
  have hD := hD0.self (sz := s.heap.size)
  generalize hAe : va_A [] s.heap.size = A at hD hT ⊢
  have hAA : ∀ q : Nat, s.heap.size ≤ q → A q := fun q h => by rw [← hAe]; exact Or.inr h
  have hS : va_S A s.heap s.heap [] := va_S.rf
  have hl := lv_entry ([.int oo, .int lf_, .int rg]) (n := 3) (Nat.le_of_ble_eq_true rfl)
  rw [lg_entry_eq]
  generalize (lg_sl ([.int oo, .int lf_, .int rg]) ++ List.replicate (3 - (lg_sl ([.int oo, .int lf_, .int rg])).length) Slot.unset).toArray = ls at hl ⊢
  have hl : lv_has ls 3 [(0, .int oo), (1, .int lf_), (2, .int rg)] := hl
  refine lv_iload_n hx hb dX5_reckon_0 rfl (lv_at hl 0 rfl) ?_
  by_cases hk_1 : oo.toInt = 8
  · refine lv_tableIn (off := 27) (tgt := 28) hx hb dX5_reckon_1 (by omega) (by omega) (by rw [hk_1]; rfl) (by decide) ?_
    refine lv_iload_n hx hb dX5_reckon_28 rfl (lv_at hl 1 rfl) ?_
    refine lv_iload_n hx hb dX5_reckon_29 rfl (lv_at hl 2 rfl) ?_
    refine lv_iadd hx hb dX5_reckon_30 ?_
    refine lv_topi (fun x_2 ex_2 => ?_)
    have hP9 := hP.sub (ws' := []) [] rfl
    have hD9 := hD.sub (ws' := []) [] (by decide) rfl
    have hK9 := hK.sub (tys' := []) [] rfl
    exact W.iret (v := x_2) hx hb hr (fun t ht hW => ⟨⟨x_2, (), rfl, (by rw [crk, if_pos (show Int32.toInt oo = 8 from by omega)]; exact ex_2), by rw [ht]; exact hP9, va_K.moved hW.alike hK9, hD9⟩, hS.F ht⟩) hS.2.2 dX5_reckon_31
  by_cases hk_3 : oo.toInt = 9
  · refine lv_tableIn (off := 31) (tgt := 32) hx hb dX5_reckon_1 (by omega) (by omega) (by rw [hk_3]; rfl) (by decide) ?_
    refine lv_iload_n hx hb dX5_reckon_32 rfl (lv_at hl 1 rfl) ?_
    refine lv_iload_n hx hb dX5_reckon_33 rfl (lv_at hl 2 rfl) ?_
    refine lv_isub hx hb dX5_reckon_34 ?_
    refine lv_topi (fun x_4 ex_4 => ?_)
    have hP9 := hP.sub (ws' := []) [] rfl
    have hD9 := hD.sub (ws' := []) [] (by decide) rfl
    have hK9 := hK.sub (tys' := []) [] rfl
    exact W.iret (v := x_4) hx hb hr (fun t ht hW => ⟨⟨x_4, (), rfl, (by rw [crk, if_neg (show ¬ Int32.toInt oo = 8 from by omega), if_pos (show Int32.toInt oo = 9 from by omega)]; exact ex_4), by rw [ht]; exact hP9, va_K.moved hW.alike hK9, hD9⟩, hS.F ht⟩) hS.2.2 dX5_reckon_35
  by_cases hk_5 : oo.toInt = 10
  · refine lv_tableIn (off := 35) (tgt := 36) hx hb dX5_reckon_1 (by omega) (by omega) (by rw [hk_5]; rfl) (by decide) ?_
    refine lv_iload_n hx hb dX5_reckon_36 rfl (lv_at hl 1 rfl) ?_
    refine lv_iload_n hx hb dX5_reckon_37 rfl (lv_at hl 2 rfl) ?_
    refine lv_imul hx hb dX5_reckon_38 ?_
    refine lv_topi (fun x_6 ex_6 => ?_)
    have hP9 := hP.sub (ws' := []) [] rfl
    have hD9 := hD.sub (ws' := []) [] (by decide) rfl
    have hK9 := hK.sub (tys' := []) [] rfl
    exact W.iret (v := x_6) hx hb hr (fun t ht hW => ⟨⟨x_6, (), rfl, (by rw [crk, if_neg (show ¬ Int32.toInt oo = 8 from by omega), if_neg (show ¬ Int32.toInt oo = 9 from by omega), if_pos (show Int32.toInt oo = 10 from by omega)]; exact ex_6), by rw [ht]; exact hP9, va_K.moved hW.alike hK9, hD9⟩, hS.F ht⟩) hS.2.2 dX5_reckon_39
  refine lv_tableOut (tgt := 40) hx hb dX5_reckon_1 (by omega) (by decide) ?_
  refine lv_iload_n hx hb dX5_reckon_40 rfl (lv_at hl 1 rfl) ?_
  refine lv_iload_n hx hb dX5_reckon_41 rfl (lv_at hl 2 rfl) ?_
  refine lv_icmp_ge (tgt := 49) hx hb dX5_reckon_42 (by decide) (fun c_7 => ?_) (fun c_7 => ?_)
  · have ic_7 : rg.toInt ≤ lf_.toInt := zi_le c_7
    refine lv_iconst (v := 0) hx hb dX5_reckon_49 (by decide) ?_
    have hlit : Int32.toInt 0 = 0 := by decide
    have hP9 := hP.sub (ws' := []) [] rfl
    have hD9 := hD.sub (ws' := []) [] (by decide) rfl
    have hK9 := hK.sub (tys' := []) [] rfl
    exact W.iret (v := 0) hx hb hr (fun t ht hW => ⟨⟨0, (), rfl, (by rw [crk, if_neg (show ¬ Int32.toInt oo = 8 from by omega), if_neg (show ¬ Int32.toInt oo = 9 from by omega), if_neg (show ¬ Int32.toInt oo = 10 from by omega), if_neg (show ¬ Int32.toInt lf_ < Int32.toInt rg from by omega)]), by rw [ht]; exact hP9, va_K.moved hW.alike hK9, hD9⟩, hS.F ht⟩) hS.2.2 dX5_reckon_50
  · have ic_7 : lf_.toInt < rg.toInt := zi_nle c_7
    refine lv_iconst (v := 1) hx hb dX5_reckon_45 (by decide) ?_
    refine lv_goto (tgt := 50) hx hb dX5_reckon_46 (by decide) ?_
    have hlit : Int32.toInt 1 = 1 := by decide
    have hP9 := hP.sub (ws' := []) [] rfl
    have hD9 := hD.sub (ws' := []) [] (by decide) rfl
    have hK9 := hK.sub (tys' := []) [] rfl
    exact W.iret (v := 1) hx hb hr (fun t ht hW => ⟨⟨1, (), rfl, (by rw [crk, if_neg (show ¬ Int32.toInt oo = 8 from by omega), if_neg (show ¬ Int32.toInt oo = 9 from by omega), if_neg (show ¬ Int32.toInt oo = 10 from by omega), if_pos (show Int32.toInt lf_ < Int32.toInt rg from by omega)]), by rw [ht]; exact hP9, va_K.moved hW.alike hK9, hD9⟩, hS.F ht⟩) hS.2.2 dX5_reckon_50
set_option maxHeartbeats 4000000 in
set_option maxRecDepth 100000 in
theorem c_X5_sign (l : Launch) (dC : Nat → ClassId) (dI : Nat → Nat → Nat) (aK aV : Nat → Nat) (h0 : Nat) (mp : Nat) (gco : Nat) (mce : Nat) (sk : Nat) (kb : Nat) (kk : Nat) (ks : Nat) (sh : Nat) (mcn : Int32) (tp : Int32) (ba : Int32) (on : Int32) (sn : Int32) (mat : Int32) (alw : Int32) (st : Int32) (mo : Int32) (mh : Int32) (sp : Int32) (re : Int64) (sk1 : ClassId) (gs : Nat → Int64) (cop : Nat) (ca : Nat) (cb : Nat) (cplace : Nat) (cnext : Nat) (cneeded : Nat) (cz : Int32) (ct : Int32) (ckop : ClassId) (ckplace : ClassId) (cgop : Nat → Int32) (cgplace : Nat → Int32) (ro : Int32) (sz : Nat) (hr0 : 0 ≤ ro.toInt) (hr1 : ro.toInt < 3000) (ht0 : 2 ≤ tp.toInt) (ht1 : tp.toInt ≤ 22424) : Met l yX5_sign (Cond.code yX5_sign cX5_sign 6 none :: zw) ({ frames := 12, cells := 0, slots := 0, locals := 400 }) (va_Pc [.ref h0, .int ro] (zP dC dI aK aV sz [(sk1, .long), (ckop, .int), (ckplace, .int)] [(h0, .inr (5, [.ref mp, .ref gco, .ref mce, .int mcn, .ref sk, .int tp, .int ba, .ref kb, .ref kk, .ref ks, .int on, .ref sh, .int sn, .int mat, .int alw, .int st, .int mo, .int mh, .int sp, .long re])), (sk, .inl (sk1, 22424, .inr (.inl gs))), (gco, .inr (2, [.ref cop, .ref ca, .ref cb, .ref cplace, .ref cnext, .ref cneeded, .int cz, .int ct])), (cop, .inl (ckop, 3000, .inl cgop)), (cplace, .inl (ckplace, 3000, .inl cgplace))])) (va_Qv (fun u : Int32 × Int32 × Int32 × (Nat → Int64) => match u with | (mh2, sp2, tp2, gs2) => (mh2.toInt = 2 ∧ ¬ (zhs (gs (Int32.toNatClampNeg tp - 2)) = 0 ∧ zhs (gs (Int32.toNatClampNeg tp - 1)) = 0) ∨ mh2.toInt = mh.toInt ∧ tp2.toInt = tp.toInt - 1 ∧ (zhs (gs (Int32.toNatClampNeg tp - 2)) = 0 ∧ zhs (gs (Int32.toNatClampNeg tp - 1)) = 0) ∧ ∃ v : Int64, gs2 = vp_updL gs (Int32.toNatClampNeg tp - 2) v ∧ zhs v = 0 ∧ v.toInt32 = crk (Int32.toInt (cgop (Int32.toNatClampNeg ro))) (gs (Int32.toNatClampNeg tp - 2)).toInt32 (gs (Int32.toNatClampNeg tp - 1)).toInt32) ∧ (cSpl (cgplace (Int32.toNatClampNeg ro)) sp mh sp2 mh2)) (fun u => match u with | (mh2, sp2, tp2, gs2) => zQ dC dI (va_A [(h0, .inr (5, [.ref mp, .ref gco, .ref mce, .int mcn, .ref sk, .int tp, .int ba, .ref kb, .ref kk, .ref ks, .int on, .ref sh, .int sn, .int mat, .int alw, .int st, .int mo, .int mh, .int sp, .long re])), (sk, .inl (sk1, 22424, .inr (.inl gs))), (gco, .inr (2, [.ref cop, .ref ca, .ref cb, .ref cplace, .ref cnext, .ref cneeded, .int cz, .int ct])), (cop, .inl (ckop, 3000, .inl cgop)), (cplace, .inl (ckplace, 3000, .inl cgplace))] sz) [(sk1, .long), (ckop, .int), (ckplace, .int)] [(h0, .inr (5, [.ref mp, .ref gco, .ref mce, .int mcn, .ref sk, .int tp2, .int ba, .ref kb, .ref kk, .ref ks, .int on, .ref sh, .int sn, .int mat, .int alw, .int st, .int mo, .int mh2, .int sp2, .long re])), (sk, .inl (sk1, 22424, .inr (.inl gs2))), (gco, .inr (2, [.ref cop, .ref ca, .ref cb, .ref cplace, .ref cnext, .ref cneeded, .int cz, .int ct])), (cop, .inl (ckop, 3000, .inl cgop)), (cplace, .inl (ckplace, 3000, .inl cgplace))]) (va_A [(h0, .inr (5, [.ref mp, .ref gco, .ref mce, .int mcn, .ref sk, .int tp, .int ba, .ref kb, .ref kk, .ref ks, .int on, .ref sh, .int sn, .int mat, .int alw, .int st, .int mo, .int mh, .int sp, .long re])), (sk, .inl (sk1, 22424, .inr (.inl gs))), (gco, .inr (2, [.ref cop, .ref ca, .ref cb, .ref cplace, .ref cnext, .ref cneeded, .int cz, .int ct])), (cop, .inl (ckop, 3000, .inl cgop)), (cplace, .inl (ckplace, 3000, .inl cgplace))] sz)) 0 0 (va_A [(h0, .inr (5, [.ref mp, .ref gco, .ref mce, .int mcn, .ref sk, .int tp, .int ba, .ref kb, .ref kk, .ref ks, .int on, .ref sh, .int sn, .int mat, .int alw, .int st, .int mo, .int mh, .int sp, .long re])), (sk, .inl (sk1, 22424, .inr (.inl gs))), (gco, .inr (2, [.ref cop, .ref ca, .ref cb, .ref cplace, .ref cnext, .ref cneeded, .int cz, .int ct])), (cop, .inl (ckop, 3000, .inl cgop)), (cplace, .inl (ckplace, 3000, .inl cgplace))] sz) := by
  refine Met.ofW (cc := cX5_sign) (maxL := 6) (ret := none) (by decide) rfl ?_
  intro p e s m args below meth c s₁ B hml hv
  obtain ⟨rfl, hsz, hP, hK, hD0, hN, hT⟩ := hv
  have hx := B.exec
  have hb := B.bytes
  have hr := B.returns
  have hts := atoms_spec (ws := Cond.code yX5_sign cX5_sign 6 none :: zw) B.pre
  have hA : ∀ w ∈ zw, w.before _ s = true := fun w h => hts w (List.mem_cons_of_mem _ h)
  have hown : s.vm.findClass RX5 = some m.cls := findClass_of_methodNamed B.named
  have hlocks := B.notSynchronized
  subst hsz
  have hD := hD0.self (sz := s.heap.size)
  generalize hAe : va_A [(h0, .inr (5, [.ref mp, .ref gco, .ref mce, .int mcn, .ref sk, .int tp, .int ba, .ref kb, .ref kk, .ref ks, .int on, .ref sh, .int sn, .int mat, .int alw, .int st, .int mo, .int mh, .int sp, .long re])), (sk, .inl (sk1, 22424, .inr (.inl gs))), (gco, .inr (2, [.ref cop, .ref ca, .ref cb, .ref cplace, .ref cnext, .ref cneeded, .int cz, .int ct])), (cop, .inl (ckop, 3000, .inl cgop)), (cplace, .inl (ckplace, 3000, .inl cgplace))] s.heap.size = A at hD hT ⊢
  have hAA : ∀ q : Nat, s.heap.size ≤ q → A q := fun q h => by rw [← hAe]; exact Or.inr h
  have hS : va_S A s.heap s.heap [] := va_S.rf
  have hl := lv_entry ([.ref h0, .int ro]) (n := 6) (Nat.le_of_ble_eq_true rfl)
  rw [lg_entry_eq]
  generalize (lg_sl ([.ref h0, .int ro]) ++ List.replicate (6 - (lg_sl ([.ref h0, .int ro])).length) Slot.unset).toArray = ls at hl ⊢
  have hl : lv_has ls 6 [(0, .ref h0), (1, .int ro)] := hl
  refine lv_aload_n hx hb dX5_sign_0 rfl (lv_at hl 0 rfl) ?_
  have hPc := hP.sub (ws' := [(h0, .inr (5, [.ref mp, .ref gco, .ref mce, .int mcn, .ref sk, .int tp, .int ba, .ref kb, .ref kk, .ref ks, .int on, .ref sh, .int sn, .int mat, .int alw, .int st, .int mo, .int mh, .int sp, .long re])), (sk, .inl (sk1, 22424, .inr (.inl gs)))]) [0, 1] rfl
  have hDc := hD.sub (ws' := [(h0, .inr (5, [.ref mp, .ref gco, .ref mce, .int mcn, .ref sk, .int tp, .int ba, .ref kb, .ref kk, .ref ks, .int on, .ref sh, .int sn, .int mat, .int alw, .int st, .int mo, .int mh, .int sp, .long re])), (sk, .inl (sk1, 22424, .inr (.inl gs)))]) [0, 1] (by decide) rfl
  have hKc := hK.sub (tys' := [(sk1, .long)]) [0] rfl
  have hFc := va_free (wc := [(h0, .inr (5, [.ref mp, .ref gco, .ref mce, .int mcn, .ref sk, .int tp, .int ba, .ref kb, .ref kk, .ref ks, .int on, .ref sh, .int sn, .int mat, .int alw, .int st, .int mo, .int mh, .int sp, .long re])), (sk, .inl (sk1, 22424, .inr (.inl gs)))]) hD hS hAA [0, 1] rfl
  refine va_calll (va_runV (As := []) (rest := []) ⟨hx, hb, hml, hown, hA⟩ (c_X5_pop l dC dI aK aV h0 mp gco mce sk kb kk ks sh mcn tp ba on sn mat alw st mo mh sp re sk1 gs s.heap.size (by omega) (by omega)) (cwV 0 hA (zw_V wi_1227 wi_1229 wi_56 wi_139 (zw_good wi_1230)) rfl rfl rfl (by decide +kernel) ⟨(Nat.le_of_ble_eq_true rfl), (Nat.le_of_ble_eq_true rfl)⟩) ⟨zP_blind, va_recv hKc hPc (ci := 5) (q0 := 0) rfl rfl, zz_pre hKc hPc hDc hN hT hS hFc⟩ rfl rfl hl.1 rfl (lv_room (Nat.le_of_ble_eq_true rfl)) dX5_sign_1 ⟨(Nat.le_of_ble_eq_true rfl), (Nat.le_of_ble_eq_true rfl)⟩) hS (fun q _ h => hFc q h) hFc (fun r_1 u t H1 locs ht hvm hw hB hz1 hk1 hS => ?_)
  obtain ⟨tp_2, rfl⟩ : ∃ z, z = u := ⟨_, rfl⟩
  obtain ⟨hP1, hK1, hD1⟩ := hB
  rw [ht] at hP1
  have hK1 := va_K.moved hvm.symm hK1
  obtain ⟨hP, hD⟩ := va_join (wr := [(gco, .inr (2, [.ref cop, .ref ca, .ref cb, .ref cplace, .ref cnext, .ref cneeded, .int cz, .int ct])), (cop, .inl (ckop, 3000, .inl cgop)), (cplace, .inl (ckplace, 3000, .inl cgplace))]) (w1 := [(h0, .inr (5, [.ref mp, .ref gco, .ref mce, .int mcn, .ref sk, .int tp_2, .int ba, .ref kb, .ref kk, .ref ks, .int on, .ref sh, .int sn, .int mat, .int alw, .int st, .int mo, .int mh, .int sp, .long re])), (sk, .inl (sk1, 22424, .inr (.inl gs)))]) hP hD [0, 1] [2, 3, 4] rfl rfl (by decide) (by decide) hk1 hFc hP1 hD1
  have hK := (hK.sub (tys' := [(ckop, .int), (ckplace, .int)]) [1, 2] rfl).app hK1
  generalize H1 = H at hP hS ⊢
  have hP : va_P (dC, dI) vwCl [(gco, .inr (2, [.ref cop, .ref ca, .ref cb, .ref cplace, .ref cnext, .ref cneeded, .int cz, .int ct])), (cop, .inl (ckop, 3000, .inl cgop)), (cplace, .inl (ckplace, 3000, .inl cgplace)), (h0, .inr (5, [.ref mp, .ref gco, .ref mce, .int mcn, .ref sk, .int tp_2, .int ba, .ref kb, .ref kk, .ref ks, .int on, .ref sh, .int sn, .int mat, .int alw, .int st, .int mo, .int mh, .int sp, .long re])), (sk, .inl (sk1, 22424, .inr (.inl gs)))] H := hP
  have hD : va_D A [(gco, .inr (2, [.ref cop, .ref ca, .ref cb, .ref cplace, .ref cnext, .ref cneeded, .int cz, .int ct])), (cop, .inl (ckop, 3000, .inl cgop)), (cplace, .inl (ckplace, 3000, .inl cgplace)), (h0, .inr (5, [.ref mp, .ref gco, .ref mce, .int mcn, .ref sk, .int tp_2, .int ba, .ref kb, .ref kk, .ref ks, .int on, .ref sh, .int sn, .int mat, .int alw, .int st, .int mo, .int mh, .int sp, .long re])), (sk, .inl (sk1, 22424, .inr (.inl gs)))] := hD
  have hK : va_K (dC, dI) vwCl [(ckop, .int), (ckplace, .int), (sk1, .long)] s := hK
  obtain ⟨hq_3, hq_4⟩ := hw
  have hri9 : r_1 = gs (Int32.toNatClampNeg tp - 1) := by rw [hq_4]; exact congrArg gs (by have := zn_nat (x := tp) (by omega); have := zn_nat (x := tp_2) (by omega); omega)
  refine lv_lstore_n (lv' := [(2, .long r_1), (0, .ref h0), (1, .int ro)]) hx hb dX5_sign_4 rfl hl (by decide) rfl (fun ls hl => ?_)
  refine lv_aload_n hx hb dX5_sign_5 rfl (lv_at hl 1 rfl) ?_
  have hPc := hP.sub (ws' := [(h0, .inr (5, [.ref mp, .ref gco, .ref mce, .int mcn, .ref sk, .int tp_2, .int ba, .ref kb, .ref kk, .ref ks, .int on, .ref sh, .int sn, .int mat, .int alw, .int st, .int mo, .int mh, .int sp, .long re])), (sk, .inl (sk1, 22424, .inr (.inl gs)))]) [3, 4] rfl
  have hDc := hD.sub (ws' := [(h0, .inr (5, [.ref mp, .ref gco, .ref mce, .int mcn, .ref sk, .int tp_2, .int ba, .ref kb, .ref kk, .ref ks, .int on, .ref sh, .int sn, .int mat, .int alw, .int st, .int mo, .int mh, .int sp, .long re])), (sk, .inl (sk1, 22424, .inr (.inl gs)))]) [3, 4] (by decide) rfl
  have hKc := hK.sub (tys' := [(sk1, .long)]) [2] rfl
  have hFc := va_free (wc := [(h0, .inr (5, [.ref mp, .ref gco, .ref mce, .int mcn, .ref sk, .int tp_2, .int ba, .ref kb, .ref kk, .ref ks, .int on, .ref sh, .int sn, .int mat, .int alw, .int st, .int mo, .int mh, .int sp, .long re])), (sk, .inl (sk1, 22424, .inr (.inl gs)))]) hD hS hAA [3, 4] rfl
  refine va_calll (va_runV (As := []) (rest := []) ⟨hx, hb, hml, hown, hA⟩ (c_X5_pop l dC dI aK aV h0 mp gco mce sk kb kk ks sh mcn tp_2 ba on sn mat alw st mo mh sp re sk1 gs H.size (by omega) (by omega)) (cwV 0 hA (zw_V wi_1227 wi_1229 wi_56 wi_139 (zw_good wi_1230)) rfl rfl rfl (by decide +kernel) ⟨(Nat.le_of_ble_eq_true rfl), (Nat.le_of_ble_eq_true rfl)⟩) ⟨zP_blind, va_recv hKc hPc (ci := 5) (q0 := 0) rfl rfl, zz_pre hKc hPc hDc hN hT hS hFc⟩ rfl rfl hl.1 rfl (lv_room (Nat.le_of_ble_eq_true rfl)) dX5_sign_6 ⟨(Nat.le_of_ble_eq_true rfl), (Nat.le_of_ble_eq_true rfl)⟩) hS (fun q _ h => hFc q h) hFc (fun r_5 u t H1 locs ht hvm hw hB hz1 hk1 hS => ?_)
  obtain ⟨tp_6, rfl⟩ : ∃ z, z = u := ⟨_, rfl⟩
  obtain ⟨hP1, hK1, hD1⟩ := hB
  rw [ht] at hP1
  have hK1 := va_K.moved hvm.symm hK1
  obtain ⟨hP, hD⟩ := va_join (wr := [(gco, .inr (2, [.ref cop, .ref ca, .ref cb, .ref cplace, .ref cnext, .ref cneeded, .int cz, .int ct])), (cop, .inl (ckop, 3000, .inl cgop)), (cplace, .inl (ckplace, 3000, .inl cgplace))]) (w1 := [(h0, .inr (5, [.ref mp, .ref gco, .ref mce, .int mcn, .ref sk, .int tp_6, .int ba, .ref kb, .ref kk, .ref ks, .int on, .ref sh, .int sn, .int mat, .int alw, .int st, .int mo, .int mh, .int sp, .long re])), (sk, .inl (sk1, 22424, .inr (.inl gs)))]) hP hD [3, 4] [0, 1, 2] rfl rfl (by decide) (by decide) hk1 hFc hP1 hD1
  have hK := (hK.sub (tys' := [(ckop, .int), (ckplace, .int)]) [0, 1] rfl).app hK1
  generalize H1 = H at hP hS ⊢
  have hP : va_P (dC, dI) vwCl [(gco, .inr (2, [.ref cop, .ref ca, .ref cb, .ref cplace, .ref cnext, .ref cneeded, .int cz, .int ct])), (cop, .inl (ckop, 3000, .inl cgop)), (cplace, .inl (ckplace, 3000, .inl cgplace)), (h0, .inr (5, [.ref mp, .ref gco, .ref mce, .int mcn, .ref sk, .int tp_6, .int ba, .ref kb, .ref kk, .ref ks, .int on, .ref sh, .int sn, .int mat, .int alw, .int st, .int mo, .int mh, .int sp, .long re])), (sk, .inl (sk1, 22424, .inr (.inl gs)))] H := hP
  have hD : va_D A [(gco, .inr (2, [.ref cop, .ref ca, .ref cb, .ref cplace, .ref cnext, .ref cneeded, .int cz, .int ct])), (cop, .inl (ckop, 3000, .inl cgop)), (cplace, .inl (ckplace, 3000, .inl cgplace)), (h0, .inr (5, [.ref mp, .ref gco, .ref mce, .int mcn, .ref sk, .int tp_6, .int ba, .ref kb, .ref kk, .ref ks, .int on, .ref sh, .int sn, .int mat, .int alw, .int st, .int mo, .int mh, .int sp, .long re])), (sk, .inl (sk1, 22424, .inr (.inl gs)))] := hD
  have hK : va_K (dC, dI) vwCl [(ckop, .int), (ckplace, .int), (sk1, .long)] s := hK
  obtain ⟨hq_7, hq_8⟩ := hw
  have hle9 : r_5 = gs (Int32.toNatClampNeg tp - 2) := by rw [hq_8]; exact congrArg gs (by have := zn_nat (x := tp) (by omega); have := zn_nat (x := tp_6) (by omega); omega)
  refine lv_lstore (lv' := [(4, .long r_5), (2, .long r_1), (0, .ref h0), (1, .int ro)]) hx hb dX5_sign_9 hl (by decide) rfl (fun ls hl => ?_)
  refine lv_lload hx hb dX5_sign_11 (lv_at hl 0 rfl) ?_
  have hPc := hP.sub (ws' := []) [] rfl
  have hDc := hD.sub (ws' := []) [] (by decide) rfl
  have hKc := hK.sub (tys' := []) [] rfl
  have hFc := va_free (wc := []) hD hS hAA [] rfl
  refine va_calli (va_runS (As := [.long r_5]) (rest := []) ⟨hx, hb, hml, hown, hA⟩ (c_X1_isInt_x l dC dI aK aV r_5 H.size) (va_cwS 1 hA (zw_S wi_1235 wi_1236 wi_140 (zw_good wi_1237)) rfl rfl rfl (by decide +kernel) ⟨(Nat.le_of_ble_eq_true rfl), (Nat.le_of_ble_eq_true rfl)⟩) ⟨zP_blind, zz_pre hKc hPc hDc hN hT hS hFc⟩ rfl rfl hl.1 rfl (lv_room (Nat.le_of_ble_eq_true rfl)) dX5_sign_13 ⟨(Nat.le_of_ble_eq_true rfl), (Nat.le_of_ble_eq_true rfl)⟩) hS (fun q _ h => hFc q h) hFc (fun r_9 u t H1 locs ht hvm hw hB hz1 hk1 hS => ?_)
  obtain ⟨hP1, hK1, hD1⟩ := hB
  rw [ht] at hP1
  have hK1 := va_K.moved hvm.symm hK1
  obtain ⟨hP, hD⟩ := va_join (wr := [(gco, .inr (2, [.ref cop, .ref ca, .ref cb, .ref cplace, .ref cnext, .ref cneeded, .int cz, .int ct])), (cop, .inl (ckop, 3000, .inl cgop)), (cplace, .inl (ckplace, 3000, .inl cgplace)), (h0, .inr (5, [.ref mp, .ref gco, .ref mce, .int mcn, .ref sk, .int tp_6, .int ba, .ref kb, .ref kk, .ref ks, .int on, .ref sh, .int sn, .int mat, .int alw, .int st, .int mo, .int mh, .int sp, .long re])), (sk, .inl (sk1, 22424, .inr (.inl gs)))]) (w1 := []) hP hD [] [0, 1, 2, 3, 4] rfl rfl (by decide) (by decide) hk1 hFc hP1 hD1
  have hK := (hK.sub (tys' := [(ckop, .int), (ckplace, .int), (sk1, .long)]) [0, 1, 2] rfl).app hK1
  generalize H1 = H at hP hS ⊢
  have hP : va_P (dC, dI) vwCl [(gco, .inr (2, [.ref cop, .ref ca, .ref cb, .ref cplace, .ref cnext, .ref cneeded, .int cz, .int ct])), (cop, .inl (ckop, 3000, .inl cgop)), (cplace, .inl (ckplace, 3000, .inl cgplace)), (h0, .inr (5, [.ref mp, .ref gco, .ref mce, .int mcn, .ref sk, .int tp_6, .int ba, .ref kb, .ref kk, .ref ks, .int on, .ref sh, .int sn, .int mat, .int alw, .int st, .int mo, .int mh, .int sp, .long re])), (sk, .inl (sk1, 22424, .inr (.inl gs)))] H := hP
  have hD : va_D A [(gco, .inr (2, [.ref cop, .ref ca, .ref cb, .ref cplace, .ref cnext, .ref cneeded, .int cz, .int ct])), (cop, .inl (ckop, 3000, .inl cgop)), (cplace, .inl (ckplace, 3000, .inl cgplace)), (h0, .inr (5, [.ref mp, .ref gco, .ref mce, .int mcn, .ref sk, .int tp_6, .int ba, .ref kb, .ref kk, .ref ks, .int on, .ref sh, .int sn, .int mat, .int alw, .int st, .int mo, .int mh, .int sp, .long re])), (sk, .inl (sk1, 22424, .inr (.inl gs)))] := hD
  have hK : va_K (dC, dI) vwCl [(ckop, .int), (ckplace, .int), (sk1, .long)] s := hK
  have hw_r_9 := hw
  try dsimp only at hw_r_9
  have hq_10 := hw
  refine lv_if_eq (tgt := 26) hx hb dX5_sign_16 (by decide) (fun c_11 => ?_) (fun c_11 => ?_)
  · have ic_11 : r_9.toInt = 0 := zi_eq c_11
    have hno9 : ¬ (zhs (gs (Int32.toNatClampNeg tp - 2)) = 0 ∧ zhs (gs (Int32.toNatClampNeg tp - 1)) = 0) := fun g => by rw [← hle9] at g; exact hq_10.elim (fun u => by omega) (fun u => u.2 g.1)
    refine lv_aload_n hx hb dX5_sign_26 rfl (lv_at hl 2 rfl) ?_
    refine lv_iconst (v := 2) hx hb dX5_sign_27 (by decide) ?_
    refine lv_iload_n hx hb dX5_sign_28 rfl (lv_at hl 3 rfl) ?_
    have hPc := hP.sub (ws' := [(h0, .inr (5, [.ref mp, .ref gco, .ref mce, .int mcn, .ref sk, .int tp_6, .int ba, .ref kb, .ref kk, .ref ks, .int on, .ref sh, .int sn, .int mat, .int alw, .int st, .int mo, .int mh, .int sp, .long re])), (gco, .inr (2, [.ref cop, .ref ca, .ref cb, .ref cplace, .ref cnext, .ref cneeded, .int cz, .int ct])), (cplace, .inl (ckplace, 3000, .inl cgplace))]) [3, 0, 2] rfl
    have hDc := hD.sub (ws' := [(h0, .inr (5, [.ref mp, .ref gco, .ref mce, .int mcn, .ref sk, .int tp_6, .int ba, .ref kb, .ref kk, .ref ks, .int on, .ref sh, .int sn, .int mat, .int alw, .int st, .int mo, .int mh, .int sp, .long re])), (gco, .inr (2, [.ref cop, .ref ca, .ref cb, .ref cplace, .ref cnext, .ref cneeded, .int cz, .int ct])), (cplace, .inl (ckplace, 3000, .inl cgplace))]) [3, 0, 2] (by decide) rfl
    have hKc := hK.sub (tys' := [(ckplace, .int)]) [1] rfl
    have hFc := va_free (wc := [(h0, .inr (5, [.ref mp, .ref gco, .ref mce, .int mcn, .ref sk, .int tp_6, .int ba, .ref kb, .ref kk, .ref ks, .int on, .ref sh, .int sn, .int mat, .int alw, .int st, .int mo, .int mh, .int sp, .long re])), (gco, .inr (2, [.ref cop, .ref ca, .ref cb, .ref cplace, .ref cnext, .ref cneeded, .int cz, .int ct])), (cplace, .inl (ckplace, 3000, .inl cgplace))]) hD hS hAA [3, 0, 2] rfl
    refine va_callv (va_runV (As := [.int 2, .int ro]) (rest := []) ⟨hx, hb, hml, hown, hA⟩ (c_X5_stop l dC dI aK aV h0 mp gco mce sk kb kk ks sh mcn tp_6 ba on sn mat alw st mo mh sp re cop ca cb cplace cnext cneeded cz ct ckplace cgplace 2 ro H.size (by omega) (by omega) (by have h9_0 : Int32.toInt 2 = 2 := (by decide); omega) (by have h9_0 : Int32.toInt 2 = 2 := (by decide); omega)) (cwV 2 hA (zw_V wi_1167 wi_1169 wi_47 wi_139 (zw_good wi_1170)) rfl rfl rfl (by decide +kernel) ⟨(Nat.le_of_ble_eq_true rfl), (Nat.le_of_ble_eq_true rfl)⟩) ⟨zP_blind, va_recv hKc hPc (ci := 5) (q0 := 0) rfl rfl, zz_pre hKc hPc hDc hN hT hS hFc⟩ rfl rfl hl.1 rfl (lv_room (Nat.le_of_ble_eq_true rfl)) dX5_sign_29 ⟨(Nat.le_of_ble_eq_true rfl), (Nat.le_of_ble_eq_true rfl)⟩) hS (fun q _ h => hFc q h) hFc (fun u t H1 locs ht hvm hw hB hz1 hk1 hS => ?_)
    obtain ⟨sp_13, rfl⟩ : ∃ z, z = u := ⟨_, rfl⟩
    obtain ⟨hP1, hK1, hD1⟩ := hB
    rw [ht] at hP1
    have hK1 := va_K.moved hvm.symm hK1
    obtain ⟨hP, hD⟩ := va_join (wr := [(cop, .inl (ckop, 3000, .inl cgop)), (sk, .inl (sk1, 22424, .inr (.inl gs)))]) (w1 := [(h0, .inr (5, [.ref mp, .ref gco, .ref mce, .int mcn, .ref sk, .int tp_6, .int ba, .ref kb, .ref kk, .ref ks, .int on, .ref sh, .int sn, .int mat, .int alw, .int st, .int mo, .int 2, .int sp_13, .long re])), (gco, .inr (2, [.ref cop, .ref ca, .ref cb, .ref cplace, .ref cnext, .ref cneeded, .int cz, .int ct])), (cplace, .inl (ckplace, 3000, .inl cgplace))]) hP hD [3, 0, 2] [1, 4] rfl rfl (by decide) (by decide) hk1 hFc hP1 hD1
    have hK := (hK.sub (tys' := [(ckop, .int), (sk1, .long)]) [0, 2] rfl).app hK1
    generalize H1 = H at hP hS ⊢
    have hP : va_P (dC, dI) vwCl [(cop, .inl (ckop, 3000, .inl cgop)), (sk, .inl (sk1, 22424, .inr (.inl gs))), (h0, .inr (5, [.ref mp, .ref gco, .ref mce, .int mcn, .ref sk, .int tp_6, .int ba, .ref kb, .ref kk, .ref ks, .int on, .ref sh, .int sn, .int mat, .int alw, .int st, .int mo, .int 2, .int sp_13, .long re])), (gco, .inr (2, [.ref cop, .ref ca, .ref cb, .ref cplace, .ref cnext, .ref cneeded, .int cz, .int ct])), (cplace, .inl (ckplace, 3000, .inl cgplace))] H := hP
    have hD : va_D A [(cop, .inl (ckop, 3000, .inl cgop)), (sk, .inl (sk1, 22424, .inr (.inl gs))), (h0, .inr (5, [.ref mp, .ref gco, .ref mce, .int mcn, .ref sk, .int tp_6, .int ba, .ref kb, .ref kk, .ref ks, .int on, .ref sh, .int sn, .int mat, .int alw, .int st, .int mo, .int 2, .int sp_13, .long re])), (gco, .inr (2, [.ref cop, .ref ca, .ref cb, .ref cplace, .ref cnext, .ref cneeded, .int cz, .int ct])), (cplace, .inl (ckplace, 3000, .inl cgplace))] := hD
    have hK : va_K (dC, dI) vwCl [(ckop, .int), (sk1, .long), (ckplace, .int)] s := hK
    have hq_14 := hw
    have h92 : Int32.toInt 2 = 2 := by decide
    have hP9 := hP.sub (ws' := [(h0, .inr (5, [.ref mp, .ref gco, .ref mce, .int mcn, .ref sk, .int tp_6, .int ba, .ref kb, .ref kk, .ref ks, .int on, .ref sh, .int sn, .int mat, .int alw, .int st, .int mo, .int 2, .int sp_13, .long re])), (sk, .inl (sk1, 22424, .inr (.inl gs))), (gco, .inr (2, [.ref cop, .ref ca, .ref cb, .ref cplace, .ref cnext, .ref cneeded, .int cz, .int ct])), (cop, .inl (ckop, 3000, .inl cgop)), (cplace, .inl (ckplace, 3000, .inl cgplace))]) [2, 1, 3, 0, 4] rfl
    have hD9 := hD.sub (ws' := [(h0, .inr (5, [.ref mp, .ref gco, .ref mce, .int mcn, .ref sk, .int tp_6, .int ba, .ref kb, .ref kk, .ref ks, .int on, .ref sh, .int sn, .int mat, .int alw, .int st, .int mo, .int 2, .int sp_13, .long re])), (sk, .inl (sk1, 22424, .inr (.inl gs))), (gco, .inr (2, [.ref cop, .ref ca, .ref cb, .ref cplace, .ref cnext, .ref cneeded, .int cz, .int ct])), (cop, .inl (ckop, 3000, .inl cgop)), (cplace, .inl (ckplace, 3000, .inl cgplace))]) [2, 1, 3, 0, 4] (by decide) rfl
    have hK9 := hK.sub (tys' := [(sk1, .long), (ckop, .int), (ckplace, .int)]) [1, 0, 2] rfl
    exact W.vret hx hb hr (fun t ht hW => ⟨⟨(2, sp_13, tp_6, gs), rfl, ⟨(Or.inl ⟨by omega, hno9⟩), hq_14⟩, by rw [ht]; exact hP9, va_K.moved hW.alike hK9, hD9⟩, hS.F ht⟩) hS.2.2 dX5_sign_32
  · have ic_11 : r_9.toInt ≠ 0 := zi_ne c_11
    refine lv_lload_n hx hb dX5_sign_19 rfl (lv_at hl 1 rfl) ?_
    have hPc := hP.sub (ws' := []) [] rfl
    have hDc := hD.sub (ws' := []) [] (by decide) rfl
    have hKc := hK.sub (tys' := []) [] rfl
    have hFc := va_free (wc := []) hD hS hAA [] rfl
    refine va_calli (va_runS (As := [.long r_1]) (rest := []) ⟨hx, hb, hml, hown, hA⟩ (c_X1_isInt_x l dC dI aK aV r_1 H.size) (va_cwS 1 hA (zw_S wi_1235 wi_1236 wi_140 (zw_good wi_1237)) rfl rfl rfl (by decide +kernel) ⟨(Nat.le_of_ble_eq_true rfl), (Nat.le_of_ble_eq_true rfl)⟩) ⟨zP_blind, zz_pre hKc hPc hDc hN hT hS hFc⟩ rfl rfl hl.1 rfl (lv_room (Nat.le_of_ble_eq_true rfl)) dX5_sign_20 ⟨(Nat.le_of_ble_eq_true rfl), (Nat.le_of_ble_eq_true rfl)⟩) hS (fun q _ h => hFc q h) hFc (fun r_15 u t H1 locs ht hvm hw hB hz1 hk1 hS => ?_)
    obtain ⟨hP1, hK1, hD1⟩ := hB
    rw [ht] at hP1
    have hK1 := va_K.moved hvm.symm hK1
    obtain ⟨hP, hD⟩ := va_join (wr := [(gco, .inr (2, [.ref cop, .ref ca, .ref cb, .ref cplace, .ref cnext, .ref cneeded, .int cz, .int ct])), (cop, .inl (ckop, 3000, .inl cgop)), (cplace, .inl (ckplace, 3000, .inl cgplace)), (h0, .inr (5, [.ref mp, .ref gco, .ref mce, .int mcn, .ref sk, .int tp_6, .int ba, .ref kb, .ref kk, .ref ks, .int on, .ref sh, .int sn, .int mat, .int alw, .int st, .int mo, .int mh, .int sp, .long re])), (sk, .inl (sk1, 22424, .inr (.inl gs)))]) (w1 := []) hP hD [] [0, 1, 2, 3, 4] rfl rfl (by decide) (by decide) hk1 hFc hP1 hD1
    have hK := (hK.sub (tys' := [(ckop, .int), (ckplace, .int), (sk1, .long)]) [0, 1, 2] rfl).app hK1
    generalize H1 = H at hP hS ⊢
    have hP : va_P (dC, dI) vwCl [(gco, .inr (2, [.ref cop, .ref ca, .ref cb, .ref cplace, .ref cnext, .ref cneeded, .int cz, .int ct])), (cop, .inl (ckop, 3000, .inl cgop)), (cplace, .inl (ckplace, 3000, .inl cgplace)), (h0, .inr (5, [.ref mp, .ref gco, .ref mce, .int mcn, .ref sk, .int tp_6, .int ba, .ref kb, .ref kk, .ref ks, .int on, .ref sh, .int sn, .int mat, .int alw, .int st, .int mo, .int mh, .int sp, .long re])), (sk, .inl (sk1, 22424, .inr (.inl gs)))] H := hP
    have hD : va_D A [(gco, .inr (2, [.ref cop, .ref ca, .ref cb, .ref cplace, .ref cnext, .ref cneeded, .int cz, .int ct])), (cop, .inl (ckop, 3000, .inl cgop)), (cplace, .inl (ckplace, 3000, .inl cgplace)), (h0, .inr (5, [.ref mp, .ref gco, .ref mce, .int mcn, .ref sk, .int tp_6, .int ba, .ref kb, .ref kk, .ref ks, .int on, .ref sh, .int sn, .int mat, .int alw, .int st, .int mo, .int mh, .int sp, .long re])), (sk, .inl (sk1, 22424, .inr (.inl gs)))] := hD
    have hK : va_K (dC, dI) vwCl [(ckop, .int), (ckplace, .int), (sk1, .long)] s := hK
    have hw_r_15 := hw
    try dsimp only at hw_r_15
    have hq_16 := hw
    refine lv_if_ne (tgt := 33) hx hb dX5_sign_23 (by decide) (fun c_17 => ?_) (fun c_17 => ?_)
    · have ic_17 : r_15.toInt ≠ 0 := zi_ne c_17
      have hzl9 : zhs (gs (Int32.toNatClampNeg tp - 2)) = 0 := by rw [← hle9]; exact hq_10.elim (fun u => u.2) (fun u => by omega)
      have hzr9 : zhs (gs (Int32.toNatClampNeg tp - 1)) = 0 := by rw [← hri9]; exact hq_16.elim (fun u => u.2) (fun u => by omega)
      refine lv_aload_n hx hb dX5_sign_33 rfl (lv_at hl 2 rfl) ?_
      refine lv_aload_n hx hb dX5_sign_34 rfl (lv_at hl 2 rfl) ?_
      refine va_get (D := (dC, dI)) (ci := 5) (v := .ref gco) (C := RX5) (T := TX5) (N := 20) hx hb hA zin_X5 hown hK hP 3 rfl rfl 1 (by decide) (hA _ wi_485) (fun _ h9 => h9) rfl dX5_sign_35 ?_
      refine va_get (D := (dC, dI)) (ci := 2) (v := .ref cop) (C := RX2) (T := TX2) (N := 8) hx hb hA zin_X2 hown hK hP 0 rfl rfl 0 (by decide) (hA _ wi_178) (fun _ h9 => h9) rfl dX5_sign_38 ?_
      refine lv_iload_n hx hb dX5_sign_41 rfl (lv_at hl 3 rfl) ?_
      refine va_iald hx hb hK hP 1 0 rfl rfl (vp_in_iff.mpr ⟨by omega, by omega⟩) dX5_sign_42 ?_
      refine lv_topi (fun x_18 ex_18 => ?_)
      refine lv_lload hx hb dX5_sign_43 (lv_at hl 0 rfl) ?_
      refine lv_l2i hx hb dX5_sign_45 rfl ?_
      refine lv_topi (fun x_19 ex_19 => ?_)
      refine lv_lload_n hx hb dX5_sign_46 rfl (lv_at hl 1 rfl) ?_
      refine lv_l2i hx hb dX5_sign_47 rfl ?_
      refine lv_topi (fun x_20 ex_20 => ?_)
      have hPc := hP.sub (ws' := []) [] rfl
      have hDc := hD.sub (ws' := []) [] (by decide) rfl
      have hKc := hK.sub (tys' := []) [] rfl
      have hFc := va_free (wc := []) hD hS hAA [] rfl
      refine va_calli (va_runS (As := [.int x_18, .int x_19, .int x_20]) (rest := [.ref h0]) ⟨hx, hb, hml, hown, hA⟩ (c_X5_reckon l dC dI aK aV x_18 x_19 x_20 H.size) (va_cwS 3 hA (zw_S wi_1284 wi_1285 wi_139 (zw_good wi_1286)) rfl rfl rfl (by decide +kernel) ⟨(Nat.le_of_ble_eq_true rfl), (Nat.le_of_ble_eq_true rfl)⟩) ⟨zP_blind, zz_pre hKc hPc hDc hN hT hS hFc⟩ rfl rfl hl.1 rfl (lv_room (Nat.le_of_ble_eq_true rfl)) dX5_sign_48 ⟨(Nat.le_of_ble_eq_true rfl), (Nat.le_of_ble_eq_true rfl)⟩) hS (fun q _ h => hFc q h) hFc (fun r_21 u t H1 locs ht hvm hw hB hz1 hk1 hS => ?_)
      obtain ⟨hP1, hK1, hD1⟩ := hB
      rw [ht] at hP1
      have hK1 := va_K.moved hvm.symm hK1
      obtain ⟨hP, hD⟩ := va_join (wr := [(gco, .inr (2, [.ref cop, .ref ca, .ref cb, .ref cplace, .ref cnext, .ref cneeded, .int cz, .int ct])), (cop, .inl (ckop, 3000, .inl cgop)), (cplace, .inl (ckplace, 3000, .inl cgplace)), (h0, .inr (5, [.ref mp, .ref gco, .ref mce, .int mcn, .ref sk, .int tp_6, .int ba, .ref kb, .ref kk, .ref ks, .int on, .ref sh, .int sn, .int mat, .int alw, .int st, .int mo, .int mh, .int sp, .long re])), (sk, .inl (sk1, 22424, .inr (.inl gs)))]) (w1 := []) hP hD [] [0, 1, 2, 3, 4] rfl rfl (by decide) (by decide) hk1 hFc hP1 hD1
      have hK := (hK.sub (tys' := [(ckop, .int), (ckplace, .int), (sk1, .long)]) [0, 1, 2] rfl).app hK1
      generalize H1 = H at hP hS ⊢
      have hP : va_P (dC, dI) vwCl [(gco, .inr (2, [.ref cop, .ref ca, .ref cb, .ref cplace, .ref cnext, .ref cneeded, .int cz, .int ct])), (cop, .inl (ckop, 3000, .inl cgop)), (cplace, .inl (ckplace, 3000, .inl cgplace)), (h0, .inr (5, [.ref mp, .ref gco, .ref mce, .int mcn, .ref sk, .int tp_6, .int ba, .ref kb, .ref kk, .ref ks, .int on, .ref sh, .int sn, .int mat, .int alw, .int st, .int mo, .int mh, .int sp, .long re])), (sk, .inl (sk1, 22424, .inr (.inl gs)))] H := hP
      have hD : va_D A [(gco, .inr (2, [.ref cop, .ref ca, .ref cb, .ref cplace, .ref cnext, .ref cneeded, .int cz, .int ct])), (cop, .inl (ckop, 3000, .inl cgop)), (cplace, .inl (ckplace, 3000, .inl cgplace)), (h0, .inr (5, [.ref mp, .ref gco, .ref mce, .int mcn, .ref sk, .int tp_6, .int ba, .ref kb, .ref kk, .ref ks, .int on, .ref sh, .int sn, .int mat, .int alw, .int st, .int mo, .int mh, .int sp, .long re])), (sk, .inl (sk1, 22424, .inr (.inl gs)))] := hD
      have hK : va_K (dC, dI) vwCl [(ckop, .int), (ckplace, .int), (sk1, .long)] s := hK
      have hw_r_21 := hw
      try dsimp only at hw_r_21
      have hq_22 := hw
      have hPc := hP.sub (ws' := []) [] rfl
      have hDc := hD.sub (ws' := []) [] (by decide) rfl
      have hKc := hK.sub (tys' := []) [] rfl
      have hFc := va_free (wc := []) hD hS hAA [] rfl
      refine va_calll (va_runS (As := [.int r_21]) (rest := [.ref h0]) ⟨hx, hb, hml, hown, hA⟩ (c_X1_ofInt_x l dC dI aK aV r_21 H.size) (va_cwS 1 hA (zw_S wi_1175 wi_1102 wi_140 (zw_good wi_1103)) rfl rfl rfl (by decide +kernel) ⟨(Nat.le_of_ble_eq_true rfl), (Nat.le_of_ble_eq_true rfl)⟩) ⟨zP_blind, zz_pre hKc hPc hDc hN hT hS hFc⟩ rfl rfl hl.1 rfl (lv_room (Nat.le_of_ble_eq_true rfl)) dX5_sign_51 ⟨(Nat.le_of_ble_eq_true rfl), (Nat.le_of_ble_eq_true rfl)⟩) hS (fun q _ h => hFc q h) hFc (fun r_23 u t H1 locs ht hvm hw hB hz1 hk1 hS => ?_)
      obtain ⟨hP1, hK1, hD1⟩ := hB
      rw [ht] at hP1
      have hK1 := va_K.moved hvm.symm hK1
      obtain ⟨hP, hD⟩ := va_join (wr := [(gco, .inr (2, [.ref cop, .ref ca, .ref cb, .ref cplace, .ref cnext, .ref cneeded, .int cz, .int ct])), (cop, .inl (ckop, 3000, .inl cgop)), (cplace, .inl (ckplace, 3000, .inl cgplace)), (h0, .inr (5, [.ref mp, .ref gco, .ref mce, .int mcn, .ref sk, .int tp_6, .int ba, .ref kb, .ref kk, .ref ks, .int on, .ref sh, .int sn, .int mat, .int alw, .int st, .int mo, .int mh, .int sp, .long re])), (sk, .inl (sk1, 22424, .inr (.inl gs)))]) (w1 := []) hP hD [] [0, 1, 2, 3, 4] rfl rfl (by decide) (by decide) hk1 hFc hP1 hD1
      have hK := (hK.sub (tys' := [(ckop, .int), (ckplace, .int), (sk1, .long)]) [0, 1, 2] rfl).app hK1
      generalize H1 = H at hP hS ⊢
      have hP : va_P (dC, dI) vwCl [(gco, .inr (2, [.ref cop, .ref ca, .ref cb, .ref cplace, .ref cnext, .ref cneeded, .int cz, .int ct])), (cop, .inl (ckop, 3000, .inl cgop)), (cplace, .inl (ckplace, 3000, .inl cgplace)), (h0, .inr (5, [.ref mp, .ref gco, .ref mce, .int mcn, .ref sk, .int tp_6, .int ba, .ref kb, .ref kk, .ref ks, .int on, .ref sh, .int sn, .int mat, .int alw, .int st, .int mo, .int mh, .int sp, .long re])), (sk, .inl (sk1, 22424, .inr (.inl gs)))] H := hP
      have hD : va_D A [(gco, .inr (2, [.ref cop, .ref ca, .ref cb, .ref cplace, .ref cnext, .ref cneeded, .int cz, .int ct])), (cop, .inl (ckop, 3000, .inl cgop)), (cplace, .inl (ckplace, 3000, .inl cgplace)), (h0, .inr (5, [.ref mp, .ref gco, .ref mce, .int mcn, .ref sk, .int tp_6, .int ba, .ref kb, .ref kk, .ref ks, .int on, .ref sh, .int sn, .int mat, .int alw, .int st, .int mo, .int mh, .int sp, .long re])), (sk, .inl (sk1, 22424, .inr (.inl gs)))] := hD
      have hK : va_K (dC, dI) vwCl [(ckop, .int), (ckplace, .int), (sk1, .long)] s := hK
      obtain ⟨hq_24, hq_25⟩ := hw
      have hPc := hP.sub (ws' := [(h0, .inr (5, [.ref mp, .ref gco, .ref mce, .int mcn, .ref sk, .int tp_6, .int ba, .ref kb, .ref kk, .ref ks, .int on, .ref sh, .int sn, .int mat, .int alw, .int st, .int mo, .int mh, .int sp, .long re])), (sk, .inl (sk1, 22424, .inr (.inl gs)))]) [3, 4] rfl
      have hDc := hD.sub (ws' := [(h0, .inr (5, [.ref mp, .ref gco, .ref mce, .int mcn, .ref sk, .int tp_6, .int ba, .ref kb, .ref kk, .ref ks, .int on, .ref sh, .int sn, .int mat, .int alw, .int st, .int mo, .int mh, .int sp, .long re])), (sk, .inl (sk1, 22424, .inr (.inl gs)))]) [3, 4] (by decide) rfl
      have hKc := hK.sub (tys' := [(sk1, .long)]) [2] rfl
      have hFc := va_free (wc := [(h0, .inr (5, [.ref mp, .ref gco, .ref mce, .int mcn, .ref sk, .int tp_6, .int ba, .ref kb, .ref kk, .ref ks, .int on, .ref sh, .int sn, .int mat, .int alw, .int st, .int mo, .int mh, .int sp, .long re])), (sk, .inl (sk1, 22424, .inr (.inl gs)))]) hD hS hAA [3, 4] rfl
      refine va_callv (va_runV (As := [.long r_23]) (rest := []) ⟨hx, hb, hml, hown, hA⟩ (c_X5_push l dC dI aK aV h0 mp gco mce sk kb kk ks sh mcn tp_6 ba on sn mat alw st mo mh sp re sk1 gs r_23 H.size (by omega) (by omega)) (cwV 1 hA (zw_V wi_1176 wi_1106 wi_1107 wi_139 (zw_good wi_1108)) rfl rfl rfl (by decide +kernel) ⟨(Nat.le_of_ble_eq_true rfl), (Nat.le_of_ble_eq_true rfl)⟩) ⟨zP_blind, va_recv hKc hPc (ci := 5) (q0 := 0) rfl rfl, zz_pre hKc hPc hDc hN hT hS hFc⟩ rfl rfl hl.1 rfl (lv_room (Nat.le_of_ble_eq_true rfl)) dX5_sign_54 ⟨(Nat.le_of_ble_eq_true rfl), (Nat.le_of_ble_eq_true rfl)⟩) hS (fun q _ h => hFc q h) hFc (fun u t H1 locs ht hvm hw hB hz1 hk1 hS => ?_)
      obtain ⟨tp_27, gs_28⟩ := u
      obtain ⟨hP1, hK1, hD1⟩ := hB
      rw [ht] at hP1
      have hK1 := va_K.moved hvm.symm hK1
      obtain ⟨hP, hD⟩ := va_join (wr := [(gco, .inr (2, [.ref cop, .ref ca, .ref cb, .ref cplace, .ref cnext, .ref cneeded, .int cz, .int ct])), (cop, .inl (ckop, 3000, .inl cgop)), (cplace, .inl (ckplace, 3000, .inl cgplace))]) (w1 := [(h0, .inr (5, [.ref mp, .ref gco, .ref mce, .int mcn, .ref sk, .int tp_27, .int ba, .ref kb, .ref kk, .ref ks, .int on, .ref sh, .int sn, .int mat, .int alw, .int st, .int mo, .int mh, .int sp, .long re])), (sk, .inl (sk1, 22424, .inr (.inl gs_28)))]) hP hD [3, 4] [0, 1, 2] rfl rfl (by decide) (by decide) hk1 hFc hP1 hD1
      have hK := (hK.sub (tys' := [(ckop, .int), (ckplace, .int)]) [0, 1] rfl).app hK1
      generalize H1 = H at hP hS ⊢
      have hP : va_P (dC, dI) vwCl [(gco, .inr (2, [.ref cop, .ref ca, .ref cb, .ref cplace, .ref cnext, .ref cneeded, .int cz, .int ct])), (cop, .inl (ckop, 3000, .inl cgop)), (cplace, .inl (ckplace, 3000, .inl cgplace)), (h0, .inr (5, [.ref mp, .ref gco, .ref mce, .int mcn, .ref sk, .int tp_27, .int ba, .ref kb, .ref kk, .ref ks, .int on, .ref sh, .int sn, .int mat, .int alw, .int st, .int mo, .int mh, .int sp, .long re])), (sk, .inl (sk1, 22424, .inr (.inl gs_28)))] H := hP
      have hD : va_D A [(gco, .inr (2, [.ref cop, .ref ca, .ref cb, .ref cplace, .ref cnext, .ref cneeded, .int cz, .int ct])), (cop, .inl (ckop, 3000, .inl cgop)), (cplace, .inl (ckplace, 3000, .inl cgplace)), (h0, .inr (5, [.ref mp, .ref gco, .ref mce, .int mcn, .ref sk, .int tp_27, .int ba, .ref kb, .ref kk, .ref ks, .int on, .ref sh, .int sn, .int mat, .int alw, .int st, .int mo, .int mh, .int sp, .long re])), (sk, .inl (sk1, 22424, .inr (.inl gs_28)))] := hD
      have hK : va_K (dC, dI) vwCl [(ckop, .int), (ckplace, .int), (sk1, .long)] s := hK
      obtain ⟨hq_29, hq_30⟩ := hw
      have hP9 := hP.sub (ws' := [(h0, .inr (5, [.ref mp, .ref gco, .ref mce, .int mcn, .ref sk, .int tp_27, .int ba, .ref kb, .ref kk, .ref ks, .int on, .ref sh, .int sn, .int mat, .int alw, .int st, .int mo, .int mh, .int sp, .long re])), (sk, .inl (sk1, 22424, .inr (.inl gs_28))), (gco, .inr (2, [.ref cop, .ref ca, .ref cb, .ref cplace, .ref cnext, .ref cneeded, .int cz, .int ct])), (cop, .inl (ckop, 3000, .inl cgop)), (cplace, .inl (ckplace, 3000, .inl cgplace))]) [3, 4, 0, 1, 2] rfl
      have hD9 := hD.sub (ws' := [(h0, .inr (5, [.ref mp, .ref gco, .ref mce, .int mcn, .ref sk, .int tp_27, .int ba, .ref kb, .ref kk, .ref ks, .int on, .ref sh, .int sn, .int mat, .int alw, .int st, .int mo, .int mh, .int sp, .long re])), (sk, .inl (sk1, 22424, .inr (.inl gs_28))), (gco, .inr (2, [.ref cop, .ref ca, .ref cb, .ref cplace, .ref cnext, .ref cneeded, .int cz, .int ct])), (cop, .inl (ckop, 3000, .inl cgop)), (cplace, .inl (ckplace, 3000, .inl cgplace))]) [3, 4, 0, 1, 2] (by decide) rfl
      have hK9 := hK.sub (tys' := [(sk1, .long), (ckop, .int), (ckplace, .int)]) [2, 0, 1] rfl
      exact W.vret hx hb hr (fun t ht hW => ⟨⟨(mh, sp, tp_27, gs_28), rfl, ⟨(Or.inr ⟨by omega, by omega, ⟨hzl9, hzr9⟩, _, by rw [hq_30, show Int32.toNatClampNeg tp_6 = Int32.toNatClampNeg tp - 2 from by have := zn_nat (x := tp) (by omega); have := zn_nat (x := tp_6) (by omega); omega], hq_24, by rw [hq_25, hq_22, ex_18, ex_19, ex_20, hle9, hri9]⟩), cSpl_0⟩, by rw [ht]; exact hP9, va_K.moved hW.alike hK9, hD9⟩, hS.F ht⟩) hS.2.2 dX5_sign_57
    · have ic_17 : r_15.toInt = 0 := zi_eq c_17
      have hno9 : ¬ (zhs (gs (Int32.toNatClampNeg tp - 2)) = 0 ∧ zhs (gs (Int32.toNatClampNeg tp - 1)) = 0) := fun g => by rw [← hri9] at g; exact hq_16.elim (fun u => by omega) (fun u => u.2 g.2)
      refine lv_aload_n hx hb dX5_sign_26 rfl (lv_at hl 2 rfl) ?_
      refine lv_iconst (v := 2) hx hb dX5_sign_27 (by decide) ?_
      refine lv_iload_n hx hb dX5_sign_28 rfl (lv_at hl 3 rfl) ?_
      have hPc := hP.sub (ws' := [(h0, .inr (5, [.ref mp, .ref gco, .ref mce, .int mcn, .ref sk, .int tp_6, .int ba, .ref kb, .ref kk, .ref ks, .int on, .ref sh, .int sn, .int mat, .int alw, .int st, .int mo, .int mh, .int sp, .long re])), (gco, .inr (2, [.ref cop, .ref ca, .ref cb, .ref cplace, .ref cnext, .ref cneeded, .int cz, .int ct])), (cplace, .inl (ckplace, 3000, .inl cgplace))]) [3, 0, 2] rfl
      have hDc := hD.sub (ws' := [(h0, .inr (5, [.ref mp, .ref gco, .ref mce, .int mcn, .ref sk, .int tp_6, .int ba, .ref kb, .ref kk, .ref ks, .int on, .ref sh, .int sn, .int mat, .int alw, .int st, .int mo, .int mh, .int sp, .long re])), (gco, .inr (2, [.ref cop, .ref ca, .ref cb, .ref cplace, .ref cnext, .ref cneeded, .int cz, .int ct])), (cplace, .inl (ckplace, 3000, .inl cgplace))]) [3, 0, 2] (by decide) rfl
      have hKc := hK.sub (tys' := [(ckplace, .int)]) [1] rfl
      have hFc := va_free (wc := [(h0, .inr (5, [.ref mp, .ref gco, .ref mce, .int mcn, .ref sk, .int tp_6, .int ba, .ref kb, .ref kk, .ref ks, .int on, .ref sh, .int sn, .int mat, .int alw, .int st, .int mo, .int mh, .int sp, .long re])), (gco, .inr (2, [.ref cop, .ref ca, .ref cb, .ref cplace, .ref cnext, .ref cneeded, .int cz, .int ct])), (cplace, .inl (ckplace, 3000, .inl cgplace))]) hD hS hAA [3, 0, 2] rfl
      refine va_callv (va_runV (As := [.int 2, .int ro]) (rest := []) ⟨hx, hb, hml, hown, hA⟩ (c_X5_stop l dC dI aK aV h0 mp gco mce sk kb kk ks sh mcn tp_6 ba on sn mat alw st mo mh sp re cop ca cb cplace cnext cneeded cz ct ckplace cgplace 2 ro H.size (by omega) (by omega) (by have h9_0 : Int32.toInt 2 = 2 := (by decide); omega) (by have h9_0 : Int32.toInt 2 = 2 := (by decide); omega)) (cwV 2 hA (zw_V wi_1167 wi_1169 wi_47 wi_139 (zw_good wi_1170)) rfl rfl rfl (by decide +kernel) ⟨(Nat.le_of_ble_eq_true rfl), (Nat.le_of_ble_eq_true rfl)⟩) ⟨zP_blind, va_recv hKc hPc (ci := 5) (q0 := 0) rfl rfl, zz_pre hKc hPc hDc hN hT hS hFc⟩ rfl rfl hl.1 rfl (lv_room (Nat.le_of_ble_eq_true rfl)) dX5_sign_29 ⟨(Nat.le_of_ble_eq_true rfl), (Nat.le_of_ble_eq_true rfl)⟩) hS (fun q _ h => hFc q h) hFc (fun u t H1 locs ht hvm hw hB hz1 hk1 hS => ?_)
      obtain ⟨sp_32, rfl⟩ : ∃ z, z = u := ⟨_, rfl⟩
      obtain ⟨hP1, hK1, hD1⟩ := hB
      rw [ht] at hP1
      have hK1 := va_K.moved hvm.symm hK1
      obtain ⟨hP, hD⟩ := va_join (wr := [(cop, .inl (ckop, 3000, .inl cgop)), (sk, .inl (sk1, 22424, .inr (.inl gs)))]) (w1 := [(h0, .inr (5, [.ref mp, .ref gco, .ref mce, .int mcn, .ref sk, .int tp_6, .int ba, .ref kb, .ref kk, .ref ks, .int on, .ref sh, .int sn, .int mat, .int alw, .int st, .int mo, .int 2, .int sp_32, .long re])), (gco, .inr (2, [.ref cop, .ref ca, .ref cb, .ref cplace, .ref cnext, .ref cneeded, .int cz, .int ct])), (cplace, .inl (ckplace, 3000, .inl cgplace))]) hP hD [3, 0, 2] [1, 4] rfl rfl (by decide) (by decide) hk1 hFc hP1 hD1
      have hK := (hK.sub (tys' := [(ckop, .int), (sk1, .long)]) [0, 2] rfl).app hK1
      generalize H1 = H at hP hS ⊢
      have hP : va_P (dC, dI) vwCl [(cop, .inl (ckop, 3000, .inl cgop)), (sk, .inl (sk1, 22424, .inr (.inl gs))), (h0, .inr (5, [.ref mp, .ref gco, .ref mce, .int mcn, .ref sk, .int tp_6, .int ba, .ref kb, .ref kk, .ref ks, .int on, .ref sh, .int sn, .int mat, .int alw, .int st, .int mo, .int 2, .int sp_32, .long re])), (gco, .inr (2, [.ref cop, .ref ca, .ref cb, .ref cplace, .ref cnext, .ref cneeded, .int cz, .int ct])), (cplace, .inl (ckplace, 3000, .inl cgplace))] H := hP
      have hD : va_D A [(cop, .inl (ckop, 3000, .inl cgop)), (sk, .inl (sk1, 22424, .inr (.inl gs))), (h0, .inr (5, [.ref mp, .ref gco, .ref mce, .int mcn, .ref sk, .int tp_6, .int ba, .ref kb, .ref kk, .ref ks, .int on, .ref sh, .int sn, .int mat, .int alw, .int st, .int mo, .int 2, .int sp_32, .long re])), (gco, .inr (2, [.ref cop, .ref ca, .ref cb, .ref cplace, .ref cnext, .ref cneeded, .int cz, .int ct])), (cplace, .inl (ckplace, 3000, .inl cgplace))] := hD
      have hK : va_K (dC, dI) vwCl [(ckop, .int), (sk1, .long), (ckplace, .int)] s := hK
      have hq_33 := hw
      have h92 : Int32.toInt 2 = 2 := by decide
      have hP9 := hP.sub (ws' := [(h0, .inr (5, [.ref mp, .ref gco, .ref mce, .int mcn, .ref sk, .int tp_6, .int ba, .ref kb, .ref kk, .ref ks, .int on, .ref sh, .int sn, .int mat, .int alw, .int st, .int mo, .int 2, .int sp_32, .long re])), (sk, .inl (sk1, 22424, .inr (.inl gs))), (gco, .inr (2, [.ref cop, .ref ca, .ref cb, .ref cplace, .ref cnext, .ref cneeded, .int cz, .int ct])), (cop, .inl (ckop, 3000, .inl cgop)), (cplace, .inl (ckplace, 3000, .inl cgplace))]) [2, 1, 3, 0, 4] rfl
      have hD9 := hD.sub (ws' := [(h0, .inr (5, [.ref mp, .ref gco, .ref mce, .int mcn, .ref sk, .int tp_6, .int ba, .ref kb, .ref kk, .ref ks, .int on, .ref sh, .int sn, .int mat, .int alw, .int st, .int mo, .int 2, .int sp_32, .long re])), (sk, .inl (sk1, 22424, .inr (.inl gs))), (gco, .inr (2, [.ref cop, .ref ca, .ref cb, .ref cplace, .ref cnext, .ref cneeded, .int cz, .int ct])), (cop, .inl (ckop, 3000, .inl cgop)), (cplace, .inl (ckplace, 3000, .inl cgplace))]) [2, 1, 3, 0, 4] (by decide) rfl
      have hK9 := hK.sub (tys' := [(sk1, .long), (ckop, .int), (ckplace, .int)]) [1, 0, 2] rfl
      exact W.vret hx hb hr (fun t ht hW => ⟨⟨(2, sp_32, tp_6, gs), rfl, ⟨(Or.inl ⟨by omega, hno9⟩), hq_33⟩, by rw [ht]; exact hP9, va_K.moved hW.alike hK9, hD9⟩, hS.F ht⟩) hS.2.2 dX5_sign_32
