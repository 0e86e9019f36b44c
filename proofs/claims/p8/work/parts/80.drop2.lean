theorem wi_1145 : Cond.code yX1_lower cX1_lower 5 (some .int) ∈ zw := zw_in (List.mem_of_getElem? (i := 1145) (by decide +kernel)) (by decide +kernel)
theorem wi_1142 : Cond.methodLink RX1 88 yX1_lower ∈ zw := zw_in (List.mem_of_getElem? (i := 1142) (by decide +kernel)) (by decide +kernel)
theorem wi_1144 : Cond.instanceMethod yX1_lower ∈ zw := zw_in (List.mem_of_getElem? (i := 1144) (by decide +kernel)) (by decide +kernel)
theorem wi_45 : Cond.selects RX1 yX1_lower yX1_lower ∈ zw := zw_in (List.mem_of_getElem? (i := 45) (by decide +kernel)) (by decide +kernel)
theorem wi_1153 : Cond.code yX1_width cX1_width 2 (some .int) ∈ zw := zw_in (List.mem_of_getElem? (i := 1153) (by decide +kernel)) (by decide +kernel)
theorem wi_1150 : Cond.methodLink RX1 85 yX1_width ∈ zw := zw_in (List.mem_of_getElem? (i := 1150) (by decide +kernel)) (by decide +kernel)
theorem wi_1151 : Cond.instanceMethod yX1_width ∈ zw := zw_in (List.mem_of_getElem? (i := 1151) (by decide +kernel)) (by decide +kernel)
theorem wi_1152 : Cond.selects RX1 yX1_width yX1_width ∈ zw := zw_in (List.mem_of_getElem? (i := 1152) (by decide +kernel)) (by decide +kernel)
theorem wi_1162 : Cond.code yX1_free cX1_free 2 none ∈ zw := zw_in (List.mem_of_getElem? (i := 1162) (by decide +kernel)) (by decide +kernel)
theorem wi_1159 : Cond.methodLink RX1 96 yX1_free ∈ zw := zw_in (List.mem_of_getElem? (i := 1159) (by decide +kernel)) (by decide +kernel)
theorem wi_1160 : Cond.instanceMethod yX1_free ∈ zw := zw_in (List.mem_of_getElem? (i := 1160) (by decide +kernel)) (by decide +kernel)
theorem wi_1161 : Cond.selects RX1 yX1_free yX1_free ∈ zw := zw_in (List.mem_of_getElem? (i := 1161) (by decide +kernel)) (by decide +kernel)
theorem wi_1158 : Cond.code yX1_field cX1_field 3 (some .long) ∈ zw := zw_in (List.mem_of_getElem? (i := 1158) (by decide +kernel)) (by decide +kernel)
theorem wi_1155 : Cond.methodLink RX1 92 yX1_field ∈ zw := zw_in (List.mem_of_getElem? (i := 1155) (by decide +kernel)) (by decide +kernel)
theorem wi_1156 : Cond.instanceMethod yX1_field ∈ zw := zw_in (List.mem_of_getElem? (i := 1156) (by decide +kernel)) (by decide +kernel)
theorem wi_1157 : Cond.selects RX1 yX1_field yX1_field ∈ zw := zw_in (List.mem_of_getElem? (i := 1157) (by decide +kernel)) (by decide +kernel)
theorem dX1_drop_0 : decode cX1_drop 0 = .ok (.aload_n 0, 1) := by decide +kernel
theorem dX1_drop_1 : decode cX1_drop 1 = .ok (.lload_n 1, 1) := by decide +kernel
theorem dX1_drop_2 : decode cX1_drop 2 = .ok (.iconst (-1), 1) := by decide +kernel
theorem dX1_drop_3 : decode cX1_drop 3 = .ok (.invokevirtual 88, 3) := by decide +kernel
theorem dX1_drop_6 : decode cX1_drop 6 = .ok (.istore_n 3, 1) := by decide +kernel
theorem dX1_drop_7 : decode cX1_drop 7 = .ok (.iconst 0, 1) := by decide +kernel
theorem dX1_drop_8 : decode cX1_drop 8 = .ok (.istore 4, 2) := by decide +kernel
theorem dX1_drop_10 : decode cX1_drop 10 = .ok (.iload 4, 2) := by decide +kernel
theorem dX1_drop_12 : decode cX1_drop 12 = .ok (.aload_n 0, 1) := by decide +kernel
theorem dX1_drop_13 : decode cX1_drop 13 = .ok (.getfield 45, 3) := by decide +kernel
theorem dX1_drop_16 : decode cX1_drop 16 = .ok (.arraylength, 1) := by decide +kernel
theorem dX1_drop_17 : decode cX1_drop 17 = .ok (.if_icmp .ge 65, 3) := by decide +kernel
theorem dX1_drop_20 : decode cX1_drop 20 = .ok (.iload_n 3, 1) := by decide +kernel
theorem dX1_drop_21 : decode cX1_drop 21 = .ok (.iconst (-1), 1) := by decide +kernel
theorem dX1_drop_22 : decode cX1_drop 22 = .ok (.if_icmp .eq 60, 3) := by decide +kernel
theorem dX1_drop_25 : decode cX1_drop 25 = .ok (.iload_n 3, 1) := by decide +kernel
theorem dX1_drop_26 : decode cX1_drop 26 = .ok (.istore 5, 2) := by decide +kernel
theorem dX1_drop_28 : decode cX1_drop 28 = .ok (.aload_n 0, 1) := by decide +kernel
theorem dX1_drop_29 : decode cX1_drop 29 = .ok (.getfield 49, 3) := by decide +kernel
theorem dX1_drop_32 : decode cX1_drop 32 = .ok (.iload 5, 2) := by decide +kernel
theorem dX1_drop_34 : decode cX1_drop 34 = .ok (.iaload, 1) := by decide +kernel
theorem dX1_drop_35 : decode cX1_drop 35 = .ok (.istore_n 3, 1) := by decide +kernel
theorem dX1_drop_36 : decode cX1_drop 36 = .ok (.iconst 0, 1) := by decide +kernel
theorem dX1_drop_37 : decode cX1_drop 37 = .ok (.istore 6, 2) := by decide +kernel
theorem dX1_drop_39 : decode cX1_drop 39 = .ok (.iload 6, 2) := by decide +kernel
theorem dX1_drop_41 : decode cX1_drop 41 = .ok (.aload_n 0, 1) := by decide +kernel
theorem dX1_drop_42 : decode cX1_drop 42 = .ok (.iload 5, 2) := by decide +kernel
theorem dX1_drop_44 : decode cX1_drop 44 = .ok (.invokevirtual 85, 3) := by decide +kernel
theorem dX1_drop_47 : decode cX1_drop 47 = .ok (.if_icmp .ge 23, 3) := by decide +kernel
theorem dX1_drop_50 : decode cX1_drop 50 = .ok (.aload_n 0, 1) := by decide +kernel
theorem dX1_drop_51 : decode cX1_drop 51 = .ok (.aload_n 0, 1) := by decide +kernel
theorem dX1_drop_52 : decode cX1_drop 52 = .ok (.iload 5, 2) := by decide +kernel
theorem dX1_drop_54 : decode cX1_drop 54 = .ok (.iload 6, 2) := by decide +kernel
theorem dX1_drop_56 : decode cX1_drop 56 = .ok (.invokevirtual 92, 3) := by decide +kernel
theorem dX1_drop_59 : decode cX1_drop 59 = .ok (.iload_n 3, 1) := by decide +kernel
theorem dX1_drop_60 : decode cX1_drop 60 = .ok (.invokevirtual 88, 3) := by decide +kernel
theorem dX1_drop_63 : decode cX1_drop 63 = .ok (.istore_n 3, 1) := by decide +kernel
theorem dX1_drop_64 : decode cX1_drop 64 = .ok (.iinc 6 1, 3) := by decide +kernel
theorem dX1_drop_67 : decode cX1_drop 67 = .ok (.goto (-28), 3) := by decide +kernel
theorem dX1_drop_70 : decode cX1_drop 70 = .ok (.aload_n 0, 1) := by decide +kernel
theorem dX1_drop_71 : decode cX1_drop 71 = .ok (.iload 5, 2) := by decide +kernel
theorem dX1_drop_73 : decode cX1_drop 73 = .ok (.invokevirtual 96, 3) := by decide +kernel
theorem dX1_drop_76 : decode cX1_drop 76 = .ok (.iinc 4 1, 3) := by decide +kernel
theorem dX1_drop_79 : decode cX1_drop 79 = .ok (.goto (-69), 3) := by decide +kernel
theorem dX1_drop_82 : decode cX1_drop 82 = .ok (.return_, 1) := by decide +kernel
set_option maxHeartbeats 4000000 in
set_option maxRecDepth 100000 in
theorem c_X1_drop_x (l : Launch) (dC : Nat → ClassId) (dI : Nat → Nat → Nat) (aK aV : Nat → Nat) (h0 : Nat) (ek : Nat) (ec : Nat) (ef : Nat) (cki : Nat) (e1 : ClassId) (e2 : ClassId) (e3 : ClassId) (e_limit : Int32) (e_fresh : Int32) (e_firstFree : Int32) (e_held : Int32) (e_mostHeld : Int32) (e_made : Int32) (e_reused : Int32) (e_freed : Int32) (e_doubled : Int32) (gk : Nat → Int32) (gc : Nat → Int32) (gv : Nat → Int64) (kw : Nat) (kf : Nat) (k1 : ClassId) (k2 : ClassId) (z : Int32) (gw : Nat → Int64) (gf : Nat → Int32) (va : Int64) (lv : Nat → Bool) (R : Nat → Int) (R2 : Nat → Int) (FL : List Nat) (sz : Nat) (hz0 : 0 ≤ z.toInt) (hz1 : z.toInt ≤ 20) (hgf : zx 4 gf) (hcs : zCS (zwd z gf gk) gc gv e_fresh e_firstFree e_held e_doubled lv R FL [] (-1)) (hgd : zhs va = 2 → 0 ≤ (va.toInt32).toInt) (hR : ∀ c, R c = R2 c + zr va c) (h2 : ∀ c, 0 ≤ R2 c) (hdb : e_doubled.toInt < 1000000) : Met l yX1_drop (Cond.code yX1_drop cX1_drop 7 none :: zw) ({ frames := 14, cells := 0, slots := 0, locals := 500 }) (va_Pc [.ref h0, .long va] (zP dC dI aK aV sz [(e1, .int), (e2, .int), (e3, .long), (k1, .long), (k2, .int)] [(h0, .inr (1, [.ref ek, .ref ec, .ref ef, .ref cki, .int e_limit, .int e_fresh, .int e_firstFree, .int e_held, .int e_mostHeld, .int e_made, .int e_reused, .int e_freed, .int e_doubled])), (ek, .inl (e1, 400, .inl gk)), (ec, .inl (e2, 400, .inl gc)), (ef, .inl (e3, 1200, .inr (.inl gv))), (cki, .inr (4, [.ref kw, .ref kf, .int z])), (kw, .inl (k1, 20, .inr (.inl gw))), (kf, .inl (k2, 20, .inl gf))])) (va_Qv (fun u : (Nat → Int32) × Int32 × Int32 × Int32 => match u with | (gc2, ff2, he2, fd2) => (∃ lv2 FL2, zCS (zwd z gf gk) gc2 gv e_fresh ff2 he2 e_doubled lv2 R2 FL2 [] (-1) ∧ (∀ c, lv2 c = true → lv c = true) ∧ ∀ c, c ∈ FL2 → c ∈ FL ∨ lv c = true)) (fun u => match u with | (gc2, ff2, he2, fd2) => zQ dC dI (va_A [(h0, .inr (1, [.ref ek, .ref ec, .ref ef, .ref cki, .int e_limit, .int e_fresh, .int e_firstFree, .int e_held, .int e_mostHeld, .int e_made, .int e_reused, .int e_freed, .int e_doubled])), (ek, .inl (e1, 400, .inl gk)), (ec, .inl (e2, 400, .inl gc)), (ef, .inl (e3, 1200, .inr (.inl gv))), (cki, .inr (4, [.ref kw, .ref kf, .int z])), (kw, .inl (k1, 20, .inr (.inl gw))), (kf, .inl (k2, 20, .inl gf))] sz) [(e1, .int), (e2, .int), (e3, .long), (k1, .long), (k2, .int)] [(h0, .inr (1, [.ref ek, .ref ec, .ref ef, .ref cki, .int e_limit, .int e_fresh, .int ff2, .int he2, .int e_mostHeld, .int e_made, .int e_reused, .int fd2, .int e_doubled])), (ek, .inl (e1, 400, .inl gk)), (ec, .inl (e2, 400, .inl gc2)), (ef, .inl (e3, 1200, .inr (.inl gv))), (cki, .inr (4, [.ref kw, .ref kf, .int z])), (kw, .inl (k1, 20, .inr (.inl gw))), (kf, .inl (k2, 20, .inl gf))]) (va_A [(h0, .inr (1, [.ref ek, .ref ec, .ref ef, .ref cki, .int e_limit, .int e_fresh, .int e_firstFree, .int e_held, .int e_mostHeld, .int e_made, .int e_reused, .int e_freed, .int e_doubled])), (ek, .inl (e1, 400, .inl gk)), (ec, .inl (e2, 400, .inl gc)), (ef, .inl (e3, 1200, .inr (.inl gv))), (cki, .inr (4, [.ref kw, .ref kf, .int z])), (kw, .inl (k1, 20, .inr (.inl gw))), (kf, .inl (k2, 20, .inl gf))] sz)) 0 0 (va_A [(h0, .inr (1, [.ref ek, .ref ec, .ref ef, .ref cki, .int e_limit, .int e_fresh, .int e_firstFree, .int e_held, .int e_mostHeld, .int e_made, .int e_reused, .int e_freed, .int e_doubled])), (ek, .inl (e1, 400, .inl gk)), (ec, .inl (e2, 400, .inl gc)), (ef, .inl (e3, 1200, .inr (.inl gv))), (cki, .inr (4, [.ref kw, .ref kf, .int z])), (kw, .inl (k1, 20, .inr (.inl gw))), (kf, .inl (k2, 20, .inl gf))] sz) := by
  refine Met.ofW (cc := cX1_drop) (maxL := 7) (ret := none) (by decide) rfl ?_
  intro p e s m args below meth c s₁ B hml hv
  obtain ⟨rfl, hsz, hP, hK, hD0, hN, hT⟩ := hv
  have hx := B.exec
  have hb := B.bytes
  have hr := B.returns
  have hts := atoms_spec (ws := Cond.code yX1_drop cX1_drop 7 none :: zw) B.pre
  have hA : ∀ w ∈ zw, w.before _ s = true := fun w h => hts w (List.mem_cons_of_mem _ h)
  have hown : s.vm.findClass RX1 = some m.cls := findClass_of_methodNamed B.named
  have hlocks := B.notSynchronized
  subst hsz
  have hD := hD0.self (sz := s.heap.size)
  generalize hAe : va_A [(h0, .inr (1, [.ref ek, .ref ec, .ref ef, .ref cki, .int e_limit, .int e_fresh, .int e_firstFree, .int e_held, .int e_mostHeld, .int e_made, .int e_reused, .int e_freed, .int e_doubled])), (ek, .inl (e1, 400, .inl gk)), (ec, .inl (e2, 400, .inl gc)), (ef, .inl (e3, 1200, .inr (.inl gv))), (cki, .inr (4, [.ref kw, .ref kf, .int z])), (kw, .inl (k1, 20, .inr (.inl gw))), (kf, .inl (k2, 20, .inl gf))] s.heap.size = A at hD hT ⊢
  have hAA : ∀ q : Nat, s.heap.size ≤ q → A q := fun q h => by rw [← hAe]; exact Or.inr h
  have hS : va_S A s.heap s.heap [] := va_S.rf
  have hl := lv_entry ([.ref h0, .long va]) (n := 7) (Nat.le_of_ble_eq_true rfl)
  rw [lg_entry_eq]
  generalize (lg_sl ([.ref h0, .long va]) ++ List.replicate (7 - (lg_sl ([.ref h0, .long va])).length) Slot.unset).toArray = ls at hl ⊢
  have hl : lv_has ls 7 [(0, .ref h0), (1, .long va)] := hl
  refine lv_aload_n hx hb dX1_drop_0 rfl (lv_at hl 0 rfl) ?_
  refine lv_lload_n hx hb dX1_drop_1 rfl (lv_at hl 1 rfl) ?_
  refine lv_iconst (v := (-1)) hx hb dX1_drop_2 (by decide) ?_
  have hPc := hP.sub (ws' := [(h0, .inr (1, [.ref ek, .ref ec, .ref ef, .ref cki, .int e_limit, .int e_fresh, .int e_firstFree, .int e_held, .int e_mostHeld, .int e_made, .int e_reused, .int e_freed, .int e_doubled])), (ek, .inl (e1, 400, .inl gk)), (ec, .inl (e2, 400, .inl gc)), (ef, .inl (e3, 1200, .inr (.inl gv)))]) [0, 1, 2, 3] rfl
  have hDc := hD.sub (ws' := [(h0, .inr (1, [.ref ek, .ref ec, .ref ef, .ref cki, .int e_limit, .int e_fresh, .int e_firstFree, .int e_held, .int e_mostHeld, .int e_made, .int e_reused, .int e_freed, .int e_doubled])), (ek, .inl (e1, 400, .inl gk)), (ec, .inl (e2, 400, .inl gc)), (ef, .inl (e3, 1200, .inr (.inl gv)))]) [0, 1, 2, 3] (by decide) rfl
  have hKc := hK.sub (tys' := [(e1, .int), (e2, .int), (e3, .long)]) [0, 1, 2] rfl
  have hFc := va_free (wc := [(h0, .inr (1, [.ref ek, .ref ec, .ref ef, .ref cki, .int e_limit, .int e_fresh, .int e_firstFree, .int e_held, .int e_mostHeld, .int e_made, .int e_reused, .int e_freed, .int e_doubled])), (ek, .inl (e1, 400, .inl gk)), (ec, .inl (e2, 400, .inl gc)), (ef, .inl (e3, 1200, .inr (.inl gv)))]) hD hS hAA [0, 1, 2, 3] rfl
  refine va_calli (va_runV (As := [.long va, .int (-1)]) (rest := []) ⟨hx, hb, hml, hown, hA⟩ (c_X1_lower_x l dC dI aK aV h0 ek ec ef cki e1 e2 e3 e_limit e_fresh e_firstFree e_held e_mostHeld e_made e_reused e_freed e_doubled gk gc gv va (-1) (zwd z gf gk) lv R FL ([]) R2 s.heap.size hcs hgd hR h2 (by omega)) (cwV 2 hA (zw_V wi_1142 wi_1144 wi_45 wi_140 (zw_good wi_1145)) rfl rfl rfl (by decide +kernel) ⟨(Nat.le_of_ble_eq_true rfl), (Nat.le_of_ble_eq_true rfl)⟩) ⟨zP_blind, va_recv hKc hPc (ci := 1) (q0 := 0) rfl rfl, zz_pre hKc hPc hDc hN hT hS hFc⟩ rfl rfl hl.1 rfl (lv_room (Nat.le_of_ble_eq_true rfl)) dX1_drop_3 ⟨(Nat.le_of_ble_eq_true rfl), (Nat.le_of_ble_eq_true rfl)⟩) hS (fun q _ h => hFc q h) hFc (fun r_1 u t H1 locs ht hvm hw hB hz1 hk1 hS => ?_)
  obtain ⟨gc_2, rfl⟩ : ∃ z, z = u := ⟨_, rfl⟩
  obtain ⟨hP1, hK1, hD1⟩ := hB
  rw [ht] at hP1
  have hK1 := va_K.moved hvm.symm hK1
  obtain ⟨hP, hD⟩ := va_join (wr := [(cki, .inr (4, [.ref kw, .ref kf, .int z])), (kw, .inl (k1, 20, .inr (.inl gw))), (kf, .inl (k2, 20, .inl gf))]) (w1 := [(h0, .inr (1, [.ref ek, .ref ec, .ref ef, .ref cki, .int e_limit, .int e_fresh, .int e_firstFree, .int e_held, .int e_mostHeld, .int e_made, .int e_reused, .int e_freed, .int e_doubled])), (ek, .inl (e1, 400, .inl gk)), (ec, .inl (e2, 400, .inl gc_2)), (ef, .inl (e3, 1200, .inr (.inl gv)))]) hP hD [0, 1, 2, 3] [4, 5, 6] rfl rfl (by decide) (by decide) hk1 hFc hP1 hD1
  have hK := (hK.sub (tys' := [(k1, .long), (k2, .int)]) [3, 4] rfl).app hK1
  generalize H1 = H at hP hS ⊢
  have hP : va_P (dC, dI) vwCl [(cki, .inr (4, [.ref kw, .ref kf, .int z])), (kw, .inl (k1, 20, .inr (.inl gw))), (kf, .inl (k2, 20, .inl gf)), (h0, .inr (1, [.ref ek, .ref ec, .ref ef, .ref cki, .int e_limit, .int e_fresh, .int e_firstFree, .int e_held, .int e_mostHeld, .int e_made, .int e_reused, .int e_freed, .int e_doubled])), (ek, .inl (e1, 400, .inl gk)), (ec, .inl (e2, 400, .inl gc_2)), (ef, .inl (e3, 1200, .inr (.inl gv)))] H := hP
  have hD : va_D A [(cki, .inr (4, [.ref kw, .ref kf, .int z])), (kw, .inl (k1, 20, .inr (.inl gw))), (kf, .inl (k2, 20, .inl gf)), (h0, .inr (1, [.ref ek, .ref ec, .ref ef, .ref cki, .int e_limit, .int e_fresh, .int e_firstFree, .int e_held, .int e_mostHeld, .int e_made, .int e_reused, .int e_freed, .int e_doubled])), (ek, .inl (e1, 400, .inl gk)), (ec, .inl (e2, 400, .inl gc_2)), (ef, .inl (e3, 1200, .inr (.inl gv)))] := hD
  have hK : va_K (dC, dI) vwCl [(k1, .long), (k2, .int), (e1, .int), (e2, .int), (e3, .long)] s := hK
  have hw_r_1 := hw
  try dsimp only at hw_r_1
  have hq_3 := hw
  obtain ⟨lv1, DL1, hz1, hl1, hd1⟩ := hq_3
  refine lv_istore_n (lv' := [(3, .int r_1), (0, .ref h0), (1, .long va)]) hx hb dX1_drop_6 rfl hl (by decide) rfl (fun ls hl => ?_)
  refine lv_iconst (v := 0) hx hb dX1_drop_7 (by decide) ?_
  refine lv_istore (lv' := [(4, .int 0), (3, .int r_1), (0, .ref h0), (1, .long va)]) hx hb dX1_drop_8 hl (by decide) rfl (fun ls hl => ?_)
  have loop_10 : ∀ (n9 : Nat) (dk : Int32) (i : Int32) (lff : Int32) (lhe : Int32) (lfd : Int32) (lgc : Nat → Int32) (H : Heap) (locs : List Loc) (ls : Array Slot), (400 - i.toInt + 1).toNat ≤ n9 → 0 ≤ i.toInt → i.toInt ≤ 400 → (∃ lv2 FL2 DL2, zCS (zwd z gf gk) lgc gv e_fresh lff lhe e_doubled lv2 R2 FL2 DL2 dk ∧ (∀ c, lv2 c = true → lv c = true) ∧ (∀ c, c ∈ FL2 → c ∈ FL ∨ lv c = true) ∧ ∀ c, c ∈ DL2 → lv c = true) → va_P (dC, dI) vwCl [(cki, .inr (4, [.ref kw, .ref kf, .int z])), (kw, .inl (k1, 20, .inr (.inl gw))), (kf, .inl (k2, 20, .inl gf)), (h0, .inr (1, [.ref ek, .ref ec, .ref ef, .ref cki, .int e_limit, .int e_fresh, .int lff, .int lhe, .int e_mostHeld, .int e_made, .int e_reused, .int lfd, .int e_doubled])), (ek, .inl (e1, 400, .inl gk)), (ec, .inl (e2, 400, .inl lgc)), (ef, .inl (e3, 1200, .inr (.inl gv)))] H → va_D A [(cki, .inr (4, [.ref kw, .ref kf, .int z])), (kw, .inl (k1, 20, .inr (.inl gw))), (kf, .inl (k2, 20, .inl gf)), (h0, .inr (1, [.ref ek, .ref ec, .ref ef, .ref cki, .int e_limit, .int e_fresh, .int lff, .int lhe, .int e_mostHeld, .int e_made, .int e_reused, .int lfd, .int e_doubled])), (ek, .inl (e1, 400, .inl gk)), (ec, .inl (e2, 400, .inl lgc)), (ef, .inl (e3, 1200, .inr (.inl gv)))] → va_S A s.heap H locs → lv_has ls 7 [(4, .int i), (3, .int dk), (0, .ref h0), (1, .long va)] → W p l e (headSpec (Cond.code yX1_drop cX1_drop 7 none :: zw) ({ frames := 14, cells := 0, slots := 0, locals := 500 })).room s m #[.ref h0, .long va] below meth c H locs 0 0 (MQ below (va_Qv (fun u : (Nat → Int32) × Int32 × Int32 × Int32 => match u with | (gc2, ff2, he2, fd2) => (∃ lv2 FL2, zCS (zwd z gf gk) gc2 gv e_fresh ff2 he2 e_doubled lv2 R2 FL2 [] (-1) ∧ (∀ c, lv2 c = true → lv c = true) ∧ ∀ c, c ∈ FL2 → c ∈ FL ∨ lv c = true)) (fun u => match u with | (gc2, ff2, he2, fd2) => zQ dC dI A [(e1, .int), (e2, .int), (e3, .long), (k1, .long), (k2, .int)] [(h0, .inr (1, [.ref ek, .ref ec, .ref ef, .ref cki, .int e_limit, .int e_fresh, .int ff2, .int he2, .int e_mostHeld, .int e_made, .int e_reused, .int fd2, .int e_doubled])), (ek, .inl (e1, 400, .inl gk)), (ec, .inl (e2, 400, .inl gc2)), (ef, .inl (e3, 1200, .inr (.inl gv))), (cki, .inr (4, [.ref kw, .ref kf, .int z])), (kw, .inl (k1, 20, .inr (.inl gw))), (kf, .inl (k2, 20, .inl gf))]) A) #[.ref h0, .long va] s 0 0 A) (F0 m 10 ls []) := by
    intro n9
    induction n9 with
    | zero => intro dk i lff lhe lfd lgc H locs ls hm hi0 hi1 hlc; exfalso; omega
    | succ n9 ih =>
      intro dk i lff lhe lfd lgc H locs ls hm hi0 hi1 hlc hP hD hS hl
      refine lv_iload hx hb dX1_drop_10 (lv_at hl 0 rfl) ?_
      refine lv_aload_n hx hb dX1_drop_12 rfl (lv_at hl 2 rfl) ?_
      refine va_get (D := (dC, dI)) (ci := 1) (v := .ref ek) (C := RX1) (T := TX1) (N := 13) hx hb hA zin_X1 hown hK hP 3 rfl rfl 0 (by decide) (hA _ wi_435) (fun _ h9 => h9) rfl dX1_drop_13 ?_
      refine va_alen (v := 400) hx hb hK hP 4 2 rfl rfl rfl dX1_drop_16 ?_
      refine lv_icmp_ge (tgt := 82) hx hb dX1_drop_17 (by decide) (fun c_4 => ?_) (fun c_4 => ?_)
      · have ic_4 : 400 ≤ i.toInt := zi_le c_4
        have hP9 := hP.sub (ws' := [(h0, .inr (1, [.ref ek, .ref ec, .ref ef, .ref cki, .int e_limit, .int e_fresh, .int lff, .int lhe, .int e_mostHeld, .int e_made, .int e_reused, .int lfd, .int e_doubled])), (ek, .inl (e1, 400, .inl gk)), (ec, .inl (e2, 400, .inl lgc)), (ef, .inl (e3, 1200, .inr (.inl gv))), (cki, .inr (4, [.ref kw, .ref kf, .int z])), (kw, .inl (k1, 20, .inr (.inl gw))), (kf, .inl (k2, 20, .inl gf))]) [3, 4, 5, 6, 0, 1, 2] rfl
        have hD9 := hD.sub (ws' := [(h0, .inr (1, [.ref ek, .ref ec, .ref ef, .ref cki, .int e_limit, .int e_fresh, .int lff, .int lhe, .int e_mostHeld, .int e_made, .int e_reused, .int lfd, .int e_doubled])), (ek, .inl (e1, 400, .inl gk)), (ec, .inl (e2, 400, .inl lgc)), (ef, .inl (e3, 1200, .inr (.inl gv))), (cki, .inr (4, [.ref kw, .ref kf, .int z])), (kw, .inl (k1, 20, .inr (.inl gw))), (kf, .inl (k2, 20, .inl gf))]) [3, 4, 5, 6, 0, 1, 2] (by decide) rfl
        have hK9 := hK.sub (tys' := [(e1, .int), (e2, .int), (e3, .long), (k1, .long), (k2, .int)]) [2, 3, 4, 0, 1] rfl
        exact W.vret hx hb hr (fun t ht hW => ⟨⟨(lgc, lff, lhe, lfd), rfl, (by obtain ⟨lv2, FL2, DL2, hz2, hl2, hf2, hd2⟩ := hlc; exact ⟨lv2, FL2, zCS_leak hz2, hl2, hf2⟩), by rw [ht]; exact hP9, va_K.moved hW.alike hK9, hD9⟩, hS.F ht⟩) hS.2.2 dX1_drop_82
      · have ic_4 : i.toInt < 400 := zi_nle c_4
        refine lv_iload_n hx hb dX1_drop_20 rfl (lv_at hl 1 rfl) ?_
        refine lv_iconst (v := (-1)) hx hb dX1_drop_21 (by decide) ?_
        refine lv_icmp_eq (tgt := 82) hx hb dX1_drop_22 (by decide) (fun c_5 => ?_) (fun c_5 => ?_)
        · have ic_5 : dk.toInt = (-1) := zi_eq c_5
          have hP9 := hP.sub (ws' := [(h0, .inr (1, [.ref ek, .ref ec, .ref ef, .ref cki, .int e_limit, .int e_fresh, .int lff, .int lhe, .int e_mostHeld, .int e_made, .int e_reused, .int lfd, .int e_doubled])), (ek, .inl (e1, 400, .inl gk)), (ec, .inl (e2, 400, .inl lgc)), (ef, .inl (e3, 1200, .inr (.inl gv))), (cki, .inr (4, [.ref kw, .ref kf, .int z])), (kw, .inl (k1, 20, .inr (.inl gw))), (kf, .inl (k2, 20, .inl gf))]) [3, 4, 5, 6, 0, 1, 2] rfl
          have hD9 := hD.sub (ws' := [(h0, .inr (1, [.ref ek, .ref ec, .ref ef, .ref cki, .int e_limit, .int e_fresh, .int lff, .int lhe, .int e_mostHeld, .int e_made, .int e_reused, .int lfd, .int e_doubled])), (ek, .inl (e1, 400, .inl gk)), (ec, .inl (e2, 400, .inl lgc)), (ef, .inl (e3, 1200, .inr (.inl gv))), (cki, .inr (4, [.ref kw, .ref kf, .int z])), (kw, .inl (k1, 20, .inr (.inl gw))), (kf, .inl (k2, 20, .inl gf))]) [3, 4, 5, 6, 0, 1, 2] (by decide) rfl
          have hK9 := hK.sub (tys' := [(e1, .int), (e2, .int), (e3, .long), (k1, .long), (k2, .int)]) [2, 3, 4, 0, 1] rfl
          exact W.vret hx hb hr (fun t ht hW => ⟨⟨(lgc, lff, lhe, lfd), rfl, (by obtain ⟨lv2, FL2, DL2, hz2, hl2, hf2, hd2⟩ := hlc; exact ⟨lv2, FL2, zCS_leak hz2, hl2, hf2⟩), by rw [ht]; exact hP9, va_K.moved hW.alike hK9, hD9⟩, hS.F ht⟩) hS.2.2 dX1_drop_82
        · have ic_5 : dk.toInt ≠ (-1) := zi_ne c_5
          obtain ⟨lv2, FL2, DL2, hz2, hl2, hf2, hd2⟩ := hlc
          obtain ⟨p1, p2, p3, p4, p5, DL3, hz3, p6, p7⟩ := zCS_pop hz2 (by omega)
          have hf4 := hz2.2.2.1
          refine lv_iload_n hx hb dX1_drop_25 rfl (lv_at hl 1 rfl) ?_
          refine lv_istore (lv' := [(5, .int dk), (4, .int i), (3, .int dk), (0, .ref h0), (1, .long va)]) hx hb dX1_drop_26 hl (by decide) rfl (fun ls hl => ?_)
          refine lv_aload_n hx hb dX1_drop_28 rfl (lv_at hl 3 rfl) ?_
          refine va_get (D := (dC, dI)) (ci := 1) (v := .ref ec) (C := RX1) (T := TX1) (N := 13) hx hb hA zin_X1 hown hK hP 3 rfl rfl 1 (by decide) (hA _ wi_436) (fun _ h9 => h9) rfl dX1_drop_29 ?_
          refine lv_iload hx hb dX1_drop_32 (lv_at hl 0 rfl) ?_
          refine va_iald hx hb hK hP 5 3 rfl rfl (vp_in_iff.mpr ⟨by omega, by omega⟩) dX1_drop_34 ?_
          refine lv_topi (fun x_6 ex_6 => ?_)
          refine lv_istore_n (lv' := [(3, .int x_6), (5, .int dk), (4, .int i), (0, .ref h0), (1, .long va)]) hx hb dX1_drop_35 rfl hl (by decide) rfl (fun ls hl => ?_)
          refine lv_iconst (v := 0) hx hb dX1_drop_36 (by decide) ?_
          refine lv_istore (lv' := [(6, .int 0), (3, .int x_6), (5, .int dk), (4, .int i), (0, .ref h0), (1, .long va)]) hx hb dX1_drop_37 hl (by decide) rfl (fun ls hl => ?_)
          have loop_39 : ∀ (n9 : Nat) (dj : Int32) (k : Int32) (lg2 : Nat → Int32) (H : Heap) (locs : List Loc) (ls : Array Slot), (3 - k.toInt + 1).toNat ≤ n9 → 0 ≤ k.toInt → k.toInt ≤ 3 → (∃ lv4 DL4, zCS (zwd z gf gk) lg2 gv e_fresh lff lhe e_doubled lv4 (fun c => R2 c + zrm ((zwd z gf gk) (Int32.toNatClampNeg dk)) (Int32.toNatClampNeg k) (fun j => zr (gv (3 * Int32.toNatClampNeg dk + j)) c)) FL2 DL4 dj ∧ lv4 (Int32.toNatClampNeg dk) = false ∧ Int32.toNatClampNeg dk ∉ FL2 ++ DL4 ∧ (∀ c, lv4 c = true → lv2 c = true) ∧ ∀ c, c ∈ DL4 → c ∈ DL2 ∨ lv2 c = true) → va_P (dC, dI) vwCl [(cki, .inr (4, [.ref kw, .ref kf, .int z])), (kw, .inl (k1, 20, .inr (.inl gw))), (kf, .inl (k2, 20, .inl gf)), (h0, .inr (1, [.ref ek, .ref ec, .ref ef, .ref cki, .int e_limit, .int e_fresh, .int lff, .int lhe, .int e_mostHeld, .int e_made, .int e_reused, .int lfd, .int e_doubled])), (ek, .inl (e1, 400, .inl gk)), (ec, .inl (e2, 400, .inl lg2)), (ef, .inl (e3, 1200, .inr (.inl gv)))] H → va_D A [(cki, .inr (4, [.ref kw, .ref kf, .int z])), (kw, .inl (k1, 20, .inr (.inl gw))), (kf, .inl (k2, 20, .inl gf)), (h0, .inr (1, [.ref ek, .ref ec, .ref ef, .ref cki, .int e_limit, .int e_fresh, .int lff, .int lhe, .int e_mostHeld, .int e_made, .int e_reused, .int lfd, .int e_doubled])), (ek, .inl (e1, 400, .inl gk)), (ec, .inl (e2, 400, .inl lg2)), (ef, .inl (e3, 1200, .inr (.inl gv)))] → va_S A s.heap H locs → lv_has ls 7 [(6, .int k), (3, .int dj), (5, .int dk), (4, .int i), (0, .ref h0), (1, .long va)] → W p l e (headSpec (Cond.code yX1_drop cX1_drop 7 none :: zw) ({ frames := 14, cells := 0, slots := 0, locals := 500 })).room s m #[.ref h0, .long va] below meth c H locs 0 0 (MQ below (va_Qv (fun u : (Nat → Int32) × Int32 × Int32 × Int32 => match u with | (gc2, ff2, he2, fd2) => (∃ lv2 FL2, zCS (zwd z gf gk) gc2 gv e_fresh ff2 he2 e_doubled lv2 R2 FL2 [] (-1) ∧ (∀ c, lv2 c = true → lv c = true) ∧ ∀ c, c ∈ FL2 → c ∈ FL ∨ lv c = true)) (fun u => match u with | (gc2, ff2, he2, fd2) => zQ dC dI A [(e1, .int), (e2, .int), (e3, .long), (k1, .long), (k2, .int)] [(h0, .inr (1, [.ref ek, .ref ec, .ref ef, .ref cki, .int e_limit, .int e_fresh, .int ff2, .int he2, .int e_mostHeld, .int e_made, .int e_reused, .int fd2, .int e_doubled])), (ek, .inl (e1, 400, .inl gk)), (ec, .inl (e2, 400, .inl gc2)), (ef, .inl (e3, 1200, .inr (.inl gv))), (cki, .inr (4, [.ref kw, .ref kf, .int z])), (kw, .inl (k1, 20, .inr (.inl gw))), (kf, .inl (k2, 20, .inl gf))]) A) #[.ref h0, .long va] s 0 0 A) (F0 m 39 ls []) := by
            intro n9
            induction n9 with
            | zero => intro dj k lg2 H locs ls hm hk0 hk1 hic; exfalso; omega
            | succ n9 ih_39 =>
              intro dj k lg2 H locs ls hm hk0 hk1 hic hP hD hS hl
              obtain ⟨lv4, DL4, hz4, q2, q3, q4, q5⟩ := hic
              refine lv_iload hx hb dX1_drop_39 (lv_at hl 0 rfl) ?_
              refine lv_aload_n hx hb dX1_drop_41 rfl (lv_at hl 4 rfl) ?_
              refine lv_iload hx hb dX1_drop_42 (lv_at hl 2 rfl) ?_
              have hPc := hP.sub (ws' := [(h0, .inr (1, [.ref ek, .ref ec, .ref ef, .ref cki, .int e_limit, .int e_fresh, .int lff, .int lhe, .int e_mostHeld, .int e_made, .int e_reused, .int lfd, .int e_doubled])), (ek, .inl (e1, 400, .inl gk)), (ec, .inl (e2, 400, .inl lg2)), (ef, .inl (e3, 1200, .inr (.inl gv))), (cki, .inr (4, [.ref kw, .ref kf, .int z])), (kw, .inl (k1, 20, .inr (.inl gw))), (kf, .inl (k2, 20, .inl gf))]) [3, 4, 5, 6, 0, 1, 2] rfl
              have hDc := hD.sub (ws' := [(h0, .inr (1, [.ref ek, .ref ec, .ref ef, .ref cki, .int e_limit, .int e_fresh, .int lff, .int lhe, .int e_mostHeld, .int e_made, .int e_reused, .int lfd, .int e_doubled])), (ek, .inl (e1, 400, .inl gk)), (ec, .inl (e2, 400, .inl lg2)), (ef, .inl (e3, 1200, .inr (.inl gv))), (cki, .inr (4, [.ref kw, .ref kf, .int z])), (kw, .inl (k1, 20, .inr (.inl gw))), (kf, .inl (k2, 20, .inl gf))]) [3, 4, 5, 6, 0, 1, 2] (by decide) rfl
              have hKc := hK.sub (tys' := [(e1, .int), (e2, .int), (e3, .long), (k1, .long), (k2, .int)]) [2, 3, 4, 0, 1] rfl
              have hFc := va_free (wc := [(h0, .inr (1, [.ref ek, .ref ec, .ref ef, .ref cki, .int e_limit, .int e_fresh, .int lff, .int lhe, .int e_mostHeld, .int e_made, .int e_reused, .int lfd, .int e_doubled])), (ek, .inl (e1, 400, .inl gk)), (ec, .inl (e2, 400, .inl lg2)), (ef, .inl (e3, 1200, .inr (.inl gv))), (cki, .inr (4, [.ref kw, .ref kf, .int z])), (kw, .inl (k1, 20, .inr (.inl gw))), (kf, .inl (k2, 20, .inl gf))]) hD hS hAA [3, 4, 5, 6, 0, 1, 2] rfl
              refine va_calli (va_runV (As := [.int dk]) (rest := [.int k]) ⟨hx, hb, hml, hown, hA⟩ (c_X1_width_x400 l dC dI aK aV h0 ek ec ef cki e1 e2 e3 e_limit e_fresh lff lhe e_mostHeld e_made e_reused lfd e_doubled gk lg2 gv kw kf k1 k2 z gw gf dk H.size (by omega) (by omega) hgf (by omega) (by omega)) (cwV 1 hA (zw_V wi_1150 wi_1151 wi_1152 wi_140 (zw_good wi_1153)) rfl rfl rfl (by decide +kernel) ⟨(Nat.le_of_ble_eq_true rfl), (Nat.le_of_ble_eq_true rfl)⟩) ⟨zP_blind, va_recv hKc hPc (ci := 1) (q0 := 0) rfl rfl, zz_pre hKc hPc hDc hN hT hS hFc⟩ rfl rfl hl.1 rfl (lv_room (Nat.le_of_ble_eq_true rfl)) dX1_drop_44 ⟨(Nat.le_of_ble_eq_true rfl), (Nat.le_of_ble_eq_true rfl)⟩) hS (fun q _ h => hFc q h) hFc (fun r_7 u t H1 locs ht hvm hw hB hz1 hk1 hS => ?_)
              obtain ⟨hP1, hK1, hD1⟩ := hB
              rw [ht] at hP1
              have hK1 := va_K.moved hvm.symm hK1
              obtain ⟨hP, hD⟩ := va_join (wr := []) (w1 := [(h0, .inr (1, [.ref ek, .ref ec, .ref ef, .ref cki, .int e_limit, .int e_fresh, .int lff, .int lhe, .int e_mostHeld, .int e_made, .int e_reused, .int lfd, .int e_doubled])), (ek, .inl (e1, 400, .inl gk)), (ec, .inl (e2, 400, .inl lg2)), (ef, .inl (e3, 1200, .inr (.inl gv))), (cki, .inr (4, [.ref kw, .ref kf, .int z])), (kw, .inl (k1, 20, .inr (.inl gw))), (kf, .inl (k2, 20, .inl gf))]) hP hD [3, 4, 5, 6, 0, 1, 2] [] rfl rfl (by decide) (by decide) hk1 hFc hP1 hD1
              have hK := (hK.sub (tys' := []) [] rfl).app hK1
              generalize H1 = H at hP hS ⊢
              have hP : va_P (dC, dI) vwCl [(h0, .inr (1, [.ref ek, .ref ec, .ref ef, .ref cki, .int e_limit, .int e_fresh, .int lff, .int lhe, .int e_mostHeld, .int e_made, .int e_reused, .int lfd, .int e_doubled])), (ek, .inl (e1, 400, .inl gk)), (ec, .inl (e2, 400, .inl lg2)), (ef, .inl (e3, 1200, .inr (.inl gv))), (cki, .inr (4, [.ref kw, .ref kf, .int z])), (kw, .inl (k1, 20, .inr (.inl gw))), (kf, .inl (k2, 20, .inl gf))] H := hP
              have hD : va_D A [(h0, .inr (1, [.ref ek, .ref ec, .ref ef, .ref cki, .int e_limit, .int e_fresh, .int lff, .int lhe, .int e_mostHeld, .int e_made, .int e_reused, .int lfd, .int e_doubled])), (ek, .inl (e1, 400, .inl gk)), (ec, .inl (e2, 400, .inl lg2)), (ef, .inl (e3, 1200, .inr (.inl gv))), (cki, .inr (4, [.ref kw, .ref kf, .int z])), (kw, .inl (k1, 20, .inr (.inl gw))), (kf, .inl (k2, 20, .inl gf))] := hD
              have hK : va_K (dC, dI) vwCl [(e1, .int), (e2, .int), (e3, .long), (k1, .long), (k2, .int)] s := hK
              have hw_r_7 := hw
              try dsimp only at hw_r_7
              obtain ⟨hq_8, hq_9, hq_10⟩ := hw
              have hwd9 : (((zwd z gf gk) (Int32.toNatClampNeg dk) : Nat) : Int) = r_7.toInt := by have h9 : ((zfk z gf (gk (Int32.toNatClampNeg dk))).toNat : Int) = r_7.toInt := (by rw [← hq_10]; omega); exact h9
              refine lv_icmp_ge (tgt := 70) hx hb dX1_drop_47 (by decide) (fun c_11 => ?_) (fun c_11 => ?_)
              · have ic_11 : r_7.toInt ≤ k.toInt := zi_le c_11
                have hk9 := zn_nat (x := k) (by omega)
                have hz6 := zCS_R (R2 := R2) (fun c => by show R2 c = R2 c + zrm _ _ _; rw [zrm_e (by omega)]; omega) hz4
                refine lv_aload_n hx hb dX1_drop_70 rfl (lv_at hl 4 rfl) ?_
                refine lv_iload hx hb dX1_drop_71 (lv_at hl 2 rfl) ?_
                have hPc := hP.sub (ws' := [(h0, .inr (1, [.ref ek, .ref ec, .ref ef, .ref cki, .int e_limit, .int e_fresh, .int lff, .int lhe, .int e_mostHeld, .int e_made, .int e_reused, .int lfd, .int e_doubled])), (ek, .inl (e1, 400, .inl gk)), (ec, .inl (e2, 400, .inl lg2)), (ef, .inl (e3, 1200, .inr (.inl gv)))]) [0, 1, 2, 3] rfl
                have hDc := hD.sub (ws' := [(h0, .inr (1, [.ref ek, .ref ec, .ref ef, .ref cki, .int e_limit, .int e_fresh, .int lff, .int lhe, .int e_mostHeld, .int e_made, .int e_reused, .int lfd, .int e_doubled])), (ek, .inl (e1, 400, .inl gk)), (ec, .inl (e2, 400, .inl lg2)), (ef, .inl (e3, 1200, .inr (.inl gv)))]) [0, 1, 2, 3] (by decide) rfl
                have hKc := hK.sub (tys' := [(e1, .int), (e2, .int), (e3, .long)]) [0, 1, 2] rfl
                have hFc := va_free (wc := [(h0, .inr (1, [.ref ek, .ref ec, .ref ef, .ref cki, .int e_limit, .int e_fresh, .int lff, .int lhe, .int e_mostHeld, .int e_made, .int e_reused, .int lfd, .int e_doubled])), (ek, .inl (e1, 400, .inl gk)), (ec, .inl (e2, 400, .inl lg2)), (ef, .inl (e3, 1200, .inr (.inl gv)))]) hD hS hAA [0, 1, 2, 3] rfl
                refine va_callv (va_runV (As := [.int dk]) (rest := []) ⟨hx, hb, hml, hown, hA⟩ (c_X1_free_x l dC dI aK aV h0 ek ec ef cki e1 e2 e3 e_limit e_fresh lff lhe e_mostHeld e_made e_reused lfd e_doubled gk lg2 gv dk (zwd z gf gk) lv4 R2 FL2 DL4 dj H.size hz6 q2 q3 (by omega) (by omega)) (cwV 1 hA (zw_V wi_1159 wi_1160 wi_1161 wi_140 (zw_good wi_1162)) rfl rfl rfl (by decide +kernel) ⟨(Nat.le_of_ble_eq_true rfl), (Nat.le_of_ble_eq_true rfl)⟩) ⟨zP_blind, va_recv hKc hPc (ci := 1) (q0 := 0) rfl rfl, zz_pre hKc hPc hDc hN hT hS hFc⟩ rfl rfl hl.1 rfl (lv_room (Nat.le_of_ble_eq_true rfl)) dX1_drop_73 ⟨(Nat.le_of_ble_eq_true rfl), (Nat.le_of_ble_eq_true rfl)⟩) hS (fun q _ h => hFc q h) hFc (fun u t H1 locs ht hvm hw hB hz1 hk1 hS => ?_)
                obtain ⟨gc_13, he_14, fd_15⟩ := u
                obtain ⟨hP1, hK1, hD1⟩ := hB
                rw [ht] at hP1
                have hK1 := va_K.moved hvm.symm hK1
                obtain ⟨hP, hD⟩ := va_join (wr := [(cki, .inr (4, [.ref kw, .ref kf, .int z])), (kw, .inl (k1, 20, .inr (.inl gw))), (kf, .inl (k2, 20, .inl gf))]) (w1 := [(h0, .inr (1, [.ref ek, .ref ec, .ref ef, .ref cki, .int e_limit, .int e_fresh, .int dk, .int he_14, .int e_mostHeld, .int e_made, .int e_reused, .int fd_15, .int e_doubled])), (ek, .inl (e1, 400, .inl gk)), (ec, .inl (e2, 400, .inl gc_13)), (ef, .inl (e3, 1200, .inr (.inl gv)))]) hP hD [0, 1, 2, 3] [4, 5, 6] rfl rfl (by decide) (by decide) hk1 hFc hP1 hD1
                have hK := (hK.sub (tys' := [(k1, .long), (k2, .int)]) [3, 4] rfl).app hK1
                generalize H1 = H at hP hS ⊢
                have hP : va_P (dC, dI) vwCl [(cki, .inr (4, [.ref kw, .ref kf, .int z])), (kw, .inl (k1, 20, .inr (.inl gw))), (kf, .inl (k2, 20, .inl gf)), (h0, .inr (1, [.ref ek, .ref ec, .ref ef, .ref cki, .int e_limit, .int e_fresh, .int dk, .int he_14, .int e_mostHeld, .int e_made, .int e_reused, .int fd_15, .int e_doubled])), (ek, .inl (e1, 400, .inl gk)), (ec, .inl (e2, 400, .inl gc_13)), (ef, .inl (e3, 1200, .inr (.inl gv)))] H := hP
                have hD : va_D A [(cki, .inr (4, [.ref kw, .ref kf, .int z])), (kw, .inl (k1, 20, .inr (.inl gw))), (kf, .inl (k2, 20, .inl gf)), (h0, .inr (1, [.ref ek, .ref ec, .ref ef, .ref cki, .int e_limit, .int e_fresh, .int dk, .int he_14, .int e_mostHeld, .int e_made, .int e_reused, .int fd_15, .int e_doubled])), (ek, .inl (e1, 400, .inl gk)), (ec, .inl (e2, 400, .inl gc_13)), (ef, .inl (e3, 1200, .inr (.inl gv)))] := hD
                have hK : va_K (dC, dI) vwCl [(k1, .long), (k2, .int), (e1, .int), (e2, .int), (e3, .long)] s := hK
                have hq_16 := hw
                obtain ⟨x_17, ex_17⟩ : ∃ y : Int32, y = i + Int32.ofInt 1 := ⟨_, rfl⟩
                refine lv_iinc (v := x_17) (lv' := [(4, .int x_17), (6, .int k), (3, .int dj), (5, .int dk), (0, .ref h0), (1, .long va)]) hx hb dX1_drop_76 hl (k := 3) rfl (by rw [ex_17]) (by decide) rfl (fun ls hl => ?_)
                have ix_17 : x_17.toInt = i.toInt + 1 := by rw [ex_17]; exact zi_addc (by decide) (by omega) (by omega)
                refine lv_goto (tgt := 10) hx hb dX1_drop_79 (by decide) ?_
                have hlc_18 : ∃ lv2 FL2 DL2, zCS (zwd z gf gk) gc_13 gv e_fresh dk he_14 e_doubled lv2 R2 FL2 DL2 dj ∧ (∀ c, lv2 c = true → lv c = true) ∧ (∀ c, c ∈ FL2 → c ∈ FL ∨ lv c = true) ∧ ∀ c, c ∈ DL2 → lv c = true := ⟨lv4, _, DL4, hq_16, fun c h => hl2 c (q4 c h), fun c h => (List.mem_cons.mp h).elim (fun g => Or.inr (by rw [g]; exact hd2 _ p5)) (hf2 c), fun c h => (q5 c h).elim (hd2 c) (hl2 c)⟩
                exact ih dj x_17 dk he_14 fd_15 gc_13 _ _ _ (by omega) (by omega) (by omega) hlc_18 (hP.sub [0, 1, 2, 3, 4, 5, 6] rfl) (hD.sub [0, 1, 2, 3, 4, 5, 6] (by decide) rfl) hS (lv_sub hl [0, 2, 4, 5] rfl)
              · have ic_11 : k.toInt < r_7.toInt := zi_nle c_11
                refine lv_aload_n hx hb dX1_drop_50 rfl (lv_at hl 4 rfl) ?_
                refine lv_aload_n hx hb dX1_drop_51 rfl (lv_at hl 4 rfl) ?_
                refine lv_iload hx hb dX1_drop_52 (lv_at hl 2 rfl) ?_
                refine lv_iload hx hb dX1_drop_54 (lv_at hl 0 rfl) ?_
                have hPc := hP.sub (ws' := [(h0, .inr (1, [.ref ek, .ref ec, .ref ef, .ref cki, .int e_limit, .int e_fresh, .int lff, .int lhe, .int e_mostHeld, .int e_made, .int e_reused, .int lfd, .int e_doubled])), (ek, .inl (e1, 400, .inl gk)), (ec, .inl (e2, 400, .inl lg2)), (ef, .inl (e3, 1200, .inr (.inl gv)))]) [0, 1, 2, 3] rfl
                have hDc := hD.sub (ws' := [(h0, .inr (1, [.ref ek, .ref ec, .ref ef, .ref cki, .int e_limit, .int e_fresh, .int lff, .int lhe, .int e_mostHeld, .int e_made, .int e_reused, .int lfd, .int e_doubled])), (ek, .inl (e1, 400, .inl gk)), (ec, .inl (e2, 400, .inl lg2)), (ef, .inl (e3, 1200, .inr (.inl gv)))]) [0, 1, 2, 3] (by decide) rfl
                have hKc := hK.sub (tys' := [(e1, .int), (e2, .int), (e3, .long)]) [0, 1, 2] rfl
                have hFc := va_free (wc := [(h0, .inr (1, [.ref ek, .ref ec, .ref ef, .ref cki, .int e_limit, .int e_fresh, .int lff, .int lhe, .int e_mostHeld, .int e_made, .int e_reused, .int lfd, .int e_doubled])), (ek, .inl (e1, 400, .inl gk)), (ec, .inl (e2, 400, .inl lg2)), (ef, .inl (e3, 1200, .inr (.inl gv)))]) hD hS hAA [0, 1, 2, 3] rfl
                refine va_calll (va_runV (As := [.int dk, .int k]) (rest := [.ref h0]) ⟨hx, hb, hml, hown, hA⟩ (c_X1_field_x400 l dC dI aK aV h0 ek ec ef cki e1 e2 e3 e_limit e_fresh lff lhe e_mostHeld e_made e_reused lfd e_doubled gk lg2 gv dk k H.size (by omega) (by omega) (by omega) (by omega)) (cwV 2 hA (zw_V wi_1155 wi_1156 wi_1157 wi_140 (zw_good wi_1158)) rfl rfl rfl (by decide +kernel) ⟨(Nat.le_of_ble_eq_true rfl), (Nat.le_of_ble_eq_true rfl)⟩) ⟨zP_blind, va_recv hKc hPc (ci := 1) (q0 := 0) rfl rfl, zz_pre hKc hPc hDc hN hT hS hFc⟩ rfl rfl hl.1 rfl (lv_room (Nat.le_of_ble_eq_true rfl)) dX1_drop_56 ⟨(Nat.le_of_ble_eq_true rfl), (Nat.le_of_ble_eq_true rfl)⟩) hS (fun q _ h => hFc q h) hFc (fun r_19 u t H1 locs ht hvm hw hB hz1 hk1 hS => ?_)
                obtain ⟨hP1, hK1, hD1⟩ := hB
                rw [ht] at hP1
                have hK1 := va_K.moved hvm.symm hK1
                obtain ⟨hP, hD⟩ := va_join (wr := [(cki, .inr (4, [.ref kw, .ref kf, .int z])), (kw, .inl (k1, 20, .inr (.inl gw))), (kf, .inl (k2, 20, .inl gf))]) (w1 := [(h0, .inr (1, [.ref ek, .ref ec, .ref ef, .ref cki, .int e_limit, .int e_fresh, .int lff, .int lhe, .int e_mostHeld, .int e_made, .int e_reused, .int lfd, .int e_doubled])), (ek, .inl (e1, 400, .inl gk)), (ec, .inl (e2, 400, .inl lg2)), (ef, .inl (e3, 1200, .inr (.inl gv)))]) hP hD [0, 1, 2, 3] [4, 5, 6] rfl rfl (by decide) (by decide) hk1 hFc hP1 hD1
                have hK := (hK.sub (tys' := [(k1, .long), (k2, .int)]) [3, 4] rfl).app hK1
                generalize H1 = H at hP hS ⊢
                have hP : va_P (dC, dI) vwCl [(cki, .inr (4, [.ref kw, .ref kf, .int z])), (kw, .inl (k1, 20, .inr (.inl gw))), (kf, .inl (k2, 20, .inl gf)), (h0, .inr (1, [.ref ek, .ref ec, .ref ef, .ref cki, .int e_limit, .int e_fresh, .int lff, .int lhe, .int e_mostHeld, .int e_made, .int e_reused, .int lfd, .int e_doubled])), (ek, .inl (e1, 400, .inl gk)), (ec, .inl (e2, 400, .inl lg2)), (ef, .inl (e3, 1200, .inr (.inl gv)))] H := hP
                have hD : va_D A [(cki, .inr (4, [.ref kw, .ref kf, .int z])), (kw, .inl (k1, 20, .inr (.inl gw))), (kf, .inl (k2, 20, .inl gf)), (h0, .inr (1, [.ref ek, .ref ec, .ref ef, .ref cki, .int e_limit, .int e_fresh, .int lff, .int lhe, .int e_mostHeld, .int e_made, .int e_reused, .int lfd, .int e_doubled])), (ek, .inl (e1, 400, .inl gk)), (ec, .inl (e2, 400, .inl lg2)), (ef, .inl (e3, 1200, .inr (.inl gv)))] := hD
                have hK : va_K (dC, dI) vwCl [(k1, .long), (k2, .int), (e1, .int), (e2, .int), (e3, .long)] s := hK
                have hq_20 := hw
                refine lv_iload_n hx hb dX1_drop_59 rfl (lv_at hl 1 rfl) ?_
                have hk9 := zn_nat (x := k) (by omega)
                have hkw9 : Int32.toNatClampNeg k < (zwd z gf gk) (Int32.toNatClampNeg dk) := by omega
                have hPc := hP.sub (ws' := [(h0, .inr (1, [.ref ek, .ref ec, .ref ef, .ref cki, .int e_limit, .int e_fresh, .int lff, .int lhe, .int e_mostHeld, .int e_made, .int e_reused, .int lfd, .int e_doubled])), (ek, .inl (e1, 400, .inl gk)), (ec, .inl (e2, 400, .inl lg2)), (ef, .inl (e3, 1200, .inr (.inl gv)))]) [3, 4, 5, 6] rfl
                have hDc := hD.sub (ws' := [(h0, .inr (1, [.ref ek, .ref ec, .ref ef, .ref cki, .int e_limit, .int e_fresh, .int lff, .int lhe, .int e_mostHeld, .int e_made, .int e_reused, .int lfd, .int e_doubled])), (ek, .inl (e1, 400, .inl gk)), (ec, .inl (e2, 400, .inl lg2)), (ef, .inl (e3, 1200, .inr (.inl gv)))]) [3, 4, 5, 6] (by decide) rfl
                have hKc := hK.sub (tys' := [(e1, .int), (e2, .int), (e3, .long)]) [2, 3, 4] rfl
                have hFc := va_free (wc := [(h0, .inr (1, [.ref ek, .ref ec, .ref ef, .ref cki, .int e_limit, .int e_fresh, .int lff, .int lhe, .int e_mostHeld, .int e_made, .int e_reused, .int lfd, .int e_doubled])), (ek, .inl (e1, 400, .inl gk)), (ec, .inl (e2, 400, .inl lg2)), (ef, .inl (e3, 1200, .inr (.inl gv)))]) hD hS hAA [3, 4, 5, 6] rfl
                refine va_calli (va_runV (As := [.long r_19, .int dj]) (rest := []) ⟨hx, hb, hml, hown, hA⟩ (c_X1_lower_x l dC dI aK aV h0 ek ec ef cki e1 e2 e3 e_limit e_fresh lff lhe e_mostHeld e_made e_reused lfd e_doubled gk lg2 gv r_19 dj (zwd z gf gk) lv4 (fun c => R2 c + zrm ((zwd z gf gk) (Int32.toNatClampNeg dk)) (Int32.toNatClampNeg k) (fun j => zr (gv (3 * Int32.toNatClampNeg dk + j)) c)) FL2 DL4 (fun c => R2 c + zrm ((zwd z gf gk) (Int32.toNatClampNeg dk)) (Int32.toNatClampNeg k + 1) (fun j => zr (gv (3 * Int32.toNatClampNeg dk + j)) c)) H.size hz4 (by rw [hq_20]; exact p4 _ hkw9) (fun c => by show R2 c + zrm _ (Int32.toNatClampNeg k) _ = R2 c + zrm _ (Int32.toNatClampNeg k + 1) _ + zr r_19 c; rw [zrm_s hkw9, hq_20]; omega) (fun c => by have := h2 c; have := zrm_p (n := (zwd z gf gk) (Int32.toNatClampNeg dk)) (k := Int32.toNatClampNeg k + 1) (f := fun j => zr (gv (3 * Int32.toNatClampNeg dk + j)) c) (fun j => zr_0 _ _); show 0 ≤ R2 c + zrm _ _ _; omega) (by omega)) (cwV 2 hA (zw_V wi_1142 wi_1144 wi_45 wi_140 (zw_good wi_1145)) rfl rfl rfl (by decide +kernel) ⟨(Nat.le_of_ble_eq_true rfl), (Nat.le_of_ble_eq_true rfl)⟩) ⟨zP_blind, va_recv hKc hPc (ci := 1) (q0 := 0) rfl rfl, zz_pre hKc hPc hDc hN hT hS hFc⟩ rfl rfl hl.1 rfl (lv_room (Nat.le_of_ble_eq_true rfl)) dX1_drop_60 ⟨(Nat.le_of_ble_eq_true rfl), (Nat.le_of_ble_eq_true rfl)⟩) hS (fun q _ h => hFc q h) hFc (fun r_21 u t H1 locs ht hvm hw hB hz1 hk1 hS => ?_)
                obtain ⟨gc_22, rfl⟩ : ∃ z, z = u := ⟨_, rfl⟩
                obtain ⟨hP1, hK1, hD1⟩ := hB
                rw [ht] at hP1
                have hK1 := va_K.moved hvm.symm hK1
                obtain ⟨hP, hD⟩ := va_join (wr := [(cki, .inr (4, [.ref kw, .ref kf, .int z])), (kw, .inl (k1, 20, .inr (.inl gw))), (kf, .inl (k2, 20, .inl gf))]) (w1 := [(h0, .inr (1, [.ref ek, .ref ec, .ref ef, .ref cki, .int e_limit, .int e_fresh, .int lff, .int lhe, .int e_mostHeld, .int e_made, .int e_reused, .int lfd, .int e_doubled])), (ek, .inl (e1, 400, .inl gk)), (ec, .inl (e2, 400, .inl gc_22)), (ef, .inl (e3, 1200, .inr (.inl gv)))]) hP hD [3, 4, 5, 6] [0, 1, 2] rfl rfl (by decide) (by decide) hk1 hFc hP1 hD1
                have hK := (hK.sub (tys' := [(k1, .long), (k2, .int)]) [0, 1] rfl).app hK1
                generalize H1 = H at hP hS ⊢
                have hP : va_P (dC, dI) vwCl [(cki, .inr (4, [.ref kw, .ref kf, .int z])), (kw, .inl (k1, 20, .inr (.inl gw))), (kf, .inl (k2, 20, .inl gf)), (h0, .inr (1, [.ref ek, .ref ec, .ref ef, .ref cki, .int e_limit, .int e_fresh, .int lff, .int lhe, .int e_mostHeld, .int e_made, .int e_reused, .int lfd, .int e_doubled])), (ek, .inl (e1, 400, .inl gk)), (ec, .inl (e2, 400, .inl gc_22)), (ef, .inl (e3, 1200, .inr (.inl gv)))] H := hP
                have hD : va_D A [(cki, .inr (4, [.ref kw, .ref kf, .int z])), (kw, .inl (k1, 20, .inr (.inl gw))), (kf, .inl (k2, 20, .inl gf)), (h0, .inr (1, [.ref ek, .ref ec, .ref ef, .ref cki, .int e_limit, .int e_fresh, .int lff, .int lhe, .int e_mostHeld, .int e_made, .int e_reused, .int lfd, .int e_doubled])), (ek, .inl (e1, 400, .inl gk)), (ec, .inl (e2, 400, .inl gc_22)), (ef, .inl (e3, 1200, .inr (.inl gv)))] := hD
                have hK : va_K (dC, dI) vwCl [(k1, .long), (k2, .int), (e1, .int), (e2, .int), (e3, .long)] s := hK
                have hw_r_21 := hw
                try dsimp only at hw_r_21
                have hq_23 := hw
                obtain ⟨lv5, DL5, hz5, hl5, hd5⟩ := hq_23
                have r2_ : lv5 (Int32.toNatClampNeg dk) = false := by cases g : lv5 (Int32.toNatClampNeg dk) with
                  | false => rfl
                  | true => exact absurd (hl5 _ g) (by rw [q2]; exact Bool.noConfusion)
                have r3_ : Int32.toNatClampNeg dk ∉ FL2 ++ DL5 := fun g => (List.mem_append.mp g).elim (fun u => q3 (List.mem_append.mpr (Or.inl u))) (fun u => (hd5 _ u).elim (fun w => q3 (List.mem_append.mpr (Or.inr w))) (fun w => absurd w (by rw [q2]; exact Bool.noConfusion)))
                refine lv_istore_n (lv' := [(3, .int r_21), (6, .int k), (5, .int dk), (4, .int i), (0, .ref h0), (1, .long va)]) hx hb dX1_drop_63 rfl hl (by decide) rfl (fun ls hl => ?_)
                obtain ⟨x_24, ex_24⟩ : ∃ y : Int32, y = k + Int32.ofInt 1 := ⟨_, rfl⟩
                refine lv_iinc (v := x_24) (lv' := [(6, .int x_24), (3, .int r_21), (5, .int dk), (4, .int i), (0, .ref h0), (1, .long va)]) hx hb dX1_drop_64 hl (k := 1) rfl (by rw [ex_24]) (by decide) rfl (fun ls hl => ?_)
                have ix_24 : x_24.toInt = k.toInt + 1 := by rw [ex_24]; exact zi_addc (by decide) (by omega) (by omega)
                refine lv_goto (tgt := 39) hx hb dX1_drop_67 (by decide) ?_
                have hic_25 : ∃ lv4 DL4, zCS (zwd z gf gk) gc_22 gv e_fresh lff lhe e_doubled lv4 (fun c => R2 c + zrm ((zwd z gf gk) (Int32.toNatClampNeg dk)) (Int32.toNatClampNeg x_24) (fun j => zr (gv (3 * Int32.toNatClampNeg dk + j)) c)) FL2 DL4 r_21 ∧ lv4 (Int32.toNatClampNeg dk) = false ∧ Int32.toNatClampNeg dk ∉ FL2 ++ DL4 ∧ (∀ c, lv4 c = true → lv2 c = true) ∧ ∀ c, c ∈ DL4 → c ∈ DL2 ∨ lv2 c = true := ⟨lv5, DL5, zCS_R (fun c => by rw [show Int32.toNatClampNeg x_24 = Int32.toNatClampNeg k + 1 from by have := zn_nat (x := x_24) (by omega); have := zn_nat (x := k) (by omega); omega]) hz5, r2_, r3_, fun c h => q4 c (hl5 c h), fun c h => (hd5 c h).elim (q5 c) (fun w => Or.inr (q4 c w))⟩
                exact ih_39 r_21 x_24 gc_22 _ _ _ (by omega) (by omega) (by omega) hic_25 (hP.sub [0, 1, 2, 3, 4, 5, 6] rfl) (hD.sub [0, 1, 2, 3, 4, 5, 6] (by decide) rfl) hS (lv_sub hl [0, 1, 2, 3, 4, 5] rfl)
          have hic_26 : ∃ lv4 DL4, zCS (zwd z gf gk) lgc gv e_fresh lff lhe e_doubled lv4 (fun c => R2 c + zrm ((zwd z gf gk) (Int32.toNatClampNeg dk)) (Int32.toNatClampNeg 0) (fun j => zr (gv (3 * Int32.toNatClampNeg dk + j)) c)) FL2 DL4 x_6 ∧ lv4 (Int32.toNatClampNeg dk) = false ∧ Int32.toNatClampNeg dk ∉ FL2 ++ DL4 ∧ (∀ c, lv4 c = true → lv2 c = true) ∧ ∀ c, c ∈ DL4 → c ∈ DL2 ∨ lv2 c = true := ⟨lv2, DL3, zCS_R (fun c => by show _ = R2 c + zcf zr (zwd z gf gk) gv (Int32.toNatClampNeg dk) c; rw [show Int32.toNatClampNeg 0 = 0 from rfl, zrm_0]; rfl) (by rw [ex_6]; exact hz3), p3, p6, fun _ h => h, fun c h => Or.inl (p7 c h)⟩
          exact loop_39 _ x_6 0 lgc _ _ _ (Nat.le_refl _) (by have h9_0 : Int32.toInt 0 = 0 := (by decide); omega) (by have h9_0 : Int32.toInt 0 = 0 := (by decide); omega) hic_26 (hP.sub [0, 1, 2, 3, 4, 5, 6] rfl) (hD.sub [0, 1, 2, 3, 4, 5, 6] (by decide) rfl) hS (lv_sub hl [0, 1, 2, 3, 4, 5] rfl)
  have hlc_27 : ∃ lv2 FL2 DL2, zCS (zwd z gf gk) gc_2 gv e_fresh e_firstFree e_held e_doubled lv2 R2 FL2 DL2 r_1 ∧ (∀ c, lv2 c = true → lv c = true) ∧ (∀ c, c ∈ FL2 → c ∈ FL ∨ lv c = true) ∧ ∀ c, c ∈ DL2 → lv c = true := ⟨lv1, FL, DL1, hz1, hl1, fun c h => Or.inl h, fun c h => (hd1 c h).resolve_left (fun g => (nomatch g))⟩
  exact loop_10 _ r_1 0 e_firstFree e_held e_freed gc_2 _ _ _ (Nat.le_refl _) (by have h9_0 : Int32.toInt 0 = 0 := (by decide); omega) (by have h9_0 : Int32.toInt 0 = 0 := (by decide); omega) hlc_27 (hP.sub [0, 1, 2, 3, 4, 5, 6] rfl) (hD.sub [0, 1, 2, 3, 4, 5, 6] (by decide) rfl) hS (lv_sub hl [0, 1, 2, 3] rfl)
