theorem wi_1149 : Cond.constantLong RX1 72 (2) ∈ zw := zw_in (List.mem_of_getElem? (i := 1149) (by decide +kernel)) (by decide +kernel)
theorem wi_1104 : Cond.constantLong RX1 66 (4294967295) ∈ zw := zw_in (List.mem_of_getElem? (i := 1104) (by decide +kernel)) (by decide +kernel)
theorem wi_1192 : Cond.constantLong RX1 68 (4294967296) ∈ zw := zw_in (List.mem_of_getElem? (i := 1192) (by decide +kernel)) (by decide +kernel)
theorem wi_1214 : Cond.constantLong RX1 70 (8589934592) ∈ zw := zw_in (List.mem_of_getElem? (i := 1214) (by decide +kernel)) (by decide +kernel)
theorem wi_439 : Cond.fieldLink RX1 59 "ReuseHouse$Cells" "kinds" "LReuseHouse$Kinds;" ∈ zw := zw_in (List.mem_of_getElem? (i := 439) (by decide +kernel)) (by decide +kernel)
theorem wi_435 : Cond.fieldLink RX1 45 "ReuseHouse$Cells" "kind" "[I" ∈ zw := zw_in (List.mem_of_getElem? (i := 435) (by decide +kernel)) (by decide +kernel)
theorem wi_1092 : Cond.methodLink RX1 63 Lib.Math.min.name ∈ zw := zw_in (List.mem_of_getElem? (i := 1092) (by decide +kernel)) (by decide +kernel)
theorem wi_441 : Cond.fieldLink RX1 9 "ReuseHouse$Cells" "limit" "I" ∈ zw := zw_in (List.mem_of_getElem? (i := 441) (by decide +kernel)) (by decide +kernel)
theorem wi_442 : Cond.fieldLink RX1 15 "ReuseHouse$Cells" "fresh" "I" ∈ zw := zw_in (List.mem_of_getElem? (i := 442) (by decide +kernel)) (by decide +kernel)
theorem wi_443 : Cond.fieldLink RX1 18 "ReuseHouse$Cells" "firstFree" "I" ∈ zw := zw_in (List.mem_of_getElem? (i := 443) (by decide +kernel)) (by decide +kernel)
theorem wi_444 : Cond.fieldLink RX1 21 "ReuseHouse$Cells" "held" "I" ∈ zw := zw_in (List.mem_of_getElem? (i := 444) (by decide +kernel)) (by decide +kernel)
theorem wi_446 : Cond.fieldLink RX1 24 "ReuseHouse$Cells" "mostHeld" "I" ∈ zw := zw_in (List.mem_of_getElem? (i := 446) (by decide +kernel)) (by decide +kernel)
theorem wi_448 : Cond.fieldLink RX1 27 "ReuseHouse$Cells" "made" "I" ∈ zw := zw_in (List.mem_of_getElem? (i := 448) (by decide +kernel)) (by decide +kernel)
theorem wi_450 : Cond.fieldLink RX1 30 "ReuseHouse$Cells" "reused" "I" ∈ zw := zw_in (List.mem_of_getElem? (i := 450) (by decide +kernel)) (by decide +kernel)
theorem wi_453 : Cond.fieldLink RX1 33 "ReuseHouse$Cells" "freed" "I" ∈ zw := zw_in (List.mem_of_getElem? (i := 453) (by decide +kernel)) (by decide +kernel)
theorem wi_455 : Cond.fieldLink RX1 36 "ReuseHouse$Cells" "doubled" "I" ∈ zw := zw_in (List.mem_of_getElem? (i := 455) (by decide +kernel)) (by decide +kernel)
theorem wi_1154 : Cond.methodLink RX1 81 yX4_fieldsOf ∈ zw := zw_in (List.mem_of_getElem? (i := 1154) (by decide +kernel)) (by decide +kernel)
theorem wi_438 : Cond.fieldLink RX1 52 "ReuseHouse$Cells" "fields" "[J" ∈ zw := zw_in (List.mem_of_getElem? (i := 438) (by decide +kernel)) (by decide +kernel)
theorem dX1_begin_0 : decode cX1_begin 0 = .ok (.aload_n 0, 1) := by decide +kernel
theorem dX1_begin_1 : decode cX1_begin 1 = .ok (.aload_n 1, 1) := by decide +kernel
theorem dX1_begin_2 : decode cX1_begin 2 = .ok (.putfield 59, 3) := by decide +kernel
theorem dX1_begin_5 : decode cX1_begin 5 = .ok (.aload_n 0, 1) := by decide +kernel
theorem dX1_begin_6 : decode cX1_begin 6 = .ok (.iload_n 2, 1) := by decide +kernel
theorem dX1_begin_7 : decode cX1_begin 7 = .ok (.aload_n 0, 1) := by decide +kernel
theorem dX1_begin_8 : decode cX1_begin 8 = .ok (.getfield 45, 3) := by decide +kernel
theorem dX1_begin_11 : decode cX1_begin 11 = .ok (.arraylength, 1) := by decide +kernel
theorem dX1_begin_12 : decode cX1_begin 12 = .ok (.invokestatic 63, 3) := by decide +kernel
theorem dX1_begin_15 : decode cX1_begin 15 = .ok (.putfield 9, 3) := by decide +kernel
theorem dX1_begin_18 : decode cX1_begin 18 = .ok (.aload_n 0, 1) := by decide +kernel
theorem dX1_begin_19 : decode cX1_begin 19 = .ok (.iconst 0, 1) := by decide +kernel
theorem dX1_begin_20 : decode cX1_begin 20 = .ok (.putfield 15, 3) := by decide +kernel
theorem dX1_begin_23 : decode cX1_begin 23 = .ok (.aload_n 0, 1) := by decide +kernel
theorem dX1_begin_24 : decode cX1_begin 24 = .ok (.iconst (-1), 1) := by decide +kernel
theorem dX1_begin_25 : decode cX1_begin 25 = .ok (.putfield 18, 3) := by decide +kernel
theorem dX1_begin_28 : decode cX1_begin 28 = .ok (.aload_n 0, 1) := by decide +kernel
theorem dX1_begin_29 : decode cX1_begin 29 = .ok (.iconst 0, 1) := by decide +kernel
theorem dX1_begin_30 : decode cX1_begin 30 = .ok (.putfield 21, 3) := by decide +kernel
theorem dX1_begin_33 : decode cX1_begin 33 = .ok (.aload_n 0, 1) := by decide +kernel
theorem dX1_begin_34 : decode cX1_begin 34 = .ok (.iconst 0, 1) := by decide +kernel
theorem dX1_begin_35 : decode cX1_begin 35 = .ok (.putfield 24, 3) := by decide +kernel
theorem dX1_begin_38 : decode cX1_begin 38 = .ok (.aload_n 0, 1) := by decide +kernel
theorem dX1_begin_39 : decode cX1_begin 39 = .ok (.iconst 0, 1) := by decide +kernel
theorem dX1_begin_40 : decode cX1_begin 40 = .ok (.putfield 27, 3) := by decide +kernel
theorem dX1_begin_43 : decode cX1_begin 43 = .ok (.aload_n 0, 1) := by decide +kernel
theorem dX1_begin_44 : decode cX1_begin 44 = .ok (.iconst 0, 1) := by decide +kernel
theorem dX1_begin_45 : decode cX1_begin 45 = .ok (.putfield 30, 3) := by decide +kernel
theorem dX1_begin_48 : decode cX1_begin 48 = .ok (.aload_n 0, 1) := by decide +kernel
theorem dX1_begin_49 : decode cX1_begin 49 = .ok (.iconst 0, 1) := by decide +kernel
theorem dX1_begin_50 : decode cX1_begin 50 = .ok (.putfield 33, 3) := by decide +kernel
theorem dX1_begin_53 : decode cX1_begin 53 = .ok (.aload_n 0, 1) := by decide +kernel
theorem dX1_begin_54 : decode cX1_begin 54 = .ok (.iconst 0, 1) := by decide +kernel
theorem dX1_begin_55 : decode cX1_begin 55 = .ok (.putfield 36, 3) := by decide +kernel
theorem dX1_begin_58 : decode cX1_begin 58 = .ok (.return_, 1) := by decide +kernel
theorem dX1_field_0 : decode cX1_field 0 = .ok (.aload_n 0, 1) := by decide +kernel
theorem dX1_field_1 : decode cX1_field 1 = .ok (.getfield 52, 3) := by decide +kernel
theorem dX1_field_4 : decode cX1_field 4 = .ok (.iload_n 1, 1) := by decide +kernel
theorem dX1_field_5 : decode cX1_field 5 = .ok (.iconst 3, 1) := by decide +kernel
theorem dX1_field_6 : decode cX1_field 6 = .ok (.imul, 1) := by decide +kernel
theorem dX1_field_7 : decode cX1_field 7 = .ok (.iload_n 2, 1) := by decide +kernel
theorem dX1_field_8 : decode cX1_field 8 = .ok (.iadd, 1) := by decide +kernel
theorem dX1_field_9 : decode cX1_field 9 = .ok (.laload, 1) := by decide +kernel
theorem dX1_field_10 : decode cX1_field 10 = .ok (.lreturn, 1) := by decide +kernel
theorem dX1_isCell_0 : decode cX1_isCell 0 = .ok (.lload_n 0, 1) := by decide +kernel
theorem dX1_isCell_1 : decode cX1_isCell 1 = .ok (.bipush 32, 2) := by decide +kernel
theorem dX1_isCell_3 : decode cX1_isCell 3 = .ok (.lushr, 1) := by decide +kernel
theorem dX1_isCell_4 : decode cX1_isCell 4 = .ok (.ldc2_w 72, 3) := by decide +kernel
theorem dX1_isCell_7 : decode cX1_isCell 7 = .ok (.lcmp, 1) := by decide +kernel
theorem dX1_isCell_8 : decode cX1_isCell 8 = .ok (.ifCond .ne 7, 3) := by decide +kernel
theorem dX1_isCell_11 : decode cX1_isCell 11 = .ok (.iconst 1, 1) := by decide +kernel
theorem dX1_isCell_12 : decode cX1_isCell 12 = .ok (.goto 4, 3) := by decide +kernel
theorem dX1_isCell_15 : decode cX1_isCell 15 = .ok (.iconst 0, 1) := by decide +kernel
theorem dX1_isCell_16 : decode cX1_isCell 16 = .ok (.ireturn, 1) := by decide +kernel
theorem dX1_isInt_0 : decode cX1_isInt 0 = .ok (.lload_n 0, 1) := by decide +kernel
theorem dX1_isInt_1 : decode cX1_isInt 1 = .ok (.bipush 32, 2) := by decide +kernel
theorem dX1_isInt_3 : decode cX1_isInt 3 = .ok (.lushr, 1) := by decide +kernel
theorem dX1_isInt_4 : decode cX1_isInt 4 = .ok (.lconst 0, 1) := by decide +kernel
theorem dX1_isInt_5 : decode cX1_isInt 5 = .ok (.lcmp, 1) := by decide +kernel
theorem dX1_isInt_6 : decode cX1_isInt 6 = .ok (.ifCond .ne 7, 3) := by decide +kernel
theorem dX1_isInt_9 : decode cX1_isInt 9 = .ok (.iconst 1, 1) := by decide +kernel
theorem dX1_isInt_10 : decode cX1_isInt 10 = .ok (.goto 4, 3) := by decide +kernel
theorem dX1_isInt_13 : decode cX1_isInt 13 = .ok (.iconst 0, 1) := by decide +kernel
theorem dX1_isInt_14 : decode cX1_isInt 14 = .ok (.ireturn, 1) := by decide +kernel
theorem dX1_ofCell_0 : decode cX1_ofCell 0 = .ok (.ldc2_w 70, 3) := by decide +kernel
theorem dX1_ofCell_3 : decode cX1_ofCell 3 = .ok (.iload_n 0, 1) := by decide +kernel
theorem dX1_ofCell_4 : decode cX1_ofCell 4 = .ok (.i2l, 1) := by decide +kernel
theorem dX1_ofCell_5 : decode cX1_ofCell 5 = .ok (.ldc2_w 66, 3) := by decide +kernel
theorem dX1_ofCell_8 : decode cX1_ofCell 8 = .ok (.land, 1) := by decide +kernel
theorem dX1_ofCell_9 : decode cX1_ofCell 9 = .ok (.lor, 1) := by decide +kernel
theorem dX1_ofCell_10 : decode cX1_ofCell 10 = .ok (.lreturn, 1) := by decide +kernel
theorem dX1_ofInt_0 : decode cX1_ofInt 0 = .ok (.iload_n 0, 1) := by decide +kernel
theorem dX1_ofInt_1 : decode cX1_ofInt 1 = .ok (.i2l, 1) := by decide +kernel
theorem dX1_ofInt_2 : decode cX1_ofInt 2 = .ok (.ldc2_w 66, 3) := by decide +kernel
theorem dX1_ofInt_5 : decode cX1_ofInt 5 = .ok (.land, 1) := by decide +kernel
theorem dX1_ofInt_6 : decode cX1_ofInt 6 = .ok (.lreturn, 1) := by decide +kernel
theorem dX1_ofKind_0 : decode cX1_ofKind 0 = .ok (.ldc2_w 68, 3) := by decide +kernel
theorem dX1_ofKind_3 : decode cX1_ofKind 3 = .ok (.iload_n 0, 1) := by decide +kernel
theorem dX1_ofKind_4 : decode cX1_ofKind 4 = .ok (.i2l, 1) := by decide +kernel
theorem dX1_ofKind_5 : decode cX1_ofKind 5 = .ok (.ldc2_w 66, 3) := by decide +kernel
theorem dX1_ofKind_8 : decode cX1_ofKind 8 = .ok (.land, 1) := by decide +kernel
theorem dX1_ofKind_9 : decode cX1_ofKind 9 = .ok (.lor, 1) := by decide +kernel
theorem dX1_ofKind_10 : decode cX1_ofKind 10 = .ok (.lreturn, 1) := by decide +kernel
theorem dX1_width_0 : decode cX1_width 0 = .ok (.aload_n 0, 1) := by decide +kernel
theorem dX1_width_1 : decode cX1_width 1 = .ok (.getfield 59, 3) := by decide +kernel
theorem dX1_width_4 : decode cX1_width 4 = .ok (.aload_n 0, 1) := by decide +kernel
theorem dX1_width_5 : decode cX1_width 5 = .ok (.getfield 45, 3) := by decide +kernel
theorem dX1_width_8 : decode cX1_width 8 = .ok (.iload_n 1, 1) := by decide +kernel
theorem dX1_width_9 : decode cX1_width 9 = .ok (.iaload, 1) := by decide +kernel
theorem dX1_width_10 : decode cX1_width 10 = .ok (.invokevirtual 81, 3) := by decide +kernel
theorem dX1_width_13 : decode cX1_width 13 = .ok (.ireturn, 1) := by decide +kernel
theorem dX4_wordOf_0 : decode cX4_wordOf 0 = .ok (.iload_n 1, 1) := by decide +kernel
theorem dX4_wordOf_1 : decode cX4_wordOf 1 = .ok (.ifCond .lt 20, 3) := by decide +kernel
theorem dX4_wordOf_4 : decode cX4_wordOf 4 = .ok (.iload_n 1, 1) := by decide +kernel
theorem dX4_wordOf_5 : decode cX4_wordOf 5 = .ok (.aload_n 0, 1) := by decide +kernel
theorem dX4_wordOf_6 : decode cX4_wordOf 6 = .ok (.getfield 19, 3) := by decide +kernel
theorem dX4_wordOf_9 : decode cX4_wordOf 9 = .ok (.if_icmp .ge 12, 3) := by decide +kernel
theorem dX4_wordOf_12 : decode cX4_wordOf 12 = .ok (.aload_n 0, 1) := by decide +kernel
theorem dX4_wordOf_13 : decode cX4_wordOf 13 = .ok (.getfield 9, 3) := by decide +kernel
theorem dX4_wordOf_16 : decode cX4_wordOf 16 = .ok (.iload_n 1, 1) := by decide +kernel
theorem dX4_wordOf_17 : decode cX4_wordOf 17 = .ok (.laload, 1) := by decide +kernel
theorem dX4_wordOf_18 : decode cX4_wordOf 18 = .ok (.goto 4, 3) := by decide +kernel
theorem dX4_wordOf_21 : decode cX4_wordOf 21 = .ok (.lconst 0, 1) := by decide +kernel
theorem dX4_wordOf_22 : decode cX4_wordOf 22 = .ok (.lreturn, 1) := by decide +kernel
set_option maxHeartbeats 4000000 in
set_option maxRecDepth 100000 in
theorem c_X4_wordOf (l : Launch) (dC : Nat → ClassId) (dI : Nat → Nat → Nat) (aK aV : Nat → Nat) (h0 : Nat) (kw : Nat) (kf : Nat) (k1 : ClassId) (k2 : ClassId) (z : Int32) (gw : Nat → Int64) (gf : Nat → Int32) (k : Int32) (sz : Nat) (hz0 : 0 ≤ z.toInt) (hz1 : z.toInt ≤ 20) : Met l yX4_wordOf (Cond.code yX4_wordOf cX4_wordOf 2 (some .long) :: zw) ({ frames := 8, cells := 0, slots := 0, locals := 200 }) (va_Pc [.ref h0, .int k] (zP dC dI aK aV sz [(k1, .long), (k2, .int)] [(h0, .inr (4, [.ref kw, .ref kf, .int z])), (kw, .inl (k1, 20, .inr (.inl gw))), (kf, .inl (k2, 20, .inl gf))])) (va_Ql (fun (r : Int64) (u : Unit) => True) (fun u => zQ dC dI (va_A [(h0, .inr (4, [.ref kw, .ref kf, .int z])), (kw, .inl (k1, 20, .inr (.inl gw))), (kf, .inl (k2, 20, .inl gf))] sz) [(k1, .long), (k2, .int)] [(h0, .inr (4, [.ref kw, .ref kf, .int z])), (kw, .inl (k1, 20, .inr (.inl gw))), (kf, .inl (k2, 20, .inl gf))]) (va_A [(h0, .inr (4, [.ref kw, .ref kf, .int z])), (kw, .inl (k1, 20, .inr (.inl gw))), (kf, .inl (k2, 20, .inl gf))] sz)) 0 0 (va_A [(h0, .inr (4, [.ref kw, .ref kf, .int z])), (kw, .inl (k1, 20, .inr (.inl gw))), (kf, .inl (k2, 20, .inl gf))] sz) := by
  refine Met.ofW (cc := cX4_wordOf) (maxL := 2) (ret := (some .long)) (by decide) rfl ?_
  intro p e s m args below meth c s₁ B hml hv
  obtain ⟨rfl, hsz, hP, hK, hD0, hN, hT⟩ := hv
  have hx := B.exec
  have hb := B.bytes
  have hr := B.returns
  have hts := atoms_spec (ws := Cond.code yX4_wordOf cX4_wordOf 2 (some .long) :: zw) B.pre
  have hA : ∀ w ∈ zw, w.before _ s = true := fun w h => hts w (List.mem_cons_of_mem _ h)
  have hown : s.vm.findClass RX4 = some m.cls := findClass_of_methodNamed B.named
  have hlocks := B.notSynchronized
  subst hsz
  have hD := hD0.self (sz := s.heap.size)
  generalize hAe : va_A [(h0, .inr (4, [.ref kw, .ref kf, .int z])), (kw, .inl (k1, 20, .inr (.inl gw))), (kf, .inl (k2, 20, .inl gf))] s.heap.size = A at hD hT ⊢
  have hAA : ∀ q : Nat, s.heap.size ≤ q → A q := fun q h => by rw [← hAe]; exact Or.inr h
  have hS : va_S A s.heap s.heap [] := va_S.rf
  have hl := lv_entry ([.ref h0, .int k]) (n := 2) (Nat.le_of_ble_eq_true rfl)
  rw [lg_entry_eq]
  generalize (lg_sl ([.ref h0, .int k]) ++ List.replicate (2 - (lg_sl ([.ref h0, .int k])).length) Slot.unset).toArray = ls at hl ⊢
  have hl : lv_has ls 2 [(0, .ref h0), (1, .int k)] := hl
  refine lv_iload_n hx hb dX4_wordOf_0 rfl (lv_at hl 1 rfl) ?_
  refine lv_if_lt (tgt := 21) hx hb dX4_wordOf_1 (by decide) (fun c_1 => ?_) (fun c_1 => ?_)
  · have ic_1 : k.toInt < 0 := zi_lt c_1
    refine lv_lconst (v := 0) hx hb dX4_wordOf_21 (by decide) ?_
    have hP9 := hP.sub (ws' := [(h0, .inr (4, [.ref kw, .ref kf, .int z])), (kw, .inl (k1, 20, .inr (.inl gw))), (kf, .inl (k2, 20, .inl gf))]) [0, 1, 2] rfl
    have hD9 := hD.sub (ws' := [(h0, .inr (4, [.ref kw, .ref kf, .int z])), (kw, .inl (k1, 20, .inr (.inl gw))), (kf, .inl (k2, 20, .inl gf))]) [0, 1, 2] (by decide) rfl
    have hK9 := hK.sub (tys' := [(k1, .long), (k2, .int)]) [0, 1] rfl
    exact W.lret (v := 0) hx hb hr (fun t ht hW => ⟨⟨0, (), rfl, trivial, by rw [ht]; exact hP9, va_K.moved hW.alike hK9, hD9⟩, hS.F ht⟩) hS.2.2 dX4_wordOf_22
  · have ic_1 : 0 ≤ k.toInt := zi_nlt c_1
    refine lv_iload_n hx hb dX4_wordOf_4 rfl (lv_at hl 1 rfl) ?_
    refine lv_aload_n hx hb dX4_wordOf_5 rfl (lv_at hl 0 rfl) ?_
    refine va_get (D := (dC, dI)) (ci := 4) (v := .int z) (C := RX4) (T := TX4) (N := 3) hx hb hA zin_X4 hown hK hP 0 rfl rfl 2 (by decide) (hA _ wi_273) (fun _ h9 => h9) rfl dX4_wordOf_6 ?_
    refine lv_icmp_ge (tgt := 21) hx hb dX4_wordOf_9 (by decide) (fun c_2 => ?_) (fun c_2 => ?_)
    · have ic_2 : z.toInt ≤ k.toInt := zi_le c_2
      refine lv_lconst (v := 0) hx hb dX4_wordOf_21 (by decide) ?_
      have hP9 := hP.sub (ws' := [(h0, .inr (4, [.ref kw, .ref kf, .int z])), (kw, .inl (k1, 20, .inr (.inl gw))), (kf, .inl (k2, 20, .inl gf))]) [0, 1, 2] rfl
      have hD9 := hD.sub (ws' := [(h0, .inr (4, [.ref kw, .ref kf, .int z])), (kw, .inl (k1, 20, .inr (.inl gw))), (kf, .inl (k2, 20, .inl gf))]) [0, 1, 2] (by decide) rfl
      have hK9 := hK.sub (tys' := [(k1, .long), (k2, .int)]) [0, 1] rfl
      exact W.lret (v := 0) hx hb hr (fun t ht hW => ⟨⟨0, (), rfl, trivial, by rw [ht]; exact hP9, va_K.moved hW.alike hK9, hD9⟩, hS.F ht⟩) hS.2.2 dX4_wordOf_22
    · have ic_2 : k.toInt < z.toInt := zi_nle c_2
      refine lv_aload_n hx hb dX4_wordOf_12 rfl (lv_at hl 0 rfl) ?_
      refine va_get (D := (dC, dI)) (ci := 4) (v := .ref kw) (C := RX4) (T := TX4) (N := 3) hx hb hA zin_X4 hown hK hP 0 rfl rfl 0 (by decide) (hA _ wi_270) (fun _ h9 => h9) rfl dX4_wordOf_13 ?_
      refine lv_iload_n hx hb dX4_wordOf_16 rfl (lv_at hl 1 rfl) ?_
      refine va_lald hx hb hK hP 1 0 rfl rfl (vp_in_iff.mpr ⟨by omega, by omega⟩) dX4_wordOf_17 ?_
      refine lv_topl (fun x_3 ex_3 => ?_)
      refine lv_goto (tgt := 22) hx hb dX4_wordOf_18 (by decide) ?_
      have hP9 := hP.sub (ws' := [(h0, .inr (4, [.ref kw, .ref kf, .int z])), (kw, .inl (k1, 20, .inr (.inl gw))), (kf, .inl (k2, 20, .inl gf))]) [0, 1, 2] rfl
      have hD9 := hD.sub (ws' := [(h0, .inr (4, [.ref kw, .ref kf, .int z])), (kw, .inl (k1, 20, .inr (.inl gw))), (kf, .inl (k2, 20, .inl gf))]) [0, 1, 2] (by decide) rfl
      have hK9 := hK.sub (tys' := [(k1, .long), (k2, .int)]) [0, 1] rfl
      exact W.lret (v := x_3) hx hb hr (fun t ht hW => ⟨⟨x_3, (), rfl, trivial, by rw [ht]; exact hP9, va_K.moved hW.alike hK9, hD9⟩, hS.F ht⟩) hS.2.2 dX4_wordOf_22
set_option maxHeartbeats 4000000 in
set_option maxRecDepth 100000 in
theorem c_X1_isInt (l : Launch) (dC : Nat → ClassId) (dI : Nat → Nat → Nat) (aK aV : Nat → Nat) (va : Int64) (sz : Nat)  : Met l yX1_isInt (Cond.code yX1_isInt cX1_isInt 2 (some .boolean) :: zw) ({ frames := 8, cells := 0, slots := 0, locals := 200 }) (va_Pc [.long va] (zP dC dI aK aV sz [] [])) (va_Qi (fun (r : Int32) (u : Unit) => True) (fun u => zQ dC dI (va_A [] sz) [] []) (va_A [] sz)) 0 0 (va_A [] sz) := by
  refine Met.ofW (cc := cX1_isInt) (maxL := 2) (ret := (some .boolean)) (by decide) rfl ?_
  intro p e s m args below meth c s₁ B hml hv
  obtain ⟨rfl, hsz, hP, hK, hD0, hN, hT⟩ := hv
  have hx := B.exec
  have hb := B.bytes
  have hr := B.returns
  have hts := atoms_spec (ws := Cond.code yX1_isInt cX1_isInt 2 (some .boolean) :: zw) B.pre
  have hA : ∀ w ∈ zw, w.before _ s = true := fun w h => hts w (List.mem_cons_of_mem _ h)
  have hown : s.vm.findClass RX1 = some m.cls := findClass_of_methodNamed B.named
  have hlocks := B.notSynchronized
  subst hsz
  have hD := hD0.self (sz := s.heap.size)
  generalize hAe : va_A [] s.heap.size = A at hD hT ⊢
  have hAA : ∀ q : Nat, s.heap.size ≤ q → A q := fun q h => by rw [← hAe]; exact Or.inr h
  have hS : va_S A s.heap s.heap [] := va_S.rf
  have hl := lv_entry ([.long va]) (n := 2) (Nat.le_of_ble_eq_true rfl)
  rw [lg_entry_eq]
  generalize (lg_sl ([.long va]) ++ List.replicate (2 - (lg_sl ([.long va])).length) Slot.unset).toArray = ls at hl ⊢
  have hl : lv_has ls 2 [(0, .long va)] := hl
  refine lv_lload_n hx hb dX1_isInt_0 rfl (lv_at hl 0 rfl) ?_
  refine lv_bipush (v := 32) hx hb dX1_isInt_1 (by decide) ?_
  refine lv_lushr hx hb dX1_isInt_3 rfl ?_
  refine lv_topl (fun x_1 ex_1 => ?_)
  refine lv_lconst (v := 0) hx hb dX1_isInt_4 (by decide) ?_
  refine W.lcmp hx hb dX1_isInt_5 ?_
  refine lv_topi (fun x_2 ex_2 => ?_)
  refine lv_if_ne (tgt := 13) hx hb dX1_isInt_6 (by decide) (fun c_3 => ?_) (fun c_3 => ?_)
  · have ic_3 : x_2.toInt ≠ 0 := zi_ne c_3
    refine lv_iconst (v := 0) hx hb dX1_isInt_13 (by decide) ?_
    have hlit : Int32.toInt 0 = 0 := by decide
    have hP9 := hP.sub (ws' := []) [] rfl
    have hD9 := hD.sub (ws' := []) [] (by decide) rfl
    have hK9 := hK.sub (tys' := []) [] rfl
    exact W.zret (v := 0) hx hb hr rfl (fun t ht hW => ⟨⟨0, (), rfl, trivial, by rw [ht]; exact hP9, va_K.moved hW.alike hK9, hD9⟩, hS.F ht⟩) hS.2.2 dX1_isInt_14
  · have ic_3 : x_2.toInt = 0 := zi_eq c_3
    refine lv_iconst (v := 1) hx hb dX1_isInt_9 (by decide) ?_
    refine lv_goto (tgt := 14) hx hb dX1_isInt_10 (by decide) ?_
    have hlit : Int32.toInt 1 = 1 := by decide
    have hP9 := hP.sub (ws' := []) [] rfl
    have hD9 := hD.sub (ws' := []) [] (by decide) rfl
    have hK9 := hK.sub (tys' := []) [] rfl
    exact W.zret (v := 1) hx hb hr rfl (fun t ht hW => ⟨⟨1, (), rfl, trivial, by rw [ht]; exact hP9, va_K.moved hW.alike hK9, hD9⟩, hS.F ht⟩) hS.2.2 dX1_isInt_14
set_option maxHeartbeats 4000000 in
set_option maxRecDepth 100000 in
theorem c_X1_isCell (l : Launch) (dC : Nat → ClassId) (dI : Nat → Nat → Nat) (aK aV : Nat → Nat) (va : Int64) (sz : Nat)  : Met l yX1_isCell (Cond.code yX1_isCell cX1_isCell 2 (some .boolean) :: zw) ({ frames := 8, cells := 0, slots := 0, locals := 200 }) (va_Pc [.long va] (zP dC dI aK aV sz [] [])) (va_Qi (fun (r : Int32) (u : Unit) => True) (fun u => zQ dC dI (va_A [] sz) [] []) (va_A [] sz)) 0 0 (va_A [] sz) := by
  refine Met.ofW (cc := cX1_isCell) (maxL := 2) (ret := (some .boolean)) (by decide) rfl ?_
  intro p e s m args below meth c s₁ B hml hv
  obtain ⟨rfl, hsz, hP, hK, hD0, hN, hT⟩ := hv
  have hx := B.exec
  have hb := B.bytes
  have hr := B.returns
  have hts := atoms_spec (ws := Cond.code yX1_isCell cX1_isCell 2 (some .boolean) :: zw) B.pre
  have hA : ∀ w ∈ zw, w.before _ s = true := fun w h => hts w (List.mem_cons_of_mem _ h)
  have hown : s.vm.findClass RX1 = some m.cls := findClass_of_methodNamed B.named
  have hlocks := B.notSynchronized
  subst hsz
  have hD := hD0.self (sz := s.heap.size)
  generalize hAe : va_A [] s.heap.size = A at hD hT ⊢
  have hAA : ∀ q : Nat, s.heap.size ≤ q → A q := fun q h => by rw [← hAe]; exact Or.inr h
  have hS : va_S A s.heap s.heap [] := va_S.rf
  have hl := lv_entry ([.long va]) (n := 2) (Nat.le_of_ble_eq_true rfl)
  rw [lg_entry_eq]
  generalize (lg_sl ([.long va]) ++ List.replicate (2 - (lg_sl ([.long va])).length) Slot.unset).toArray = ls at hl ⊢
  have hl : lv_has ls 2 [(0, .long va)] := hl
  refine lv_lload_n hx hb dX1_isCell_0 rfl (lv_at hl 0 rfl) ?_
  refine lv_bipush (v := 32) hx hb dX1_isCell_1 (by decide) ?_
  refine lv_lushr hx hb dX1_isCell_3 rfl ?_
  refine lv_topl (fun x_1 ex_1 => ?_)
  refine lv_ldc2 (v := 2) hx hb hown (hA _ wi_1149) dX1_isCell_4 ?_
  refine W.lcmp hx hb dX1_isCell_7 ?_
  refine lv_topi (fun x_2 ex_2 => ?_)
  refine lv_if_ne (tgt := 15) hx hb dX1_isCell_8 (by decide) (fun c_3 => ?_) (fun c_3 => ?_)
  · have ic_3 : x_2.toInt ≠ 0 := zi_ne c_3
    refine lv_iconst (v := 0) hx hb dX1_isCell_15 (by decide) ?_
    have hlit : Int32.toInt 0 = 0 := by decide
    have hP9 := hP.sub (ws' := []) [] rfl
    have hD9 := hD.sub (ws' := []) [] (by decide) rfl
    have hK9 := hK.sub (tys' := []) [] rfl
    exact W.zret (v := 0) hx hb hr rfl (fun t ht hW => ⟨⟨0, (), rfl, trivial, by rw [ht]; exact hP9, va_K.moved hW.alike hK9, hD9⟩, hS.F ht⟩) hS.2.2 dX1_isCell_16
  · have ic_3 : x_2.toInt = 0 := zi_eq c_3
    refine lv_iconst (v := 1) hx hb dX1_isCell_11 (by decide) ?_
    refine lv_goto (tgt := 16) hx hb dX1_isCell_12 (by decide) ?_
    have hlit : Int32.toInt 1 = 1 := by decide
    have hP9 := hP.sub (ws' := []) [] rfl
    have hD9 := hD.sub (ws' := []) [] (by decide) rfl
    have hK9 := hK.sub (tys' := []) [] rfl
    exact W.zret (v := 1) hx hb hr rfl (fun t ht hW => ⟨⟨1, (), rfl, trivial, by rw [ht]; exact hP9, va_K.moved hW.alike hK9, hD9⟩, hS.F ht⟩) hS.2.2 dX1_isCell_16
set_option maxHeartbeats 4000000 in
set_option maxRecDepth 100000 in
theorem c_X1_ofInt (l : Launch) (dC : Nat → ClassId) (dI : Nat → Nat → Nat) (aK aV : Nat → Nat) (nu : Int32) (sz : Nat)  : Met l yX1_ofInt (Cond.code yX1_ofInt cX1_ofInt 1 (some .long) :: zw) ({ frames := 8, cells := 0, slots := 0, locals := 200 }) (va_Pc [.int nu] (zP dC dI aK aV sz [] [])) (va_Ql (fun (r : Int64) (u : Unit) => True) (fun u => zQ dC dI (va_A [] sz) [] []) (va_A [] sz)) 0 0 (va_A [] sz) := by
  refine Met.ofW (cc := cX1_ofInt) (maxL := 1) (ret := (some .long)) (by decide) rfl ?_
  intro p e s m args below meth c s₁ B hml hv
  obtain ⟨rfl, hsz, hP, hK, hD0, hN, hT⟩ := hv
  have hx := B.exec
  have hb := B.bytes
  have hr := B.returns
  have hts := atoms_spec (ws := Cond.code yX1_ofInt cX1_ofInt 1 (some .long) :: zw) B.pre
  have hA : ∀ w ∈ zw, w.before _ s = true := fun w h => hts w (List.mem_cons_of_mem _ h)
  have hown : s.vm.findClass RX1 = some m.cls := findClass_of_methodNamed B.named
  have hlocks := B.notSynchronized
  subst hsz
  have hD := hD0.self (sz := s.heap.size)
  generalize hAe : va_A [] s.heap.size = A at hD hT ⊢
  have hAA : ∀ q : Nat, s.heap.size ≤ q → A q := fun q h => by rw [← hAe]; exact Or.inr h
  have hS : va_S A s.heap s.heap [] := va_S.rf
  have hl := lv_entry ([.int nu]) (n := 1) (Nat.le_of_ble_eq_true rfl)
  rw [lg_entry_eq]
  generalize (lg_sl ([.int nu]) ++ List.replicate (1 - (lg_sl ([.int nu])).length) Slot.unset).toArray = ls at hl ⊢
  have hl : lv_has ls 1 [(0, .int nu)] := hl
  refine lv_iload_n hx hb dX1_ofInt_0 rfl (lv_at hl 0 rfl) ?_
  obtain ⟨x_1, ex_1⟩ : ∃ z : Int64, z = Int32.toInt64 nu := ⟨_, rfl⟩
  refine lv_i2l (v := x_1) hx hb dX1_ofInt_1 ex_1.symm ?_
  refine lv_ldc2 (v := 4294967295) hx hb hown (hA _ wi_1104) dX1_ofInt_2 ?_
  refine lv_land hx hb dX1_ofInt_5 ?_
  refine lv_topl (fun x_2 ex_2 => ?_)
  have hP9 := hP.sub (ws' := []) [] rfl
  have hD9 := hD.sub (ws' := []) [] (by decide) rfl
  have hK9 := hK.sub (tys' := []) [] rfl
  exact W.lret (v := x_2) hx hb hr (fun t ht hW => ⟨⟨x_2, (), rfl, trivial, by rw [ht]; exact hP9, va_K.moved hW.alike hK9, hD9⟩, hS.F ht⟩) hS.2.2 dX1_ofInt_6
set_option maxHeartbeats 4000000 in
set_option maxRecDepth 100000 in
theorem c_X1_ofKind (l : Launch) (dC : Nat → ClassId) (dI : Nat → Nat → Nat) (aK aV : Nat → Nat) (nu : Int32) (sz : Nat)  : Met l yX1_ofKind (Cond.code yX1_ofKind cX1_ofKind 1 (some .long) :: zw) ({ frames := 8, cells := 0, slots := 0, locals := 200 }) (va_Pc [.int nu] (zP dC dI aK aV sz [] [])) (va_Ql (fun (r : Int64) (u : Unit) => True) (fun u => zQ dC dI (va_A [] sz) [] []) (va_A [] sz)) 0 0 (va_A [] sz) := by
  refine Met.ofW (cc := cX1_ofKind) (maxL := 1) (ret := (some .long)) (by decide) rfl ?_
  intro p e s m args below meth c s₁ B hml hv
  obtain ⟨rfl, hsz, hP, hK, hD0, hN, hT⟩ := hv
  have hx := B.exec
  have hb := B.bytes
  have hr := B.returns
  have hts := atoms_spec (ws := Cond.code yX1_ofKind cX1_ofKind 1 (some .long) :: zw) B.pre
  have hA : ∀ w ∈ zw, w.before _ s = true := fun w h => hts w (List.mem_cons_of_mem _ h)
  have hown : s.vm.findClass RX1 = some m.cls := findClass_of_methodNamed B.named
  have hlocks := B.notSynchronized
  subst hsz
  have hD := hD0.self (sz := s.heap.size)
  generalize hAe : va_A [] s.heap.size = A at hD hT ⊢
  have hAA : ∀ q : Nat, s.heap.size ≤ q → A q := fun q h => by rw [← hAe]; exact Or.inr h
  have hS : va_S A s.heap s.heap [] := va_S.rf
  have hl := lv_entry ([.int nu]) (n := 1) (Nat.le_of_ble_eq_true rfl)
  rw [lg_entry_eq]
  generalize (lg_sl ([.int nu]) ++ List.replicate (1 - (lg_sl ([.int nu])).length) Slot.unset).toArray = ls at hl ⊢
  have hl : lv_has ls 1 [(0, .int nu)] := hl
  refine lv_ldc2 (v := 4294967296) hx hb hown (hA _ wi_1192) dX1_ofKind_0 ?_
  refine lv_iload_n hx hb dX1_ofKind_3 rfl (lv_at hl 0 rfl) ?_
  obtain ⟨x_1, ex_1⟩ : ∃ z : Int64, z = Int32.toInt64 nu := ⟨_, rfl⟩
  refine lv_i2l (v := x_1) hx hb dX1_ofKind_4 ex_1.symm ?_
  refine lv_ldc2 (v := 4294967295) hx hb hown (hA _ wi_1104) dX1_ofKind_5 ?_
  refine lv_land hx hb dX1_ofKind_8 ?_
  refine lv_topl (fun x_2 ex_2 => ?_)
  refine lv_lor hx hb dX1_ofKind_9 ?_
  refine lv_topl (fun x_3 ex_3 => ?_)
  have hP9 := hP.sub (ws' := []) [] rfl
  have hD9 := hD.sub (ws' := []) [] (by decide) rfl
  have hK9 := hK.sub (tys' := []) [] rfl
  exact W.lret (v := x_3) hx hb hr (fun t ht hW => ⟨⟨x_3, (), rfl, trivial, by rw [ht]; exact hP9, va_K.moved hW.alike hK9, hD9⟩, hS.F ht⟩) hS.2.2 dX1_ofKind_10
set_option maxHeartbeats 4000000 in
set_option maxRecDepth 100000 in
theorem c_X1_ofCell (l : Launch) (dC : Nat → ClassId) (dI : Nat → Nat → Nat) (aK aV : Nat → Nat) (nu : Int32) (sz : Nat)  : Met l yX1_ofCell (Cond.code yX1_ofCell cX1_ofCell 1 (some .long) :: zw) ({ frames := 8, cells := 0, slots := 0, locals := 200 }) (va_Pc [.int nu] (zP dC dI aK aV sz [] [])) (va_Ql (fun (r : Int64) (u : Unit) => True) (fun u => zQ dC dI (va_A [] sz) [] []) (va_A [] sz)) 0 0 (va_A [] sz) := by
  refine Met.ofW (cc := cX1_ofCell) (maxL := 1) (ret := (some .long)) (by decide) rfl ?_
  intro p e s m args below meth c s₁ B hml hv
  obtain ⟨rfl, hsz, hP, hK, hD0, hN, hT⟩ := hv
  have hx := B.exec
  have hb := B.bytes
  have hr := B.returns
  have hts := atoms_spec (ws := Cond.code yX1_ofCell cX1_ofCell 1 (some .long) :: zw) B.pre
  have hA : ∀ w ∈ zw, w.before _ s = true := fun w h => hts w (List.mem_cons_of_mem _ h)
  have hown : s.vm.findClass RX1 = some m.cls := findClass_of_methodNamed B.named
  have hlocks := B.notSynchronized
  subst hsz
  have hD := hD0.self (sz := s.heap.size)
  generalize hAe : va_A [] s.heap.size = A at hD hT ⊢
  have hAA : ∀ q : Nat, s.heap.size ≤ q → A q := fun q h => by rw [← hAe]; exact Or.inr h
  have hS : va_S A s.heap s.heap [] := va_S.rf
  have hl := lv_entry ([.int nu]) (n := 1) (Nat.le_of_ble_eq_true rfl)
  rw [lg_entry_eq]
  generalize (lg_sl ([.int nu]) ++ List.replicate (1 - (lg_sl ([.int nu])).length) Slot.unset).toArray = ls at hl ⊢
  have hl : lv_has ls 1 [(0, .int nu)] := hl
  refine lv_ldc2 (v := 8589934592) hx hb hown (hA _ wi_1214) dX1_ofCell_0 ?_
  refine lv_iload_n hx hb dX1_ofCell_3 rfl (lv_at hl 0 rfl) ?_
  obtain ⟨x_1, ex_1⟩ : ∃ z : Int64, z = Int32.toInt64 nu := ⟨_, rfl⟩
  refine lv_i2l (v := x_1) hx hb dX1_ofCell_4 ex_1.symm ?_
  refine lv_ldc2 (v := 4294967295) hx hb hown (hA _ wi_1104) dX1_ofCell_5 ?_
  refine lv_land hx hb dX1_ofCell_8 ?_
  refine lv_topl (fun x_2 ex_2 => ?_)
  refine lv_lor hx hb dX1_ofCell_9 ?_
  refine lv_topl (fun x_3 ex_3 => ?_)
  have hP9 := hP.sub (ws' := []) [] rfl
  have hD9 := hD.sub (ws' := []) [] (by decide) rfl
  have hK9 := hK.sub (tys' := []) [] rfl
  exact W.lret (v := x_3) hx hb hr (fun t ht hW => ⟨⟨x_3, (), rfl, trivial, by rw [ht]; exact hP9, va_K.moved hW.alike hK9, hD9⟩, hS.F ht⟩) hS.2.2 dX1_ofCell_10
set_option maxHeartbeats 4000000 in
set_option maxRecDepth 100000 in
theorem c_X1_begin_400 (l : Launch) (dC : Nat → ClassId) (dI : Nat → Nat → Nat) (aK aV : Nat → Nat) (h0 : Nat) (nki : Nat) (ek : Nat) (ec : Nat) (ef : Nat) (cki : Nat) (e1 : ClassId) (e2 : ClassId) (e3 : ClassId) (e_limit : Int32) (e_fresh : Int32) (e_firstFree : Int32) (e_held : Int32) (e_mostHeld : Int32) (e_made : Int32) (e_reused : Int32) (e_freed : Int32) (e_doubled : Int32) (gk : Nat → Int32) (gc : Nat → Int32) (gv : Nat → Int64) (mo : Int32) (sz : Nat)  : Met l yX1_begin (Cond.code yX1_begin cX1_begin 3 none :: zw) ({ frames := 8, cells := 0, slots := 0, locals := 200 }) (va_Pc [.ref h0, .ref nki, .int mo] (zP dC dI aK aV sz [(e1, .int), (e2, .int), (e3, .long)] [(h0, .inr (1, [.ref ek, .ref ec, .ref ef, .ref cki, .int e_limit, .int e_fresh, .int e_firstFree, .int e_held, .int e_mostHeld, .int e_made, .int e_reused, .int e_freed, .int e_doubled])), (ek, .inl (e1, 400, .inl gk)), (ec, .inl (e2, 400, .inl gc)), (ef, .inl (e3, 1200, .inr (.inl gv)))])) (va_Qv (fun u : Int32 => match u with | li => (li.toInt ≤ mo.toInt) ∧ (li.toInt ≤ 400)) (fun u => match u with | li => zQ dC dI (va_A [(h0, .inr (1, [.ref ek, .ref ec, .ref ef, .ref cki, .int e_limit, .int e_fresh, .int e_firstFree, .int e_held, .int e_mostHeld, .int e_made, .int e_reused, .int e_freed, .int e_doubled])), (ek, .inl (e1, 400, .inl gk)), (ec, .inl (e2, 400, .inl gc)), (ef, .inl (e3, 1200, .inr (.inl gv)))] sz) [(e1, .int), (e2, .int), (e3, .long)] [(h0, .inr (1, [.ref ek, .ref ec, .ref ef, .ref nki, .int li, .int 0, .int (-1), .int 0, .int 0, .int 0, .int 0, .int 0, .int 0])), (ek, .inl (e1, 400, .inl gk)), (ec, .inl (e2, 400, .inl gc)), (ef, .inl (e3, 1200, .inr (.inl gv)))]) (va_A [(h0, .inr (1, [.ref ek, .ref ec, .ref ef, .ref cki, .int e_limit, .int e_fresh, .int e_firstFree, .int e_held, .int e_mostHeld, .int e_made, .int e_reused, .int e_freed, .int e_doubled])), (ek, .inl (e1, 400, .inl gk)), (ec, .inl (e2, 400, .inl gc)), (ef, .inl (e3, 1200, .inr (.inl gv)))] sz)) 0 0 (va_A [(h0, .inr (1, [.ref ek, .ref ec, .ref ef, .ref cki, .int e_limit, .int e_fresh, .int e_firstFree, .int e_held, .int e_mostHeld, .int e_made, .int e_reused, .int e_freed, .int e_doubled])), (ek, .inl (e1, 400, .inl gk)), (ec, .inl (e2, 400, .inl gc)), (ef, .inl (e3, 1200, .inr (.inl gv)))] sz) := by
  refine Met.ofW (cc := cX1_begin) (maxL := 3) (ret := none) (by decide) rfl ?_
  intro p e s m args below meth c s₁ B hml hv
  obtain ⟨rfl, hsz, hP, hK, hD0, hN, hT⟩ := hv
  have hx := B.exec
  have hb := B.bytes
  have hr := B.returns
  have hts := atoms_spec (ws := Cond.code yX1_begin cX1_begin 3 none :: zw) B.pre
  have hA : ∀ w ∈ zw, w.before _ s = true := fun w h => hts w (List.mem_cons_of_mem _ h)
  have hown : s.vm.findClass RX1 = some m.cls := findClass_of_methodNamed B.named
  have hlocks := B.notSynchronized
  subst hsz
  have hD := hD0.self (sz := s.heap.size)
  generalize hAe : va_A [(h0, .inr (1, [.ref ek, .ref ec, .ref ef, .ref cki, .int e_limit, .int e_fresh, .int e_firstFree, .int e_held, .int e_mostHeld, .int e_made, .int e_reused, .int e_freed, .int e_doubled])), (ek, .inl (e1, 400, .inl gk)), (ec, .inl (e2, 400, .inl gc)), (ef, .inl (e3, 1200, .inr (.inl gv)))] s.heap.size = A at hD hT ⊢
  have hAA : ∀ q : Nat, s.heap.size ≤ q → A q := fun q h => by rw [← hAe]; exact Or.inr h
  have hS : va_S A s.heap s.heap [] := va_S.rf
  have hl := lv_entry ([.ref h0, .ref nki, .int mo]) (n := 3) (Nat.le_of_ble_eq_true rfl)
  rw [lg_entry_eq]
  generalize (lg_sl ([.ref h0, .ref nki, .int mo]) ++ List.replicate (3 - (lg_sl ([.ref h0, .ref nki, .int mo])).length) Slot.unset).toArray = ls at hl ⊢
  have hl : lv_has ls 3 [(0, .ref h0), (1, .ref nki), (2, .int mo)] := hl
  refine lv_aload_n hx hb dX1_begin_0 rfl (lv_at hl 0 rfl) ?_
  refine lv_aload_n hx hb dX1_begin_1 rfl (lv_at hl 1 rfl) ?_
  refine va_put (D := (dC, dI)) (ci := 1) (v := .ref nki) (ty := .object "ReuseHouse$Kinds") (C := RX1) (T := TX1) (N := 13) hx hb hA zin_X1 tyX1 tyX1_ok nmX1 hown hK hP hD hS 0 rfl rfl 3 (by decide) (hA _ wi_439) (fun _ h9 => h9) rfl (by decide +kernel) rfl rfl (Nat.le_of_ble_eq_true rfl) dX1_begin_2 (fun H locs hP hD hS => ?_)
  have hP : va_P (dC, dI) vwCl [(h0, .inr (1, [.ref ek, .ref ec, .ref ef, .ref nki, .int e_limit, .int e_fresh, .int e_firstFree, .int e_held, .int e_mostHeld, .int e_made, .int e_reused, .int e_freed, .int e_doubled])), (ek, .inl (e1, 400, .inl gk)), (ec, .inl (e2, 400, .inl gc)), (ef, .inl (e3, 1200, .inr (.inl gv)))] H := hP
  have hD : va_D A [(h0, .inr (1, [.ref ek, .ref ec, .ref ef, .ref nki, .int e_limit, .int e_fresh, .int e_firstFree, .int e_held, .int e_mostHeld, .int e_made, .int e_reused, .int e_freed, .int e_doubled])), (ek, .inl (e1, 400, .inl gk)), (ec, .inl (e2, 400, .inl gc)), (ef, .inl (e3, 1200, .inr (.inl gv)))] := hD
  refine lv_aload_n hx hb dX1_begin_5 rfl (lv_at hl 0 rfl) ?_
  refine lv_iload_n hx hb dX1_begin_6 rfl (lv_at hl 2 rfl) ?_
  refine lv_aload_n hx hb dX1_begin_7 rfl (lv_at hl 0 rfl) ?_
  refine va_get (D := (dC, dI)) (ci := 1) (v := .ref ek) (C := RX1) (T := TX1) (N := 13) hx hb hA zin_X1 hown hK hP 0 rfl rfl 0 (by decide) (hA _ wi_435) (fun _ h9 => h9) rfl dX1_begin_8 ?_
  refine va_alen (v := 400) hx hb hK hP 1 0 rfl rfl rfl dX1_begin_11 ?_
  refine va_mmin hx hb (by rw [hml]; exact hl.1.symm) hown (hA _ wi_1092) (hA _ wi_658) (hA _ wi_141) (hA _ wi_659) (Nat.le_of_ble_eq_true rfl) (Nat.le_of_ble_eq_true rfl) (Nat.le_of_ble_eq_true rfl) (Nat.le_of_ble_eq_true rfl) dX1_begin_12 ?_
  refine lv_topi (fun x_1 ex_1 => ?_)
  have ix_1 : x_1.toInt ≤ mo.toInt ∧ x_1.toInt ≤ 400 ∧ (x_1.toInt = mo.toInt ∨ x_1.toInt = 400) := zi_min ex_1 rfl (by decide)
  refine va_put (D := (dC, dI)) (ci := 1) (v := .int x_1) (ty := .int) (C := RX1) (T := TX1) (N := 13) hx hb hA zin_X1 tyX1 tyX1_ok nmX1 hown hK hP hD hS 0 rfl rfl 4 (by decide) (hA _ wi_441) (fun _ h9 => h9) rfl (by decide +kernel) rfl rfl (Nat.le_of_ble_eq_true rfl) dX1_begin_15 (fun H locs hP hD hS => ?_)
  have hP : va_P (dC, dI) vwCl [(h0, .inr (1, [.ref ek, .ref ec, .ref ef, .ref nki, .int x_1, .int e_fresh, .int e_firstFree, .int e_held, .int e_mostHeld, .int e_made, .int e_reused, .int e_freed, .int e_doubled])), (ek, .inl (e1, 400, .inl gk)), (ec, .inl (e2, 400, .inl gc)), (ef, .inl (e3, 1200, .inr (.inl gv)))] H := hP
  have hD : va_D A [(h0, .inr (1, [.ref ek, .ref ec, .ref ef, .ref nki, .int x_1, .int e_fresh, .int e_firstFree, .int e_held, .int e_mostHeld, .int e_made, .int e_reused, .int e_freed, .int e_doubled])), (ek, .inl (e1, 400, .inl gk)), (ec, .inl (e2, 400, .inl gc)), (ef, .inl (e3, 1200, .inr (.inl gv)))] := hD
  refine lv_aload_n hx hb dX1_begin_18 rfl (lv_at hl 0 rfl) ?_
  refine lv_iconst (v := 0) hx hb dX1_begin_19 (by decide) ?_
  refine va_put (D := (dC, dI)) (ci := 1) (v := .int 0) (ty := .int) (C := RX1) (T := TX1) (N := 13) hx hb hA zin_X1 tyX1 tyX1_ok nmX1 hown hK hP hD hS 0 rfl rfl 5 (by decide) (hA _ wi_442) (fun _ h9 => h9) rfl (by decide +kernel) rfl rfl (Nat.le_of_ble_eq_true rfl) dX1_begin_20 (fun H locs hP hD hS => ?_)
  have hP : va_P (dC, dI) vwCl [(h0, .inr (1, [.ref ek, .ref ec, .ref ef, .ref nki, .int x_1, .int 0, .int e_firstFree, .int e_held, .int e_mostHeld, .int e_made, .int e_reused, .int e_freed, .int e_doubled])), (ek, .inl (e1, 400, .inl gk)), (ec, .inl (e2, 400, .inl gc)), (ef, .inl (e3, 1200, .inr (.inl gv)))] H := hP
  have hD : va_D A [(h0, .inr (1, [.ref ek, .ref ec, .ref ef, .ref nki, .int x_1, .int 0, .int e_firstFree, .int e_held, .int e_mostHeld, .int e_made, .int e_reused, .int e_freed, .int e_doubled])), (ek, .inl (e1, 400, .inl gk)), (ec, .inl (e2, 400, .inl gc)), (ef, .inl (e3, 1200, .inr (.inl gv)))] := hD
  refine lv_aload_n hx hb dX1_begin_23 rfl (lv_at hl 0 rfl) ?_
  refine lv_iconst (v := (-1)) hx hb dX1_begin_24 (by decide) ?_
  refine va_put (D := (dC, dI)) (ci := 1) (v := .int (-1)) (ty := .int) (C := RX1) (T := TX1) (N := 13) hx hb hA zin_X1 tyX1 tyX1_ok nmX1 hown hK hP hD hS 0 rfl rfl 6 (by decide) (hA _ wi_443) (fun _ h9 => h9) rfl (by decide +kernel) rfl rfl (Nat.le_of_ble_eq_true rfl) dX1_begin_25 (fun H locs hP hD hS => ?_)
  have hP : va_P (dC, dI) vwCl [(h0, .inr (1, [.ref ek, .ref ec, .ref ef, .ref nki, .int x_1, .int 0, .int (-1), .int e_held, .int e_mostHeld, .int e_made, .int e_reused, .int e_freed, .int e_doubled])), (ek, .inl (e1, 400, .inl gk)), (ec, .inl (e2, 400, .inl gc)), (ef, .inl (e3, 1200, .inr (.inl gv)))] H := hP
  have hD : va_D A [(h0, .inr (1, [.ref ek, .ref ec, .ref ef, .ref nki, .int x_1, .int 0, .int (-1), .int e_held, .int e_mostHeld, .int e_made, .int e_reused, .int e_freed, .int e_doubled])), (ek, .inl (e1, 400, .inl gk)), (ec, .inl (e2, 400, .inl gc)), (ef, .inl (e3, 1200, .inr (.inl gv)))] := hD
  refine lv_aload_n hx hb dX1_begin_28 rfl (lv_at hl 0 rfl) ?_
  refine lv_iconst (v := 0) hx hb dX1_begin_29 (by decide) ?_
  refine va_put (D := (dC, dI)) (ci := 1) (v := .int 0) (ty := .int) (C := RX1) (T := TX1) (N := 13) hx hb hA zin_X1 tyX1 tyX1_ok nmX1 hown hK hP hD hS 0 rfl rfl 7 (by decide) (hA _ wi_444) (fun _ h9 => h9) rfl (by decide +kernel) rfl rfl (Nat.le_of_ble_eq_true rfl) dX1_begin_30 (fun H locs hP hD hS => ?_)
  have hP : va_P (dC, dI) vwCl [(h0, .inr (1, [.ref ek, .ref ec, .ref ef, .ref nki, .int x_1, .int 0, .int (-1), .int 0, .int e_mostHeld, .int e_made, .int e_reused, .int e_freed, .int e_doubled])), (ek, .inl (e1, 400, .inl gk)), (ec, .inl (e2, 400, .inl gc)), (ef, .inl (e3, 1200, .inr (.inl gv)))] H := hP
  have hD : va_D A [(h0, .inr (1, [.ref ek, .ref ec, .ref ef, .ref nki, .int x_1, .int 0, .int (-1), .int 0, .int e_mostHeld, .int e_made, .int e_reused, .int e_freed, .int e_doubled])), (ek, .inl (e1, 400, .inl gk)), (ec, .inl (e2, 400, .inl gc)), (ef, .inl (e3, 1200, .inr (.inl gv)))] := hD
  refine lv_aload_n hx hb dX1_begin_33 rfl (lv_at hl 0 rfl) ?_
  refine lv_iconst (v := 0) hx hb dX1_begin_34 (by decide) ?_
  refine va_put (D := (dC, dI)) (ci := 1) (v := .int 0) (ty := .int) (C := RX1) (T := TX1) (N := 13) hx hb hA zin_X1 tyX1 tyX1_ok nmX1 hown hK hP hD hS 0 rfl rfl 8 (by decide) (hA _ wi_446) (fun _ h9 => h9) rfl (by decide +kernel) rfl rfl (Nat.le_of_ble_eq_true rfl) dX1_begin_35 (fun H locs hP hD hS => ?_)
  have hP : va_P (dC, dI) vwCl [(h0, .inr (1, [.ref ek, .ref ec, .ref ef, .ref nki, .int x_1, .int 0, .int (-1), .int 0, .int 0, .int e_made, .int e_reused, .int e_freed, .int e_doubled])), (ek, .inl (e1, 400, .inl gk)), (ec, .inl (e2, 400, .inl gc)), (ef, .inl (e3, 1200, .inr (.inl gv)))] H := hP
  have hD : va_D A [(h0, .inr (1, [.ref ek, .ref ec, .ref ef, .ref nki, .int x_1, .int 0, .int (-1), .int 0, .int 0, .int e_made, .int e_reused, .int e_freed, .int e_doubled])), (ek, .inl (e1, 400, .inl gk)), (ec, .inl (e2, 400, .inl gc)), (ef, .inl (e3, 1200, .inr (.inl gv)))] := hD
  refine lv_aload_n hx hb dX1_begin_38 rfl (lv_at hl 0 rfl) ?_
  refine lv_iconst (v := 0) hx hb dX1_begin_39 (by decide) ?_
  refine va_put (D := (dC, dI)) (ci := 1) (v := .int 0) (ty := .int) (C := RX1) (T := TX1) (N := 13) hx hb hA zin_X1 tyX1 tyX1_ok nmX1 hown hK hP hD hS 0 rfl rfl 9 (by decide) (hA _ wi_448) (fun _ h9 => h9) rfl (by decide +kernel) rfl rfl (Nat.le_of_ble_eq_true rfl) dX1_begin_40 (fun H locs hP hD hS => ?_)
  have hP : va_P (dC, dI) vwCl [(h0, .inr (1, [.ref ek, .ref ec, .ref ef, .ref nki, .int x_1, .int 0, .int (-1), .int 0, .int 0, .int 0, .int e_reused, .int e_freed, .int e_doubled])), (ek, .inl (e1, 400, .inl gk)), (ec, .inl (e2, 400, .inl gc)), (ef, .inl (e3, 1200, .inr (.inl gv)))] H := hP
  have hD : va_D A [(h0, .inr (1, [.ref ek, .ref ec, .ref ef, .ref nki, .int x_1, .int 0, .int (-1), .int 0, .int 0, .int 0, .int e_reused, .int e_freed, .int e_doubled])), (ek, .inl (e1, 400, .inl gk)), (ec, .inl (e2, 400, .inl gc)), (ef, .inl (e3, 1200, .inr (.inl gv)))] := hD
  refine lv_aload_n hx hb dX1_begin_43 rfl (lv_at hl 0 rfl) ?_
  refine lv_iconst (v := 0) hx hb dX1_begin_44 (by decide) ?_
  refine va_put (D := (dC, dI)) (ci := 1) (v := .int 0) (ty := .int) (C := RX1) (T := TX1) (N := 13) hx hb hA zin_X1 tyX1 tyX1_ok nmX1 hown hK hP hD hS 0 rfl rfl 10 (by decide) (hA _ wi_450) (fun _ h9 => h9) rfl (by decide +kernel) rfl rfl (Nat.le_of_ble_eq_true rfl) dX1_begin_45 (fun H locs hP hD hS => ?_)
  have hP : va_P (dC, dI) vwCl [(h0, .inr (1, [.ref ek, .ref ec, .ref ef, .ref nki, .int x_1, .int 0, .int (-1), .int 0, .int 0, .int 0, .int 0, .int e_freed, .int e_doubled])), (ek, .inl (e1, 400, .inl gk)), (ec, .inl (e2, 400, .inl gc)), (ef, .inl (e3, 1200, .inr (.inl gv)))] H := hP
  have hD : va_D A [(h0, .inr (1, [.ref ek, .ref ec, .ref ef, .ref nki, .int x_1, .int 0, .int (-1), .int 0, .int 0, .int 0, .int 0, .int e_freed, .int e_doubled])), (ek, .inl (e1, 400, .inl gk)), (ec, .inl (e2, 400, .inl gc)), (ef, .inl (e3, 1200, .inr (.inl gv)))] := hD
  refine lv_aload_n hx hb dX1_begin_48 rfl (lv_at hl 0 rfl) ?_
  refine lv_iconst (v := 0) hx hb dX1_begin_49 (by decide) ?_
  refine va_put (D := (dC, dI)) (ci := 1) (v := .int 0) (ty := .int) (C := RX1) (T := TX1) (N := 13) hx hb hA zin_X1 tyX1 tyX1_ok nmX1 hown hK hP hD hS 0 rfl rfl 11 (by decide) (hA _ wi_453) (fun _ h9 => h9) rfl (by decide +kernel) rfl rfl (Nat.le_of_ble_eq_true rfl) dX1_begin_50 (fun H locs hP hD hS => ?_)
  have hP : va_P (dC, dI) vwCl [(h0, .inr (1, [.ref ek, .ref ec, .ref ef, .ref nki, .int x_1, .int 0, .int (-1), .int 0, .int 0, .int 0, .int 0, .int 0, .int e_doubled])), (ek, .inl (e1, 400, .inl gk)), (ec, .inl (e2, 400, .inl gc)), (ef, .inl (e3, 1200, .inr (.inl gv)))] H := hP
  have hD : va_D A [(h0, .inr (1, [.ref ek, .ref ec, .ref ef, .ref nki, .int x_1, .int 0, .int (-1), .int 0, .int 0, .int 0, .int 0, .int 0, .int e_doubled])), (ek, .inl (e1, 400, .inl gk)), (ec, .inl (e2, 400, .inl gc)), (ef, .inl (e3, 1200, .inr (.inl gv)))] := hD
  refine lv_aload_n hx hb dX1_begin_53 rfl (lv_at hl 0 rfl) ?_
  refine lv_iconst (v := 0) hx hb dX1_begin_54 (by decide) ?_
  refine va_put (D := (dC, dI)) (ci := 1) (v := .int 0) (ty := .int) (C := RX1) (T := TX1) (N := 13) hx hb hA zin_X1 tyX1 tyX1_ok nmX1 hown hK hP hD hS 0 rfl rfl 12 (by decide) (hA _ wi_455) (fun _ h9 => h9) rfl (by decide +kernel) rfl rfl (Nat.le_of_ble_eq_true rfl) dX1_begin_55 (fun H locs hP hD hS => ?_)
  have hP : va_P (dC, dI) vwCl [(h0, .inr (1, [.ref ek, .ref ec, .ref ef, .ref nki, .int x_1, .int 0, .int (-1), .int 0, .int 0, .int 0, .int 0, .int 0, .int 0])), (ek, .inl (e1, 400, .inl gk)), (ec, .inl (e2, 400, .inl gc)), (ef, .inl (e3, 1200, .inr (.inl gv)))] H := hP
  have hD : va_D A [(h0, .inr (1, [.ref ek, .ref ec, .ref ef, .ref nki, .int x_1, .int 0, .int (-1), .int 0, .int 0, .int 0, .int 0, .int 0, .int 0])), (ek, .inl (e1, 400, .inl gk)), (ec, .inl (e2, 400, .inl gc)), (ef, .inl (e3, 1200, .inr (.inl gv)))] := hD
  have hP9 := hP.sub (ws' := [(h0, .inr (1, [.ref ek, .ref ec, .ref ef, .ref nki, .int x_1, .int 0, .int (-1), .int 0, .int 0, .int 0, .int 0, .int 0, .int 0])), (ek, .inl (e1, 400, .inl gk)), (ec, .inl (e2, 400, .inl gc)), (ef, .inl (e3, 1200, .inr (.inl gv)))]) [0, 1, 2, 3] rfl
  have hD9 := hD.sub (ws' := [(h0, .inr (1, [.ref ek, .ref ec, .ref ef, .ref nki, .int x_1, .int 0, .int (-1), .int 0, .int 0, .int 0, .int 0, .int 0, .int 0])), (ek, .inl (e1, 400, .inl gk)), (ec, .inl (e2, 400, .inl gc)), (ef, .inl (e3, 1200, .inr (.inl gv)))]) [0, 1, 2, 3] (by decide) rfl
  have hK9 := hK.sub (tys' := [(e1, .int), (e2, .int), (e3, .long)]) [0, 1, 2] rfl
  exact W.vret hx hb hr (fun t ht hW => ⟨⟨(x_1), rfl, ⟨by omega, by omega⟩, by rw [ht]; exact hP9, va_K.moved hW.alike hK9, hD9⟩, hS.F ht⟩) hS.2.2 dX1_begin_58
set_option maxHeartbeats 4000000 in
set_option maxRecDepth 100000 in
theorem c_X1_width_400 (l : Launch) (dC : Nat → ClassId) (dI : Nat → Nat → Nat) (aK aV : Nat → Nat) (h0 : Nat) (ek : Nat) (ec : Nat) (ef : Nat) (cki : Nat) (e1 : ClassId) (e2 : ClassId) (e3 : ClassId) (e_limit : Int32) (e_fresh : Int32) (e_firstFree : Int32) (e_held : Int32) (e_mostHeld : Int32) (e_made : Int32) (e_reused : Int32) (e_freed : Int32) (e_doubled : Int32) (gk : Nat → Int32) (gc : Nat → Int32) (gv : Nat → Int64) (kw : Nat) (kf : Nat) (k1 : ClassId) (k2 : ClassId) (z : Int32) (gw : Nat → Int64) (gf : Nat → Int32) (ce : Int32) (sz : Nat) (hz0 : 0 ≤ z.toInt) (hz1 : z.toInt ≤ 20) (hgf : zx 4 gf) (hc0 : 0 ≤ ce.toInt) (hc1 : ce.toInt < 400) : Met l yX1_width (Cond.code yX1_width cX1_width 2 (some .int) :: zw) ({ frames := 10, cells := 0, slots := 0, locals := 300 }) (va_Pc [.ref h0, .int ce] (zP dC dI aK aV sz [(e1, .int), (e2, .int), (e3, .long), (k1, .long), (k2, .int)] [(h0, .inr (1, [.ref ek, .ref ec, .ref ef, .ref cki, .int e_limit, .int e_fresh, .int e_firstFree, .int e_held, .int e_mostHeld, .int e_made, .int e_reused, .int e_freed, .int e_doubled])), (ek, .inl (e1, 400, .inl gk)), (ec, .inl (e2, 400, .inl gc)), (ef, .inl (e3, 1200, .inr (.inl gv))), (cki, .inr (4, [.ref kw, .ref kf, .int z])), (kw, .inl (k1, 20, .inr (.inl gw))), (kf, .inl (k2, 20, .inl gf))])) (va_Qi (fun (r : Int32) (u : Unit) => (0 ≤ r.toInt) ∧ (r.toInt ≤ 3)) (fun u => zQ dC dI (va_A [(h0, .inr (1, [.ref ek, .ref ec, .ref ef, .ref cki, .int e_limit, .int e_fresh, .int e_firstFree, .int e_held, .int e_mostHeld, .int e_made, .int e_reused, .int e_freed, .int e_doubled])), (ek, .inl (e1, 400, .inl gk)), (ec, .inl (e2, 400, .inl gc)), (ef, .inl (e3, 1200, .inr (.inl gv))), (cki, .inr (4, [.ref kw, .ref kf, .int z])), (kw, .inl (k1, 20, .inr (.inl gw))), (kf, .inl (k2, 20, .inl gf))] sz) [(e1, .int), (e2, .int), (e3, .long), (k1, .long), (k2, .int)] [(h0, .inr (1, [.ref ek, .ref ec, .ref ef, .ref cki, .int e_limit, .int e_fresh, .int e_firstFree, .int e_held, .int e_mostHeld, .int e_made, .int e_reused, .int e_freed, .int e_doubled])), (ek, .inl (e1, 400, .inl gk)), (ec, .inl (e2, 400, .inl gc)), (ef, .inl (e3, 1200, .inr (.inl gv))), (cki, .inr (4, [.ref kw, .ref kf, .int z])), (kw, .inl (k1, 20, .inr (.inl gw))), (kf, .inl (k2, 20, .inl gf))]) (va_A [(h0, .inr (1, [.ref ek, .ref ec, .ref ef, .ref cki, .int e_limit, .int e_fresh, .int e_firstFree, .int e_held, .int e_mostHeld, .int e_made, .int e_reused, .int e_freed, .int e_doubled])), (ek, .inl (e1, 400, .inl gk)), (ec, .inl (e2, 400, .inl gc)), (ef, .inl (e3, 1200, .inr (.inl gv))), (cki, .inr (4, [.ref kw, .ref kf, .int z])), (kw, .inl (k1, 20, .inr (.inl gw))), (kf, .inl (k2, 20, .inl gf))] sz)) 0 0 (va_A [(h0, .inr (1, [.ref ek, .ref ec, .ref ef, .ref cki, .int e_limit, .int e_fresh, .int e_firstFree, .int e_held, .int e_mostHeld, .int e_made, .int e_reused, .int e_freed, .int e_doubled])), (ek, .inl (e1, 400, .inl gk)), (ec, .inl (e2, 400, .inl gc)), (ef, .inl (e3, 1200, .inr (.inl gv))), (cki, .inr (4, [.ref kw, .ref kf, .int z])), (kw, .inl (k1, 20, .inr (.inl gw))), (kf, .inl (k2, 20, .inl gf))] sz) := by
  refine Met.ofW (cc := cX1_width) (maxL := 2) (ret := (some .int)) (by decide) rfl ?_
  intro p e s m args below meth c s₁ B hml hv
  obtain ⟨rfl, hsz, hP, hK, hD0, hN, hT⟩ := hv
  have hx := B.exec
  have hb := B.bytes
  have hr := B.returns
  have hts := atoms_spec (ws := Cond.code yX1_width cX1_width 2 (some .int) :: zw) B.pre
  have hA : ∀ w ∈ zw, w.before _ s = true := fun w h => hts w (List.mem_cons_of_mem _ h)
  have hown : s.vm.findClass RX1 = some m.cls := findClass_of_methodNamed B.named
  have hlocks := B.notSynchronized
  subst hsz
  have hD := hD0.self (sz := s.heap.size)
  generalize hAe : va_A [(h0, .inr (1, [.ref ek, .ref ec, .ref ef, .ref cki, .int e_limit, .int e_fresh, .int e_firstFree, .int e_held, .int e_mostHeld, .int e_made, .int e_reused, .int e_freed, .int e_doubled])), (ek, .inl (e1, 400, .inl gk)), (ec, .inl (e2, 400, .inl gc)), (ef, .inl (e3, 1200, .inr (.inl gv))), (cki, .inr (4, [.ref kw, .ref kf, .int z])), (kw, .inl (k1, 20, .inr (.inl gw))), (kf, .inl (k2, 20, .inl gf))] s.heap.size = A at hD hT ⊢
  have hAA : ∀ q : Nat, s.heap.size ≤ q → A q := fun q h => by rw [← hAe]; exact Or.inr h
  have hS : va_S A s.heap s.heap [] := va_S.rf
  have hl := lv_entry ([.ref h0, .int ce]) (n := 2) (Nat.le_of_ble_eq_true rfl)
  rw [lg_entry_eq]
  generalize (lg_sl ([.ref h0, .int ce]) ++ List.replicate (2 - (lg_sl ([.ref h0, .int ce])).length) Slot.unset).toArray = ls at hl ⊢
  have hl : lv_has ls 2 [(0, .ref h0), (1, .int ce)] := hl
  refine lv_aload_n hx hb dX1_width_0 rfl (lv_at hl 0 rfl) ?_
  refine va_get (D := (dC, dI)) (ci := 1) (v := .ref cki) (C := RX1) (T := TX1) (N := 13) hx hb hA zin_X1 hown hK hP 0 rfl rfl 3 (by decide) (hA _ wi_439) (fun _ h9 => h9) rfl dX1_width_1 ?_
  refine lv_aload_n hx hb dX1_width_4 rfl (lv_at hl 0 rfl) ?_
  refine va_get (D := (dC, dI)) (ci := 1) (v := .ref ek) (C := RX1) (T := TX1) (N := 13) hx hb hA zin_X1 hown hK hP 0 rfl rfl 0 (by decide) (hA _ wi_435) (fun _ h9 => h9) rfl dX1_width_5 ?_
  refine lv_iload_n hx hb dX1_width_8 rfl (lv_at hl 1 rfl) ?_
  refine va_iald hx hb hK hP 1 0 rfl rfl (vp_in_iff.mpr ⟨by omega, by omega⟩) dX1_width_9 ?_
  refine lv_topi (fun x_1 ex_1 => ?_)
  have hPc := hP.sub (ws' := [(cki, .inr (4, [.ref kw, .ref kf, .int z])), (kw, .inl (k1, 20, .inr (.inl gw))), (kf, .inl (k2, 20, .inl gf))]) [4, 5, 6] rfl
  have hDc := hD.sub (ws' := [(cki, .inr (4, [.ref kw, .ref kf, .int z])), (kw, .inl (k1, 20, .inr (.inl gw))), (kf, .inl (k2, 20, .inl gf))]) [4, 5, 6] (by decide) rfl
  have hKc := hK.sub (tys' := [(k1, .long), (k2, .int)]) [3, 4] rfl
  have hFc := va_free (wc := [(cki, .inr (4, [.ref kw, .ref kf, .int z])), (kw, .inl (k1, 20, .inr (.inl gw))), (kf, .inl (k2, 20, .inl gf))]) hD hS hAA [4, 5, 6] rfl
  refine va_calli (va_runV (As := [.int x_1]) (rest := []) ⟨hx, hb, hml, hown, hA⟩ (c_X4_fieldsOf l dC dI aK aV cki kw kf k1 k2 z gw gf x_1 s.heap.size (by omega) (by omega) hgf) (cwV 1 hA (zw_V wi_1154 wi_803 wi_804 wi_134 (zw_good wi_805)) rfl rfl rfl (by decide +kernel) ⟨(Nat.le_of_ble_eq_true rfl), (Nat.le_of_ble_eq_true rfl)⟩) ⟨zP_blind, va_recv hKc hPc (ci := 4) (q0 := 0) rfl rfl, zz_pre hKc hPc hDc hN hT hS hFc⟩ rfl rfl hl.1 rfl (lv_room (Nat.le_of_ble_eq_true rfl)) dX1_width_10 ⟨(Nat.le_of_ble_eq_true rfl), (Nat.le_of_ble_eq_true rfl)⟩) hS (fun q _ h => hFc q h) hFc (fun r_2 u t H1 locs ht hvm hw hB hz1 hk1 hS => ?_)
  obtain ⟨hP1, hK1, hD1⟩ := hB
  rw [ht] at hP1
  have hK1 := va_K.moved hvm.symm hK1
  obtain ⟨hP, hD⟩ := va_join (wr := [(h0, .inr (1, [.ref ek, .ref ec, .ref ef, .ref cki, .int e_limit, .int e_fresh, .int e_firstFree, .int e_held, .int e_mostHeld, .int e_made, .int e_reused, .int e_freed, .int e_doubled])), (ek, .inl (e1, 400, .inl gk)), (ec, .inl (e2, 400, .inl gc)), (ef, .inl (e3, 1200, .inr (.inl gv)))]) (w1 := [(cki, .inr (4, [.ref kw, .ref kf, .int z])), (kw, .inl (k1, 20, .inr (.inl gw))), (kf, .inl (k2, 20, .inl gf))]) hP hD [4, 5, 6] [0, 1, 2, 3] rfl rfl (by decide) (by decide) hk1 hFc hP1 hD1
  have hK := (hK.sub (tys' := [(e1, .int), (e2, .int), (e3, .long)]) [0, 1, 2] rfl).app hK1
  generalize H1 = H at hP hS ⊢
  have hP : va_P (dC, dI) vwCl [(h0, .inr (1, [.ref ek, .ref ec, .ref ef, .ref cki, .int e_limit, .int e_fresh, .int e_firstFree, .int e_held, .int e_mostHeld, .int e_made, .int e_reused, .int e_freed, .int e_doubled])), (ek, .inl (e1, 400, .inl gk)), (ec, .inl (e2, 400, .inl gc)), (ef, .inl (e3, 1200, .inr (.inl gv))), (cki, .inr (4, [.ref kw, .ref kf, .int z])), (kw, .inl (k1, 20, .inr (.inl gw))), (kf, .inl (k2, 20, .inl gf))] H := hP
  have hD : va_D A [(h0, .inr (1, [.ref ek, .ref ec, .ref ef, .ref cki, .int e_limit, .int e_fresh, .int e_firstFree, .int e_held, .int e_mostHeld, .int e_made, .int e_reused, .int e_freed, .int e_doubled])), (ek, .inl (e1, 400, .inl gk)), (ec, .inl (e2, 400, .inl gc)), (ef, .inl (e3, 1200, .inr (.inl gv))), (cki, .inr (4, [.ref kw, .ref kf, .int z])), (kw, .inl (k1, 20, .inr (.inl gw))), (kf, .inl (k2, 20, .inl gf))] := hD
  have hK : va_K (dC, dI) vwCl [(e1, .int), (e2, .int), (e3, .long), (k1, .long), (k2, .int)] s := hK
  have hw_r_2 := hw
  try dsimp only at hw_r_2
  obtain ⟨hq_3, hq_4⟩ := hw
  have hP9 := hP.sub (ws' := [(h0, .inr (1, [.ref ek, .ref ec, .ref ef, .ref cki, .int e_limit, .int e_fresh, .int e_firstFree, .int e_held, .int e_mostHeld, .int e_made, .int e_reused, .int e_freed, .int e_doubled])), (ek, .inl (e1, 400, .inl gk)), (ec, .inl (e2, 400, .inl gc)), (ef, .inl (e3, 1200, .inr (.inl gv))), (cki, .inr (4, [.ref kw, .ref kf, .int z])), (kw, .inl (k1, 20, .inr (.inl gw))), (kf, .inl (k2, 20, .inl gf))]) [0, 1, 2, 3, 4, 5, 6] rfl
  have hD9 := hD.sub (ws' := [(h0, .inr (1, [.ref ek, .ref ec, .ref ef, .ref cki, .int e_limit, .int e_fresh, .int e_firstFree, .int e_held, .int e_mostHeld, .int e_made, .int e_reused, .int e_freed, .int e_doubled])), (ek, .inl (e1, 400, .inl gk)), (ec, .inl (e2, 400, .inl gc)), (ef, .inl (e3, 1200, .inr (.inl gv))), (cki, .inr (4, [.ref kw, .ref kf, .int z])), (kw, .inl (k1, 20, .inr (.inl gw))), (kf, .inl (k2, 20, .inl gf))]) [0, 1, 2, 3, 4, 5, 6] (by decide) rfl
  have hK9 := hK.sub (tys' := [(e1, .int), (e2, .int), (e3, .long), (k1, .long), (k2, .int)]) [0, 1, 2, 3, 4] rfl
  exact W.iret (v := r_2) hx hb hr (fun t ht hW => ⟨⟨r_2, (), rfl, ⟨by omega, by omega⟩, by rw [ht]; exact hP9, va_K.moved hW.alike hK9, hD9⟩, hS.F ht⟩) hS.2.2 dX1_width_13
set_option maxHeartbeats 4000000 in
set_option maxRecDepth 100000 in
theorem c_X1_field_400 (l : Launch) (dC : Nat → ClassId) (dI : Nat → Nat → Nat) (aK aV : Nat → Nat) (h0 : Nat) (ek : Nat) (ec : Nat) (ef : Nat) (cki : Nat) (e1 : ClassId) (e2 : ClassId) (e3 : ClassId) (e_limit : Int32) (e_fresh : Int32) (e_firstFree : Int32) (e_held : Int32) (e_mostHeld : Int32) (e_made : Int32) (e_reused : Int32) (e_freed : Int32) (e_doubled : Int32) (gk : Nat → Int32) (gc : Nat → Int32) (gv : Nat → Int64) (ce : Int32) (k : Int32) (sz : Nat) (hc0 : 0 ≤ ce.toInt) (hc1 : ce.toInt < 400) (hk0 : 0 ≤ k.toInt) (hk1 : k.toInt < 3) : Met l yX1_field (Cond.code yX1_field cX1_field 3 (some .long) :: zw) ({ frames := 8, cells := 0, slots := 0, locals := 200 }) (va_Pc [.ref h0, .int ce, .int k] (zP dC dI aK aV sz [(e1, .int), (e2, .int), (e3, .long)] [(h0, .inr (1, [.ref ek, .ref ec, .ref ef, .ref cki, .int e_limit, .int e_fresh, .int e_firstFree, .int e_held, .int e_mostHeld, .int e_made, .int e_reused, .int e_freed, .int e_doubled])), (ek, .inl (e1, 400, .inl gk)), (ec, .inl (e2, 400, .inl gc)), (ef, .inl (e3, 1200, .inr (.inl gv)))])) (va_Ql (fun (r : Int64) (u : Unit) => True) (fun u => zQ dC dI (va_A [(h0, .inr (1, [.ref ek, .ref ec, .ref ef, .ref cki, .int e_limit, .int e_fresh, .int e_firstFree, .int e_held, .int e_mostHeld, .int e_made, .int e_reused, .int e_freed, .int e_doubled])), (ek, .inl (e1, 400, .inl gk)), (ec, .inl (e2, 400, .inl gc)), (ef, .inl (e3, 1200, .inr (.inl gv)))] sz) [(e1, .int), (e2, .int), (e3, .long)] [(h0, .inr (1, [.ref ek, .ref ec, .ref ef, .ref cki, .int e_limit, .int e_fresh, .int e_firstFree, .int e_held, .int e_mostHeld, .int e_made, .int e_reused, .int e_freed, .int e_doubled])), (ek, .inl (e1, 400, .inl gk)), (ec, .inl (e2, 400, .inl gc)), (ef, .inl (e3, 1200, .inr (.inl gv)))]) (va_A [(h0, .inr (1, [.ref ek, .ref ec, .ref ef, .ref cki, .int e_limit, .int e_fresh, .int e_firstFree, .int e_held, .int e_mostHeld, .int e_made, .int e_reused, .int e_freed, .int e_doubled])), (ek, .inl (e1, 400, .inl gk)), (ec, .inl (e2, 400, .inl gc)), (ef, .inl (e3, 1200, .inr (.inl gv)))] sz)) 0 0 (va_A [(h0, .inr (1, [.ref ek, .ref ec, .ref ef, .ref cki, .int e_limit, .int e_fresh, .int e_firstFree, .int e_held, .int e_mostHeld, .int e_made, .int e_reused, .int e_freed, .int e_doubled])), (ek, .inl (e1, 400, .inl gk)), (ec, .inl (e2, 400, .inl gc)), (ef, .inl (e3, 1200, .inr (.inl gv)))] sz) := by
  refine Met.ofW (cc := cX1_field) (maxL := 3) (ret := (some .long)) (by decide) rfl ?_
  intro p e s m args below meth c s₁ B hml hv
  obtain ⟨rfl, hsz, hP, hK, hD0, hN, hT⟩ := hv
  have hx := B.exec
  have hb := B.bytes
  have hr := B.returns
  have hts := atoms_spec (ws := Cond.code yX1_field cX1_field 3 (some .long) :: zw) B.pre
  have hA : ∀ w ∈ zw, w.before _ s = true := fun w h => hts w (List.mem_cons_of_mem _ h)
  have hown : s.vm.findClass RX1 = some m.cls := findClass_of_methodNamed B.named
  have hlocks := B.notSynchronized
  subst hsz
  have hD := hD0.self (sz := s.heap.size)
  generalize hAe : va_A [(h0, .inr (1, [.ref ek, .ref ec, .ref ef, .ref cki, .int e_limit, .int e_fresh, .int e_firstFree, .int e_held, .int e_mostHeld, .int e_made, .int e_reused, .int e_freed, .int e_doubled])), (ek, .inl (e1, 400, .inl gk)), (ec, .inl (e2, 400, .inl gc)), (ef, .inl (e3, 1200, .inr (.inl gv)))] s.heap.size = A at hD hT ⊢
  have hAA : ∀ q : Nat, s.heap.size ≤ q → A q := fun q h => by rw [← hAe]; exact Or.inr h
  have hS : va_S A s.heap s.heap [] := va_S.rf
  have hl := lv_entry ([.ref h0, .int ce, .int k]) (n := 3) (Nat.le_of_ble_eq_true rfl)
  rw [lg_entry_eq]
  generalize (lg_sl ([.ref h0, .int ce, .int k]) ++ List.replicate (3 - (lg_sl ([.ref h0, .int ce, .int k])).length) Slot.unset).toArray = ls at hl ⊢
  have hl : lv_has ls 3 [(0, .ref h0), (1, .int ce), (2, .int k)] := hl
  refine lv_aload_n hx hb dX1_field_0 rfl (lv_at hl 0 rfl) ?_
  refine va_get (D := (dC, dI)) (ci := 1) (v := .ref ef) (C := RX1) (T := TX1) (N := 13) hx hb hA zin_X1 hown hK hP 0 rfl rfl 2 (by decide) (hA _ wi_438) (fun _ h9 => h9) rfl dX1_field_1 ?_
  refine lv_iload_n hx hb dX1_field_4 rfl (lv_at hl 1 rfl) ?_
  refine lv_iconst (v := 3) hx hb dX1_field_5 (by decide) ?_
  refine lv_imul hx hb dX1_field_6 ?_
  refine lv_topi (fun x_1 ex_1 => ?_)
  have ix_1 : x_1.toInt = ce.toInt * 3 := by rw [ex_1]; exact zi_mulc (by decide) (by omega) (by omega)
  refine lv_iload_n hx hb dX1_field_7 rfl (lv_at hl 2 rfl) ?_
  refine lv_iadd hx hb dX1_field_8 ?_
  refine lv_topi (fun x_2 ex_2 => ?_)
  have ix_2 : x_2.toInt = x_1.toInt + k.toInt := by rw [ex_2]; exact zi_addc rfl (by omega) (by omega)
  refine va_lald hx hb hK hP 3 2 rfl rfl (vp_in_iff.mpr ⟨by omega, by omega⟩) dX1_field_9 ?_
  refine lv_topl (fun x_3 ex_3 => ?_)
  have hP9 := hP.sub (ws' := [(h0, .inr (1, [.ref ek, .ref ec, .ref ef, .ref cki, .int e_limit, .int e_fresh, .int e_firstFree, .int e_held, .int e_mostHeld, .int e_made, .int e_reused, .int e_freed, .int e_doubled])), (ek, .inl (e1, 400, .inl gk)), (ec, .inl (e2, 400, .inl gc)), (ef, .inl (e3, 1200, .inr (.inl gv)))]) [0, 1, 2, 3] rfl
  have hD9 := hD.sub (ws' := [(h0, .inr (1, [.ref ek, .ref ec, .ref ef, .ref cki, .int e_limit, .int e_fresh, .int e_firstFree, .int e_held, .int e_mostHeld, .int e_made, .int e_reused, .int e_freed, .int e_doubled])), (ek, .inl (e1, 400, .inl gk)), (ec, .inl (e2, 400, .inl gc)), (ef, .inl (e3, 1200, .inr (.inl gv)))]) [0, 1, 2, 3] (by decide) rfl
  have hK9 := hK.sub (tys' := [(e1, .int), (e2, .int), (e3, .long)]) [0, 1, 2] rfl
  exact W.lret (v := x_3) hx hb hr (fun t ht hW => ⟨⟨x_3, (), rfl, trivial, by rw [ht]; exact hP9, va_K.moved hW.alike hK9, hD9⟩, hS.F ht⟩) hS.2.2 dX1_field_10
set_option maxHeartbeats 4000000 in
set_option maxRecDepth 100000 in
theorem c_X1_begin_4000 (l : Launch) (dC : Nat → ClassId) (dI : Nat → Nat → Nat) (aK aV : Nat → Nat) (h0 : Nat) (nki : Nat) (ek : Nat) (ec : Nat) (ef : Nat) (cki : Nat) (e1 : ClassId) (e2 : ClassId) (e3 : ClassId) (e_limit : Int32) (e_fresh : Int32) (e_firstFree : Int32) (e_held : Int32) (e_mostHeld : Int32) (e_made : Int32) (e_reused : Int32) (e_freed : Int32) (e_doubled : Int32) (gk : Nat → Int32) (gc : Nat → Int32) (gv : Nat → Int64) (mo : Int32) (sz : Nat)  : Met l yX1_begin (Cond.code yX1_begin cX1_begin 3 none :: zw) ({ frames := 8, cells := 0, slots := 0, locals := 200 }) (va_Pc [.ref h0, .ref nki, .int mo] (zP dC dI aK aV sz [(e1, .int), (e2, .int), (e3, .long)] [(h0, .inr (1, [.ref ek, .ref ec, .ref ef, .ref cki, .int e_limit, .int e_fresh, .int e_firstFree, .int e_held, .int e_mostHeld, .int e_made, .int e_reused, .int e_freed, .int e_doubled])), (ek, .inl (e1, 4000, .inl gk)), (ec, .inl (e2, 4000, .inl gc)), (ef, .inl (e3, 12000, .inr (.inl gv)))])) (va_Qv (fun u : Int32 => match u with | li => (li.toInt ≤ mo.toInt) ∧ (li.toInt ≤ 4000)) (fun u => match u with | li => zQ dC dI (va_A [(h0, .inr (1, [.ref ek, .ref ec, .ref ef, .ref cki, .int e_limit, .int e_fresh, .int e_firstFree, .int e_held, .int e_mostHeld, .int e_made, .int e_reused, .int e_freed, .int e_doubled])), (ek, .inl (e1, 4000, .inl gk)), (ec, .inl (e2, 4000, .inl gc)), (ef, .inl (e3, 12000, .inr (.inl gv)))] sz) [(e1, .int), (e2, .int), (e3, .long)] [(h0, .inr (1, [.ref ek, .ref ec, .ref ef, .ref nki, .int li, .int 0, .int (-1), .int 0, .int 0, .int 0, .int 0, .int 0, .int 0])), (ek, .inl (e1, 4000, .inl gk)), (ec, .inl (e2, 4000, .inl gc)), (ef, .inl (e3, 12000, .inr (.inl gv)))]) (va_A [(h0, .inr (1, [.ref ek, .ref ec, .ref ef, .ref cki, .int e_limit, .int e_fresh, .int e_firstFree, .int e_held, .int e_mostHeld, .int e_made, .int e_reused, .int e_freed, .int e_doubled])), (ek, .inl (e1, 4000, .inl gk)), (ec, .inl (e2, 4000, .inl gc)), (ef, .inl (e3, 12000, .inr (.inl gv)))] sz)) 0 0 (va_A [(h0, .inr (1, [.ref ek, .ref ec, .ref ef, .ref cki, .int e_limit, .int e_fresh, .int e_firstFree, .int e_held, .int e_mostHeld, .int e_made, .int e_reused, .int e_freed, .int e_doubled])), (ek, .inl (e1, 4000, .inl gk)), (ec, .inl (e2, 4000, .inl gc)), (ef, .inl (e3, 12000, .inr (.inl gv)))] sz) := by
  refine Met.ofW (cc := cX1_begin) (maxL := 3) (ret := none) (by decide) rfl ?_
  intro p e s m args below meth c s₁ B hml hv
  obtain ⟨rfl, hsz, hP, hK, hD0, hN, hT⟩ := hv
  have hx := B.exec
  have hb := B.bytes
  have hr := B.returns
  have hts := atoms_spec (ws := Cond.code yX1_begin cX1_begin 3 none :: zw) B.pre
  have hA : ∀ w ∈ zw, w.before _ s = true := fun w h => hts w (List.mem_cons_of_mem _ h)
  have hown : s.vm.findClass RX1 = some m.cls := findClass_of_methodNamed B.named
  have hlocks := B.notSynchronized
  subst hsz
  have hD := hD0.self (sz := s.heap.size)
  generalize hAe : va_A [(h0, .inr (1, [.ref ek, .ref ec, .ref ef, .ref cki, .int e_limit, .int e_fresh, .int e_firstFree, .int e_held, .int e_mostHeld, .int e_made, .int e_reused, .int e_freed, .int e_doubled])), (ek, .inl (e1, 4000, .inl gk)), (ec, .inl (e2, 4000, .inl gc)), (ef, .inl (e3, 12000, .inr (.inl gv)))] s.heap.size = A at hD hT ⊢
  have hAA : ∀ q : Nat, s.heap.size ≤ q → A q := fun q h => by rw [← hAe]; exact Or.inr h
  have hS : va_S A s.heap s.heap [] := va_S.rf
  have hl := lv_entry ([.ref h0, .ref nki, .int mo]) (n := 3) (Nat.le_of_ble_eq_true rfl)
  rw [lg_entry_eq]
  generalize (lg_sl ([.ref h0, .ref nki, .int mo]) ++ List.replicate (3 - (lg_sl ([.ref h0, .ref nki, .int mo])).length) Slot.unset).toArray = ls at hl ⊢
  have hl : lv_has ls 3 [(0, .ref h0), (1, .ref nki), (2, .int mo)] := hl
  refine lv_aload_n hx hb dX1_begin_0 rfl (lv_at hl 0 rfl) ?_
  refine lv_aload_n hx hb dX1_begin_1 rfl (lv_at hl 1 rfl) ?_
  refine va_put (D := (dC, dI)) (ci := 1) (v := .ref nki) (ty := .object "ReuseHouse$Kinds") (C := RX1) (T := TX1) (N := 13) hx hb hA zin_X1 tyX1 tyX1_ok nmX1 hown hK hP hD hS 0 rfl rfl 3 (by decide) (hA _ wi_439) (fun _ h9 => h9) rfl (by decide +kernel) rfl rfl (Nat.le_of_ble_eq_true rfl) dX1_begin_2 (fun H locs hP hD hS => ?_)
  have hP : va_P (dC, dI) vwCl [(h0, .inr (1, [.ref ek, .ref ec, .ref ef, .ref nki, .int e_limit, .int e_fresh, .int e_firstFree, .int e_held, .int e_mostHeld, .int e_made, .int e_reused, .int e_freed, .int e_doubled])), (ek, .inl (e1, 4000, .inl gk)), (ec, .inl (e2, 4000, .inl gc)), (ef, .inl (e3, 12000, .inr (.inl gv)))] H := hP
  have hD : va_D A [(h0, .inr (1, [.ref ek, .ref ec, .ref ef, .ref nki, .int e_limit, .int e_fresh, .int e_firstFree, .int e_held, .int e_mostHeld, .int e_made, .int e_reused, .int e_freed, .int e_doubled])), (ek, .inl (e1, 4000, .inl gk)), (ec, .inl (e2, 4000, .inl gc)), (ef, .inl (e3, 12000, .inr (.inl gv)))] := hD
  refine lv_aload_n hx hb dX1_begin_5 rfl (lv_at hl 0 rfl) ?_
  refine lv_iload_n hx hb dX1_begin_6 rfl (lv_at hl 2 rfl) ?_
  refine lv_aload_n hx hb dX1_begin_7 rfl (lv_at hl 0 rfl) ?_
  refine va_get (D := (dC, dI)) (ci := 1) (v := .ref ek) (C := RX1) (T := TX1) (N := 13) hx hb hA zin_X1 hown hK hP 0 rfl rfl 0 (by decide) (hA _ wi_435) (fun _ h9 => h9) rfl dX1_begin_8 ?_
  refine va_alen (v := 4000) hx hb hK hP 1 0 rfl rfl rfl dX1_begin_11 ?_
  refine va_mmin hx hb (by rw [hml]; exact hl.1.symm) hown (hA _ wi_1092) (hA _ wi_658) (hA _ wi_141) (hA _ wi_659) (Nat.le_of_ble_eq_true rfl) (Nat.le_of_ble_eq_true rfl) (Nat.le_of_ble_eq_true rfl) (Nat.le_of_ble_eq_true rfl) dX1_begin_12 ?_
  refine lv_topi (fun x_1 ex_1 => ?_)
  have ix_1 : x_1.toInt ≤ mo.toInt ∧ x_1.toInt ≤ 4000 ∧ (x_1.toInt = mo.toInt ∨ x_1.toInt = 4000) := zi_min ex_1 rfl (by decide)
  refine va_put (D := (dC, dI)) (ci := 1) (v := .int x_1) (ty := .int) (C := RX1) (T := TX1) (N := 13) hx hb hA zin_X1 tyX1 tyX1_ok nmX1 hown hK hP hD hS 0 rfl rfl 4 (by decide) (hA _ wi_441) (fun _ h9 => h9) rfl (by decide +kernel) rfl rfl (Nat.le_of_ble_eq_true rfl) dX1_begin_15 (fun H locs hP hD hS => ?_)
  have hP : va_P (dC, dI) vwCl [(h0, .inr (1, [.ref ek, .ref ec, .ref ef, .ref nki, .int x_1, .int e_fresh, .int e_firstFree, .int e_held, .int e_mostHeld, .int e_made, .int e_reused, .int e_freed, .int e_doubled])), (ek, .inl (e1, 4000, .inl gk)), (ec, .inl (e2, 4000, .inl gc)), (ef, .inl (e3, 12000, .inr (.inl gv)))] H := hP
  have hD : va_D A [(h0, .inr (1, [.ref ek, .ref ec, .ref ef, .ref nki, .int x_1, .int e_fresh, .int e_firstFree, .int e_held, .int e_mostHeld, .int e_made, .int e_reused, .int e_freed, .int e_doubled])), (ek, .inl (e1, 4000, .inl gk)), (ec, .inl (e2, 4000, .inl gc)), (ef, .inl (e3, 12000, .inr (.inl gv)))] := hD
  refine lv_aload_n hx hb dX1_begin_18 rfl (lv_at hl 0 rfl) ?_
  refine lv_iconst (v := 0) hx hb dX1_begin_19 (by decide) ?_
  refine va_put (D := (dC, dI)) (ci := 1) (v := .int 0) (ty := .int) (C := RX1) (T := TX1) (N := 13) hx hb hA zin_X1 tyX1 tyX1_ok nmX1 hown hK hP hD hS 0 rfl rfl 5 (by decide) (hA _ wi_442) (fun _ h9 => h9) rfl (by decide +kernel) rfl rfl (Nat.le_of_ble_eq_true rfl) dX1_begin_20 (fun H locs hP hD hS => ?_)
  have hP : va_P (dC, dI) vwCl [(h0, .inr (1, [.ref ek, .ref ec, .ref ef, .ref nki, .int x_1, .int 0, .int e_firstFree, .int e_held, .int e_mostHeld, .int e_made, .int e_reused, .int e_freed, .int e_doubled])), (ek, .inl (e1, 4000, .inl gk)), (ec, .inl (e2, 4000, .inl gc)), (ef, .inl (e3, 12000, .inr (.inl gv)))] H := hP
  have hD : va_D A [(h0, .inr (1, [.ref ek, .ref ec, .ref ef, .ref nki, .int x_1, .int 0, .int e_firstFree, .int e_held, .int e_mostHeld, .int e_made, .int e_reused, .int e_freed, .int e_doubled])), (ek, .inl (e1, 4000, .inl gk)), (ec, .inl (e2, 4000, .inl gc)), (ef, .inl (e3, 12000, .inr (.inl gv)))] := hD
  refine lv_aload_n hx hb dX1_begin_23 rfl (lv_at hl 0 rfl) ?_
  refine lv_iconst (v := (-1)) hx hb dX1_begin_24 (by decide) ?_
  refine va_put (D := (dC, dI)) (ci := 1) (v := .int (-1)) (ty := .int) (C := RX1) (T := TX1) (N := 13) hx hb hA zin_X1 tyX1 tyX1_ok nmX1 hown hK hP hD hS 0 rfl rfl 6 (by decide) (hA _ wi_443) (fun _ h9 => h9) rfl (by decide +kernel) rfl rfl (Nat.le_of_ble_eq_true rfl) dX1_begin_25 (fun H locs hP hD hS => ?_)
  have hP : va_P (dC, dI) vwCl [(h0, .inr (1, [.ref ek, .ref ec, .ref ef, .ref nki, .int x_1, .int 0, .int (-1), .int e_held, .int e_mostHeld, .int e_made, .int e_reused, .int e_freed, .int e_doubled])), (ek, .inl (e1, 4000, .inl gk)), (ec, .inl (e2, 4000, .inl gc)), (ef, .inl (e3, 12000, .inr (.inl gv)))] H := hP
  have hD : va_D A [(h0, .inr (1, [.ref ek, .ref ec, .ref ef, .ref nki, .int x_1, .int 0, .int (-1), .int e_held, .int e_mostHeld, .int e_made, .int e_reused, .int e_freed, .int e_doubled])), (ek, .inl (e1, 4000, .inl gk)), (ec, .inl (e2, 4000, .inl gc)), (ef, .inl (e3, 12000, .inr (.inl gv)))] := hD
  refine lv_aload_n hx hb dX1_begin_28 rfl (lv_at hl 0 rfl) ?_
  refine lv_iconst (v := 0) hx hb dX1_begin_29 (by decide) ?_
  refine va_put (D := (dC, dI)) (ci := 1) (v := .int 0) (ty := .int) (C := RX1) (T := TX1) (N := 13) hx hb hA zin_X1 tyX1 tyX1_ok nmX1 hown hK hP hD hS 0 rfl rfl 7 (by decide) (hA _ wi_444) (fun _ h9 => h9) rfl (by decide +kernel) rfl rfl (Nat.le_of_ble_eq_true rfl) dX1_begin_30 (fun H locs hP hD hS => ?_)
  have hP : va_P (dC, dI) vwCl [(h0, .inr (1, [.ref ek, .ref ec, .ref ef, .ref nki, .int x_1, .int 0, .int (-1), .int 0, .int e_mostHeld, .int e_made, .int e_reused, .int e_freed, .int e_doubled])), (ek, .inl (e1, 4000, .inl gk)), (ec, .inl (e2, 4000, .inl gc)), (ef, .inl (e3, 12000, .inr (.inl gv)))] H := hP
  have hD : va_D A [(h0, .inr (1, [.ref ek, .ref ec, .ref ef, .ref nki, .int x_1, .int 0, .int (-1), .int 0, .int e_mostHeld, .int e_made, .int e_reused, .int e_freed, .int e_doubled])), (ek, .inl (e1, 4000, .inl gk)), (ec, .inl (e2, 4000, .inl gc)), (ef, .inl (e3, 12000, .inr (.inl gv)))] := hD
  refine lv_aload_n hx hb dX1_begin_33 rfl (lv_at hl 0 rfl) ?_
  refine lv_iconst (v := 0) hx hb dX1_begin_34 (by decide) ?_
  refine va_put (D := (dC, dI)) (ci := 1) (v := .int 0) (ty := .int) (C := RX1) (T := TX1) (N := 13) hx hb hA zin_X1 tyX1 tyX1_ok nmX1 hown hK hP hD hS 0 rfl rfl 8 (by decide) (hA _ wi_446) (fun _ h9 => h9) rfl (by decide +kernel) rfl rfl (Nat.le_of_ble_eq_true rfl) dX1_begin_35 (fun H locs hP hD hS => ?_)
  have hP : va_P (dC, dI) vwCl [(h0, .inr (1, [.ref ek, .ref ec, .ref ef, .ref nki, .int x_1, .int 0, .int (-1), .int 0, .int 0, .int e_made, .int e_reused, .int e_freed, .int e_doubled])), (ek, .inl (e1, 4000, .inl gk)), (ec, .inl (e2, 4000, .inl gc)), (ef, .inl (e3, 12000, .inr (.inl gv)))] H := hP
  have hD : va_D A [(h0, .inr (1, [.ref ek, .ref ec, .ref ef, .ref nki, .int x_1, .int 0, .int (-1), .int 0, .int 0, .int e_made, .int e_reused, .int e_freed, .int e_doubled])), (ek, .inl (e1, 4000, .inl gk)), (ec, .inl (e2, 4000, .inl gc)), (ef, .inl (e3, 12000, .inr (.inl gv)))] := hD
  refine lv_aload_n hx hb dX1_begin_38 rfl (lv_at hl 0 rfl) ?_
  refine lv_iconst (v := 0) hx hb dX1_begin_39 (by decide) ?_
  refine va_put (D := (dC, dI)) (ci := 1) (v := .int 0) (ty := .int) (C := RX1) (T := TX1) (N := 13) hx hb hA zin_X1 tyX1 tyX1_ok nmX1 hown hK hP hD hS 0 rfl rfl 9 (by decide) (hA _ wi_448) (fun _ h9 => h9) rfl (by decide +kernel) rfl rfl (Nat.le_of_ble_eq_true rfl) dX1_begin_40 (fun H locs hP hD hS => ?_)
  have hP : va_P (dC, dI) vwCl [(h0, .inr (1, [.ref ek, .ref ec, .ref ef, .ref nki, .int x_1, .int 0, .int (-1), .int 0, .int 0, .int 0, .int e_reused, .int e_freed, .int e_doubled])), (ek, .inl (e1, 4000, .inl gk)), (ec, .inl (e2, 4000, .inl gc)), (ef, .inl (e3, 12000, .inr (.inl gv)))] H := hP
  have hD : va_D A [(h0, .inr (1, [.ref ek, .ref ec, .ref ef, .ref nki, .int x_1, .int 0, .int (-1), .int 0, .int 0, .int 0, .int e_reused, .int e_freed, .int e_doubled])), (ek, .inl (e1, 4000, .inl gk)), (ec, .inl (e2, 4000, .inl gc)), (ef, .inl (e3, 12000, .inr (.inl gv)))] := hD
  refine lv_aload_n hx hb dX1_begin_43 rfl (lv_at hl 0 rfl) ?_
  refine lv_iconst (v := 0) hx hb dX1_begin_44 (by decide) ?_
  refine va_put (D := (dC, dI)) (ci := 1) (v := .int 0) (ty := .int) (C := RX1) (T := TX1) (N := 13) hx hb hA zin_X1 tyX1 tyX1_ok nmX1 hown hK hP hD hS 0 rfl rfl 10 (by decide) (hA _ wi_450) (fun _ h9 => h9) rfl (by decide +kernel) rfl rfl (Nat.le_of_ble_eq_true rfl) dX1_begin_45 (fun H locs hP hD hS => ?_)
  have hP : va_P (dC, dI) vwCl [(h0, .inr (1, [.ref ek, .ref ec, .ref ef, .ref nki, .int x_1, .int 0, .int (-1), .int 0, .int 0, .int 0, .int 0, .int e_freed, .int e_doubled])), (ek, .inl (e1, 4000, .inl gk)), (ec, .inl (e2, 4000, .inl gc)), (ef, .inl (e3, 12000, .inr (.inl gv)))] H := hP
  have hD : va_D A [(h0, .inr (1, [.ref ek, .ref ec, .ref ef, .ref nki, .int x_1, .int 0, .int (-1), .int 0, .int 0, .int 0, .int 0, .int e_freed, .int e_doubled])), (ek, .inl (e1, 4000, .inl gk)), (ec, .inl (e2, 4000, .inl gc)), (ef, .inl (e3, 12000, .inr (.inl gv)))] := hD
  refine lv_aload_n hx hb dX1_begin_48 rfl (lv_at hl 0 rfl) ?_
  refine lv_iconst (v := 0) hx hb dX1_begin_49 (by decide) ?_
  refine va_put (D := (dC, dI)) (ci := 1) (v := .int 0) (ty := .int) (C := RX1) (T := TX1) (N := 13) hx hb hA zin_X1 tyX1 tyX1_ok nmX1 hown hK hP hD hS 0 rfl rfl 11 (by decide) (hA _ wi_453) (fun _ h9 => h9) rfl (by decide +kernel) rfl rfl (Nat.le_of_ble_eq_true rfl) dX1_begin_50 (fun H locs hP hD hS => ?_)
  have hP : va_P (dC, dI) vwCl [(h0, .inr (1, [.ref ek, .ref ec, .ref ef, .ref nki, .int x_1, .int 0, .int (-1), .int 0, .int 0, .int 0, .int 0, .int 0, .int e_doubled])), (ek, .inl (e1, 4000, .inl gk)), (ec, .inl (e2, 4000, .inl gc)), (ef, .inl (e3, 12000, .inr (.inl gv)))] H := hP
  have hD : va_D A [(h0, .inr (1, [.ref ek, .ref ec, .ref ef, .ref nki, .int x_1, .int 0, .int (-1), .int 0, .int 0, .int 0, .int 0, .int 0, .int e_doubled])), (ek, .inl (e1, 4000, .inl gk)), (ec, .inl (e2, 4000, .inl gc)), (ef, .inl (e3, 12000, .inr (.inl gv)))] := hD
  refine lv_aload_n hx hb dX1_begin_53 rfl (lv_at hl 0 rfl) ?_
  refine lv_iconst (v := 0) hx hb dX1_begin_54 (by decide) ?_
  refine va_put (D := (dC, dI)) (ci := 1) (v := .int 0) (ty := .int) (C := RX1) (T := TX1) (N := 13) hx hb hA zin_X1 tyX1 tyX1_ok nmX1 hown hK hP hD hS 0 rfl rfl 12 (by decide) (hA _ wi_455) (fun _ h9 => h9) rfl (by decide +kernel) rfl rfl (Nat.le_of_ble_eq_true rfl) dX1_begin_55 (fun H locs hP hD hS => ?_)
  have hP : va_P (dC, dI) vwCl [(h0, .inr (1, [.ref ek, .ref ec, .ref ef, .ref nki, .int x_1, .int 0, .int (-1), .int 0, .int 0, .int 0, .int 0, .int 0, .int 0])), (ek, .inl (e1, 4000, .inl gk)), (ec, .inl (e2, 4000, .inl gc)), (ef, .inl (e3, 12000, .inr (.inl gv)))] H := hP
  have hD : va_D A [(h0, .inr (1, [.ref ek, .ref ec, .ref ef, .ref nki, .int x_1, .int 0, .int (-1), .int 0, .int 0, .int 0, .int 0, .int 0, .int 0])), (ek, .inl (e1, 4000, .inl gk)), (ec, .inl (e2, 4000, .inl gc)), (ef, .inl (e3, 12000, .inr (.inl gv)))] := hD
  have hP9 := hP.sub (ws' := [(h0, .inr (1, [.ref ek, .ref ec, .ref ef, .ref nki, .int x_1, .int 0, .int (-1), .int 0, .int 0, .int 0, .int 0, .int 0, .int 0])), (ek, .inl (e1, 4000, .inl gk)), (ec, .inl (e2, 4000, .inl gc)), (ef, .inl (e3, 12000, .inr (.inl gv)))]) [0, 1, 2, 3] rfl
  have hD9 := hD.sub (ws' := [(h0, .inr (1, [.ref ek, .ref ec, .ref ef, .ref nki, .int x_1, .int 0, .int (-1), .int 0, .int 0, .int 0, .int 0, .int 0, .int 0])), (ek, .inl (e1, 4000, .inl gk)), (ec, .inl (e2, 4000, .inl gc)), (ef, .inl (e3, 12000, .inr (.inl gv)))]) [0, 1, 2, 3] (by decide) rfl
  have hK9 := hK.sub (tys' := [(e1, .int), (e2, .int), (e3, .long)]) [0, 1, 2] rfl
  exact W.vret hx hb hr (fun t ht hW => ⟨⟨(x_1), rfl, ⟨by omega, by omega⟩, by rw [ht]; exact hP9, va_K.moved hW.alike hK9, hD9⟩, hS.F ht⟩) hS.2.2 dX1_begin_58
set_option maxHeartbeats 4000000 in
set_option maxRecDepth 100000 in
theorem c_X1_width_4000 (l : Launch) (dC : Nat → ClassId) (dI : Nat → Nat → Nat) (aK aV : Nat → Nat) (h0 : Nat) (ek : Nat) (ec : Nat) (ef : Nat) (cki : Nat) (e1 : ClassId) (e2 : ClassId) (e3 : ClassId) (e_limit : Int32) (e_fresh : Int32) (e_firstFree : Int32) (e_held : Int32) (e_mostHeld : Int32) (e_made : Int32) (e_reused : Int32) (e_freed : Int32) (e_doubled : Int32) (gk : Nat → Int32) (gc : Nat → Int32) (gv : Nat → Int64) (kw : Nat) (kf : Nat) (k1 : ClassId) (k2 : ClassId) (z : Int32) (gw : Nat → Int64) (gf : Nat → Int32) (ce : Int32) (sz : Nat) (hz0 : 0 ≤ z.toInt) (hz1 : z.toInt ≤ 20) (hgf : zx 4 gf) (hc0 : 0 ≤ ce.toInt) (hc1 : ce.toInt < 4000) : Met l yX1_width (Cond.code yX1_width cX1_width 2 (some .int) :: zw) ({ frames := 10, cells := 0, slots := 0, locals := 300 }) (va_Pc [.ref h0, .int ce] (zP dC dI aK aV sz [(e1, .int), (e2, .int), (e3, .long), (k1, .long), (k2, .int)] [(h0, .inr (1, [.ref ek, .ref ec, .ref ef, .ref cki, .int e_limit, .int e_fresh, .int e_firstFree, .int e_held, .int e_mostHeld, .int e_made, .int e_reused, .int e_freed, .int e_doubled])), (ek, .inl (e1, 4000, .inl gk)), (ec, .inl (e2, 4000, .inl gc)), (ef, .inl (e3, 12000, .inr (.inl gv))), (cki, .inr (4, [.ref kw, .ref kf, .int z])), (kw, .inl (k1, 20, .inr (.inl gw))), (kf, .inl (k2, 20, .inl gf))])) (va_Qi (fun (r : Int32) (u : Unit) => (0 ≤ r.toInt) ∧ (r.toInt ≤ 3)) (fun u => zQ dC dI (va_A [(h0, .inr (1, [.ref ek, .ref ec, .ref ef, .ref cki, .int e_limit, .int e_fresh, .int e_firstFree, .int e_held, .int e_mostHeld, .int e_made, .int e_reused, .int e_freed, .int e_doubled])), (ek, .inl (e1, 4000, .inl gk)), (ec, .inl (e2, 4000, .inl gc)), (ef, .inl (e3, 12000, .inr (.inl gv))), (cki, .inr (4, [.ref kw, .ref kf, .int z])), (kw, .inl (k1, 20, .inr (.inl gw))), (kf, .inl (k2, 20, .inl gf))] sz) [(e1, .int), (e2, .int), (e3, .long), (k1, .long), (k2, .int)] [(h0, .inr (1, [.ref ek, .ref ec, .ref ef, .ref cki, .int e_limit, .int e_fresh, .int e_firstFree, .int e_held, .int e_mostHeld, .int e_made, .int e_reused, .int e_freed, .int e_doubled])), (ek, .inl (e1, 4000, .inl gk)), (ec, .inl (e2, 4000, .inl gc)), (ef, .inl (e3, 12000, .inr (.inl gv))), (cki, .inr (4, [.ref kw, .ref kf, .int z])), (kw, .inl (k1, 20, .inr (.inl gw))), (kf, .inl (k2, 20, .inl gf))]) (va_A [(h0, .inr (1, [.ref ek, .ref ec, .ref ef, .ref cki, .int e_limit, .int e_fresh, .int e_firstFree, .int e_held, .int e_mostHeld, .int e_made, .int e_reused, .int e_freed, .int e_doubled])), (ek, .inl (e1, 4000, .inl gk)), (ec, .inl (e2, 4000, .inl gc)), (ef, .inl (e3, 12000, .inr (.inl gv))), (cki, .inr (4, [.ref kw, .ref kf, .int z])), (kw, .inl (k1, 20, .inr (.inl gw))), (kf, .inl (k2, 20, .inl gf))] sz)) 0 0 (va_A [(h0, .inr (1, [.ref ek, .ref ec, .ref ef, .ref cki, .int e_limit, .int e_fresh, .int e_firstFree, .int e_held, .int e_mostHeld, .int e_made, .int e_reused, .int e_freed, .int e_doubled])), (ek, .inl (e1, 4000, .inl gk)), (ec, .inl (e2, 4000, .inl gc)), (ef, .inl (e3, 12000, .inr (.inl gv))), (cki, .inr (4, [.ref kw, .ref kf, .int z])), (kw, .inl (k1, 20, .inr (.inl gw))), (kf, .inl (k2, 20, .inl gf))] sz) := by
  refine Met.ofW (cc := cX1_width) (maxL := 2) (ret := (some .int)) (by decide) rfl ?_
  intro p e s m args below meth c s₁ B hml hv
  obtain ⟨rfl, hsz, hP, hK, hD0, hN, hT⟩ := hv
  have hx := B.exec
  have hb := B.bytes
  have hr := B.returns
  have hts := atoms_spec (ws := Cond.code yX1_width cX1_width 2 (some .int) :: zw) B.pre
  have hA : ∀ w ∈ zw, w.before _ s = true := fun w h => hts w (List.mem_cons_of_mem _ h)
  have hown : s.vm.findClass RX1 = some m.cls := findClass_of_methodNamed B.named
  have hlocks := B.notSynchronized
  subst hsz
  have hD := hD0.self (sz := s.heap.size)
  generalize hAe : va_A [(h0, .inr (1, [.ref ek, .ref ec, .ref ef, .ref cki, .int e_limit, .int e_fresh, .int e_firstFree, .int e_held, .int e_mostHeld, .int e_made, .int e_reused, .int e_freed, .int e_doubled])), (ek, .inl (e1, 4000, .inl gk)), (ec, .inl (e2, 4000, .inl gc)), (ef, .inl (e3, 12000, .inr (.inl gv))), (cki, .inr (4, [.ref kw, .ref kf, .int z])), (kw, .inl (k1, 20, .inr (.inl gw))), (kf, .inl (k2, 20, .inl gf))] s.heap.size = A at hD hT ⊢
  have hAA : ∀ q : Nat, s.heap.size ≤ q → A q := fun q h => by rw [← hAe]; exact Or.inr h
  have hS : va_S A s.heap s.heap [] := va_S.rf
  have hl := lv_entry ([.ref h0, .int ce]) (n := 2) (Nat.le_of_ble_eq_true rfl)
  rw [lg_entry_eq]
  generalize (lg_sl ([.ref h0, .int ce]) ++ List.replicate (2 - (lg_sl ([.ref h0, .int ce])).length) Slot.unset).toArray = ls at hl ⊢
  have hl : lv_has ls 2 [(0, .ref h0), (1, .int ce)] := hl
  refine lv_aload_n hx hb dX1_width_0 rfl (lv_at hl 0 rfl) ?_
  refine va_get (D := (dC, dI)) (ci := 1) (v := .ref cki) (C := RX1) (T := TX1) (N := 13) hx hb hA zin_X1 hown hK hP 0 rfl rfl 3 (by decide) (hA _ wi_439) (fun _ h9 => h9) rfl dX1_width_1 ?_
  refine lv_aload_n hx hb dX1_width_4 rfl (lv_at hl 0 rfl) ?_
  refine va_get (D := (dC, dI)) (ci := 1) (v := .ref ek) (C := RX1) (T := TX1) (N := 13) hx hb hA zin_X1 hown hK hP 0 rfl rfl 0 (by decide) (hA _ wi_435) (fun _ h9 => h9) rfl dX1_width_5 ?_
  refine lv_iload_n hx hb dX1_width_8 rfl (lv_at hl 1 rfl) ?_
  refine va_iald hx hb hK hP 1 0 rfl rfl (vp_in_iff.mpr ⟨by omega, by omega⟩) dX1_width_9 ?_
  refine lv_topi (fun x_1 ex_1 => ?_)
  have hPc := hP.sub (ws' := [(cki, .inr (4, [.ref kw, .ref kf, .int z])), (kw, .inl (k1, 20, .inr (.inl gw))), (kf, .inl (k2, 20, .inl gf))]) [4, 5, 6] rfl
  have hDc := hD.sub (ws' := [(cki, .inr (4, [.ref kw, .ref kf, .int z])), (kw, .inl (k1, 20, .inr (.inl gw))), (kf, .inl (k2, 20, .inl gf))]) [4, 5, 6] (by decide) rfl
  have hKc := hK.sub (tys' := [(k1, .long), (k2, .int)]) [3, 4] rfl
  have hFc := va_free (wc := [(cki, .inr (4, [.ref kw, .ref kf, .int z])), (kw, .inl (k1, 20, .inr (.inl gw))), (kf, .inl (k2, 20, .inl gf))]) hD hS hAA [4, 5, 6] rfl
  refine va_calli (va_runV (As := [.int x_1]) (rest := []) ⟨hx, hb, hml, hown, hA⟩ (c_X4_fieldsOf l dC dI aK aV cki kw kf k1 k2 z gw gf x_1 s.heap.size (by omega) (by omega) hgf) (cwV 1 hA (zw_V wi_1154 wi_803 wi_804 wi_134 (zw_good wi_805)) rfl rfl rfl (by decide +kernel) ⟨(Nat.le_of_ble_eq_true rfl), (Nat.le_of_ble_eq_true rfl)⟩) ⟨zP_blind, va_recv hKc hPc (ci := 4) (q0 := 0) rfl rfl, zz_pre hKc hPc hDc hN hT hS hFc⟩ rfl rfl hl.1 rfl (lv_room (Nat.le_of_ble_eq_true rfl)) dX1_width_10 ⟨(Nat.le_of_ble_eq_true rfl), (Nat.le_of_ble_eq_true rfl)⟩) hS (fun q _ h => hFc q h) hFc (fun r_2 u t H1 locs ht hvm hw hB hz1 hk1 hS => ?_)
  obtain ⟨hP1, hK1, hD1⟩ := hB
  rw [ht] at hP1
  have hK1 := va_K.moved hvm.symm hK1
  obtain ⟨hP, hD⟩ := va_join (wr := [(h0, .inr (1, [.ref ek, .ref ec, .ref ef, .ref cki, .int e_limit, .int e_fresh, .int e_firstFree, .int e_held, .int e_mostHeld, .int e_made, .int e_reused, .int e_freed, .int e_doubled])), (ek, .inl (e1, 4000, .inl gk)), (ec, .inl (e2, 4000, .inl gc)), (ef, .inl (e3, 12000, .inr (.inl gv)))]) (w1 := [(cki, .inr (4, [.ref kw, .ref kf, .int z])), (kw, .inl (k1, 20, .inr (.inl gw))), (kf, .inl (k2, 20, .inl gf))]) hP hD [4, 5, 6] [0, 1, 2, 3] rfl rfl (by decide) (by decide) hk1 hFc hP1 hD1
  have hK := (hK.sub (tys' := [(e1, .int), (e2, .int), (e3, .long)]) [0, 1, 2] rfl).app hK1
  generalize H1 = H at hP hS ⊢
  have hP : va_P (dC, dI) vwCl [(h0, .inr (1, [.ref ek, .ref ec, .ref ef, .ref cki, .int e_limit, .int e_fresh, .int e_firstFree, .int e_held, .int e_mostHeld, .int e_made, .int e_reused, .int e_freed, .int e_doubled])), (ek, .inl (e1, 4000, .inl gk)), (ec, .inl (e2, 4000, .inl gc)), (ef, .inl (e3, 12000, .inr (.inl gv))), (cki, .inr (4, [.ref kw, .ref kf, .int z])), (kw, .inl (k1, 20, .inr (.inl gw))), (kf, .inl (k2, 20, .inl gf))] H := hP
  have hD : va_D A [(h0, .inr (1, [.ref ek, .ref ec, .ref ef, .ref cki, .int e_limit, .int e_fresh, .int e_firstFree, .int e_held, .int e_mostHeld, .int e_made, .int e_reused, .int e_freed, .int e_doubled])), (ek, .inl (e1, 4000, .inl gk)), (ec, .inl (e2, 4000, .inl gc)), (ef, .inl (e3, 12000, .inr (.inl gv))), (cki, .inr (4, [.ref kw, .ref kf, .int z])), (kw, .inl (k1, 20, .inr (.inl gw))), (kf, .inl (k2, 20, .inl gf))] := hD
  have hK : va_K (dC, dI) vwCl [(e1, .int), (e2, .int), (e3, .long), (k1, .long), (k2, .int)] s := hK
  have hw_r_2 := hw
  try dsimp only at hw_r_2
  obtain ⟨hq_3, hq_4⟩ := hw
  have hP9 := hP.sub (ws' := [(h0, .inr (1, [.ref ek, .ref ec, .ref ef, .ref cki, .int e_limit, .int e_fresh, .int e_firstFree, .int e_held, .int e_mostHeld, .int e_made, .int e_reused, .int e_freed, .int e_doubled])), (ek, .inl (e1, 4000, .inl gk)), (ec, .inl (e2, 4000, .inl gc)), (ef, .inl (e3, 12000, .inr (.inl gv))), (cki, .inr (4, [.ref kw, .ref kf, .int z])), (kw, .inl (k1, 20, .inr (.inl gw))), (kf, .inl (k2, 20, .inl gf))]) [0, 1, 2, 3, 4, 5, 6] rfl
  have hD9 := hD.sub (ws' := [(h0, .inr (1, [.ref ek, .ref ec, .ref ef, .ref cki, .int e_limit, .int e_fresh, .int e_firstFree, .int e_held, .int e_mostHeld, .int e_made, .int e_reused, .int e_freed, .int e_doubled])), (ek, .inl (e1, 4000, .inl gk)), (ec, .inl (e2, 4000, .inl gc)), (ef, .inl (e3, 12000, .inr (.inl gv))), (cki, .inr (4, [.ref kw, .ref kf, .int z])), (kw, .inl (k1, 20, .inr (.inl gw))), (kf, .inl (k2, 20, .inl gf))]) [0, 1, 2, 3, 4, 5, 6] (by decide) rfl
  have hK9 := hK.sub (tys' := [(e1, .int), (e2, .int), (e3, .long), (k1, .long), (k2, .int)]) [0, 1, 2, 3, 4] rfl
  exact W.iret (v := r_2) hx hb hr (fun t ht hW => ⟨⟨r_2, (), rfl, ⟨by omega, by omega⟩, by rw [ht]; exact hP9, va_K.moved hW.alike hK9, hD9⟩, hS.F ht⟩) hS.2.2 dX1_width_13
set_option maxHeartbeats 4000000 in
set_option maxRecDepth 100000 in
theorem c_X1_field_4000 (l : Launch) (dC : Nat → ClassId) (dI : Nat → Nat → Nat) (aK aV : Nat → Nat) (h0 : Nat) (ek : Nat) (ec : Nat) (ef : Nat) (cki : Nat) (e1 : ClassId) (e2 : ClassId) (e3 : ClassId) (e_limit : Int32) (e_fresh : Int32) (e_firstFree : Int32) (e_held : Int32) (e_mostHeld : Int32) (e_made : Int32) (e_reused : Int32) (e_freed : Int32) (e_doubled : Int32) (gk : Nat → Int32) (gc : Nat → Int32) (gv : Nat → Int64) (ce : Int32) (k : Int32) (sz : Nat) (hc0 : 0 ≤ ce.toInt) (hc1 : ce.toInt < 4000) (hk0 : 0 ≤ k.toInt) (hk1 : k.toInt < 3) : Met l yX1_field (Cond.code yX1_field cX1_field 3 (some .long) :: zw) ({ frames := 8, cells := 0, slots := 0, locals := 200 }) (va_Pc [.ref h0, .int ce, .int k] (zP dC dI aK aV sz [(e1, .int), (e2, .int), (e3, .long)] [(h0, .inr (1, [.ref ek, .ref ec, .ref ef, .ref cki, .int e_limit, .int e_fresh, .int e_firstFree, .int e_held, .int e_mostHeld, .int e_made, .int e_reused, .int e_freed, .int e_doubled])), (ek, .inl (e1, 4000, .inl gk)), (ec, .inl (e2, 4000, .inl gc)), (ef, .inl (e3, 12000, .inr (.inl gv)))])) (va_Ql (fun (r : Int64) (u : Unit) => True) (fun u => zQ dC dI (va_A [(h0, .inr (1, [.ref ek, .ref ec, .ref ef, .ref cki, .int e_limit, .int e_fresh, .int e_firstFree, .int e_held, .int e_mostHeld, .int e_made, .int e_reused, .int e_freed, .int e_doubled])), (ek, .inl (e1, 4000, .inl gk)), (ec, .inl (e2, 4000, .inl gc)), (ef, .inl (e3, 12000, .inr (.inl gv)))] sz) [(e1, .int), (e2, .int), (e3, .long)] [(h0, .inr (1, [.ref ek, .ref ec, .ref ef, .ref cki, .int e_limit, .int e_fresh, .int e_firstFree, .int e_held, .int e_mostHeld, .int e_made, .int e_reused, .int e_freed, .int e_doubled])), (ek, .inl (e1, 4000, .inl gk)), (ec, .inl (e2, 4000, .inl gc)), (ef, .inl (e3, 12000, .inr (.inl gv)))]) (va_A [(h0, .inr (1, [.ref ek, .ref ec, .ref ef, .ref cki, .int e_limit, .int e_fresh, .int e_firstFree, .int e_held, .int e_mostHeld, .int e_made, .int e_reused, .int e_freed, .int e_doubled])), (ek, .inl (e1, 4000, .inl gk)), (ec, .inl (e2, 4000, .inl gc)), (ef, .inl (e3, 12000, .inr (.inl gv)))] sz)) 0 0 (va_A [(h0, .inr (1, [.ref ek, .ref ec, .ref ef, .ref cki, .int e_limit, .int e_fresh, .int e_firstFree, .int e_held, .int e_mostHeld, .int e_made, .int e_reused, .int e_freed, .int e_doubled])), (ek, .inl (e1, 4000, .inl gk)), (ec, .inl (e2, 4000, .inl gc)), (ef, .inl (e3, 12000, .inr (.inl gv)))] sz) := by
  refine Met.ofW (cc := cX1_field) (maxL := 3) (ret := (some .long)) (by decide) rfl ?_
  intro p e s m args below meth c s₁ B hml hv
  obtain ⟨rfl, hsz, hP, hK, hD0, hN, hT⟩ := hv
  have hx := B.exec
  have hb := B.bytes
  have hr := B.returns
  have hts := atoms_spec (ws := Cond.code yX1_field cX1_field 3 (some .long) :: zw) B.pre
  have hA : ∀ w ∈ zw, w.before _ s = true := fun w h => hts w (List.mem_cons_of_mem _ h)
  have hown : s.vm.findClass RX1 = some m.cls := findClass_of_methodNamed B.named
  have hlocks := B.notSynchronized
  subst hsz
  have hD := hD0.self (sz := s.heap.size)
  generalize hAe : va_A [(h0, .inr (1, [.ref ek, .ref ec, .ref ef, .ref cki, .int e_limit, .int e_fresh, .int e_firstFree, .int e_held, .int e_mostHeld, .int e_made, .int e_reused, .int e_freed, .int e_doubled])), (ek, .inl (e1, 4000, .inl gk)), (ec, .inl (e2, 4000, .inl gc)), (ef, .inl (e3, 12000, .inr (.inl gv)))] s.heap.size = A at hD hT ⊢
  have hAA : ∀ q : Nat, s.heap.size ≤ q → A q := fun q h => by rw [← hAe]; exact Or.inr h
  have hS : va_S A s.heap s.heap [] := va_S.rf
  have hl := lv_entry ([.ref h0, .int ce, .int k]) (n := 3) (Nat.le_of_ble_eq_true rfl)
  rw [lg_entry_eq]
  generalize (lg_sl ([.ref h0, .int ce, .int k]) ++ List.replicate (3 - (lg_sl ([.ref h0, .int ce, .int k])).length) Slot.unset).toArray = ls at hl ⊢
  have hl : lv_has ls 3 [(0, .ref h0), (1, .int ce), (2, .int k)] := hl
  refine lv_aload_n hx hb dX1_field_0 rfl (lv_at hl 0 rfl) ?_
  refine va_get (D := (dC, dI)) (ci := 1) (v := .ref ef) (C := RX1) (T := TX1) (N := 13) hx hb hA zin_X1 hown hK hP 0 rfl rfl 2 (by decide) (hA _ wi_438) (fun _ h9 => h9) rfl dX1_field_1 ?_
  refine lv_iload_n hx hb dX1_field_4 rfl (lv_at hl 1 rfl) ?_
  refine lv_iconst (v := 3) hx hb dX1_field_5 (by decide) ?_
  refine lv_imul hx hb dX1_field_6 ?_
  refine lv_topi (fun x_1 ex_1 => ?_)
  have ix_1 : x_1.toInt = ce.toInt * 3 := by rw [ex_1]; exact zi_mulc (by decide) (by omega) (by omega)
  refine lv_iload_n hx hb dX1_field_7 rfl (lv_at hl 2 rfl) ?_
  refine lv_iadd hx hb dX1_field_8 ?_
  refine lv_topi (fun x_2 ex_2 => ?_)
  have ix_2 : x_2.toInt = x_1.toInt + k.toInt := by rw [ex_2]; exact zi_addc rfl (by omega) (by omega)
  refine va_lald hx hb hK hP 3 2 rfl rfl (vp_in_iff.mpr ⟨by omega, by omega⟩) dX1_field_9 ?_
  refine lv_topl (fun x_3 ex_3 => ?_)
  have hP9 := hP.sub (ws' := [(h0, .inr (1, [.ref ek, .ref ec, .ref ef, .ref cki, .int e_limit, .int e_fresh, .int e_firstFree, .int e_held, .int e_mostHeld, .int e_made, .int e_reused, .int e_freed, .int e_doubled])), (ek, .inl (e1, 4000, .inl gk)), (ec, .inl (e2, 4000, .inl gc)), (ef, .inl (e3, 12000, .inr (.inl gv)))]) [0, 1, 2, 3] rfl
  have hD9 := hD.sub (ws' := [(h0, .inr (1, [.ref ek, .ref ec, .ref ef, .ref cki, .int e_limit, .int e_fresh, .int e_firstFree, .int e_held, .int e_mostHeld, .int e_made, .int e_reused, .int e_freed, .int e_doubled])), (ek, .inl (e1, 4000, .inl gk)), (ec, .inl (e2, 4000, .inl gc)), (ef, .inl (e3, 12000, .inr (.inl gv)))]) [0, 1, 2, 3] (by decide) rfl
  have hK9 := hK.sub (tys' := [(e1, .int), (e2, .int), (e3, .long)]) [0, 1, 2] rfl
  exact W.lret (v := x_3) hx hb hr (fun t ht hW => ⟨⟨x_3, (), rfl, trivial, by rw [ht]; exact hP9, va_K.moved hW.alike hK9, hD9⟩, hS.F ht⟩) hS.2.2 dX1_field_10
