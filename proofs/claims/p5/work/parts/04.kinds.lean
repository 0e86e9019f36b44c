section
theorem wi_273 : Cond.fieldLink RX4 19 "ReuseHouse$Kinds" "size" "I" ∈ zw := zw_in (List.mem_of_getElem? (i := 273) (by decide +kernel)) (by decide +kernel)
theorem wi_270 : Cond.fieldLink RX4 9 "ReuseHouse$Kinds" "word" "[J" ∈ zw := zw_in (List.mem_of_getElem? (i := 270) (by decide +kernel)) (by decide +kernel)
theorem wi_271 : Cond.fieldLink RX4 15 "ReuseHouse$Kinds" "fields" "[I" ∈ zw := zw_in (List.mem_of_getElem? (i := 271) (by decide +kernel)) (by decide +kernel)
theorem dX4_add_0 : decode cX4_add 0 = .ok (.aload_n 0, 1) := by decide +kernel
theorem dX4_add_1 : decode cX4_add 1 = .ok (.getfield 19, 3) := by decide +kernel
theorem dX4_add_4 : decode cX4_add 4 = .ok (.bipush 20, 2) := by decide +kernel
theorem dX4_add_6 : decode cX4_add 6 = .ok (.if_icmp .lt 6, 3) := by decide +kernel
theorem dX4_add_12 : decode cX4_add 12 = .ok (.aload_n 0, 1) := by decide +kernel
theorem dX4_add_13 : decode cX4_add 13 = .ok (.getfield 9, 3) := by decide +kernel
theorem dX4_add_16 : decode cX4_add 16 = .ok (.aload_n 0, 1) := by decide +kernel
theorem dX4_add_17 : decode cX4_add 17 = .ok (.getfield 19, 3) := by decide +kernel
theorem dX4_add_20 : decode cX4_add 20 = .ok (.lload_n 1, 1) := by decide +kernel
theorem dX4_add_21 : decode cX4_add 21 = .ok (.lastore, 1) := by decide +kernel
theorem dX4_add_22 : decode cX4_add 22 = .ok (.aload_n 0, 1) := by decide +kernel
theorem dX4_add_23 : decode cX4_add 23 = .ok (.getfield 15, 3) := by decide +kernel
theorem dX4_add_26 : decode cX4_add 26 = .ok (.aload_n 0, 1) := by decide +kernel
theorem dX4_add_27 : decode cX4_add 27 = .ok (.getfield 19, 3) := by decide +kernel
theorem dX4_add_30 : decode cX4_add 30 = .ok (.iconst (-1), 1) := by decide +kernel
theorem dX4_add_31 : decode cX4_add 31 = .ok (.iastore, 1) := by decide +kernel
theorem dX4_add_32 : decode cX4_add 32 = .ok (.aload_n 0, 1) := by decide +kernel
theorem dX4_add_33 : decode cX4_add 33 = .ok (.dup, 1) := by decide +kernel
theorem dX4_add_34 : decode cX4_add 34 = .ok (.getfield 19, 3) := by decide +kernel
theorem dX4_add_37 : decode cX4_add 37 = .ok (.iconst 1, 1) := by decide +kernel
theorem dX4_add_38 : decode cX4_add 38 = .ok (.iadd, 1) := by decide +kernel
theorem dX4_add_39 : decode cX4_add 39 = .ok (.putfield 19, 3) := by decide +kernel
theorem dX4_add_42 : decode cX4_add 42 = .ok (.aload_n 0, 1) := by decide +kernel
theorem dX4_add_43 : decode cX4_add 43 = .ok (.getfield 19, 3) := by decide +kernel
theorem dX4_add_46 : decode cX4_add 46 = .ok (.iconst 1, 1) := by decide +kernel
theorem dX4_add_47 : decode cX4_add 47 = .ok (.isub, 1) := by decide +kernel
theorem dX4_add_48 : decode cX4_add 48 = .ok (.ireturn, 1) := by decide +kernel
theorem dX4_fieldsOf_0 : decode cX4_fieldsOf 0 = .ok (.iload_n 1, 1) := by decide +kernel
theorem dX4_fieldsOf_1 : decode cX4_fieldsOf 1 = .ok (.ifCond .lt 29, 3) := by decide +kernel
theorem dX4_fieldsOf_4 : decode cX4_fieldsOf 4 = .ok (.iload_n 1, 1) := by decide +kernel
theorem dX4_fieldsOf_5 : decode cX4_fieldsOf 5 = .ok (.aload_n 0, 1) := by decide +kernel
theorem dX4_fieldsOf_6 : decode cX4_fieldsOf 6 = .ok (.getfield 19, 3) := by decide +kernel
theorem dX4_fieldsOf_9 : decode cX4_fieldsOf 9 = .ok (.if_icmp .ge 21, 3) := by decide +kernel
theorem dX4_fieldsOf_12 : decode cX4_fieldsOf 12 = .ok (.aload_n 0, 1) := by decide +kernel
theorem dX4_fieldsOf_13 : decode cX4_fieldsOf 13 = .ok (.getfield 15, 3) := by decide +kernel
theorem dX4_fieldsOf_16 : decode cX4_fieldsOf 16 = .ok (.iload_n 1, 1) := by decide +kernel
theorem dX4_fieldsOf_17 : decode cX4_fieldsOf 17 = .ok (.iaload, 1) := by decide +kernel
theorem dX4_fieldsOf_18 : decode cX4_fieldsOf 18 = .ok (.ifCond .le 12, 3) := by decide +kernel
theorem dX4_fieldsOf_21 : decode cX4_fieldsOf 21 = .ok (.aload_n 0, 1) := by decide +kernel
theorem dX4_fieldsOf_22 : decode cX4_fieldsOf 22 = .ok (.getfield 15, 3) := by decide +kernel
theorem dX4_fieldsOf_25 : decode cX4_fieldsOf 25 = .ok (.iload_n 1, 1) := by decide +kernel
theorem dX4_fieldsOf_26 : decode cX4_fieldsOf 26 = .ok (.iaload, 1) := by decide +kernel
theorem dX4_fieldsOf_27 : decode cX4_fieldsOf 27 = .ok (.goto 4, 3) := by decide +kernel
theorem dX4_fieldsOf_30 : decode cX4_fieldsOf 30 = .ok (.iconst 0, 1) := by decide +kernel
theorem dX4_fieldsOf_31 : decode cX4_fieldsOf 31 = .ok (.ireturn, 1) := by decide +kernel
theorem dX4_find_0 : decode cX4_find 0 = .ok (.iconst 0, 1) := by decide +kernel
theorem dX4_find_1 : decode cX4_find 1 = .ok (.istore_n 3, 1) := by decide +kernel
theorem dX4_find_2 : decode cX4_find 2 = .ok (.iload_n 3, 1) := by decide +kernel
theorem dX4_find_3 : decode cX4_find 3 = .ok (.aload_n 0, 1) := by decide +kernel
theorem dX4_find_4 : decode cX4_find 4 = .ok (.getfield 19, 3) := by decide +kernel
theorem dX4_find_7 : decode cX4_find 7 = .ok (.if_icmp .ge 22, 3) := by decide +kernel
theorem dX4_find_10 : decode cX4_find 10 = .ok (.aload_n 0, 1) := by decide +kernel
theorem dX4_find_11 : decode cX4_find 11 = .ok (.getfield 9, 3) := by decide +kernel
theorem dX4_find_14 : decode cX4_find 14 = .ok (.iload_n 3, 1) := by decide +kernel
theorem dX4_find_15 : decode cX4_find 15 = .ok (.laload, 1) := by decide +kernel
theorem dX4_find_16 : decode cX4_find 16 = .ok (.lload_n 1, 1) := by decide +kernel
theorem dX4_find_17 : decode cX4_find 17 = .ok (.lcmp, 1) := by decide +kernel
theorem dX4_find_18 : decode cX4_find 18 = .ok (.ifCond .ne 5, 3) := by decide +kernel
theorem dX4_find_21 : decode cX4_find 21 = .ok (.iload_n 3, 1) := by decide +kernel
theorem dX4_find_22 : decode cX4_find 22 = .ok (.ireturn, 1) := by decide +kernel
theorem dX4_find_23 : decode cX4_find 23 = .ok (.iinc 3 1, 3) := by decide +kernel
theorem dX4_find_26 : decode cX4_find 26 = .ok (.goto (-24), 3) := by decide +kernel
theorem dX4_find_29 : decode cX4_find 29 = .ok (.iconst (-1), 1) := by decide +kernel
theorem dX4_find_30 : decode cX4_find 30 = .ok (.ireturn, 1) := by decide +kernel
set_option maxHeartbeats 4000000 in
set_option maxRecDepth 100000 in
theorem c_X4_find (l : Launch) (dC : Nat → ClassId) (dI : Nat → Nat → Nat) (aK aV : Nat → Nat) (h0 : Nat) (kw : Nat) (kf : Nat) (k1 : ClassId) (k2 : ClassId) (z : Int32) (gw : Nat → Int64) (gf : Nat → Int32) (nm : Int64) (sz : Nat) (hz0 : 0 ≤ z.toInt) (hz1 : z.toInt ≤ 20) : Met l yX4_find (Cond.code yX4_find cX4_find 4 (some .int) :: zw) ({ frames := 8, cells := 0, slots := 0, locals := 200 }) (va_Pc [.ref h0, .long nm] (zP dC dI aK aV sz [(k1, .long), (k2, .int)] [(h0, .inr (4, [.ref kw, .ref kf, .int z])), (kw, .inl (k1, 20, .inr (.inl gw))), (kf, .inl (k2, 20, .inl gf))])) (va_Qi (fun (r : Int32) (u : Unit) => (-1 ≤ r.toInt) ∧ (r.toInt < z.toInt)) (fun u => zQ dC dI (va_A [(h0, .inr (4, [.ref kw, .ref kf, .int z])), (kw, .inl (k1, 20, .inr (.inl gw))), (kf, .inl (k2, 20, .inl gf))] sz) [(k1, .long), (k2, .int)] [(h0, .inr (4, [.ref kw, .ref kf, .int z])), (kw, .inl (k1, 20, .inr (.inl gw))), (kf, .inl (k2, 20, .inl gf))]) (va_A [(h0, .inr (4, [.ref kw, .ref kf, .int z])), (kw, .inl (k1, 20, .inr (.inl gw))), (kf, .inl (k2, 20, .inl gf))] sz)) 0 0 (va_A [(h0, .inr (4, [.ref kw, .ref kf, .int z])), (kw, .inl (k1, 20, .inr (.inl gw))), (kf, .inl (k2, 20, .inl gf))] sz) := by
  refine Met.ofW (cc := cX4_find) (maxL := 4) (ret := (some .int)) (by decide) rfl ?_
  intro p e s m args below meth c s₁ B hml hv
  obtain ⟨rfl, hsz, hP, hK, hD0, hN, hT⟩ := hv
  have hx := B.exec
  have hb := B.bytes
  have hr := B.returns
  have hts := atoms_spec (ws := Cond.code yX4_find cX4_find 4 (some .int) :: zw) B.pre
  have hA : ∀ w ∈ zw, w.before _ s = true := fun w h => hts w (List.mem_cons_of_mem _ h)
  have hown : s.vm.findClass RX4 = some m.cls := findClass_of_methodNamed B.named
  have hlocks := B.notSynchronized
  subst hsz
  have hD := hD0.self (sz := s.heap.size)
  generalize hAe : va_A [(h0, .inr (4, [.ref kw, .ref kf, .int z])), (kw, .inl (k1, 20, .inr (.inl gw))), (kf, .inl (k2, 20, .inl gf))] s.heap.size = A at hD hT ⊢
  have hAA : ∀ q : Nat, s.heap.size ≤ q → A q := fun q h => by rw [← hAe]; exact Or.inr h
  have hS : va_S A s.heap s.heap [] := va_S.rf
  have hl := lv_entry ([.ref h0, .long nm]) (n := 4) (Nat.le_of_ble_eq_true rfl)
  rw [lg_entry_eq]
  generalize (lg_sl ([.ref h0, .long nm]) ++ List.replicate (4 - (lg_sl ([.ref h0, .long nm])).length) Slot.unset).toArray = ls at hl ⊢
  have hl : lv_has ls 4 [(0, .ref h0), (1, .long nm)] := hl
  refine lv_iconst (v := 0) hx hb dX4_find_0 (by decide) ?_
  refine lv_istore_n (lv' := [(3, .int 0), (0, .ref h0), (1, .long nm)]) hx hb dX4_find_1 rfl hl (by decide) rfl (fun ls hl => ?_)
  have loop_2 : ∀ (n9 : Nat) (i : Int32) (H : Heap) (locs : List Loc) (ls : Array Slot), (z.toInt - i.toInt + 1).toNat ≤ n9 → 0 ≤ i.toInt → i.toInt ≤ z.toInt → va_P (dC, dI) vwCl [(h0, .inr (4, [.ref kw, .ref kf, .int z])), (kw, .inl (k1, 20, .inr (.inl gw))), (kf, .inl (k2, 20, .inl gf))] H → va_D A [(h0, .inr (4, [.ref kw, .ref kf, .int z])), (kw, .inl (k1, 20, .inr (.inl gw))), (kf, .inl (k2, 20, .inl gf))] → va_S A s.heap H locs → lv_has ls 4 [(3, .int i), (0, .ref h0), (1, .long nm)] → W p l e (headSpec (Cond.code yX4_find cX4_find 4 (some .int) :: zw) ({ frames := 8, cells := 0, slots := 0, locals := 200 })).room s m #[.ref h0, .long nm] below meth c H locs 0 0 (MQ below (va_Qi (fun (r : Int32) (u : Unit) => (-1 ≤ r.toInt) ∧ (r.toInt < z.toInt)) (fun u => zQ dC dI A [(k1, .long), (k2, .int)] [(h0, .inr (4, [.ref kw, .ref kf, .int z])), (kw, .inl (k1, 20, .inr (.inl gw))), (kf, .inl (k2, 20, .inl gf))]) A) #[.ref h0, .long nm] s 0 0 A) (F0 m 2 ls []) := by
    intro n9
    induction n9 with
    | zero => intro i H locs ls hm hi0 hi1; exfalso; omega
    | succ n9 ih =>
      intro i H locs ls hm hi0 hi1 hP hD hS hl
      refine lv_iload_n hx hb dX4_find_2 rfl (lv_at hl 0 rfl) ?_
      refine lv_aload_n hx hb dX4_find_3 rfl (lv_at hl 1 rfl) ?_
      refine va_get (D := (dC, dI)) (ci := 4) (v := .int z) (C := RX4) (T := TX4) (N := 3) hx hb hA zin_X4 hown hK hP 0 rfl rfl 2 (by decide) (hA _ wi_273) (fun _ h9 => h9) rfl dX4_find_4 ?_
      refine lv_icmp_ge (tgt := 29) hx hb dX4_find_7 (by decide) (fun c_1 => ?_) (fun c_1 => ?_)
      · have ic_1 : z.toInt ≤ i.toInt := zi_le c_1
        refine lv_iconst (v := (-1)) hx hb dX4_find_29 (by decide) ?_
        have hlit : Int32.toInt (-1) = (-1) := by decide
        have hP9 := hP.sub (ws' := [(h0, .inr (4, [.ref kw, .ref kf, .int z])), (kw, .inl (k1, 20, .inr (.inl gw))), (kf, .inl (k2, 20, .inl gf))]) [0, 1, 2] rfl
        have hD9 := hD.sub (ws' := [(h0, .inr (4, [.ref kw, .ref kf, .int z])), (kw, .inl (k1, 20, .inr (.inl gw))), (kf, .inl (k2, 20, .inl gf))]) [0, 1, 2] (by decide) rfl
        have hK9 := hK.sub (tys' := [(k1, .long), (k2, .int)]) [0, 1] rfl
        exact W.iret (v := (-1)) hx hb hr (fun t ht hW => ⟨⟨(-1), (), rfl, ⟨by omega, by omega⟩, by rw [ht]; exact hP9, va_K.moved hW.alike hK9, hD9⟩, hS.F ht⟩) hS.2.2 dX4_find_30
      · have ic_1 : i.toInt < z.toInt := zi_nle c_1
        refine lv_aload_n hx hb dX4_find_10 rfl (lv_at hl 1 rfl) ?_
        refine va_get (D := (dC, dI)) (ci := 4) (v := .ref kw) (C := RX4) (T := TX4) (N := 3) hx hb hA zin_X4 hown hK hP 0 rfl rfl 0 (by decide) (hA _ wi_270) (fun _ h9 => h9) rfl dX4_find_11 ?_
        refine lv_iload_n hx hb dX4_find_14 rfl (lv_at hl 0 rfl) ?_
        refine va_lald hx hb hK hP 1 0 rfl rfl (vp_in_iff.mpr ⟨by omega, by omega⟩) dX4_find_15 ?_
        refine lv_topl (fun x_2 ex_2 => ?_)
        refine lv_lload_n hx hb dX4_find_16 rfl (lv_at hl 2 rfl) ?_
        refine W.lcmp hx hb dX4_find_17 ?_
        refine lv_topi (fun x_3 ex_3 => ?_)
        refine lv_if_ne (tgt := 23) hx hb dX4_find_18 (by decide) (fun c_4 => ?_) (fun c_4 => ?_)
        · have ic_4 : x_3.toInt ≠ 0 := zi_ne c_4
          obtain ⟨x_5, ex_5⟩ : ∃ y : Int32, y = i + Int32.ofInt 1 := ⟨_, rfl⟩
          refine lv_iinc (v := x_5) (lv' := [(3, .int x_5), (0, .ref h0), (1, .long nm)]) hx hb dX4_find_23 hl (k := 0) rfl (by rw [ex_5]) (by decide) rfl (fun ls hl => ?_)
          have ix_5 : x_5.toInt = i.toInt + 1 := by rw [ex_5]; exact zi_addc (by decide) (by omega) (by omega)
          refine lv_goto (tgt := 2) hx hb dX4_find_26 (by decide) ?_
          exact ih x_5 _ _ _ (by omega) (by omega) (by omega) (hP.sub [0, 1, 2] rfl) (hD.sub [0, 1, 2] (by decide) rfl) hS (lv_sub hl [0, 1, 2] rfl)
        · have ic_4 : x_3.toInt = 0 := zi_eq c_4
          refine lv_iload_n hx hb dX4_find_21 rfl (lv_at hl 0 rfl) ?_
          have hP9 := hP.sub (ws' := [(h0, .inr (4, [.ref kw, .ref kf, .int z])), (kw, .inl (k1, 20, .inr (.inl gw))), (kf, .inl (k2, 20, .inl gf))]) [0, 1, 2] rfl
          have hD9 := hD.sub (ws' := [(h0, .inr (4, [.ref kw, .ref kf, .int z])), (kw, .inl (k1, 20, .inr (.inl gw))), (kf, .inl (k2, 20, .inl gf))]) [0, 1, 2] (by decide) rfl
          have hK9 := hK.sub (tys' := [(k1, .long), (k2, .int)]) [0, 1] rfl
          exact W.iret (v := i) hx hb hr (fun t ht hW => ⟨⟨i, (), rfl, ⟨by omega, by omega⟩, by rw [ht]; exact hP9, va_K.moved hW.alike hK9, hD9⟩, hS.F ht⟩) hS.2.2 dX4_find_22
  exact loop_2 _ 0 _ _ _ (Nat.le_refl _) (by have h9_0 : Int32.toInt 0 = 0 := (by decide); omega) (by have h9_0 : Int32.toInt 0 = 0 := (by decide); omega) (hP.sub [0, 1, 2] rfl) (hD.sub [0, 1, 2] (by decide) rfl) hS (lv_sub hl [0, 1, 2] rfl)
set_option maxHeartbeats 4000000 in
set_option maxRecDepth 100000 in
theorem c_X4_fieldsOf (l : Launch) (dC : Nat → ClassId) (dI : Nat → Nat → Nat) (aK aV : Nat → Nat) (h0 : Nat) (kw : Nat) (kf : Nat) (k1 : ClassId) (k2 : ClassId) (z : Int32) (gw : Nat → Int64) (gf : Nat → Int32) (k : Int32) (sz : Nat) (hz0 : 0 ≤ z.toInt) (hz1 : z.toInt ≤ 20) (hgf : zx 4 gf) : Met l yX4_fieldsOf (Cond.code yX4_fieldsOf cX4_fieldsOf 2 (some .int) :: zw) ({ frames := 8, cells := 0, slots := 0, locals := 200 }) (va_Pc [.ref h0, .int k] (zP dC dI aK aV sz [(k1, .long), (k2, .int)] [(h0, .inr (4, [.ref kw, .ref kf, .int z])), (kw, .inl (k1, 20, .inr (.inl gw))), (kf, .inl (k2, 20, .inl gf))])) (va_Qi (fun (r : Int32) (u : Unit) => (0 ≤ r.toInt) ∧ (r.toInt ≤ 3)) (fun u => zQ dC dI (va_A [(h0, .inr (4, [.ref kw, .ref kf, .int z])), (kw, .inl (k1, 20, .inr (.inl gw))), (kf, .inl (k2, 20, .inl gf))] sz) [(k1, .long), (k2, .int)] [(h0, .inr (4, [.ref kw, .ref kf, .int z])), (kw, .inl (k1, 20, .inr (.inl gw))), (kf, .inl (k2, 20, .inl gf))]) (va_A [(h0, .inr (4, [.ref kw, .ref kf, .int z])), (kw, .inl (k1, 20, .inr (.inl gw))), (kf, .inl (k2, 20, .inl gf))] sz)) 0 0 (va_A [(h0, .inr (4, [.ref kw, .ref kf, .int z])), (kw, .inl (k1, 20, .inr (.inl gw))), (kf, .inl (k2, 20, .inl gf))] sz) := by
  refine Met.ofW (cc := cX4_fieldsOf) (maxL := 2) (ret := (some .int)) (by decide) rfl ?_
  intro p e s m args below meth c s₁ B hml hv
  obtain ⟨rfl, hsz, hP, hK, hD0, hN, hT⟩ := hv
  have hx := B.exec
  have hb := B.bytes
  have hr := B.returns
  have hts := atoms_spec (ws := Cond.code yX4_fieldsOf cX4_fieldsOf 2 (some .int) :: zw) B.pre
  have hA : ∀ w ∈ zw, w.before _ s = true := fun w h => hts w (List.mem_cons_of_mem _ h)
  have hown : s.vm.findClass RX4 = some m.cls := findClass_of_methodNamed B.named
  have hlocks := B.notSynchronized
  subst hsz
  have hD := hD0.self (sz := s.heap.size)
  generalize hAe : va_A [(h0, .inr (4, [.ref kw, .ref kf, .int z])), (kw, .inl (k1, 20, .inr (.inl gw))), (kf, .inl (k2, 20, .inl gf))] s.heap.size = A at hD hT ⊢
  have hAA : ∀ q : Nat, s.heap.size ≤ q → A q := fun q h => by rw [← hAe]; exact Or.inr h
  have hS : va_S A s.heap s.heap [] := va_S.rf
  have hl := lv_entry ([.ref h0, .int k]) (n := 2) (Nat.le_of_ble_eq_true rfl)
  rw [lg_entry_eq]
  generalize (lg_sl ([.ref h0, .int k]) ++ List.replicate (2 - (lg_sl ([.ref h0, .int k])).length) Slot.unset).toArray = ls at hl ⊢
  have hl : lv_has ls 2 [(0, .ref h0), (1, .int k)] := hl
  refine lv_iload_n hx hb dX4_fieldsOf_0 rfl (lv_at hl 1 rfl) ?_
  refine lv_if_lt (tgt := 30) hx hb dX4_fieldsOf_1 (by decide) (fun c_1 => ?_) (fun c_1 => ?_)
  · have ic_1 : k.toInt < 0 := zi_lt c_1
    refine lv_iconst (v := 0) hx hb dX4_fieldsOf_30 (by decide) ?_
    have hlit : Int32.toInt 0 = 0 := by decide
    have hP9 := hP.sub (ws' := [(h0, .inr (4, [.ref kw, .ref kf, .int z])), (kw, .inl (k1, 20, .inr (.inl gw))), (kf, .inl (k2, 20, .inl gf))]) [0, 1, 2] rfl
    have hD9 := hD.sub (ws' := [(h0, .inr (4, [.ref kw, .ref kf, .int z])), (kw, .inl (k1, 20, .inr (.inl gw))), (kf, .inl (k2, 20, .inl gf))]) [0, 1, 2] (by decide) rfl
    have hK9 := hK.sub (tys' := [(k1, .long), (k2, .int)]) [0, 1] rfl
    exact W.iret (v := 0) hx hb hr (fun t ht hW => ⟨⟨0, (), rfl, ⟨by omega, by omega⟩, by rw [ht]; exact hP9, va_K.moved hW.alike hK9, hD9⟩, hS.F ht⟩) hS.2.2 dX4_fieldsOf_31
  · have ic_1 : 0 ≤ k.toInt := zi_nlt c_1
    refine lv_iload_n hx hb dX4_fieldsOf_4 rfl (lv_at hl 1 rfl) ?_
    refine lv_aload_n hx hb dX4_fieldsOf_5 rfl (lv_at hl 0 rfl) ?_
    refine va_get (D := (dC, dI)) (ci := 4) (v := .int z) (C := RX4) (T := TX4) (N := 3) hx hb hA zin_X4 hown hK hP 0 rfl rfl 2 (by decide) (hA _ wi_273) (fun _ h9 => h9) rfl dX4_fieldsOf_6 ?_
    refine lv_icmp_ge (tgt := 30) hx hb dX4_fieldsOf_9 (by decide) (fun c_2 => ?_) (fun c_2 => ?_)
    · have ic_2 : z.toInt ≤ k.toInt := zi_le c_2
      refine lv_iconst (v := 0) hx hb dX4_fieldsOf_30 (by decide) ?_
      have hlit : Int32.toInt 0 = 0 := by decide
      have hP9 := hP.sub (ws' := [(h0, .inr (4, [.ref kw, .ref kf, .int z])), (kw, .inl (k1, 20, .inr (.inl gw))), (kf, .inl (k2, 20, .inl gf))]) [0, 1, 2] rfl
      have hD9 := hD.sub (ws' := [(h0, .inr (4, [.ref kw, .ref kf, .int z])), (kw, .inl (k1, 20, .inr (.inl gw))), (kf, .inl (k2, 20, .inl gf))]) [0, 1, 2] (by decide) rfl
      have hK9 := hK.sub (tys' := [(k1, .long), (k2, .int)]) [0, 1] rfl
      exact W.iret (v := 0) hx hb hr (fun t ht hW => ⟨⟨0, (), rfl, ⟨by omega, by omega⟩, by rw [ht]; exact hP9, va_K.moved hW.alike hK9, hD9⟩, hS.F ht⟩) hS.2.2 dX4_fieldsOf_31
    · have ic_2 : k.toInt < z.toInt := zi_nle c_2
      refine lv_aload_n hx hb dX4_fieldsOf_12 rfl (lv_at hl 0 rfl) ?_
      refine va_get (D := (dC, dI)) (ci := 4) (v := .ref kf) (C := RX4) (T := TX4) (N := 3) hx hb hA zin_X4 hown hK hP 0 rfl rfl 1 (by decide) (hA _ wi_271) (fun _ h9 => h9) rfl dX4_fieldsOf_13 ?_
      refine lv_iload_n hx hb dX4_fieldsOf_16 rfl (lv_at hl 1 rfl) ?_
      refine va_iald hx hb hK hP 2 1 rfl rfl (vp_in_iff.mpr ⟨by omega, by omega⟩) dX4_fieldsOf_17 ?_
      refine lv_topi (fun x_3 ex_3 => ?_)
      have ix_3 : -1 ≤ x_3.toInt ∧ x_3.toInt < 4 := by rw [ex_3]; exact hgf _
      refine lv_if_le (tgt := 30) hx hb dX4_fieldsOf_18 (by decide) (fun c_4 => ?_) (fun c_4 => ?_)
      · have ic_4 : x_3.toInt ≤ 0 := zi_le c_4
        refine lv_iconst (v := 0) hx hb dX4_fieldsOf_30 (by decide) ?_
        have hlit : Int32.toInt 0 = 0 := by decide
        have hP9 := hP.sub (ws' := [(h0, .inr (4, [.ref kw, .ref kf, .int z])), (kw, .inl (k1, 20, .inr (.inl gw))), (kf, .inl (k2, 20, .inl gf))]) [0, 1, 2] rfl
        have hD9 := hD.sub (ws' := [(h0, .inr (4, [.ref kw, .ref kf, .int z])), (kw, .inl (k1, 20, .inr (.inl gw))), (kf, .inl (k2, 20, .inl gf))]) [0, 1, 2] (by decide) rfl
        have hK9 := hK.sub (tys' := [(k1, .long), (k2, .int)]) [0, 1] rfl
        exact W.iret (v := 0) hx hb hr (fun t ht hW => ⟨⟨0, (), rfl, ⟨by omega, by omega⟩, by rw [ht]; exact hP9, va_K.moved hW.alike hK9, hD9⟩, hS.F ht⟩) hS.2.2 dX4_fieldsOf_31
      · have ic_4 : 0 < x_3.toInt := zi_nle c_4
        refine lv_aload_n hx hb dX4_fieldsOf_21 rfl (lv_at hl 0 rfl) ?_
        refine va_get (D := (dC, dI)) (ci := 4) (v := .ref kf) (C := RX4) (T := TX4) (N := 3) hx hb hA zin_X4 hown hK hP 0 rfl rfl 1 (by decide) (hA _ wi_271) (fun _ h9 => h9) rfl dX4_fieldsOf_22 ?_
        refine lv_iload_n hx hb dX4_fieldsOf_25 rfl (lv_at hl 1 rfl) ?_
        refine va_iald hx hb hK hP 2 1 rfl rfl (vp_in_iff.mpr ⟨by omega, by omega⟩) dX4_fieldsOf_26 ?_
        refine lv_topi (fun x_5 ex_5 => ?_)
        have jx_5 : x_5.toInt = x_3.toInt := by rw [ex_5, ex_3]
        have ix_5 : -1 ≤ x_5.toInt ∧ x_5.toInt < 4 := by rw [ex_5]; exact hgf _
        refine lv_goto (tgt := 31) hx hb dX4_fieldsOf_27 (by decide) ?_
        have hP9 := hP.sub (ws' := [(h0, .inr (4, [.ref kw, .ref kf, .int z])), (kw, .inl (k1, 20, .inr (.inl gw))), (kf, .inl (k2, 20, .inl gf))]) [0, 1, 2] rfl
        have hD9 := hD.sub (ws' := [(h0, .inr (4, [.ref kw, .ref kf, .int z])), (kw, .inl (k1, 20, .inr (.inl gw))), (kf, .inl (k2, 20, .inl gf))]) [0, 1, 2] (by decide) rfl
        have hK9 := hK.sub (tys' := [(k1, .long), (k2, .int)]) [0, 1] rfl
        exact W.iret (v := x_5) hx hb hr (fun t ht hW => ⟨⟨x_5, (), rfl, ⟨by omega, by omega⟩, by rw [ht]; exact hP9, va_K.moved hW.alike hK9, hD9⟩, hS.F ht⟩) hS.2.2 dX4_fieldsOf_31

end
section
theorem wi_295 : Cond.fieldLink RX3 22 "ReuseHouse$Functions" "size" "I" ∈ zw := zw_in (List.mem_of_getElem? (i := 295) (by decide +kernel)) (by decide +kernel)
theorem wi_290 : Cond.fieldLink RX3 9 "ReuseHouse$Functions" "word" "[J" ∈ zw := zw_in (List.mem_of_getElem? (i := 290) (by decide +kernel)) (by decide +kernel)
theorem wi_291 : Cond.fieldLink RX3 15 "ReuseHouse$Functions" "enter" "[I" ∈ zw := zw_in (List.mem_of_getElem? (i := 291) (by decide +kernel)) (by decide +kernel)
theorem wi_294 : Cond.fieldLink RX3 19 "ReuseHouse$Functions" "facts" "[I" ∈ zw := zw_in (List.mem_of_getElem? (i := 294) (by decide +kernel)) (by decide +kernel)
theorem wi_913 : Cond.code yX3_has cX3_has 2 (some .boolean) ∈ zw := zw_in (List.mem_of_getElem? (i := 913) (by decide +kernel)) (by decide +kernel)
theorem wi_910 : Cond.methodLink RX3 26 yX3_has ∈ zw := zw_in (List.mem_of_getElem? (i := 910) (by decide +kernel)) (by decide +kernel)
theorem wi_911 : Cond.instanceMethod yX3_has ∈ zw := zw_in (List.mem_of_getElem? (i := 911) (by decide +kernel)) (by decide +kernel)
theorem wi_912 : Cond.selects RX3 yX3_has yX3_has ∈ zw := zw_in (List.mem_of_getElem? (i := 912) (by decide +kernel)) (by decide +kernel)
theorem wi_135 : Cond.initialized RX3 ∈ zw := zw_in (List.mem_of_getElem? (i := 135) (by decide +kernel)) (by decide +kernel)
theorem dX3_add_0 : decode cX3_add 0 = .ok (.aload_n 0, 1) := by decide +kernel
theorem dX3_add_1 : decode cX3_add 1 = .ok (.getfield 22, 3) := by decide +kernel
theorem dX3_add_4 : decode cX3_add 4 = .ok (.bipush 30, 2) := by decide +kernel
theorem dX3_add_6 : decode cX3_add 6 = .ok (.if_icmp .lt 6, 3) := by decide +kernel
theorem dX3_add_12 : decode cX3_add 12 = .ok (.aload_n 0, 1) := by decide +kernel
theorem dX3_add_13 : decode cX3_add 13 = .ok (.getfield 22, 3) := by decide +kernel
theorem dX3_add_16 : decode cX3_add 16 = .ok (.istore_n 3, 1) := by decide +kernel
theorem dX3_add_17 : decode cX3_add 17 = .ok (.aload_n 0, 1) := by decide +kernel
theorem dX3_add_18 : decode cX3_add 18 = .ok (.dup, 1) := by decide +kernel
theorem dX3_add_19 : decode cX3_add 19 = .ok (.getfield 22, 3) := by decide +kernel
theorem dX3_add_22 : decode cX3_add 22 = .ok (.iconst 1, 1) := by decide +kernel
theorem dX3_add_23 : decode cX3_add 23 = .ok (.iadd, 1) := by decide +kernel
theorem dX3_add_24 : decode cX3_add 24 = .ok (.putfield 22, 3) := by decide +kernel
theorem dX3_add_27 : decode cX3_add 27 = .ok (.aload_n 0, 1) := by decide +kernel
theorem dX3_add_28 : decode cX3_add 28 = .ok (.getfield 9, 3) := by decide +kernel
theorem dX3_add_31 : decode cX3_add 31 = .ok (.iload_n 3, 1) := by decide +kernel
theorem dX3_add_32 : decode cX3_add 32 = .ok (.lload_n 1, 1) := by decide +kernel
theorem dX3_add_33 : decode cX3_add 33 = .ok (.lastore, 1) := by decide +kernel
theorem dX3_add_34 : decode cX3_add 34 = .ok (.aload_n 0, 1) := by decide +kernel
theorem dX3_add_35 : decode cX3_add 35 = .ok (.getfield 15, 3) := by decide +kernel
theorem dX3_add_38 : decode cX3_add 38 = .ok (.iload_n 3, 1) := by decide +kernel
theorem dX3_add_39 : decode cX3_add 39 = .ok (.iconst (-1), 1) := by decide +kernel
theorem dX3_add_40 : decode cX3_add 40 = .ok (.iastore, 1) := by decide +kernel
theorem dX3_add_41 : decode cX3_add 41 = .ok (.iconst 0, 1) := by decide +kernel
theorem dX3_add_42 : decode cX3_add 42 = .ok (.istore 4, 2) := by decide +kernel
theorem dX3_add_44 : decode cX3_add 44 = .ok (.iload 4, 2) := by decide +kernel
theorem dX3_add_46 : decode cX3_add 46 = .ok (.iconst 5, 1) := by decide +kernel
theorem dX3_add_47 : decode cX3_add 47 = .ok (.if_icmp .ge 21, 3) := by decide +kernel
theorem dX3_add_50 : decode cX3_add 50 = .ok (.aload_n 0, 1) := by decide +kernel
theorem dX3_add_51 : decode cX3_add 51 = .ok (.getfield 19, 3) := by decide +kernel
theorem dX3_add_54 : decode cX3_add 54 = .ok (.iload_n 3, 1) := by decide +kernel
theorem dX3_add_55 : decode cX3_add 55 = .ok (.iconst 5, 1) := by decide +kernel
theorem dX3_add_56 : decode cX3_add 56 = .ok (.imul, 1) := by decide +kernel
theorem dX3_add_57 : decode cX3_add 57 = .ok (.iload 4, 2) := by decide +kernel
theorem dX3_add_59 : decode cX3_add 59 = .ok (.iadd, 1) := by decide +kernel
theorem dX3_add_60 : decode cX3_add 60 = .ok (.iconst 0, 1) := by decide +kernel
theorem dX3_add_61 : decode cX3_add 61 = .ok (.iastore, 1) := by decide +kernel
theorem dX3_add_62 : decode cX3_add 62 = .ok (.iinc 4 1, 3) := by decide +kernel
theorem dX3_add_65 : decode cX3_add 65 = .ok (.goto (-21), 3) := by decide +kernel
theorem dX3_add_68 : decode cX3_add 68 = .ok (.iload_n 3, 1) := by decide +kernel
theorem dX3_add_69 : decode cX3_add 69 = .ok (.ireturn, 1) := by decide +kernel
theorem dX3_fact_0 : decode cX3_fact 0 = .ok (.aload_n 0, 1) := by decide +kernel
theorem dX3_fact_1 : decode cX3_fact 1 = .ok (.iload_n 1, 1) := by decide +kernel
theorem dX3_fact_2 : decode cX3_fact 2 = .ok (.invokevirtual 26, 3) := by decide +kernel
theorem dX3_fact_5 : decode cX3_fact 5 = .ok (.ifCond .eq 16, 3) := by decide +kernel
theorem dX3_fact_8 : decode cX3_fact 8 = .ok (.aload_n 0, 1) := by decide +kernel
theorem dX3_fact_9 : decode cX3_fact 9 = .ok (.getfield 19, 3) := by decide +kernel
theorem dX3_fact_12 : decode cX3_fact 12 = .ok (.iload_n 1, 1) := by decide +kernel
theorem dX3_fact_13 : decode cX3_fact 13 = .ok (.iconst 5, 1) := by decide +kernel
theorem dX3_fact_14 : decode cX3_fact 14 = .ok (.imul, 1) := by decide +kernel
theorem dX3_fact_15 : decode cX3_fact 15 = .ok (.iload_n 2, 1) := by decide +kernel
theorem dX3_fact_16 : decode cX3_fact 16 = .ok (.iadd, 1) := by decide +kernel
theorem dX3_fact_17 : decode cX3_fact 17 = .ok (.iaload, 1) := by decide +kernel
theorem dX3_fact_18 : decode cX3_fact 18 = .ok (.goto 4, 3) := by decide +kernel
theorem dX3_fact_22 : decode cX3_fact 22 = .ok (.ireturn, 1) := by decide +kernel
theorem dX3_find_0 : decode cX3_find 0 = .ok (.iconst 0, 1) := by decide +kernel
theorem dX3_find_1 : decode cX3_find 1 = .ok (.istore_n 3, 1) := by decide +kernel
theorem dX3_find_2 : decode cX3_find 2 = .ok (.iload_n 3, 1) := by decide +kernel
theorem dX3_find_3 : decode cX3_find 3 = .ok (.aload_n 0, 1) := by decide +kernel
theorem dX3_find_4 : decode cX3_find 4 = .ok (.getfield 22, 3) := by decide +kernel
theorem dX3_find_7 : decode cX3_find 7 = .ok (.if_icmp .ge 22, 3) := by decide +kernel
theorem dX3_find_10 : decode cX3_find 10 = .ok (.aload_n 0, 1) := by decide +kernel
theorem dX3_find_11 : decode cX3_find 11 = .ok (.getfield 9, 3) := by decide +kernel
theorem dX3_find_14 : decode cX3_find 14 = .ok (.iload_n 3, 1) := by decide +kernel
theorem dX3_find_15 : decode cX3_find 15 = .ok (.laload, 1) := by decide +kernel
theorem dX3_find_16 : decode cX3_find 16 = .ok (.lload_n 1, 1) := by decide +kernel
theorem dX3_find_17 : decode cX3_find 17 = .ok (.lcmp, 1) := by decide +kernel
theorem dX3_find_18 : decode cX3_find 18 = .ok (.ifCond .ne 5, 3) := by decide +kernel
theorem dX3_find_21 : decode cX3_find 21 = .ok (.iload_n 3, 1) := by decide +kernel
theorem dX3_find_22 : decode cX3_find 22 = .ok (.ireturn, 1) := by decide +kernel
theorem dX3_find_23 : decode cX3_find 23 = .ok (.iinc 3 1, 3) := by decide +kernel
theorem dX3_find_26 : decode cX3_find 26 = .ok (.goto (-24), 3) := by decide +kernel
theorem dX3_find_29 : decode cX3_find 29 = .ok (.iconst (-1), 1) := by decide +kernel
theorem dX3_find_30 : decode cX3_find 30 = .ok (.ireturn, 1) := by decide +kernel
theorem dX3_has_0 : decode cX3_has 0 = .ok (.iload_n 1, 1) := by decide +kernel
theorem dX3_has_1 : decode cX3_has 1 = .ok (.ifCond .lt 15, 3) := by decide +kernel
theorem dX3_has_4 : decode cX3_has 4 = .ok (.iload_n 1, 1) := by decide +kernel
theorem dX3_has_5 : decode cX3_has 5 = .ok (.aload_n 0, 1) := by decide +kernel
theorem dX3_has_6 : decode cX3_has 6 = .ok (.getfield 22, 3) := by decide +kernel
theorem dX3_has_9 : decode cX3_has 9 = .ok (.if_icmp .ge 7, 3) := by decide +kernel
theorem dX3_has_12 : decode cX3_has 12 = .ok (.iconst 1, 1) := by decide +kernel
theorem dX3_has_13 : decode cX3_has 13 = .ok (.goto 4, 3) := by decide +kernel
theorem dX3_has_16 : decode cX3_has 16 = .ok (.iconst 0, 1) := by decide +kernel
theorem dX3_has_17 : decode cX3_has 17 = .ok (.ireturn, 1) := by decide +kernel
theorem dX3_oneMore_0 : decode cX3_oneMore 0 = .ok (.aload_n 0, 1) := by decide +kernel
theorem dX3_oneMore_1 : decode cX3_oneMore 1 = .ok (.iload_n 1, 1) := by decide +kernel
theorem dX3_oneMore_2 : decode cX3_oneMore 2 = .ok (.invokevirtual 26, 3) := by decide +kernel
theorem dX3_oneMore_5 : decode cX3_oneMore 5 = .ok (.ifCond .eq 17, 3) := by decide +kernel
theorem dX3_oneMore_8 : decode cX3_oneMore 8 = .ok (.aload_n 0, 1) := by decide +kernel
theorem dX3_oneMore_9 : decode cX3_oneMore 9 = .ok (.getfield 19, 3) := by decide +kernel
theorem dX3_oneMore_12 : decode cX3_oneMore 12 = .ok (.iload_n 1, 1) := by decide +kernel
theorem dX3_oneMore_13 : decode cX3_oneMore 13 = .ok (.iconst 5, 1) := by decide +kernel
theorem dX3_oneMore_14 : decode cX3_oneMore 14 = .ok (.imul, 1) := by decide +kernel
theorem dX3_oneMore_15 : decode cX3_oneMore 15 = .ok (.iload_n 2, 1) := by decide +kernel
theorem dX3_oneMore_16 : decode cX3_oneMore 16 = .ok (.iadd, 1) := by decide +kernel
theorem dX3_oneMore_17 : decode cX3_oneMore 17 = .ok (.dup2, 1) := by decide +kernel
theorem dX3_oneMore_18 : decode cX3_oneMore 18 = .ok (.iaload, 1) := by decide +kernel
theorem dX3_oneMore_19 : decode cX3_oneMore 19 = .ok (.iconst 1, 1) := by decide +kernel
theorem dX3_oneMore_20 : decode cX3_oneMore 20 = .ok (.iadd, 1) := by decide +kernel
theorem dX3_oneMore_21 : decode cX3_oneMore 21 = .ok (.iastore, 1) := by decide +kernel
theorem dX3_oneMore_22 : decode cX3_oneMore 22 = .ok (.return_, 1) := by decide +kernel

end
section
theorem wi_197 : Cond.fieldLink RX2 30 "ReuseHouse$Code" "size" "I" ∈ zw := zw_in (List.mem_of_getElem? (i := 197) (by decide +kernel)) (by decide +kernel)
theorem wi_176 : Cond.fieldLink RX2 9 "ReuseHouse$Code" "op" "[I" ∈ zw := zw_in (List.mem_of_getElem? (i := 176) (by decide +kernel)) (by decide +kernel)
theorem wi_180 : Cond.fieldLink RX2 15 "ReuseHouse$Code" "a" "[I" ∈ zw := zw_in (List.mem_of_getElem? (i := 180) (by decide +kernel)) (by decide +kernel)
theorem wi_184 : Cond.fieldLink RX2 18 "ReuseHouse$Code" "b" "[I" ∈ zw := zw_in (List.mem_of_getElem? (i := 184) (by decide +kernel)) (by decide +kernel)
theorem wi_188 : Cond.fieldLink RX2 21 "ReuseHouse$Code" "place" "[I" ∈ zw := zw_in (List.mem_of_getElem? (i := 188) (by decide +kernel)) (by decide +kernel)
theorem wi_194 : Cond.fieldLink RX2 27 "ReuseHouse$Code" "needed" "[I" ∈ zw := zw_in (List.mem_of_getElem? (i := 194) (by decide +kernel)) (by decide +kernel)
theorem wi_191 : Cond.fieldLink RX2 24 "ReuseHouse$Code" "next" "[I" ∈ zw := zw_in (List.mem_of_getElem? (i := 191) (by decide +kernel)) (by decide +kernel)
theorem wi_200 : Cond.fieldLink RX2 34 "ReuseHouse$Code" "tail" "I" ∈ zw := zw_in (List.mem_of_getElem? (i := 200) (by decide +kernel)) (by decide +kernel)
theorem wi_925 : Cond.code yX2_insertBehind cX2_insertBehind 5 (some .int) ∈ zw := zw_in (List.mem_of_getElem? (i := 925) (by decide +kernel)) (by decide +kernel)
theorem wi_922 : Cond.methodLink RX2 37 yX2_insertBehind ∈ zw := zw_in (List.mem_of_getElem? (i := 922) (by decide +kernel)) (by decide +kernel)
theorem wi_923 : Cond.instanceMethod yX2_insertBehind ∈ zw := zw_in (List.mem_of_getElem? (i := 923) (by decide +kernel)) (by decide +kernel)
theorem wi_924 : Cond.selects RX2 yX2_insertBehind yX2_insertBehind ∈ zw := zw_in (List.mem_of_getElem? (i := 924) (by decide +kernel)) (by decide +kernel)
theorem wi_132 : Cond.initialized RX2 ∈ zw := zw_in (List.mem_of_getElem? (i := 132) (by decide +kernel)) (by decide +kernel)
theorem dX2_append_0 : decode cX2_append 0 = .ok (.aload_n 0, 1) := by decide +kernel
theorem dX2_append_1 : decode cX2_append 1 = .ok (.aload_n 0, 1) := by decide +kernel
theorem dX2_append_2 : decode cX2_append 2 = .ok (.getfield 34, 3) := by decide +kernel
theorem dX2_append_5 : decode cX2_append 5 = .ok (.iload_n 1, 1) := by decide +kernel
theorem dX2_append_6 : decode cX2_append 6 = .ok (.iload_n 2, 1) := by decide +kernel
theorem dX2_append_7 : decode cX2_append 7 = .ok (.invokevirtual 37, 3) := by decide +kernel
theorem dX2_append_10 : decode cX2_append 10 = .ok (.istore 4, 2) := by decide +kernel
theorem dX2_append_12 : decode cX2_append 12 = .ok (.aload_n 0, 1) := by decide +kernel
theorem dX2_append_13 : decode cX2_append 13 = .ok (.getfield 15, 3) := by decide +kernel
theorem dX2_append_16 : decode cX2_append 16 = .ok (.iload 4, 2) := by decide +kernel
theorem dX2_append_18 : decode cX2_append 18 = .ok (.iload_n 3, 1) := by decide +kernel
theorem dX2_append_19 : decode cX2_append 19 = .ok (.iastore, 1) := by decide +kernel
theorem dX2_append_20 : decode cX2_append 20 = .ok (.iload 4, 2) := by decide +kernel
theorem dX2_append_22 : decode cX2_append 22 = .ok (.ireturn, 1) := by decide +kernel
theorem dX2_appendStep_0 : decode cX2_appendStep 0 = .ok (.aload_n 0, 1) := by decide +kernel
theorem dX2_appendStep_1 : decode cX2_appendStep 1 = .ok (.aload_n 0, 1) := by decide +kernel
theorem dX2_appendStep_2 : decode cX2_appendStep 2 = .ok (.getfield 34, 3) := by decide +kernel
theorem dX2_appendStep_5 : decode cX2_appendStep 5 = .ok (.iconst 1, 1) := by decide +kernel
theorem dX2_appendStep_6 : decode cX2_appendStep 6 = .ok (.iload_n 1, 1) := by decide +kernel
theorem dX2_appendStep_7 : decode cX2_appendStep 7 = .ok (.invokevirtual 37, 3) := by decide +kernel
theorem dX2_appendStep_10 : decode cX2_appendStep 10 = .ok (.pop, 1) := by decide +kernel
theorem dX2_appendStep_11 : decode cX2_appendStep 11 = .ok (.return_, 1) := by decide +kernel
theorem dX2_insertBehind_0 : decode cX2_insertBehind 0 = .ok (.aload_n 0, 1) := by decide +kernel
theorem dX2_insertBehind_1 : decode cX2_insertBehind 1 = .ok (.getfield 30, 3) := by decide +kernel
theorem dX2_insertBehind_4 : decode cX2_insertBehind 4 = .ok (.sipush 3000, 3) := by decide +kernel
theorem dX2_insertBehind_7 : decode cX2_insertBehind 7 = .ok (.if_icmp .lt 7, 3) := by decide +kernel
theorem dX2_insertBehind_14 : decode cX2_insertBehind 14 = .ok (.aload_n 0, 1) := by decide +kernel
theorem dX2_insertBehind_15 : decode cX2_insertBehind 15 = .ok (.getfield 30, 3) := by decide +kernel
theorem dX2_insertBehind_18 : decode cX2_insertBehind 18 = .ok (.istore 4, 2) := by decide +kernel
theorem dX2_insertBehind_20 : decode cX2_insertBehind 20 = .ok (.aload_n 0, 1) := by decide +kernel
theorem dX2_insertBehind_21 : decode cX2_insertBehind 21 = .ok (.dup, 1) := by decide +kernel
theorem dX2_insertBehind_22 : decode cX2_insertBehind 22 = .ok (.getfield 30, 3) := by decide +kernel
theorem dX2_insertBehind_25 : decode cX2_insertBehind 25 = .ok (.iconst 1, 1) := by decide +kernel
theorem dX2_insertBehind_26 : decode cX2_insertBehind 26 = .ok (.iadd, 1) := by decide +kernel
theorem dX2_insertBehind_27 : decode cX2_insertBehind 27 = .ok (.putfield 30, 3) := by decide +kernel
theorem dX2_insertBehind_30 : decode cX2_insertBehind 30 = .ok (.aload_n 0, 1) := by decide +kernel
theorem dX2_insertBehind_31 : decode cX2_insertBehind 31 = .ok (.getfield 9, 3) := by decide +kernel
theorem dX2_insertBehind_34 : decode cX2_insertBehind 34 = .ok (.iload 4, 2) := by decide +kernel
theorem dX2_insertBehind_36 : decode cX2_insertBehind 36 = .ok (.iload_n 2, 1) := by decide +kernel
theorem dX2_insertBehind_37 : decode cX2_insertBehind 37 = .ok (.iastore, 1) := by decide +kernel
theorem dX2_insertBehind_38 : decode cX2_insertBehind 38 = .ok (.aload_n 0, 1) := by decide +kernel
theorem dX2_insertBehind_39 : decode cX2_insertBehind 39 = .ok (.getfield 15, 3) := by decide +kernel
theorem dX2_insertBehind_42 : decode cX2_insertBehind 42 = .ok (.iload 4, 2) := by decide +kernel
theorem dX2_insertBehind_44 : decode cX2_insertBehind 44 = .ok (.iconst (-1), 1) := by decide +kernel
theorem dX2_insertBehind_45 : decode cX2_insertBehind 45 = .ok (.iastore, 1) := by decide +kernel
theorem dX2_insertBehind_46 : decode cX2_insertBehind 46 = .ok (.aload_n 0, 1) := by decide +kernel
theorem dX2_insertBehind_47 : decode cX2_insertBehind 47 = .ok (.getfield 18, 3) := by decide +kernel
theorem dX2_insertBehind_50 : decode cX2_insertBehind 50 = .ok (.iload 4, 2) := by decide +kernel
theorem dX2_insertBehind_52 : decode cX2_insertBehind 52 = .ok (.iconst (-1), 1) := by decide +kernel
theorem dX2_insertBehind_53 : decode cX2_insertBehind 53 = .ok (.iastore, 1) := by decide +kernel
theorem dX2_insertBehind_54 : decode cX2_insertBehind 54 = .ok (.aload_n 0, 1) := by decide +kernel
theorem dX2_insertBehind_55 : decode cX2_insertBehind 55 = .ok (.getfield 21, 3) := by decide +kernel
theorem dX2_insertBehind_58 : decode cX2_insertBehind 58 = .ok (.iload 4, 2) := by decide +kernel
theorem dX2_insertBehind_60 : decode cX2_insertBehind 60 = .ok (.iload_n 3, 1) := by decide +kernel
theorem dX2_insertBehind_61 : decode cX2_insertBehind 61 = .ok (.iastore, 1) := by decide +kernel
theorem dX2_insertBehind_62 : decode cX2_insertBehind 62 = .ok (.aload_n 0, 1) := by decide +kernel
theorem dX2_insertBehind_63 : decode cX2_insertBehind 63 = .ok (.getfield 27, 3) := by decide +kernel
theorem dX2_insertBehind_66 : decode cX2_insertBehind 66 = .ok (.iload 4, 2) := by decide +kernel
theorem dX2_insertBehind_68 : decode cX2_insertBehind 68 = .ok (.iconst 0, 1) := by decide +kernel
theorem dX2_insertBehind_69 : decode cX2_insertBehind 69 = .ok (.iastore, 1) := by decide +kernel
theorem dX2_insertBehind_70 : decode cX2_insertBehind 70 = .ok (.aload_n 0, 1) := by decide +kernel
theorem dX2_insertBehind_71 : decode cX2_insertBehind 71 = .ok (.getfield 24, 3) := by decide +kernel
theorem dX2_insertBehind_74 : decode cX2_insertBehind 74 = .ok (.iload 4, 2) := by decide +kernel
theorem dX2_insertBehind_76 : decode cX2_insertBehind 76 = .ok (.iload_n 1, 1) := by decide +kernel
theorem dX2_insertBehind_77 : decode cX2_insertBehind 77 = .ok (.iconst (-1), 1) := by decide +kernel
theorem dX2_insertBehind_78 : decode cX2_insertBehind 78 = .ok (.if_icmp .ne 7, 3) := by decide +kernel
theorem dX2_insertBehind_81 : decode cX2_insertBehind 81 = .ok (.iconst (-1), 1) := by decide +kernel
theorem dX2_insertBehind_82 : decode cX2_insertBehind 82 = .ok (.goto 9, 3) := by decide +kernel
theorem dX2_insertBehind_85 : decode cX2_insertBehind 85 = .ok (.aload_n 0, 1) := by decide +kernel
theorem dX2_insertBehind_86 : decode cX2_insertBehind 86 = .ok (.getfield 24, 3) := by decide +kernel
theorem dX2_insertBehind_89 : decode cX2_insertBehind 89 = .ok (.iload_n 1, 1) := by decide +kernel
theorem dX2_insertBehind_90 : decode cX2_insertBehind 90 = .ok (.iaload, 1) := by decide +kernel
theorem dX2_insertBehind_91 : decode cX2_insertBehind 91 = .ok (.iastore, 1) := by decide +kernel
theorem dX2_insertBehind_92 : decode cX2_insertBehind 92 = .ok (.iload_n 1, 1) := by decide +kernel
theorem dX2_insertBehind_93 : decode cX2_insertBehind 93 = .ok (.iconst (-1), 1) := by decide +kernel
theorem dX2_insertBehind_94 : decode cX2_insertBehind 94 = .ok (.if_icmp .eq 11, 3) := by decide +kernel
theorem dX2_insertBehind_97 : decode cX2_insertBehind 97 = .ok (.aload_n 0, 1) := by decide +kernel
theorem dX2_insertBehind_98 : decode cX2_insertBehind 98 = .ok (.getfield 24, 3) := by decide +kernel
theorem dX2_insertBehind_101 : decode cX2_insertBehind 101 = .ok (.iload_n 1, 1) := by decide +kernel
theorem dX2_insertBehind_102 : decode cX2_insertBehind 102 = .ok (.iload 4, 2) := by decide +kernel
theorem dX2_insertBehind_104 : decode cX2_insertBehind 104 = .ok (.iastore, 1) := by decide +kernel
theorem dX2_insertBehind_105 : decode cX2_insertBehind 105 = .ok (.iload_n 1, 1) := by decide +kernel
theorem dX2_insertBehind_106 : decode cX2_insertBehind 106 = .ok (.aload_n 0, 1) := by decide +kernel
theorem dX2_insertBehind_107 : decode cX2_insertBehind 107 = .ok (.getfield 34, 3) := by decide +kernel
theorem dX2_insertBehind_110 : decode cX2_insertBehind 110 = .ok (.if_icmp .ne 9, 3) := by decide +kernel
theorem dX2_insertBehind_113 : decode cX2_insertBehind 113 = .ok (.aload_n 0, 1) := by decide +kernel
theorem dX2_insertBehind_114 : decode cX2_insertBehind 114 = .ok (.iload 4, 2) := by decide +kernel
theorem dX2_insertBehind_116 : decode cX2_insertBehind 116 = .ok (.putfield 34, 3) := by decide +kernel
theorem dX2_insertBehind_119 : decode cX2_insertBehind 119 = .ok (.iload 4, 2) := by decide +kernel
theorem dX2_insertBehind_121 : decode cX2_insertBehind 121 = .ok (.ireturn, 1) := by decide +kernel
theorem dX2_neededBehind_0 : decode cX2_neededBehind 0 = .ok (.iload_n 1, 1) := by decide +kernel
theorem dX2_neededBehind_1 : decode cX2_neededBehind 1 = .ok (.iconst (-1), 1) := by decide +kernel
theorem dX2_neededBehind_2 : decode cX2_neededBehind 2 = .ok (.if_icmp .ne 7, 3) := by decide +kernel
theorem dX2_neededBehind_5 : decode cX2_neededBehind 5 = .ok (.iconst (-1), 1) := by decide +kernel
theorem dX2_neededBehind_6 : decode cX2_neededBehind 6 = .ok (.goto 9, 3) := by decide +kernel
theorem dX2_neededBehind_9 : decode cX2_neededBehind 9 = .ok (.aload_n 0, 1) := by decide +kernel
theorem dX2_neededBehind_10 : decode cX2_neededBehind 10 = .ok (.getfield 24, 3) := by decide +kernel
theorem dX2_neededBehind_13 : decode cX2_neededBehind 13 = .ok (.iload_n 1, 1) := by decide +kernel
theorem dX2_neededBehind_14 : decode cX2_neededBehind 14 = .ok (.iaload, 1) := by decide +kernel
theorem dX2_neededBehind_15 : decode cX2_neededBehind 15 = .ok (.istore_n 2, 1) := by decide +kernel
theorem dX2_neededBehind_16 : decode cX2_neededBehind 16 = .ok (.iload_n 2, 1) := by decide +kernel
theorem dX2_neededBehind_17 : decode cX2_neededBehind 17 = .ok (.iconst (-1), 1) := by decide +kernel
theorem dX2_neededBehind_18 : decode cX2_neededBehind 18 = .ok (.if_icmp .ne 7, 3) := by decide +kernel
theorem dX2_neededBehind_21 : decode cX2_neededBehind 21 = .ok (.iconst 0, 1) := by decide +kernel
theorem dX2_neededBehind_22 : decode cX2_neededBehind 22 = .ok (.goto 9, 3) := by decide +kernel
theorem dX2_neededBehind_25 : decode cX2_neededBehind 25 = .ok (.aload_n 0, 1) := by decide +kernel
theorem dX2_neededBehind_26 : decode cX2_neededBehind 26 = .ok (.getfield 27, 3) := by decide +kernel
theorem dX2_neededBehind_29 : decode cX2_neededBehind 29 = .ok (.iload_n 2, 1) := by decide +kernel
theorem dX2_neededBehind_30 : decode cX2_neededBehind 30 = .ok (.iaload, 1) := by decide +kernel
theorem dX2_neededBehind_31 : decode cX2_neededBehind 31 = .ok (.ireturn, 1) := by decide +kernel

end
section
theorem wi_247 : Cond.fieldLink RX0 30 "ReuseHouse$Arms" "size" "I" ∈ zw := zw_in (List.mem_of_getElem? (i := 247) (by decide +kernel)) (by decide +kernel)
theorem wi_227 : Cond.fieldLink RX0 9 "ReuseHouse$Arms" "kind" "[I" ∈ zw := zw_in (List.mem_of_getElem? (i := 227) (by decide +kernel)) (by decide +kernel)
theorem wi_231 : Cond.fieldLink RX0 15 "ReuseHouse$Arms" "next" "[I" ∈ zw := zw_in (List.mem_of_getElem? (i := 231) (by decide +kernel)) (by decide +kernel)
theorem wi_235 : Cond.fieldLink RX0 18 "ReuseHouse$Arms" "before" "[I" ∈ zw := zw_in (List.mem_of_getElem? (i := 235) (by decide +kernel)) (by decide +kernel)
theorem wi_239 : Cond.fieldLink RX0 21 "ReuseHouse$Arms" "leave" "[I" ∈ zw := zw_in (List.mem_of_getElem? (i := 239) (by decide +kernel)) (by decide +kernel)
theorem wi_241 : Cond.fieldLink RX0 24 "ReuseHouse$Arms" "firstSlot" "[I" ∈ zw := zw_in (List.mem_of_getElem? (i := 241) (by decide +kernel)) (by decide +kernel)
theorem wi_244 : Cond.fieldLink RX0 27 "ReuseHouse$Arms" "builds" "[I" ∈ zw := zw_in (List.mem_of_getElem? (i := 244) (by decide +kernel)) (by decide +kernel)
theorem dX0_add_0 : decode cX0_add 0 = .ok (.aload_n 0, 1) := by decide +kernel
theorem dX0_add_1 : decode cX0_add 1 = .ok (.getfield 30, 3) := by decide +kernel
theorem dX0_add_4 : decode cX0_add 4 = .ok (.sipush 400, 3) := by decide +kernel
theorem dX0_add_7 : decode cX0_add 7 = .ok (.if_icmp .lt 7, 3) := by decide +kernel
theorem dX0_add_14 : decode cX0_add 14 = .ok (.aload_n 0, 1) := by decide +kernel
theorem dX0_add_15 : decode cX0_add 15 = .ok (.getfield 30, 3) := by decide +kernel
theorem dX0_add_18 : decode cX0_add 18 = .ok (.istore_n 3, 1) := by decide +kernel
theorem dX0_add_19 : decode cX0_add 19 = .ok (.aload_n 0, 1) := by decide +kernel
theorem dX0_add_20 : decode cX0_add 20 = .ok (.dup, 1) := by decide +kernel
theorem dX0_add_21 : decode cX0_add 21 = .ok (.getfield 30, 3) := by decide +kernel
theorem dX0_add_24 : decode cX0_add 24 = .ok (.iconst 1, 1) := by decide +kernel
theorem dX0_add_25 : decode cX0_add 25 = .ok (.iadd, 1) := by decide +kernel
theorem dX0_add_26 : decode cX0_add 26 = .ok (.putfield 30, 3) := by decide +kernel
theorem dX0_add_29 : decode cX0_add 29 = .ok (.aload_n 0, 1) := by decide +kernel
theorem dX0_add_30 : decode cX0_add 30 = .ok (.getfield 9, 3) := by decide +kernel
theorem dX0_add_33 : decode cX0_add 33 = .ok (.iload_n 3, 1) := by decide +kernel
theorem dX0_add_34 : decode cX0_add 34 = .ok (.iload_n 1, 1) := by decide +kernel
theorem dX0_add_35 : decode cX0_add 35 = .ok (.iastore, 1) := by decide +kernel
theorem dX0_add_36 : decode cX0_add 36 = .ok (.aload_n 0, 1) := by decide +kernel
theorem dX0_add_37 : decode cX0_add 37 = .ok (.getfield 15, 3) := by decide +kernel
theorem dX0_add_40 : decode cX0_add 40 = .ok (.iload_n 3, 1) := by decide +kernel
theorem dX0_add_41 : decode cX0_add 41 = .ok (.iconst (-1), 1) := by decide +kernel
theorem dX0_add_42 : decode cX0_add 42 = .ok (.iastore, 1) := by decide +kernel
theorem dX0_add_43 : decode cX0_add 43 = .ok (.aload_n 0, 1) := by decide +kernel
theorem dX0_add_44 : decode cX0_add 44 = .ok (.getfield 18, 3) := by decide +kernel
theorem dX0_add_47 : decode cX0_add 47 = .ok (.iload_n 3, 1) := by decide +kernel
theorem dX0_add_48 : decode cX0_add 48 = .ok (.iconst (-1), 1) := by decide +kernel
theorem dX0_add_49 : decode cX0_add 49 = .ok (.iastore, 1) := by decide +kernel
theorem dX0_add_50 : decode cX0_add 50 = .ok (.aload_n 0, 1) := by decide +kernel
theorem dX0_add_51 : decode cX0_add 51 = .ok (.getfield 21, 3) := by decide +kernel
theorem dX0_add_54 : decode cX0_add 54 = .ok (.iload_n 3, 1) := by decide +kernel
theorem dX0_add_55 : decode cX0_add 55 = .ok (.iconst (-1), 1) := by decide +kernel
theorem dX0_add_56 : decode cX0_add 56 = .ok (.iastore, 1) := by decide +kernel
theorem dX0_add_57 : decode cX0_add 57 = .ok (.aload_n 0, 1) := by decide +kernel
theorem dX0_add_58 : decode cX0_add 58 = .ok (.getfield 24, 3) := by decide +kernel
theorem dX0_add_61 : decode cX0_add 61 = .ok (.iload_n 3, 1) := by decide +kernel
theorem dX0_add_62 : decode cX0_add 62 = .ok (.iload_n 2, 1) := by decide +kernel
theorem dX0_add_63 : decode cX0_add 63 = .ok (.iastore, 1) := by decide +kernel
theorem dX0_add_64 : decode cX0_add 64 = .ok (.aload_n 0, 1) := by decide +kernel
theorem dX0_add_65 : decode cX0_add 65 = .ok (.getfield 27, 3) := by decide +kernel
theorem dX0_add_68 : decode cX0_add 68 = .ok (.iload_n 3, 1) := by decide +kernel
theorem dX0_add_69 : decode cX0_add 69 = .ok (.iconst 0, 1) := by decide +kernel
theorem dX0_add_70 : decode cX0_add 70 = .ok (.iastore, 1) := by decide +kernel
theorem dX0_add_71 : decode cX0_add 71 = .ok (.iload_n 3, 1) := by decide +kernel
theorem dX0_add_72 : decode cX0_add 72 = .ok (.ireturn, 1) := by decide +kernel

end
section
theorem wi_666 : Cond.code yX10_isSmall cX10_isSmall 1 (some .boolean) ∈ zw := zw_in (List.mem_of_getElem? (i := 666) (by decide +kernel)) (by decide +kernel)
theorem wi_664 : Cond.methodLink RX10 62 yX10_isSmall ∈ zw := zw_in (List.mem_of_getElem? (i := 664) (by decide +kernel)) (by decide +kernel)
theorem wi_665 : Cond.static yX10_isSmall ∈ zw := zw_in (List.mem_of_getElem? (i := 665) (by decide +kernel)) (by decide +kernel)
theorem wi_137 : Cond.initialized RX10 ∈ zw := zw_in (List.mem_of_getElem? (i := 137) (by decide +kernel)) (by decide +kernel)
theorem wi_669 : Cond.code yX10_isGreat cX10_isGreat 1 (some .boolean) ∈ zw := zw_in (List.mem_of_getElem? (i := 669) (by decide +kernel)) (by decide +kernel)
theorem wi_667 : Cond.methodLink RX10 72 yX10_isGreat ∈ zw := zw_in (List.mem_of_getElem? (i := 667) (by decide +kernel)) (by decide +kernel)
theorem wi_668 : Cond.static yX10_isGreat ∈ zw := zw_in (List.mem_of_getElem? (i := 668) (by decide +kernel)) (by decide +kernel)
theorem wi_672 : Cond.code yX10_isDigit cX10_isDigit 1 (some .boolean) ∈ zw := zw_in (List.mem_of_getElem? (i := 672) (by decide +kernel)) (by decide +kernel)
theorem wi_670 : Cond.methodLink RX10 65 yX10_isDigit ∈ zw := zw_in (List.mem_of_getElem? (i := 670) (by decide +kernel)) (by decide +kernel)
theorem wi_671 : Cond.static yX10_isDigit ∈ zw := zw_in (List.mem_of_getElem? (i := 671) (by decide +kernel)) (by decide +kernel)
theorem wi_680 : Cond.constantLong RX10 75 (7103860) ∈ zw := zw_in (List.mem_of_getElem? (i := 680) (by decide +kernel)) (by decide +kernel)
theorem wi_681 : Cond.constantLong RX10 77 (26990) ∈ zw := zw_in (List.mem_of_getElem? (i := 681) (by decide +kernel)) (by decide +kernel)
theorem wi_682 : Cond.constantLong RX10 79 (26982) ∈ zw := zw_in (List.mem_of_getElem? (i := 682) (by decide +kernel)) (by decide +kernel)
theorem wi_683 : Cond.constantLong RX10 81 (1952998766) ∈ zw := zw_in (List.mem_of_getElem? (i := 683) (by decide +kernel)) (by decide +kernel)
theorem wi_684 : Cond.constantLong RX10 83 (1701606245) ∈ zw := zw_in (List.mem_of_getElem? (i := 684) (by decide +kernel)) (by decide +kernel)
theorem wi_685 : Cond.constantLong RX10 85 (469786452840) ∈ zw := zw_in (List.mem_of_getElem? (i := 685) (by decide +kernel)) (by decide +kernel)
theorem wi_686 : Cond.constantLong RX10 87 (6714734) ∈ zw := zw_in (List.mem_of_getElem? (i := 686) (by decide +kernel)) (by decide +kernel)
theorem wi_350 : Cond.fieldLink RX10 26 "ReuseHouse$Tokens" "at" "I" ∈ zw := zw_in (List.mem_of_getElem? (i := 350) (by decide +kernel)) (by decide +kernel)
theorem wi_349 : Cond.fieldLink RX10 22 "ReuseHouse$Tokens" "size" "I" ∈ zw := zw_in (List.mem_of_getElem? (i := 349) (by decide +kernel)) (by decide +kernel)
theorem wi_657 : Cond.methodLink RX10 39 Lib.Math.min.name ∈ zw := zw_in (List.mem_of_getElem? (i := 657) (by decide +kernel)) (by decide +kernel)
theorem wi_658 : Cond.static Lib.Math.min.name ∈ zw := zw_in (List.mem_of_getElem? (i := 658) (by decide +kernel)) (by decide +kernel)
theorem wi_141 : Cond.initialized RJ9 ∈ zw := zw_in (List.mem_of_getElem? (i := 141) (by decide +kernel)) (by decide +kernel)
theorem wi_659 : Cond.code Lib.Math.min.name Lib.Math.min.code 2 (some .int) ∈ zw := zw_in (List.mem_of_getElem? (i := 659) (by decide +kernel)) (by decide +kernel)
theorem wi_346 : Cond.fieldLink RX10 9 "ReuseHouse$Tokens" "sorts" "[I" ∈ zw := zw_in (List.mem_of_getElem? (i := 346) (by decide +kernel)) (by decide +kernel)
theorem wi_352 : Cond.fieldLink RX10 29 "ReuseHouse$Tokens" "sort" "I" ∈ zw := zw_in (List.mem_of_getElem? (i := 352) (by decide +kernel)) (by decide +kernel)
theorem wi_347 : Cond.fieldLink RX10 15 "ReuseHouse$Tokens" "places" "[I" ∈ zw := zw_in (List.mem_of_getElem? (i := 347) (by decide +kernel)) (by decide +kernel)
theorem wi_354 : Cond.fieldLink RX10 32 "ReuseHouse$Tokens" "place" "I" ∈ zw := zw_in (List.mem_of_getElem? (i := 354) (by decide +kernel)) (by decide +kernel)
theorem wi_348 : Cond.fieldLink RX10 18 "ReuseHouse$Tokens" "words" "[J" ∈ zw := zw_in (List.mem_of_getElem? (i := 348) (by decide +kernel)) (by decide +kernel)
theorem wi_356 : Cond.fieldLink RX10 35 "ReuseHouse$Tokens" "word" "J" ∈ zw := zw_in (List.mem_of_getElem? (i := 356) (by decide +kernel)) (by decide +kernel)
theorem dX10_advance_0 : decode cX10_advance 0 = .ok (.aload_n 0, 1) := by decide +kernel
theorem dX10_advance_1 : decode cX10_advance 1 = .ok (.aload_n 0, 1) := by decide +kernel
theorem dX10_advance_2 : decode cX10_advance 2 = .ok (.getfield 26, 3) := by decide +kernel
theorem dX10_advance_5 : decode cX10_advance 5 = .ok (.iconst 1, 1) := by decide +kernel
theorem dX10_advance_6 : decode cX10_advance 6 = .ok (.iadd, 1) := by decide +kernel
theorem dX10_advance_7 : decode cX10_advance 7 = .ok (.aload_n 0, 1) := by decide +kernel
theorem dX10_advance_8 : decode cX10_advance 8 = .ok (.getfield 22, 3) := by decide +kernel
theorem dX10_advance_11 : decode cX10_advance 11 = .ok (.invokestatic 39, 3) := by decide +kernel
theorem dX10_advance_14 : decode cX10_advance 14 = .ok (.putfield 26, 3) := by decide +kernel
theorem dX10_advance_17 : decode cX10_advance 17 = .ok (.aload_n 0, 1) := by decide +kernel
theorem dX10_advance_18 : decode cX10_advance 18 = .ok (.aload_n 0, 1) := by decide +kernel
theorem dX10_advance_19 : decode cX10_advance 19 = .ok (.getfield 9, 3) := by decide +kernel
theorem dX10_advance_22 : decode cX10_advance 22 = .ok (.aload_n 0, 1) := by decide +kernel
theorem dX10_advance_23 : decode cX10_advance 23 = .ok (.getfield 26, 3) := by decide +kernel
theorem dX10_advance_26 : decode cX10_advance 26 = .ok (.iaload, 1) := by decide +kernel
theorem dX10_advance_27 : decode cX10_advance 27 = .ok (.putfield 29, 3) := by decide +kernel
theorem dX10_advance_30 : decode cX10_advance 30 = .ok (.aload_n 0, 1) := by decide +kernel
theorem dX10_advance_31 : decode cX10_advance 31 = .ok (.aload_n 0, 1) := by decide +kernel
theorem dX10_advance_32 : decode cX10_advance 32 = .ok (.getfield 15, 3) := by decide +kernel
theorem dX10_advance_35 : decode cX10_advance 35 = .ok (.aload_n 0, 1) := by decide +kernel
theorem dX10_advance_36 : decode cX10_advance 36 = .ok (.getfield 26, 3) := by decide +kernel
theorem dX10_advance_39 : decode cX10_advance 39 = .ok (.iaload, 1) := by decide +kernel
theorem dX10_advance_40 : decode cX10_advance 40 = .ok (.putfield 32, 3) := by decide +kernel
theorem dX10_advance_43 : decode cX10_advance 43 = .ok (.aload_n 0, 1) := by decide +kernel
theorem dX10_advance_44 : decode cX10_advance 44 = .ok (.aload_n 0, 1) := by decide +kernel
theorem dX10_advance_45 : decode cX10_advance 45 = .ok (.getfield 18, 3) := by decide +kernel
theorem dX10_advance_48 : decode cX10_advance 48 = .ok (.aload_n 0, 1) := by decide +kernel
theorem dX10_advance_49 : decode cX10_advance 49 = .ok (.getfield 26, 3) := by decide +kernel
theorem dX10_advance_52 : decode cX10_advance 52 = .ok (.laload, 1) := by decide +kernel
theorem dX10_advance_53 : decode cX10_advance 53 = .ok (.putfield 35, 3) := by decide +kernel
theorem dX10_advance_56 : decode cX10_advance 56 = .ok (.return_, 1) := by decide +kernel
theorem dX10_isDigit_0 : decode cX10_isDigit 0 = .ok (.iload_n 0, 1) := by decide +kernel
theorem dX10_isDigit_1 : decode cX10_isDigit 1 = .ok (.bipush 48, 2) := by decide +kernel
theorem dX10_isDigit_3 : decode cX10_isDigit 3 = .ok (.if_icmp .lt 13, 3) := by decide +kernel
theorem dX10_isDigit_6 : decode cX10_isDigit 6 = .ok (.iload_n 0, 1) := by decide +kernel
theorem dX10_isDigit_7 : decode cX10_isDigit 7 = .ok (.bipush 57, 2) := by decide +kernel
theorem dX10_isDigit_9 : decode cX10_isDigit 9 = .ok (.if_icmp .gt 7, 3) := by decide +kernel
theorem dX10_isDigit_12 : decode cX10_isDigit 12 = .ok (.iconst 1, 1) := by decide +kernel
theorem dX10_isDigit_13 : decode cX10_isDigit 13 = .ok (.goto 4, 3) := by decide +kernel
theorem dX10_isDigit_16 : decode cX10_isDigit 16 = .ok (.iconst 0, 1) := by decide +kernel
theorem dX10_isDigit_17 : decode cX10_isDigit 17 = .ok (.ireturn, 1) := by decide +kernel
theorem dX10_isGreat_0 : decode cX10_isGreat 0 = .ok (.iload_n 0, 1) := by decide +kernel
theorem dX10_isGreat_1 : decode cX10_isGreat 1 = .ok (.bipush 65, 2) := by decide +kernel
theorem dX10_isGreat_3 : decode cX10_isGreat 3 = .ok (.if_icmp .lt 13, 3) := by decide +kernel
theorem dX10_isGreat_6 : decode cX10_isGreat 6 = .ok (.iload_n 0, 1) := by decide +kernel
theorem dX10_isGreat_7 : decode cX10_isGreat 7 = .ok (.bipush 90, 2) := by decide +kernel
theorem dX10_isGreat_9 : decode cX10_isGreat 9 = .ok (.if_icmp .gt 7, 3) := by decide +kernel
theorem dX10_isGreat_12 : decode cX10_isGreat 12 = .ok (.iconst 1, 1) := by decide +kernel
theorem dX10_isGreat_13 : decode cX10_isGreat 13 = .ok (.goto 4, 3) := by decide +kernel
theorem dX10_isGreat_16 : decode cX10_isGreat 16 = .ok (.iconst 0, 1) := by decide +kernel
theorem dX10_isGreat_17 : decode cX10_isGreat 17 = .ok (.ireturn, 1) := by decide +kernel
theorem dX10_isSmall_0 : decode cX10_isSmall 0 = .ok (.iload_n 0, 1) := by decide +kernel
theorem dX10_isSmall_1 : decode cX10_isSmall 1 = .ok (.bipush 97, 2) := by decide +kernel
theorem dX10_isSmall_3 : decode cX10_isSmall 3 = .ok (.if_icmp .lt 13, 3) := by decide +kernel
theorem dX10_isSmall_6 : decode cX10_isSmall 6 = .ok (.iload_n 0, 1) := by decide +kernel
theorem dX10_isSmall_7 : decode cX10_isSmall 7 = .ok (.bipush 122, 2) := by decide +kernel
theorem dX10_isSmall_9 : decode cX10_isSmall 9 = .ok (.if_icmp .gt 7, 3) := by decide +kernel
theorem dX10_isSmall_12 : decode cX10_isSmall 12 = .ok (.iconst 1, 1) := by decide +kernel
theorem dX10_isSmall_13 : decode cX10_isSmall 13 = .ok (.goto 4, 3) := by decide +kernel
theorem dX10_isSmall_16 : decode cX10_isSmall 16 = .ok (.iconst 0, 1) := by decide +kernel
theorem dX10_isSmall_17 : decode cX10_isSmall 17 = .ok (.ireturn, 1) := by decide +kernel
theorem dX10_isWordByte_0 : decode cX10_isWordByte 0 = .ok (.iload_n 0, 1) := by decide +kernel
theorem dX10_isWordByte_1 : decode cX10_isWordByte 1 = .ok (.invokestatic 62, 3) := by decide +kernel
theorem dX10_isWordByte_4 : decode cX10_isWordByte 4 = .ok (.ifCond .ne 17, 3) := by decide +kernel
theorem dX10_isWordByte_7 : decode cX10_isWordByte 7 = .ok (.iload_n 0, 1) := by decide +kernel
theorem dX10_isWordByte_8 : decode cX10_isWordByte 8 = .ok (.invokestatic 72, 3) := by decide +kernel
theorem dX10_isWordByte_11 : decode cX10_isWordByte 11 = .ok (.ifCond .ne 10, 3) := by decide +kernel
theorem dX10_isWordByte_14 : decode cX10_isWordByte 14 = .ok (.iload_n 0, 1) := by decide +kernel
theorem dX10_isWordByte_15 : decode cX10_isWordByte 15 = .ok (.invokestatic 65, 3) := by decide +kernel
theorem dX10_isWordByte_18 : decode cX10_isWordByte 18 = .ok (.ifCond .eq 7, 3) := by decide +kernel
theorem dX10_isWordByte_21 : decode cX10_isWordByte 21 = .ok (.iconst 1, 1) := by decide +kernel
theorem dX10_isWordByte_22 : decode cX10_isWordByte 22 = .ok (.goto 4, 3) := by decide +kernel
theorem dX10_isWordByte_25 : decode cX10_isWordByte 25 = .ok (.iconst 0, 1) := by decide +kernel
theorem dX10_isWordByte_26 : decode cX10_isWordByte 26 = .ok (.ireturn, 1) := by decide +kernel
theorem dX10_opensBracketNext_0 : decode cX10_opensBracketNext 0 = .ok (.aload_n 0, 1) := by decide +kernel
theorem dX10_opensBracketNext_1 : decode cX10_opensBracketNext 1 = .ok (.getfield 26, 3) := by decide +kernel
theorem dX10_opensBracketNext_4 : decode cX10_opensBracketNext 4 = .ok (.aload_n 0, 1) := by decide +kernel
theorem dX10_opensBracketNext_5 : decode cX10_opensBracketNext 5 = .ok (.getfield 22, 3) := by decide +kernel
theorem dX10_opensBracketNext_8 : decode cX10_opensBracketNext 8 = .ok (.if_icmp .ge 23, 3) := by decide +kernel
theorem dX10_opensBracketNext_11 : decode cX10_opensBracketNext 11 = .ok (.aload_n 0, 1) := by decide +kernel
theorem dX10_opensBracketNext_12 : decode cX10_opensBracketNext 12 = .ok (.getfield 9, 3) := by decide +kernel
theorem dX10_opensBracketNext_15 : decode cX10_opensBracketNext 15 = .ok (.aload_n 0, 1) := by decide +kernel
theorem dX10_opensBracketNext_16 : decode cX10_opensBracketNext 16 = .ok (.getfield 26, 3) := by decide +kernel
theorem dX10_opensBracketNext_19 : decode cX10_opensBracketNext 19 = .ok (.iconst 1, 1) := by decide +kernel
theorem dX10_opensBracketNext_20 : decode cX10_opensBracketNext 20 = .ok (.iadd, 1) := by decide +kernel
theorem dX10_opensBracketNext_21 : decode cX10_opensBracketNext 21 = .ok (.iaload, 1) := by decide +kernel
theorem dX10_opensBracketNext_22 : decode cX10_opensBracketNext 22 = .ok (.bipush 40, 2) := by decide +kernel
theorem dX10_opensBracketNext_24 : decode cX10_opensBracketNext 24 = .ok (.if_icmp .ne 7, 3) := by decide +kernel
theorem dX10_opensBracketNext_27 : decode cX10_opensBracketNext 27 = .ok (.iconst 1, 1) := by decide +kernel
theorem dX10_opensBracketNext_28 : decode cX10_opensBracketNext 28 = .ok (.goto 4, 3) := by decide +kernel
theorem dX10_opensBracketNext_31 : decode cX10_opensBracketNext 31 = .ok (.iconst 0, 1) := by decide +kernel
theorem dX10_opensBracketNext_32 : decode cX10_opensBracketNext 32 = .ok (.ireturn, 1) := by decide +kernel
theorem dX10_sortOfSmall_0 : decode cX10_sortOfSmall 0 = .ok (.lload_n 0, 1) := by decide +kernel
theorem dX10_sortOfSmall_1 : decode cX10_sortOfSmall 1 = .ok (.ldc2_w 75, 3) := by decide +kernel
theorem dX10_sortOfSmall_4 : decode cX10_sortOfSmall 4 = .ok (.lcmp, 1) := by decide +kernel
theorem dX10_sortOfSmall_5 : decode cX10_sortOfSmall 5 = .ok (.ifCond .ne 7, 3) := by decide +kernel
theorem dX10_sortOfSmall_8 : decode cX10_sortOfSmall 8 = .ok (.sipush 262, 3) := by decide +kernel
theorem dX10_sortOfSmall_11 : decode cX10_sortOfSmall 11 = .ok (.ireturn, 1) := by decide +kernel
theorem dX10_sortOfSmall_12 : decode cX10_sortOfSmall 12 = .ok (.lload_n 0, 1) := by decide +kernel
theorem dX10_sortOfSmall_13 : decode cX10_sortOfSmall 13 = .ok (.ldc2_w 77, 3) := by decide +kernel
theorem dX10_sortOfSmall_16 : decode cX10_sortOfSmall 16 = .ok (.lcmp, 1) := by decide +kernel
theorem dX10_sortOfSmall_17 : decode cX10_sortOfSmall 17 = .ok (.ifCond .ne 7, 3) := by decide +kernel
theorem dX10_sortOfSmall_20 : decode cX10_sortOfSmall 20 = .ok (.sipush 263, 3) := by decide +kernel
theorem dX10_sortOfSmall_23 : decode cX10_sortOfSmall 23 = .ok (.ireturn, 1) := by decide +kernel
theorem dX10_sortOfSmall_24 : decode cX10_sortOfSmall 24 = .ok (.lload_n 0, 1) := by decide +kernel
theorem dX10_sortOfSmall_25 : decode cX10_sortOfSmall 25 = .ok (.ldc2_w 79, 3) := by decide +kernel
theorem dX10_sortOfSmall_28 : decode cX10_sortOfSmall 28 = .ok (.lcmp, 1) := by decide +kernel
theorem dX10_sortOfSmall_29 : decode cX10_sortOfSmall 29 = .ok (.ifCond .ne 7, 3) := by decide +kernel
theorem dX10_sortOfSmall_32 : decode cX10_sortOfSmall 32 = .ok (.sipush 264, 3) := by decide +kernel
theorem dX10_sortOfSmall_35 : decode cX10_sortOfSmall 35 = .ok (.ireturn, 1) := by decide +kernel
theorem dX10_sortOfSmall_36 : decode cX10_sortOfSmall 36 = .ok (.lload_n 0, 1) := by decide +kernel
theorem dX10_sortOfSmall_37 : decode cX10_sortOfSmall 37 = .ok (.ldc2_w 81, 3) := by decide +kernel
theorem dX10_sortOfSmall_40 : decode cX10_sortOfSmall 40 = .ok (.lcmp, 1) := by decide +kernel
theorem dX10_sortOfSmall_41 : decode cX10_sortOfSmall 41 = .ok (.ifCond .ne 7, 3) := by decide +kernel
theorem dX10_sortOfSmall_44 : decode cX10_sortOfSmall 44 = .ok (.sipush 265, 3) := by decide +kernel
theorem dX10_sortOfSmall_47 : decode cX10_sortOfSmall 47 = .ok (.ireturn, 1) := by decide +kernel
theorem dX10_sortOfSmall_48 : decode cX10_sortOfSmall 48 = .ok (.lload_n 0, 1) := by decide +kernel
theorem dX10_sortOfSmall_49 : decode cX10_sortOfSmall 49 = .ok (.ldc2_w 83, 3) := by decide +kernel
theorem dX10_sortOfSmall_52 : decode cX10_sortOfSmall 52 = .ok (.lcmp, 1) := by decide +kernel
theorem dX10_sortOfSmall_53 : decode cX10_sortOfSmall 53 = .ok (.ifCond .ne 7, 3) := by decide +kernel
theorem dX10_sortOfSmall_56 : decode cX10_sortOfSmall 56 = .ok (.sipush 266, 3) := by decide +kernel
theorem dX10_sortOfSmall_59 : decode cX10_sortOfSmall 59 = .ok (.ireturn, 1) := by decide +kernel
theorem dX10_sortOfSmall_60 : decode cX10_sortOfSmall 60 = .ok (.lload_n 0, 1) := by decide +kernel
theorem dX10_sortOfSmall_61 : decode cX10_sortOfSmall 61 = .ok (.ldc2_w 85, 3) := by decide +kernel
theorem dX10_sortOfSmall_64 : decode cX10_sortOfSmall 64 = .ok (.lcmp, 1) := by decide +kernel
theorem dX10_sortOfSmall_65 : decode cX10_sortOfSmall 65 = .ok (.ifCond .ne 7, 3) := by decide +kernel
theorem dX10_sortOfSmall_68 : decode cX10_sortOfSmall 68 = .ok (.sipush 267, 3) := by decide +kernel
theorem dX10_sortOfSmall_71 : decode cX10_sortOfSmall 71 = .ok (.ireturn, 1) := by decide +kernel
theorem dX10_sortOfSmall_72 : decode cX10_sortOfSmall 72 = .ok (.lload_n 0, 1) := by decide +kernel
theorem dX10_sortOfSmall_73 : decode cX10_sortOfSmall 73 = .ok (.ldc2_w 87, 3) := by decide +kernel
theorem dX10_sortOfSmall_76 : decode cX10_sortOfSmall 76 = .ok (.lcmp, 1) := by decide +kernel
theorem dX10_sortOfSmall_77 : decode cX10_sortOfSmall 77 = .ok (.ifCond .ne 9, 3) := by decide +kernel
theorem dX10_sortOfSmall_80 : decode cX10_sortOfSmall 80 = .ok (.sipush 268, 3) := by decide +kernel
theorem dX10_sortOfSmall_83 : decode cX10_sortOfSmall 83 = .ok (.goto 6, 3) := by decide +kernel
theorem dX10_sortOfSmall_86 : decode cX10_sortOfSmall 86 = .ok (.sipush 258, 3) := by decide +kernel
theorem dX10_sortOfSmall_89 : decode cX10_sortOfSmall 89 = .ok (.ireturn, 1) := by decide +kernel
theorem dX10_wordOf_0 : decode cX10_wordOf 0 = .ok (.iload_n 1, 1) := by decide +kernel
theorem dX10_wordOf_1 : decode cX10_wordOf 1 = .ok (.ifCond .lt 20, 3) := by decide +kernel
theorem dX10_wordOf_4 : decode cX10_wordOf 4 = .ok (.iload_n 1, 1) := by decide +kernel
theorem dX10_wordOf_5 : decode cX10_wordOf 5 = .ok (.aload_n 0, 1) := by decide +kernel
theorem dX10_wordOf_6 : decode cX10_wordOf 6 = .ok (.getfield 22, 3) := by decide +kernel
theorem dX10_wordOf_9 : decode cX10_wordOf 9 = .ok (.if_icmp .gt 12, 3) := by decide +kernel
theorem dX10_wordOf_12 : decode cX10_wordOf 12 = .ok (.aload_n 0, 1) := by decide +kernel
theorem dX10_wordOf_13 : decode cX10_wordOf 13 = .ok (.getfield 18, 3) := by decide +kernel
theorem dX10_wordOf_16 : decode cX10_wordOf 16 = .ok (.iload_n 1, 1) := by decide +kernel
theorem dX10_wordOf_17 : decode cX10_wordOf 17 = .ok (.laload, 1) := by decide +kernel
theorem dX10_wordOf_18 : decode cX10_wordOf 18 = .ok (.goto 4, 3) := by decide +kernel
theorem dX10_wordOf_22 : decode cX10_wordOf 22 = .ok (.lreturn, 1) := by decide +kernel
set_option maxHeartbeats 4000000 in
set_option maxRecDepth 100000 in
theorem c_X10_opensBracketNext (l : Launch) (dC : Nat → ClassId) (dI : Nat → Nat → Nat) (aK aV : Nat → Nat) (h0 : Nat) (ts : Nat) (tp : Nat) (tw : Nat) (t1 : ClassId) (t2 : ClassId) (t3 : ClassId) (z : Int32) (pa : Int32) (so : Int32) (pl : Int32) (wd : Int64) (gs : Nat → Int32) (gp : Nat → Int32) (gw : Nat → Int64) (sz : Nat) (hz0 : 0 ≤ z.toInt) (hz1 : z.toInt ≤ 2000) (ha0 : -1 ≤ pa.toInt) (ha1 : pa.toInt ≤ z.toInt) (hgz : gs (Int32.toNatClampNeg z) = 256) : Met l yX10_opensBracketNext (Cond.code yX10_opensBracketNext cX10_opensBracketNext 1 (some .boolean) :: zw) ({ frames := 8, cells := 0, slots := 0, locals := 200 }) (va_Pc [.ref h0] (zP dC dI aK aV sz [(t1, .int), (t2, .int), (t3, .long)] [(h0, .inr (10, [.ref ts, .ref tp, .ref tw, .int z, .int pa, .int so, .int pl, .long wd])), (ts, .inl (t1, 2001, .inl gs)), (tp, .inl (t2, 2001, .inl gp)), (tw, .inl (t3, 2001, .inr (.inl gw)))])) (va_Qi (fun (r : Int32) (u : Unit) => True) (fun u => zQ dC dI (va_A [(h0, .inr (10, [.ref ts, .ref tp, .ref tw, .int z, .int pa, .int so, .int pl, .long wd])), (ts, .inl (t1, 2001, .inl gs)), (tp, .inl (t2, 2001, .inl gp)), (tw, .inl (t3, 2001, .inr (.inl gw)))] sz) [(t1, .int), (t2, .int), (t3, .long)] [(h0, .inr (10, [.ref ts, .ref tp, .ref tw, .int z, .int pa, .int so, .int pl, .long wd])), (ts, .inl (t1, 2001, .inl gs)), (tp, .inl (t2, 2001, .inl gp)), (tw, .inl (t3, 2001, .inr (.inl gw)))]) (va_A [(h0, .inr (10, [.ref ts, .ref tp, .ref tw, .int z, .int pa, .int so, .int pl, .long wd])), (ts, .inl (t1, 2001, .inl gs)), (tp, .inl (t2, 2001, .inl gp)), (tw, .inl (t3, 2001, .inr (.inl gw)))] sz)) 0 0 (va_A [(h0, .inr (10, [.ref ts, .ref tp, .ref tw, .int z, .int pa, .int so, .int pl, .long wd])), (ts, .inl (t1, 2001, .inl gs)), (tp, .inl (t2, 2001, .inl gp)), (tw, .inl (t3, 2001, .inr (.inl gw)))] sz) := by
  refine Met.ofW (cc := cX10_opensBracketNext) (maxL := 1) (ret := (some .boolean)) (by decide) rfl ?_
  intro p e s m args below meth c s₁ B hml hv
  obtain ⟨rfl, hsz, hP, hK, hD0, hN, hT⟩ := hv
  have hx := B.exec
  have hb := B.bytes
  have hr := B.returns
  have hts := atoms_spec (ws := Cond.code yX10_opensBracketNext cX10_opensBracketNext 1 (some .boolean) :: zw) B.pre
  have hA : ∀ w ∈ zw, w.before _ s = true := fun w h => hts w (List.mem_cons_of_mem _ h)
  have hown : s.vm.findClass RX10 = some m.cls := findClass_of_methodNamed B.named
  have hlocks := B.notSynchronized
  subst hsz
  have hD := hD0.self (sz := s.heap.size)
  generalize hAe : va_A [(h0, .inr (10, [.ref ts, .ref tp, .ref tw, .int z, .int pa, .int so, .int pl, .long wd])), (ts, .inl (t1, 2001, .inl gs)), (tp, .inl (t2, 2001, .inl gp)), (tw, .inl (t3, 2001, .inr (.inl gw)))] s.heap.size = A at hD hT ⊢
  have hAA : ∀ q : Nat, s.heap.size ≤ q → A q := fun q h => by rw [← hAe]; exact Or.inr h
  have hS : va_S A s.heap s.heap [] := va_S.rf
  have hl := lv_entry ([.ref h0]) (n := 1) (Nat.le_of_ble_eq_true rfl)
  rw [lg_entry_eq]
  generalize (lg_sl ([.ref h0]) ++ List.replicate (1 - (lg_sl ([.ref h0])).length) Slot.unset).toArray = ls at hl ⊢
  have hl : lv_has ls 1 [(0, .ref h0)] := hl
  refine lv_aload_n hx hb dX10_opensBracketNext_0 rfl (lv_at hl 0 rfl) ?_
  refine va_get (D := (dC, dI)) (ci := 10) (v := .int pa) (C := RX10) (T := TX10) (N := 8) hx hb hA zin_X10 hown hK hP 0 rfl rfl 4 (by decide) (hA _ wi_350) (fun _ h9 => h9) rfl dX10_opensBracketNext_1 ?_
  refine lv_aload_n hx hb dX10_opensBracketNext_4 rfl (lv_at hl 0 rfl) ?_
  refine va_get (D := (dC, dI)) (ci := 10) (v := .int z) (C := RX10) (T := TX10) (N := 8) hx hb hA zin_X10 hown hK hP 0 rfl rfl 3 (by decide) (hA _ wi_349) (fun _ h9 => h9) rfl dX10_opensBracketNext_5 ?_
  refine lv_icmp_ge (tgt := 31) hx hb dX10_opensBracketNext_8 (by decide) (fun c_1 => ?_) (fun c_1 => ?_)
  · have ic_1 : z.toInt ≤ pa.toInt := zi_le c_1
    refine lv_iconst (v := 0) hx hb dX10_opensBracketNext_31 (by decide) ?_
    have hlit : Int32.toInt 0 = 0 := by decide
    have hP9 := hP.sub (ws' := [(h0, .inr (10, [.ref ts, .ref tp, .ref tw, .int z, .int pa, .int so, .int pl, .long wd])), (ts, .inl (t1, 2001, .inl gs)), (tp, .inl (t2, 2001, .inl gp)), (tw, .inl (t3, 2001, .inr (.inl gw)))]) [0, 1, 2, 3] rfl
    have hD9 := hD.sub (ws' := [(h0, .inr (10, [.ref ts, .ref tp, .ref tw, .int z, .int pa, .int so, .int pl, .long wd])), (ts, .inl (t1, 2001, .inl gs)), (tp, .inl (t2, 2001, .inl gp)), (tw, .inl (t3, 2001, .inr (.inl gw)))]) [0, 1, 2, 3] (by decide) rfl
    have hK9 := hK.sub (tys' := [(t1, .int), (t2, .int), (t3, .long)]) [0, 1, 2] rfl
    exact W.zret (v := 0) hx hb hr rfl (fun t ht hW => ⟨⟨0, (), rfl, trivial, by rw [ht]; exact hP9, va_K.moved hW.alike hK9, hD9⟩, hS.F ht⟩) hS.2.2 dX10_opensBracketNext_32
  · have ic_1 : pa.toInt < z.toInt := zi_nle c_1
    refine lv_aload_n hx hb dX10_opensBracketNext_11 rfl (lv_at hl 0 rfl) ?_
    refine va_get (D := (dC, dI)) (ci := 10) (v := .ref ts) (C := RX10) (T := TX10) (N := 8) hx hb hA zin_X10 hown hK hP 0 rfl rfl 0 (by decide) (hA _ wi_346) (fun _ h9 => h9) rfl dX10_opensBracketNext_12 ?_
    refine lv_aload_n hx hb dX10_opensBracketNext_15 rfl (lv_at hl 0 rfl) ?_
    refine va_get (D := (dC, dI)) (ci := 10) (v := .int pa) (C := RX10) (T := TX10) (N := 8) hx hb hA zin_X10 hown hK hP 0 rfl rfl 4 (by decide) (hA _ wi_350) (fun _ h9 => h9) rfl dX10_opensBracketNext_16 ?_
    refine lv_iconst (v := 1) hx hb dX10_opensBracketNext_19 (by decide) ?_
    refine lv_iadd hx hb dX10_opensBracketNext_20 ?_
    refine lv_topi (fun x_2 ex_2 => ?_)
    have ix_2 : x_2.toInt = pa.toInt + 1 := by rw [ex_2]; exact zi_addc (by decide) (by omega) (by omega)
    refine va_iald hx hb hK hP 1 0 rfl rfl (vp_in_iff.mpr ⟨by omega, by omega⟩) dX10_opensBracketNext_21 ?_
    refine lv_topi (fun x_3 ex_3 => ?_)
    refine lv_bipush (v := 40) hx hb dX10_opensBracketNext_22 (by decide) ?_
    refine lv_icmp_ne (tgt := 31) hx hb dX10_opensBracketNext_24 (by decide) (fun c_4 => ?_) (fun c_4 => ?_)
    · have ic_4 : x_3.toInt ≠ 40 := zi_ne c_4
      refine lv_iconst (v := 0) hx hb dX10_opensBracketNext_31 (by decide) ?_
      have hlit : Int32.toInt 0 = 0 := by decide
      have hP9 := hP.sub (ws' := [(h0, .inr (10, [.ref ts, .ref tp, .ref tw, .int z, .int pa, .int so, .int pl, .long wd])), (ts, .inl (t1, 2001, .inl gs)), (tp, .inl (t2, 2001, .inl gp)), (tw, .inl (t3, 2001, .inr (.inl gw)))]) [0, 1, 2, 3] rfl
      have hD9 := hD.sub (ws' := [(h0, .inr (10, [.ref ts, .ref tp, .ref tw, .int z, .int pa, .int so, .int pl, .long wd])), (ts, .inl (t1, 2001, .inl gs)), (tp, .inl (t2, 2001, .inl gp)), (tw, .inl (t3, 2001, .inr (.inl gw)))]) [0, 1, 2, 3] (by decide) rfl
      have hK9 := hK.sub (tys' := [(t1, .int), (t2, .int), (t3, .long)]) [0, 1, 2] rfl
      exact W.zret (v := 0) hx hb hr rfl (fun t ht hW => ⟨⟨0, (), rfl, trivial, by rw [ht]; exact hP9, va_K.moved hW.alike hK9, hD9⟩, hS.F ht⟩) hS.2.2 dX10_opensBracketNext_32
    · have ic_4 : x_3.toInt = 40 := zi_eq c_4
      refine lv_iconst (v := 1) hx hb dX10_opensBracketNext_27 (by decide) ?_
      refine lv_goto (tgt := 32) hx hb dX10_opensBracketNext_28 (by decide) ?_
      have hlit : Int32.toInt 1 = 1 := by decide
      have hP9 := hP.sub (ws' := [(h0, .inr (10, [.ref ts, .ref tp, .ref tw, .int z, .int pa, .int so, .int pl, .long wd])), (ts, .inl (t1, 2001, .inl gs)), (tp, .inl (t2, 2001, .inl gp)), (tw, .inl (t3, 2001, .inr (.inl gw)))]) [0, 1, 2, 3] rfl
      have hD9 := hD.sub (ws' := [(h0, .inr (10, [.ref ts, .ref tp, .ref tw, .int z, .int pa, .int so, .int pl, .long wd])), (ts, .inl (t1, 2001, .inl gs)), (tp, .inl (t2, 2001, .inl gp)), (tw, .inl (t3, 2001, .inr (.inl gw)))]) [0, 1, 2, 3] (by decide) rfl
      have hK9 := hK.sub (tys' := [(t1, .int), (t2, .int), (t3, .long)]) [0, 1, 2] rfl
      exact W.zret (v := 1) hx hb hr rfl (fun t ht hW => ⟨⟨1, (), rfl, trivial, by rw [ht]; exact hP9, va_K.moved hW.alike hK9, hD9⟩, hS.F ht⟩) hS.2.2 dX10_opensBracketNext_32

end
section
theorem wi_679 : Cond.code yX10_sortOfSmall cX10_sortOfSmall 2 (some .int) ∈ zw := zw_in (List.mem_of_getElem? (i := 679) (by decide +kernel)) (by decide +kernel)
theorem wi_677 : Cond.methodLink RX10 68 yX10_sortOfSmall ∈ zw := zw_in (List.mem_of_getElem? (i := 677) (by decide +kernel)) (by decide +kernel)
theorem wi_678 : Cond.static yX10_sortOfSmall ∈ zw := zw_in (List.mem_of_getElem? (i := 678) (by decide +kernel)) (by decide +kernel)
theorem wi_663 : Cond.code yX10_isWordByte cX10_isWordByte 1 (some .boolean) ∈ zw := zw_in (List.mem_of_getElem? (i := 663) (by decide +kernel)) (by decide +kernel)
theorem wi_661 : Cond.methodLink RX10 48 yX10_isWordByte ∈ zw := zw_in (List.mem_of_getElem? (i := 661) (by decide +kernel)) (by decide +kernel)
theorem wi_662 : Cond.static yX10_isWordByte ∈ zw := zw_in (List.mem_of_getElem? (i := 662) (by decide +kernel)) (by decide +kernel)
theorem dX10_readWord_0 : decode cX10_readWord 0 = .ok (.iload_n 2, 1) := by decide +kernel
theorem dX10_readWord_1 : decode cX10_readWord 1 = .ok (.istore 4, 2) := by decide +kernel
theorem dX10_readWord_3 : decode cX10_readWord 3 = .ok (.iconst 0, 1) := by decide +kernel
theorem dX10_readWord_4 : decode cX10_readWord 4 = .ok (.istore 5, 2) := by decide +kernel
theorem dX10_readWord_6 : decode cX10_readWord 6 = .ok (.iconst 0, 1) := by decide +kernel
theorem dX10_readWord_7 : decode cX10_readWord 7 = .ok (.istore 6, 2) := by decide +kernel
theorem dX10_readWord_9 : decode cX10_readWord 9 = .ok (.iconst 0, 1) := by decide +kernel
theorem dX10_readWord_10 : decode cX10_readWord 10 = .ok (.istore 7, 2) := by decide +kernel
theorem dX10_readWord_12 : decode cX10_readWord 12 = .ok (.lconst 0, 1) := by decide +kernel
theorem dX10_readWord_13 : decode cX10_readWord 13 = .ok (.lstore 8, 2) := by decide +kernel
theorem dX10_readWord_15 : decode cX10_readWord 15 = .ok (.iload 4, 2) := by decide +kernel
theorem dX10_readWord_17 : decode cX10_readWord 17 = .ok (.iload_n 3, 1) := by decide +kernel
theorem dX10_readWord_18 : decode cX10_readWord 18 = .ok (.if_icmp .ge 76, 3) := by decide +kernel
theorem dX10_readWord_21 : decode cX10_readWord 21 = .ok (.aload_n 1, 1) := by decide +kernel
theorem dX10_readWord_22 : decode cX10_readWord 22 = .ok (.iload 4, 2) := by decide +kernel
theorem dX10_readWord_24 : decode cX10_readWord 24 = .ok (.baload, 1) := by decide +kernel
theorem dX10_readWord_25 : decode cX10_readWord 25 = .ok (.invokestatic 48, 3) := by decide +kernel
theorem dX10_readWord_28 : decode cX10_readWord 28 = .ok (.ifCond .eq 66, 3) := by decide +kernel
theorem dX10_readWord_31 : decode cX10_readWord 31 = .ok (.aload_n 1, 1) := by decide +kernel
theorem dX10_readWord_32 : decode cX10_readWord 32 = .ok (.iload 4, 2) := by decide +kernel
theorem dX10_readWord_34 : decode cX10_readWord 34 = .ok (.baload, 1) := by decide +kernel
theorem dX10_readWord_35 : decode cX10_readWord 35 = .ok (.invokestatic 62, 3) := by decide +kernel
theorem dX10_readWord_38 : decode cX10_readWord 38 = .ok (.ifCond .eq 9, 3) := by decide +kernel
theorem dX10_readWord_41 : decode cX10_readWord 41 = .ok (.iinc 5 1, 3) := by decide +kernel
theorem dX10_readWord_44 : decode cX10_readWord 44 = .ok (.goto 31, 3) := by decide +kernel
theorem dX10_readWord_47 : decode cX10_readWord 47 = .ok (.aload_n 1, 1) := by decide +kernel
theorem dX10_readWord_48 : decode cX10_readWord 48 = .ok (.iload 4, 2) := by decide +kernel
theorem dX10_readWord_50 : decode cX10_readWord 50 = .ok (.baload, 1) := by decide +kernel
theorem dX10_readWord_51 : decode cX10_readWord 51 = .ok (.invokestatic 65, 3) := by decide +kernel
theorem dX10_readWord_54 : decode cX10_readWord 54 = .ok (.ifCond .eq 21, 3) := by decide +kernel
theorem dX10_readWord_57 : decode cX10_readWord 57 = .ok (.iinc 6 1, 3) := by decide +kernel
theorem dX10_readWord_60 : decode cX10_readWord 60 = .ok (.iload 7, 2) := by decide +kernel
theorem dX10_readWord_62 : decode cX10_readWord 62 = .ok (.bipush 10, 2) := by decide +kernel
theorem dX10_readWord_64 : decode cX10_readWord 64 = .ok (.imul, 1) := by decide +kernel
theorem dX10_readWord_65 : decode cX10_readWord 65 = .ok (.aload_n 1, 1) := by decide +kernel
theorem dX10_readWord_66 : decode cX10_readWord 66 = .ok (.iload 4, 2) := by decide +kernel
theorem dX10_readWord_68 : decode cX10_readWord 68 = .ok (.baload, 1) := by decide +kernel
theorem dX10_readWord_69 : decode cX10_readWord 69 = .ok (.bipush 48, 2) := by decide +kernel
theorem dX10_readWord_71 : decode cX10_readWord 71 = .ok (.isub, 1) := by decide +kernel
theorem dX10_readWord_72 : decode cX10_readWord 72 = .ok (.iadd, 1) := by decide +kernel
theorem dX10_readWord_73 : decode cX10_readWord 73 = .ok (.istore 7, 2) := by decide +kernel
theorem dX10_readWord_75 : decode cX10_readWord 75 = .ok (.lload 8, 2) := by decide +kernel
theorem dX10_readWord_77 : decode cX10_readWord 77 = .ok (.bipush 8, 2) := by decide +kernel
theorem dX10_readWord_79 : decode cX10_readWord 79 = .ok (.lshl, 1) := by decide +kernel
theorem dX10_readWord_80 : decode cX10_readWord 80 = .ok (.aload_n 1, 1) := by decide +kernel
theorem dX10_readWord_81 : decode cX10_readWord 81 = .ok (.iload 4, 2) := by decide +kernel
theorem dX10_readWord_83 : decode cX10_readWord 83 = .ok (.baload, 1) := by decide +kernel
theorem dX10_readWord_84 : decode cX10_readWord 84 = .ok (.i2l, 1) := by decide +kernel
theorem dX10_readWord_85 : decode cX10_readWord 85 = .ok (.lor, 1) := by decide +kernel
theorem dX10_readWord_86 : decode cX10_readWord 86 = .ok (.lstore 8, 2) := by decide +kernel
theorem dX10_readWord_88 : decode cX10_readWord 88 = .ok (.iinc 4 1, 3) := by decide +kernel
theorem dX10_readWord_91 : decode cX10_readWord 91 = .ok (.goto (-76), 3) := by decide +kernel
theorem dX10_readWord_94 : decode cX10_readWord 94 = .ok (.iload 4, 2) := by decide +kernel
theorem dX10_readWord_96 : decode cX10_readWord 96 = .ok (.iload_n 2, 1) := by decide +kernel
theorem dX10_readWord_97 : decode cX10_readWord 97 = .ok (.isub, 1) := by decide +kernel
theorem dX10_readWord_98 : decode cX10_readWord 98 = .ok (.istore 10, 2) := by decide +kernel
theorem dX10_readWord_100 : decode cX10_readWord 100 = .ok (.iload 6, 2) := by decide +kernel
theorem dX10_readWord_102 : decode cX10_readWord 102 = .ok (.iload 10, 2) := by decide +kernel
theorem dX10_readWord_104 : decode cX10_readWord 104 = .ok (.if_icmp .ne 31, 3) := by decide +kernel
theorem dX10_readWord_107 : decode cX10_readWord 107 = .ok (.aload_n 0, 1) := by decide +kernel
theorem dX10_readWord_108 : decode cX10_readWord 108 = .ok (.getfield 9, 3) := by decide +kernel
theorem dX10_readWord_111 : decode cX10_readWord 111 = .ok (.aload_n 0, 1) := by decide +kernel
theorem dX10_readWord_112 : decode cX10_readWord 112 = .ok (.getfield 22, 3) := by decide +kernel
theorem dX10_readWord_115 : decode cX10_readWord 115 = .ok (.iload 10, 2) := by decide +kernel
theorem dX10_readWord_117 : decode cX10_readWord 117 = .ok (.bipush 9, 2) := by decide +kernel
theorem dX10_readWord_119 : decode cX10_readWord 119 = .ok (.if_icmp .gt 9, 3) := by decide +kernel
theorem dX10_readWord_122 : decode cX10_readWord 122 = .ok (.sipush 260, 3) := by decide +kernel
theorem dX10_readWord_125 : decode cX10_readWord 125 = .ok (.goto 6, 3) := by decide +kernel
theorem dX10_readWord_128 : decode cX10_readWord 128 = .ok (.sipush 257, 3) := by decide +kernel
theorem dX10_readWord_131 : decode cX10_readWord 131 = .ok (.iastore, 1) := by decide +kernel
theorem dX10_readWord_132 : decode cX10_readWord 132 = .ok (.goto 85, 3) := by decide +kernel
theorem dX10_readWord_135 : decode cX10_readWord 135 = .ok (.iload 10, 2) := by decide +kernel
theorem dX10_readWord_137 : decode cX10_readWord 137 = .ok (.bipush 8, 2) := by decide +kernel
theorem dX10_readWord_139 : decode cX10_readWord 139 = .ok (.if_icmp .le 18, 3) := by decide +kernel
theorem dX10_readWord_142 : decode cX10_readWord 142 = .ok (.aload_n 0, 1) := by decide +kernel
theorem dX10_readWord_143 : decode cX10_readWord 143 = .ok (.getfield 9, 3) := by decide +kernel
theorem dX10_readWord_146 : decode cX10_readWord 146 = .ok (.aload_n 0, 1) := by decide +kernel
theorem dX10_readWord_147 : decode cX10_readWord 147 = .ok (.getfield 22, 3) := by decide +kernel
theorem dX10_readWord_150 : decode cX10_readWord 150 = .ok (.sipush 257, 3) := by decide +kernel
theorem dX10_readWord_153 : decode cX10_readWord 153 = .ok (.iastore, 1) := by decide +kernel
theorem dX10_readWord_154 : decode cX10_readWord 154 = .ok (.goto 63, 3) := by decide +kernel
theorem dX10_readWord_157 : decode cX10_readWord 157 = .ok (.iload 5, 2) := by decide +kernel
theorem dX10_readWord_159 : decode cX10_readWord 159 = .ok (.iload 10, 2) := by decide +kernel
theorem dX10_readWord_161 : decode cX10_readWord 161 = .ok (.if_icmp .ne 20, 3) := by decide +kernel
theorem dX10_readWord_164 : decode cX10_readWord 164 = .ok (.aload_n 0, 1) := by decide +kernel
theorem dX10_readWord_165 : decode cX10_readWord 165 = .ok (.getfield 9, 3) := by decide +kernel
theorem dX10_readWord_168 : decode cX10_readWord 168 = .ok (.aload_n 0, 1) := by decide +kernel
theorem dX10_readWord_169 : decode cX10_readWord 169 = .ok (.getfield 22, 3) := by decide +kernel
theorem dX10_readWord_172 : decode cX10_readWord 172 = .ok (.lload 8, 2) := by decide +kernel
theorem dX10_readWord_174 : decode cX10_readWord 174 = .ok (.invokestatic 68, 3) := by decide +kernel
theorem dX10_readWord_177 : decode cX10_readWord 177 = .ok (.iastore, 1) := by decide +kernel
theorem dX10_readWord_178 : decode cX10_readWord 178 = .ok (.goto 39, 3) := by decide +kernel
theorem dX10_readWord_181 : decode cX10_readWord 181 = .ok (.aload_n 0, 1) := by decide +kernel
theorem dX10_readWord_182 : decode cX10_readWord 182 = .ok (.getfield 9, 3) := by decide +kernel
theorem dX10_readWord_185 : decode cX10_readWord 185 = .ok (.aload_n 0, 1) := by decide +kernel
theorem dX10_readWord_186 : decode cX10_readWord 186 = .ok (.getfield 22, 3) := by decide +kernel
theorem dX10_readWord_189 : decode cX10_readWord 189 = .ok (.iload 5, 2) := by decide +kernel
theorem dX10_readWord_191 : decode cX10_readWord 191 = .ok (.iload 10, 2) := by decide +kernel
theorem dX10_readWord_193 : decode cX10_readWord 193 = .ok (.iconst 1, 1) := by decide +kernel
theorem dX10_readWord_194 : decode cX10_readWord 194 = .ok (.isub, 1) := by decide +kernel
theorem dX10_readWord_195 : decode cX10_readWord 195 = .ok (.if_icmp .ne 18, 3) := by decide +kernel
theorem dX10_readWord_198 : decode cX10_readWord 198 = .ok (.aload_n 1, 1) := by decide +kernel
theorem dX10_readWord_199 : decode cX10_readWord 199 = .ok (.iload_n 2, 1) := by decide +kernel
theorem dX10_readWord_200 : decode cX10_readWord 200 = .ok (.baload, 1) := by decide +kernel
theorem dX10_readWord_201 : decode cX10_readWord 201 = .ok (.invokestatic 72, 3) := by decide +kernel
theorem dX10_readWord_204 : decode cX10_readWord 204 = .ok (.ifCond .eq 9, 3) := by decide +kernel
theorem dX10_readWord_207 : decode cX10_readWord 207 = .ok (.sipush 259, 3) := by decide +kernel
theorem dX10_readWord_210 : decode cX10_readWord 210 = .ok (.goto 6, 3) := by decide +kernel
theorem dX10_readWord_213 : decode cX10_readWord 213 = .ok (.sipush 257, 3) := by decide +kernel
theorem dX10_readWord_216 : decode cX10_readWord 216 = .ok (.iastore, 1) := by decide +kernel
theorem dX10_readWord_217 : decode cX10_readWord 217 = .ok (.aload_n 0, 1) := by decide +kernel
theorem dX10_readWord_218 : decode cX10_readWord 218 = .ok (.getfield 18, 3) := by decide +kernel
theorem dX10_readWord_221 : decode cX10_readWord 221 = .ok (.aload_n 0, 1) := by decide +kernel
theorem dX10_readWord_222 : decode cX10_readWord 222 = .ok (.getfield 22, 3) := by decide +kernel
theorem dX10_readWord_225 : decode cX10_readWord 225 = .ok (.iload 6, 2) := by decide +kernel
theorem dX10_readWord_227 : decode cX10_readWord 227 = .ok (.iload 10, 2) := by decide +kernel
theorem dX10_readWord_229 : decode cX10_readWord 229 = .ok (.if_icmp .ne 9, 3) := by decide +kernel
theorem dX10_readWord_232 : decode cX10_readWord 232 = .ok (.iload 7, 2) := by decide +kernel
theorem dX10_readWord_234 : decode cX10_readWord 234 = .ok (.i2l, 1) := by decide +kernel
theorem dX10_readWord_235 : decode cX10_readWord 235 = .ok (.goto 5, 3) := by decide +kernel
theorem dX10_readWord_238 : decode cX10_readWord 238 = .ok (.lload 8, 2) := by decide +kernel
theorem dX10_readWord_240 : decode cX10_readWord 240 = .ok (.lastore, 1) := by decide +kernel
theorem dX10_readWord_241 : decode cX10_readWord 241 = .ok (.iload 4, 2) := by decide +kernel
theorem dX10_readWord_243 : decode cX10_readWord 243 = .ok (.ireturn, 1) := by decide +kernel

end
section
/-! a method that returns, or throws: its own room for each -/
def vy_Q (Qc : Array Value → State → Outcome → State → Prop) (XC : String → State → State → Prop) (mc0 ms0 mc ms : Nat) (free : Addr → Prop) : Array Value → State → Outcome → State → Prop := fun a st o t =>
  (Qc a st o t ∧ ∃ L, FrameEnd st o t L mc0 ms0 ∧ ∀ q ∈ L, free q.base) ∨ ∃ q, o = .threw q ∧ vx_T XC st q t mc ms free
def vy_Met (l : Launch) (y : MethodName) (ws : List Cond) (rm : Room) (Pc : Array Value → State → Prop) (Qc : Array Value → State → Outcome → State → Prop) (XC : String → State → State → Prop) (mc0 ms0 mc ms : Nat) (free : Addr → Prop) : Prop :=
  MetFree l y (headSpec ws rm) Pc (fun _ _ _ _ _ => True) (vy_Q Qc XC mc0 ms0 mc ms free)
def vy_MQ (below : List Frame) (Qc : Array Value → State → Outcome → State → Prop) (XC : String → State → State → Prop) (a : Array Value) (s : State) (mc0 ms0 mc ms : Nat) (free : Addr → Prop) : State → Prop := fun t =>
  ∃ o, t.status = .running ∧ Ended t below o ∧ vy_Q Qc XC mc0 ms0 mc ms free a s o t
theorem vy_mono {p : Program} {l : Launch} {e : Env} {R : Room} {s : State} {m : MethodId} {args : Array Value} {below : List Frame} {meth : Method} {c : Code} {H : Heap} {locs : List Loc} {cells slots : Nat} {Q Q' : State → Prop} {g : JFrame} (h : ∀ t, Q t → Q' t) (k : W p l e R s m args below meth c H locs cells slots Q g) : W p l e R s m args below meth c H locs cells slots Q' g := fun T hT X => by
  obtain ⟨t, a, b⟩ := k T hT X
  exact ⟨t, a, h t b⟩
theorem vy_monoX {p : Program} {l : Launch} {e : Env} {R : Room} {s : State} {m : MethodId} {args : Array Value} {below : List Frame} {meth : Method} {c : Code} {H : Heap} {locs : List Loc} {cells slots : Nat} {Q Q' : State → Prop} {g : JFrame} {q : Addr} (h : ∀ t, Q t → Q' t) (k : vx_W p l e R s m args below meth c H locs cells slots Q g q) : vx_W p l e R s m args below meth c H locs cells slots Q' g q := fun T hT X => by
  obtain ⟨t, a, b⟩ := k T hT X
  exact ⟨t, a, h t b⟩
/-- what throws for certain throws as well where it might have returned -/
theorem vy_thr {below : List Frame} {Qc : Array Value → State → Outcome → State → Prop} {XC : String → State → State → Prop} {a : Array Value} {s : State} {mc0 ms0 mc ms : Nat} {free : Addr → Prop} : ∀ t, vx_MQ below (fun _ _ _ _ => False) XC a s mc ms free t → vy_MQ below Qc XC a s mc0 ms0 mc ms free t := fun t h => by
  obtain ⟨o, h1, h2, h3⟩ := h
  exact ⟨o, h1, h2, h3.elim (fun g => g.1.elim) Or.inr⟩
theorem vy_ret {below : List Frame} {Qc : Array Value → State → Outcome → State → Prop} {XC : String → State → State → Prop} {a : Array Value} {s : State} {mc0 ms0 mc ms : Nat} {free : Addr → Prop} : ∀ t, vx_MQ below Qc (fun _ _ _ => False) a s mc0 ms0 free t → vy_MQ below Qc XC a s mc0 ms0 mc ms free t := fun t h => by
  obtain ⟨o, h1, h2, h3⟩ := h
  exact ⟨o, h1, h2, h3.elim Or.inl (fun ⟨q, _, _, _, _, g, _⟩ => g.elim)⟩
theorem vy_back {l : Launch} {R : Room} {p : Program} {e : Env} {below : List Frame} {s : State} {sargs : Array Value} {y : MethodName} {len W9 : Nat} {ws : List Cond} {rm : Room} {Pc : Array Value → State → Prop} {Qc : Array Value → State → Outcome → State → Prop} {XC : String → State → State → Prop} {mc0 ms0 mc ms : Nat} {free : Addr → Prop} {bytes : ByteArray} {maxL : Nat} {ret : Option FieldType}
    (hM : vy_Met l y ws rm Pc Qc XC mc0 ms0 mc ms free) (hblind : FrameBlind Pc) (hrc : rm.cells = mc) (hrs : rm.slots = ms)
    (hframes : rm.frames + 1 ≤ R.frames) (hlocals : W9 + (maxL + 11) + rm.locals ≤ R.locals)
    (hws : ∀ w ∈ ws, ∀ a' U, s.WarmedH U.vm → w.before a' U = true) (hcode : Cond.code y bytes maxL ret ∈ ws) (hinit : ∀ a' U, s.WarmedH U.vm → (Cond.initialized y.cls).before a' U = true) :
    vx_Back l R p e below s sargs y len W9 (PreOf R mc ms Pc) (PostOf Qc mc0 ms0 free) (vx_Post XC mc ms free) := by
  intro m meth c A g ig mk a X hg hsize hdg hW hn hp
  have h1 : (headSpec ws rm).pre.before a A.U = true := atoms_intro fun w hw => hws w hw _ _ X.warmed
  have h2 : (Cond.code y bytes maxL ret).before a A.U = true := hws _ hcode _ _ X.warmed
  have h3 : (Cond.initialized y.cls).before a A.U = true := hinit _ _ X.warmed
  have h4 : A.cells + (headSpec ws rm).room.cells ≤ R.cells := by rw [show (headSpec ws rm).room.cells = mc from hrc]; exact hp.1
  have h5 : A.slots + (headSpec ws rm).room.slots ≤ R.slots := by rw [show (headSpec ws rm).room.slots = ms from hrs]; exact hp.2.1
  have hPc : Pc a (A.U.calling g mk a) := hblind _ _ _ _ hp.2.2
  obtain ⟨U, Ls, c0, s0⟩ := A
  dsimp only [Pt.U, Pt.locs, Pt.cells, Pt.slots] at h1 h2 h3 h4 h5 X hn hPc ⊢
  obtain ⟨methY, cY, hmY, hcY, -, hlY, -, -, -, -⟩ := Cond.code_spec hn h2
  obtain ⟨kY, hkY, -⟩ := className_of_methodNamed hn
  have hinitY : kY.init = .initialized := Cond.initialized_spec (findClass_of_methodNamed hn) hkY h3
  have h : At U g.method c below := by rw [hg]; exact X.here
  have hlocals9 : W9 + (maxL + 11) + (headSpec ws rm).room.locals ≤ R.locals := hlocals
  have happ : (headSpec ws rm).appliesLoose y e.platform (U.calling g mk a) = true :=
    Spec.appliesLoose_calling (g := g) h hdg hn hkY hinitY
      (X.room_calling (g := g) (R' := (headSpec ws rm).room) hsize hmY hcY hframes (by rw [hlY]; omega) h4 h5) h1
  obtain ⟨mid, hmid⟩ := h.above
  have hfr : (U.setTop g).frames = (.java g :: mid) ++ below := by rw [State.frames_setTop' g h.top, hmid]; rfl
  obtain ⟨o, s₂, hsteps, -, hend, hq⟩ := Steps.callFree hM p X.admits X.cas X.clock (acts := []) hfr happ hPc trivial
  have hq' : vy_Q Qc XC mc0 ms0 mc ms free a (U.calling g mk a) o s₂ := hq
  rw [State.frames_setTop' g h.top] at hend
  obtain ⟨g₀, hg0⟩ := Option.isSome_iff_exists.mp h.top
  obtain ⟨r, hr⟩ := State.topJava?_eq_some.mp hg0
  have hr' : (({ U with heap := s₂.heap, slotsUsed := s₂.slotsUsed } : State).setVm s₂.vm).frames = .java g₀ :: r := hr
  rcases hq' with ⟨hqc, L, hfe, hL⟩ | ⟨q, rfl, E, ce, L, hx, hce, hcv, hcl, hW₂, hsm, hL⟩
  · obtain ⟨⟨v, rfl⟩, hW₂, e2, q2, q3, q4, q5, q6⟩ := id hfe
    have e3 : s₂ = ({ (U.calling g mk a).setFrames s₂.frames with heap := s₂.heap, slotsUsed := s₂.slotsUsed } : State).setVm s₂.vm := by
      have : s₂ = ({ s₂ with vm := (U.calling g mk a).vm } : State).setVm s₂.vm := rfl
      rw [e2] at this
      exact this
    obtain ⟨c₂, i₂, len₂, hc₂, hd₂, hf₂⟩ := hend
    have hW' : U.WarmedH s₂.vm := hW₂
    have hcc : c₂ = c := by
      have h1 : s₂.code? g.method = U.code? g.method := by
        rw [State.code?_eq, State.code?_eq, hW'.alike.method?]
      exact Option.some.inj (hc₂.symm.trans (h1.trans h.code))
    subst hcc
    have hlen : len₂ = len := by rw [hdg] at hd₂; cases hd₂; rfl
    subst hlen
    have hs₂ : s₂ = (({ U with heap := s₂.heap, slotsUsed := s₂.slotsUsed } : State).setVm s₂.vm).setTop { g with pc := g.pc + len₂, stack := v.toList ++ g.stack } := by
      refine e3.trans ?_
      rw [hf₂, State.calling_eq h.top, State.setFrames_setFrames, State.setTop_of_frames _ hr', hr]
      rfl
    have hsame : U.sameButNew ({ U with heap := s₂.heap, slotsUsed := s₂.slotsUsed } : State) L mc0 ms0 := by
      refine ⟨?_, q2, q3, q4, q5, q6⟩
      obtain ⟨t, ht, -⟩ := State.frames_cons hr
      show ({ U with heap := s₂.heap, slotsUsed := s₂.slotsUsed } : State) = { U.setFrames U.frames with heap := s₂.heap, slotsUsed := s₂.slotsUsed }
      rw [State.setFrames_self ht]
    subst hg
    refine Or.inl ⟨v, ⟨(({ U with heap := s₂.heap, slotsUsed := s₂.slotsUsed } : State).setVm s₂.vm), Ls ++ L, c0 + mc0, s0 + ms0⟩,
      ⟨X.admits, X.cas, X.clock, X.frames, X.room, X.hears, X.method, X.code, (X.here.setHeapUsed s₂.heap s₂.slotsUsed).setVm hW'.alike, X.tail, State.WarmedH.trans X.warmed hW', X.limits, X.bytes, X.same.trans (hsame.setVm s.vm)⟩,
      ⟨g, mk, s₂, L, rfl, rfl, hqc, rfl, hL, rfl, rfl⟩, ?_⟩
    show Steps p.tables e below _ ((({ U with heap := s₂.heap, slotsUsed := s₂.slotsUsed } : State).setVm s₂.vm).setTop { g with pc := g.pc + len₂, stack := v.toList ++ g.stack })
    rw [← hs₂]
    exact hsteps
  · obtain ⟨e2, q2, q3, q4, q5, q6⟩ := id hsm
    have e3 : s₂ = ({ (U.calling g mk a).setFrames s₂.frames with heap := s₂.heap, slotsUsed := s₂.slotsUsed } : State).setVm s₂.vm := by
      have : s₂ = ({ s₂ with vm := (U.calling g mk a).vm } : State).setVm s₂.vm := rfl
      rw [e2] at this
      exact this
    have hf₂ : s₂.frames = .throwing q :: .java g :: U.frames.tail := hend
    have hW' : U.WarmedH s₂.vm := hW₂
    have hs₂ : s₂ = ((({ U with heap := s₂.heap, slotsUsed := s₂.slotsUsed } : State).setVm s₂.vm).setTop g).pushFrame (.throwing q) := by
      refine e3.trans ?_
      rw [hf₂, State.calling_eq h.top, State.setFrames_setFrames, State.pushFrame, State.frames_setTop _ hr', State.setTop_of_frames _ hr', State.setFrames_setFrames, hr]
      rfl
    have hsame : U.sameButNew ({ U with heap := s₂.heap, slotsUsed := s₂.slotsUsed } : State) L mc ms := by
      refine ⟨?_, q2, q3, q4, q5, q6⟩
      obtain ⟨t, ht, -⟩ := State.frames_cons hr
      show ({ U with heap := s₂.heap, slotsUsed := s₂.slotsUsed } : State) = { U.setFrames U.frames with heap := s₂.heap, slotsUsed := s₂.slotsUsed }
      rw [State.setFrames_self ht]
    subst hg
    refine Or.inr ⟨q, ⟨(({ U with heap := s₂.heap, slotsUsed := s₂.slotsUsed } : State).setVm s₂.vm), Ls ++ L, c0 + mc, s0 + ms⟩,
      ⟨X.admits, X.cas, X.clock, X.frames, X.room, X.hears, X.method, X.code, (X.here.setHeapUsed s₂.heap s₂.slotsUsed).setVm hW'.alike, X.tail, State.WarmedH.trans X.warmed hW', X.limits, X.bytes, X.same.trans (hsame.setVm s.vm)⟩,
      ⟨g, mk, s₂, L, E, ce, rfl, rfl, hx, hce, hcv, hcl, rfl, hL, rfl, rfl⟩, ?_⟩
    show Steps p.tables e below _ (((({ U with heap := s₂.heap, slotsUsed := s₂.slotsUsed } : State).setVm s₂.vm).setTop g).pushFrame (.throwing q))
    rw [← hs₂]
    exact hsteps
def vy_Run (p : Program) (l : Launch) (e : Env) (R : Room) (s : State) (m : MethodId) (args : Array Value) (below : List Frame) (meth : Method) (c : Code) (H : Heap) (locs : List Loc) (cells slots mc0 ms0 mc ms : Nat) (g : JFrame) (rest : List Value) (Qa : State → Outcome → State → Prop) (XC : String → State → State → Prop) (free : Addr → Prop) : Prop :=
  ∀ T : State, T.heap = H → Stand p l e R s m args below meth c T locs cells slots →
    (∃ (v : Option Value) (st₀ t T' : State) (L : List Loc), st₀.heap = H ∧ Stand p l e R s m args below meth c T' (locs ++ L) (cells + mc0) (slots + ms0) ∧ (∀ q ∈ L, free q.base) ∧ T'.heap = t.heap ∧ T'.vm = t.vm ∧ Qa st₀ (.returned v) t ∧
      Goes p e below T g T' { g with pc := g.pc + 3, stack := v.toList ++ rest }) ∨
    (∃ (q : Addr) (st₀ t T' : State) (L : List Loc) (E : String) (ce : Cell), st₀.heap = H ∧ Stand p l e R s m args below meth c T' (locs ++ L) (cells + mc) (slots + ms) ∧ (∀ z ∈ L, free z.base) ∧ T'.heap = t.heap ∧ T'.vm = t.vm ∧ XC E st₀ t ∧ t.heap[q]? = some ce ∧ ce.vm = .none ∧ s.vm.findClass E = some ce.cls ∧
      Steps p.tables e below (T.setTop g) ((T'.setTop { g with stack := rest }).pushFrame (.throwing q)))
theorem vy_runV {p : Program} {l : Launch} {e : Env} {R : Room} {s : State} {m : MethodId} {args : Array Value} {below : List Frame} {meth : Method} {c : Code} {H : Heap} {locs : List Loc} {cells slots : Nat} {y : MethodName} {bytes cc : ByteArray} {maxL nL mc0 ms0 mc ms n index : Nat} {ret : Option FieldType} {ws : List Cond} {rm : Room} {Pc : Array Value → State → Prop} {Qc : Array Value → State → Outcome → State → Prop} {XC : String → State → State → Prop} {free : Addr → Prop} {Ts : List Cond} {own C : String} {b : Addr} {As rest : List Value} {g : JFrame} (S : CallFix p m c cc nL s args Ts own) (hM : vy_Met l y ws rm Pc Qc XC mc0 ms0 mc ms free) (cw : CallW R s args own C index y bytes maxL ret ws rm mc ms n) (hp : PreV s H C b Pc As)
    (hg : g.method = m) (hn : As.length = n) (hsize : g.locals.size = nL) (hstack : g.stack = As.reverse ++ .ref b :: rest) (hW : 2 * g.monitorRoom + (rest.map fun v => v.category).sum ≤ 8) (hdg : decode cc g.pc = .ok (.invokevirtual index, 3)) (hf : cells + mc ≤ R.cells ∧ slots + ms ≤ R.slots) :
    vy_Run p l e R s m args below meth c H locs cells slots mc0 ms0 mc ms g rest (Qc (Value.ref b :: As).toArray) XC free := by
  have hK : vx_Back l R p e below s args y 3 8 (PreOf R mc ms Pc) (PostOf Qc mc0 ms0 free) (vx_Post XC mc ms free) := by
    obtain ⟨hrc, hrs, hfr, hlo, hws, hcw, -, hini, -⟩ := cw.1
    exact vy_back (bytes := bytes) (maxL := maxL) (ret := ret) hM hp.1 hrc hrs hfr hlo hws hcw (fun a' U hW => word_at hW (Or.inl (by first | rfl | simp [Cond.onTables, Cond.keeps, Cond.steady])) hini)
  obtain ⟨⟨-, -, -, -, -, -, hcode, -, hy, hlen, hl⟩, hin, hse⟩ := cw
  obtain ⟨hx, hb, hml, ho, -⟩ := S
  obtain ⟨-, ⟨cellB, hcB, hoB, hclB⟩, hPc⟩ := hp
  intro T hT X
  rcases vx_callV X hx (C := C) (bytes := bytes) (maxL := maxL) (ret := ret) ho hl hin hse hcode hy hK (by rw [hT]; exact hcB) hoB hclB hg (hsize.trans hml.symm) (argsL := As) (rest := rest) (fun sig h => hn.trans (hlen sig h)) hstack hW (by rw [hb]; exact hdg)
    (fun vm₁ hW₁ => ⟨hf.1, hf.2, hPc (T.setVm vm₁) hT hW₁⟩) with ⟨v, vm₁, ⟨U', l2, c2, s2⟩, hW₁, X', ⟨g', mk, t, L, e1, e2, hq, h1, hL, h2, h3⟩, st⟩ | ⟨q, vm₁, ⟨U', l2, c2, s2⟩, hW₁, X', ⟨g', mk, t, L, E, ce, e1, e2, hq, hce, hcv, hcl, h1, hL, h2, h3⟩, st⟩
  · dsimp only [Pt.U, Pt.locs, Pt.cells, Pt.slots] at X' e1 e2 h1 h2 h3 st
    subst h1; subst h2; subst h3
    exact Or.inl ⟨v, (T.setVm vm₁).calling g' mk (Value.ref b :: As).toArray, t, U', L, hT, X', hL, e1, e2, hq, st⟩
  · dsimp only [Pt.U, Pt.locs, Pt.cells, Pt.slots] at X' e1 e2 h1 h2 h3 st hcl
    subst h1; subst h2; subst h3
    exact Or.inr ⟨q, (T.setVm vm₁).calling g' mk (Value.ref b :: As).toArray, t, U', L, E, ce, hT, X', hL, e1, e2, hq, hce, hcv, vx_cls hW₁ hcl, st⟩
theorem vy_calli {p : Program} {l : Launch} {e : Env} {R : Room} {s : State} {m : MethodId} {args : Array Value} {below : List Frame} {meth : Method} {c : Code} {H : Heap} {locs : List Loc} {cells slots : Nat} {Q : State → Prop} {mc0 ms0 mc ms : Nat} {free : Addr → Prop} {A0 A1 : Nat → Prop} {H0 : Heap} {a : Array Value} {pc : Nat} {ls : Array Slot} {st0 rest : List Value} {S SX : Type} {post : Int32 → S → Prop} {px : SX → Prop} {B : S → State → Prop} {BX : String → SX → State → Prop} {AX : Nat → Prop} (hr : vy_Run p l e R s m args below meth c H locs cells slots mc0 ms0 mc ms (F0 m pc ls st0) rest (va_Qi post B A1 a) (vx_X px BX AX) free) (hS : va_S A0 H0 H locs) (hA : ∀ q, q < H.size → A1 q → A0 q) (hf : ∀ q, free q → A0 q) (hAX : ∀ q, q < H.size → AX q → A0 q)
    (kx : ∀ (E : String) (ce : Cell) (q9 : Addr) (u : SX) (t : State) (H1 : Heap) (locs1 : List Loc), t.heap = H1 → s.vm.Alike t.vm → px u → BX E u t → H.size ≤ H1.size → (∀ q : Nat, q < H.size → ¬ AX q → H1[q]? = H[q]?) → va_S A0 H0 H1 locs1 → H1[q9]? = some ce → ce.vm = .none → s.vm.findClass E = some ce.cls → vx_W p l e R s m args below meth c H1 locs1 (cells + mc) (slots + ms) Q (F0 m pc ls rest) q9)
    (kk : ∀ (r : Int32) (u : S) (t : State) (H1 : Heap) (locs1 : List Loc), t.heap = H1 → s.vm.Alike t.vm → post r u → B u t → H.size ≤ H1.size → (∀ q : Nat, q < H.size → ¬ A1 q → H1[q]? = H[q]?) → va_S A0 H0 H1 locs1 → W p l e R s m args below meth c H1 locs1 (cells + mc0) (slots + ms0) Q (F0 m (pc + 3) ls (.int r :: rest))) : W p l e R s m args below meth c H locs cells slots Q (F0 m pc ls st0) := by
  intro T hT X
  rcases hr T hT X with ⟨v, st₀, t, T', L, h0, X', hL, e1, e2, ⟨⟨r, u, hv, hp, hb⟩, hF⟩, st⟩ | ⟨q, st₀, t, T', L, E, ce, h0, X', hL, e1, e2, ⟨u, hp, hb, hF⟩, hce, hcv, hcl, st⟩
  · cases hv
    obtain ⟨k1, k2, k3⟩ := vx_keep h0 e1 hS hA hf hL hF
    obtain ⟨t2, a1, b1⟩ := kk r u t T'.heap (locs ++ L) e1.symm (by rw [← e2]; exact X'.warmed.alike) hp hb k1 k2 k3 T' rfl X'
    exact ⟨t2, st t2 a1, b1⟩
  · obtain ⟨k1, k2, k3⟩ := vx_keep h0 e1 hS hAX hf hL hF
    obtain ⟨t2, a1, b1⟩ := kx E ce q u t T'.heap (locs ++ L) e1.symm (by rw [← e2]; exact X'.warmed.alike) hp hb k1 k2 k3 (by rw [e1]; exact hce) hcv hcl T' rfl X'
    exact ⟨t2, st.trans a1, b1⟩
theorem vy_callv {p : Program} {l : Launch} {e : Env} {R : Room} {s : State} {m : MethodId} {args : Array Value} {below : List Frame} {meth : Method} {c : Code} {H : Heap} {locs : List Loc} {cells slots : Nat} {Q : State → Prop} {mc0 ms0 mc ms : Nat} {free : Addr → Prop} {A0 A1 : Nat → Prop} {H0 : Heap} {a : Array Value} {pc : Nat} {ls : Array Slot} {st0 rest : List Value} {S SX : Type} {post : S → Prop} {px : SX → Prop} {B : S → State → Prop} {BX : String → SX → State → Prop} {AX : Nat → Prop} (hr : vy_Run p l e R s m args below meth c H locs cells slots mc0 ms0 mc ms (F0 m pc ls st0) rest (va_Qv post B A1 a) (vx_X px BX AX) free) (hS : va_S A0 H0 H locs) (hA : ∀ q, q < H.size → A1 q → A0 q) (hf : ∀ q, free q → A0 q) (hAX : ∀ q, q < H.size → AX q → A0 q)
    (kx : ∀ (E : String) (ce : Cell) (q9 : Addr) (u : SX) (t : State) (H1 : Heap) (locs1 : List Loc), t.heap = H1 → s.vm.Alike t.vm → px u → BX E u t → H.size ≤ H1.size → (∀ q : Nat, q < H.size → ¬ AX q → H1[q]? = H[q]?) → va_S A0 H0 H1 locs1 → H1[q9]? = some ce → ce.vm = .none → s.vm.findClass E = some ce.cls → vx_W p l e R s m args below meth c H1 locs1 (cells + mc) (slots + ms) Q (F0 m pc ls rest) q9)
    (kk : ∀ (u : S) (t : State) (H1 : Heap) (locs1 : List Loc), t.heap = H1 → s.vm.Alike t.vm → post u → B u t → H.size ≤ H1.size → (∀ q : Nat, q < H.size → ¬ A1 q → H1[q]? = H[q]?) → va_S A0 H0 H1 locs1 → W p l e R s m args below meth c H1 locs1 (cells + mc0) (slots + ms0) Q (F0 m (pc + 3) ls (rest))) : W p l e R s m args below meth c H locs cells slots Q (F0 m pc ls st0) := by
  intro T hT X
  rcases hr T hT X with ⟨v, st₀, t, T', L, h0, X', hL, e1, e2, ⟨⟨u, hv, hp, hb⟩, hF⟩, st⟩ | ⟨q, st₀, t, T', L, E, ce, h0, X', hL, e1, e2, ⟨u, hp, hb, hF⟩, hce, hcv, hcl, st⟩
  · cases hv
    obtain ⟨k1, k2, k3⟩ := vx_keep h0 e1 hS hA hf hL hF
    obtain ⟨t2, a1, b1⟩ := kk u t T'.heap (locs ++ L) e1.symm (by rw [← e2]; exact X'.warmed.alike) hp hb k1 k2 k3 T' rfl X'
    exact ⟨t2, st t2 a1, b1⟩
  · obtain ⟨k1, k2, k3⟩ := vx_keep h0 e1 hS hAX hf hL hF
    obtain ⟨t2, a1, b1⟩ := kx E ce q u t T'.heap (locs ++ L) e1.symm (by rw [← e2]; exact X'.warmed.alike) hp hb k1 k2 k3 (by rw [e1]; exact hce) hcv hcl T' rfl X'
    exact ⟨t2, st.trans a1, b1⟩
theorem vy_ofW {l : Launch} {y : MethodName} {ws ws' : List Cond} {rm : Room} {Pc : Array Value → State → Prop} {Qc : Array Value → State → Outcome → State → Prop} {XC : String → State → State → Prop} {mc0 ms0 mc ms : Nat} {free : Addr → Prop} {cc : ByteArray} {maxL : Nat} {ret : Option FieldType}
    (hy : plainName y.cls = true) (hw : ws = Cond.code y cc maxL ret :: ws')
    (body : ∀ p e s m args below meth c s₁, BodyLoose p l y (headSpec ws rm) cc maxL ret e s m args below meth c s₁ → c.maxLocals = maxL → (∀ x ∈ c.exceptionTable.toList, False) → Pc args s →
      W p l e (headSpec ws rm).room s m args below meth c s.heap [] 0 0 (vy_MQ below Qc XC args s mc0 ms0 mc ms free) (entryFrame m args maxL)) : vy_Met l y ws rm Pc Qc XC mc0 ms0 mc ms free := by
  refine MetFree.of_bodyS (code := cc) (maxLocals := maxL) (ret := ret) hy ?_ ?_
  · intro args s m h hn
    obtain ⟨meth, c, h1, h2, h3, h4, h5, h6, -, -⟩ := Cond.code_spec hn (atoms_spec (ws := ws) h _ (by rw [hw]; exact List.mem_cons_self))
    exact ⟨meth, c, h1, h2, h3, h4, h5, h6⟩
  · intro p e s m args below meth c s₁ B hml hP _
    have hh0 : s₁.heap = s.heap := by rw [B.state]; rfl
    have ht : ∀ x ∈ c.exceptionTable.toList, False := by
      obtain ⟨meth9, c9, h1, h2, -, -, -, -, h7, -⟩ := Cond.code_spec B.named (atoms_spec (ws := ws) B.pre _ (by rw [hw]; exact List.mem_cons_self))
      cases Option.some.inj (h1.symm.trans B.method)
      cases Option.some.inj (h2.symm.trans (Stand.of_body B).code)
      intro x hx
      rw [Array.isEmpty_iff.mp h7] at hx
      cases hx
    obtain ⟨t, a1, o, b1, b2, b3⟩ := body p e s m args below meth c s₁ B hml ht hP s₁ hh0 (Stand.of_body B)
    exact ⟨t, o, a1, b1, b2, b3⟩
theorem zat_i_g : ∀ w ∈ (vx_at0 RX7 79 "java/lang/IllegalStateException" ["java/lang/RuntimeException", "java/lang/Exception"]).filter goodWord, w ∈ zw := fun w h => zw_in ((show ∀ w ∈ (vx_at0 RX7 79 "java/lang/IllegalStateException" ["java/lang/RuntimeException", "java/lang/Exception"]).filter goodWord, w ∈ lw_tbl by decide +kernel) w h) (List.mem_filter.mp h).2
theorem zat_i_b : ∀ w ∈ (vx_at0 RX7 79 "java/lang/IllegalStateException" ["java/lang/RuntimeException", "java/lang/Exception"]).filter (fun w => !goodWord w), w ∈ [Cond.castable "java/lang/IllegalStateException" "java/lang/IllegalStateException", .declares ⟨"java/lang/RuntimeException", "<init>", "()V"⟩, .declares ⟨"java/lang/Exception", "<init>", "()V"⟩, .declares ⟨"java/lang/Throwable", "<init>", "()V"⟩] := by decide +kernel

end
section
theorem wi_395 : Cond.fieldLink RX7 47 "ReuseHouse$Parser" "faultNumber" "I" ∈ zw := zw_in (List.mem_of_getElem? (i := 395) (by decide +kernel)) (by decide +kernel)
theorem wi_397 : Cond.fieldLink RX7 50 "ReuseHouse$Parser" "faultPlace" "I" ∈ zw := zw_in (List.mem_of_getElem? (i := 397) (by decide +kernel)) (by decide +kernel)
theorem wi_652 : Cond.classLink RX7 73 "java/lang/IllegalStateException" ∈ zw := zw_in (List.mem_of_getElem? (i := 652) (by decide +kernel)) (by decide +kernel)
theorem wi_154 : Cond.initialized "java/lang/IllegalStateException" ∈ zw := zw_in (List.mem_of_getElem? (i := 154) (by decide +kernel)) (by decide +kernel)
theorem wi_387 : Cond.fieldLink RX7 12 "ReuseHouse$Parser" "tokens" "LReuseHouse$Tokens;" ∈ zw := zw_in (List.mem_of_getElem? (i := 387) (by decide +kernel)) (by decide +kernel)
theorem wi_355 : Cond.fieldLink RX7 80 "ReuseHouse$Tokens" "place" "I" ∈ zw := zw_in (List.mem_of_getElem? (i := 355) (by decide +kernel)) (by decide +kernel)
theorem wi_809 : Cond.code yX7_fail cX7_fail 3 none ∈ zw := zw_in (List.mem_of_getElem? (i := 809) (by decide +kernel)) (by decide +kernel)
theorem wi_806 : Cond.methodLink RX7 83 yX7_fail ∈ zw := zw_in (List.mem_of_getElem? (i := 806) (by decide +kernel)) (by decide +kernel)
theorem wi_808 : Cond.instanceMethod yX7_fail ∈ zw := zw_in (List.mem_of_getElem? (i := 808) (by decide +kernel)) (by decide +kernel)
theorem wi_5 : Cond.selects RX7 yX7_fail yX7_fail ∈ zw := zw_in (List.mem_of_getElem? (i := 5) (by decide +kernel)) (by decide +kernel)
theorem wi_136 : Cond.initialized RX7 ∈ zw := zw_in (List.mem_of_getElem? (i := 136) (by decide +kernel)) (by decide +kernel)
theorem dX7_fail_0 : decode cX7_fail 0 = .ok (.aload_n 0, 1) := by decide +kernel
theorem dX7_fail_1 : decode cX7_fail 1 = .ok (.iload_n 1, 1) := by decide +kernel
theorem dX7_fail_2 : decode cX7_fail 2 = .ok (.putfield 47, 3) := by decide +kernel
theorem dX7_fail_5 : decode cX7_fail 5 = .ok (.aload_n 0, 1) := by decide +kernel
theorem dX7_fail_6 : decode cX7_fail 6 = .ok (.iload_n 2, 1) := by decide +kernel
theorem dX7_fail_7 : decode cX7_fail 7 = .ok (.putfield 50, 3) := by decide +kernel
theorem dX7_fail_10 : decode cX7_fail 10 = .ok (.new 73, 3) := by decide +kernel
theorem dX7_fail_13 : decode cX7_fail 13 = .ok (.dup, 1) := by decide +kernel
theorem dX7_fail_14 : decode cX7_fail 14 = .ok (.invokespecial 79, 3) := by decide +kernel
theorem dX7_fail_17 : decode cX7_fail 17 = .ok (.athrow, 1) := by decide +kernel
theorem dX7_failForm_0 : decode cX7_failForm 0 = .ok (.aload_n 0, 1) := by decide +kernel
theorem dX7_failForm_1 : decode cX7_failForm 1 = .ok (.iconst 1, 1) := by decide +kernel
theorem dX7_failForm_2 : decode cX7_failForm 2 = .ok (.aload_n 0, 1) := by decide +kernel
theorem dX7_failForm_3 : decode cX7_failForm 3 = .ok (.getfield 12, 3) := by decide +kernel
theorem dX7_failForm_6 : decode cX7_failForm 6 = .ok (.getfield 80, 3) := by decide +kernel
theorem dX7_failForm_9 : decode cX7_failForm 9 = .ok (.invokevirtual 83, 3) := by decide +kernel
set_option maxHeartbeats 4000000 in
set_option maxRecDepth 100000 in
theorem c_X7_fail (l : Launch) (dC : Nat → ClassId) (dI : Nat → Nat → Nat) (aK aV : Nat → Nat) (h0 : Nat) (ptok : Nat) (pnee : Nat) (pnam : Nat) (pbui : Nat) (pdra : Nat) (ar : Int32) (fu : Int32) (fn : Int32) (fp : Int32) (nn : Int32) (wh : Int32) (sz : Nat) (hlt : l.stackTraces = false)  : vy_Met l yX7_fail (Cond.code yX7_fail cX7_fail 3 none :: zw) ({ frames := 10, cells := 1, slots := 6, locals := 300 }) (va_Pc [.ref h0, .int nn, .int wh] (zP dC dI aK aV sz [] [(h0, .inr (7, [.ref ptok, .ref pnee, .ref pnam, .int ar, .ref pbui, .ref pdra, .int fu, .int fn, .int fp]))])) (va_Qv (fun u : Unit => (False)) (fun u => zQ dC dI (va_A [(h0, .inr (7, [.ref ptok, .ref pnee, .ref pnam, .int ar, .ref pbui, .ref pdra, .int fu, .int fn, .int fp]))] sz) [] []) (va_A [(h0, .inr (7, [.ref ptok, .ref pnee, .ref pnam, .int ar, .ref pbui, .ref pdra, .int fu, .int fn, .int fp]))] sz)) (vx_X (fun u : Int32 × Int32 => match u with | (fn2, fp2) => (fp2.toInt = wh.toInt)) (fun E u t => E = "java/lang/IllegalStateException" ∧ (match u with | (fn2, fp2) => zQ dC dI (va_A [(h0, .inr (7, [.ref ptok, .ref pnee, .ref pnam, .int ar, .ref pbui, .ref pdra, .int fu, .int fn, .int fp]))] sz) [] [(h0, .inr (7, [.ref ptok, .ref pnee, .ref pnam, .int ar, .ref pbui, .ref pdra, .int fu, .int fn2, .int fp2]))] t)) (va_A [(h0, .inr (7, [.ref ptok, .ref pnee, .ref pnam, .int ar, .ref pbui, .ref pdra, .int fu, .int fn, .int fp]))] sz)) 0 0 1 6 (va_A [(h0, .inr (7, [.ref ptok, .ref pnee, .ref pnam, .int ar, .ref pbui, .ref pdra, .int fu, .int fn, .int fp]))] sz) := by
  refine vy_ofW (cc := cX7_fail) (maxL := 3) (ret := none) (by decide) rfl ?_
  intro p e s m args below meth c s₁ B hml hnh hv
  obtain ⟨rfl, hsz, hP, hK, hD0, hN, hT⟩ := hv
  have hx := B.exec
  have hb := B.bytes
  have hr := B.returns
  have hts := atoms_spec (ws := Cond.code yX7_fail cX7_fail 3 none :: zw) B.pre
  have hA : ∀ w ∈ zw, w.before _ s = true := fun w h => hts w (List.mem_cons_of_mem _ h)
  have hown : s.vm.findClass RX7 = some m.cls := findClass_of_methodNamed B.named
  have hlocks := B.notSynchronized
  subst hsz
  have hD := hD0.self (sz := s.heap.size)
  generalize hAe : va_A [(h0, .inr (7, [.ref ptok, .ref pnee, .ref pnam, .int ar, .ref pbui, .ref pdra, .int fu, .int fn, .int fp]))] s.heap.size = A at hD hT ⊢
  have hAA : ∀ q : Nat, s.heap.size ≤ q → A q := fun q h => by rw [← hAe]; exact Or.inr h
  have hS : va_S A s.heap s.heap [] := va_S.rf
  have hl := lv_entry ([.ref h0, .int nn, .int wh]) (n := 3) (Nat.le_of_ble_eq_true rfl)
  rw [lg_entry_eq]
  generalize (lg_sl ([.ref h0, .int nn, .int wh]) ++ List.replicate (3 - (lg_sl ([.ref h0, .int nn, .int wh])).length) Slot.unset).toArray = ls at hl ⊢
  have hl : lv_has ls 3 [(0, .ref h0), (1, .int nn), (2, .int wh)] := hl
  refine lv_aload_n hx hb dX7_fail_0 rfl (lv_at hl 0 rfl) ?_
  refine lv_iload_n hx hb dX7_fail_1 rfl (lv_at hl 1 rfl) ?_
  refine va_put (D := (dC, dI)) (ci := 7) (v := .int nn) (ty := .int) (C := RX7) (T := TX7) (N := 9) hx hb hA zin_X7 tyX7 tyX7_ok nmX7 hown hK hP hD hS 0 rfl rfl 7 (by decide) (hA _ wi_395) (fun _ h9 => h9) rfl (by decide +kernel) rfl rfl (Nat.le_of_ble_eq_true rfl) dX7_fail_2 (fun H locs hP hD hS => ?_)
  have hP : va_P (dC, dI) vwCl [(h0, .inr (7, [.ref ptok, .ref pnee, .ref pnam, .int ar, .ref pbui, .ref pdra, .int fu, .int nn, .int fp]))] H := hP
  have hD : va_D A [(h0, .inr (7, [.ref ptok, .ref pnee, .ref pnam, .int ar, .ref pbui, .ref pdra, .int fu, .int nn, .int fp]))] := hD
  refine lv_aload_n hx hb dX7_fail_5 rfl (lv_at hl 0 rfl) ?_
  refine lv_iload_n hx hb dX7_fail_6 rfl (lv_at hl 2 rfl) ?_
  refine va_put (D := (dC, dI)) (ci := 7) (v := .int wh) (ty := .int) (C := RX7) (T := TX7) (N := 9) hx hb hA zin_X7 tyX7 tyX7_ok nmX7 hown hK hP hD hS 0 rfl rfl 8 (by decide) (hA _ wi_397) (fun _ h9 => h9) rfl (by decide +kernel) rfl rfl (Nat.le_of_ble_eq_true rfl) dX7_fail_7 (fun H locs hP hD hS => ?_)
  have hP : va_P (dC, dI) vwCl [(h0, .inr (7, [.ref ptok, .ref pnee, .ref pnam, .int ar, .ref pbui, .ref pdra, .int fu, .int nn, .int wh]))] H := hP
  have hD : va_D A [(h0, .inr (7, [.ref ptok, .ref pnee, .ref pnam, .int ar, .ref pbui, .ref pdra, .int fu, .int nn, .int wh]))] := hD
  have hP9 := hP.sub (ws' := [(h0, .inr (7, [.ref ptok, .ref pnee, .ref pnam, .int ar, .ref pbui, .ref pdra, .int fu, .int nn, .int wh]))]) [0] rfl
  have hD9 := hD.sub (ws' := [(h0, .inr (7, [.ref ptok, .ref pnee, .ref pnam, .int ar, .ref pbui, .ref pdra, .int fu, .int nn, .int wh]))]) [0] (by decide) rfl
  have hK9 := hK.sub (tys' := []) [] rfl
  exact vy_mono vy_thr (vx_throw0 (cls := "java/lang/IllegalStateException") (names := ["java/lang/RuntimeException", "java/lang/Exception"]) hx hb hlt hown (by decide +kernel) (by decide +kernel) (hA _ wi_652) (hA _ wi_154) (vx_hat (fun w hw => hA w (zat_i_g w hw)) zat_i_b (vx_c (va_Nw.use rfl (hN.2.2.1 ("java/lang/IllegalStateException", "java/lang/IllegalStateException") (by decide +kernel))) (vx_c (va_Nw.use rfl (hN.2.2.2.1 ⟨"java/lang/RuntimeException", "<init>", "()V"⟩ (by decide +kernel))) (vx_c (va_Nw.use rfl (hN.2.2.2.1 ⟨"java/lang/Exception", "<init>", "()V"⟩ (by decide +kernel))) (vx_c (va_Nw.use rfl (hN.2.2.2.1 ⟨"java/lang/Throwable", "<init>", "()V"⟩ (by decide +kernel))) vx_n))))) (by decide +kernel) hT.1 hT.2.1 hS (by rw [hml]; exact hl.1) dX7_fail_10 dX7_fail_13 dX7_fail_14 dX7_fail_17 (fun x hx => (hnh x hx).elim) (Nat.le_of_ble_eq_true rfl) (Nat.le_of_ble_eq_true rfl) (Nat.le_of_ble_eq_true rfl) (Nat.le_of_ble_eq_true rfl) hlocks (fun t hvm hle hq => ⟨(nn, wh), (by omega), ⟨rfl, va_P.kept hP9 (fun k q hk => hq q.1 (vx_lt hP9 hk)), va_K.moved hvm hK9, hD9⟩, Nat.le_trans hS.1 hle, fun q h1 h2 => (hq q (Nat.lt_of_lt_of_le h1 hS.1)).trans (hS.2.1 q h1 h2)⟩) hS.2.2 (Nat.le_of_ble_eq_true rfl) (Nat.le_of_ble_eq_true rfl))
set_option maxHeartbeats 4000000 in
set_option maxRecDepth 100000 in
theorem c_X7_failForm (l : Launch) (dC : Nat → ClassId) (dI : Nat → Nat → Nat) (aK aV : Nat → Nat) (h0 : Nat) (ptok : Nat) (pnee : Nat) (pnam : Nat) (pbui : Nat) (pdra : Nat) (ar : Int32) (fu : Int32) (fn : Int32) (fp : Int32) (ts : Nat) (tp : Nat) (tw : Nat) (z : Int32) (pa : Int32) (so : Int32) (pl : Int32) (wd : Int64) (sz : Nat) (hlt : l.stackTraces = false)  : vy_Met l yX7_failForm (Cond.code yX7_failForm cX7_failForm 1 none :: zw) ({ frames := 12, cells := 1, slots := 6, locals := 400 }) (va_Pc [.ref h0] (zP dC dI aK aV sz [] [(h0, .inr (7, [.ref ptok, .ref pnee, .ref pnam, .int ar, .ref pbui, .ref pdra, .int fu, .int fn, .int fp])), (ptok, .inr (10, [.ref ts, .ref tp, .ref tw, .int z, .int pa, .int so, .int pl, .long wd]))])) (va_Qv (fun u : Unit => (False)) (fun u => zQ dC dI (va_A [(h0, .inr (7, [.ref ptok, .ref pnee, .ref pnam, .int ar, .ref pbui, .ref pdra, .int fu, .int fn, .int fp])), (ptok, .inr (10, [.ref ts, .ref tp, .ref tw, .int z, .int pa, .int so, .int pl, .long wd]))] sz) [] []) (va_A [(h0, .inr (7, [.ref ptok, .ref pnee, .ref pnam, .int ar, .ref pbui, .ref pdra, .int fu, .int fn, .int fp])), (ptok, .inr (10, [.ref ts, .ref tp, .ref tw, .int z, .int pa, .int so, .int pl, .long wd]))] sz)) (vx_X (fun u : Int32 × Int32 => match u with | (fn2, fp2) => (fp2.toInt = pl.toInt)) (fun E u t => E = "java/lang/IllegalStateException" ∧ (match u with | (fn2, fp2) => zQ dC dI (va_A [(h0, .inr (7, [.ref ptok, .ref pnee, .ref pnam, .int ar, .ref pbui, .ref pdra, .int fu, .int fn, .int fp])), (ptok, .inr (10, [.ref ts, .ref tp, .ref tw, .int z, .int pa, .int so, .int pl, .long wd]))] sz) [] [(h0, .inr (7, [.ref ptok, .ref pnee, .ref pnam, .int ar, .ref pbui, .ref pdra, .int fu, .int fn2, .int fp2])), (ptok, .inr (10, [.ref ts, .ref tp, .ref tw, .int z, .int pa, .int so, .int pl, .long wd]))] t)) (va_A [(h0, .inr (7, [.ref ptok, .ref pnee, .ref pnam, .int ar, .ref pbui, .ref pdra, .int fu, .int fn, .int fp])), (ptok, .inr (10, [.ref ts, .ref tp, .ref tw, .int z, .int pa, .int so, .int pl, .long wd]))] sz)) 0 0 1 6 (va_A [(h0, .inr (7, [.ref ptok, .ref pnee, .ref pnam, .int ar, .ref pbui, .ref pdra, .int fu, .int fn, .int fp])), (ptok, .inr (10, [.ref ts, .ref tp, .ref tw, .int z, .int pa, .int so, .int pl, .long wd]))] sz) := by
  refine vy_ofW (cc := cX7_failForm) (maxL := 1) (ret := none) (by decide) rfl ?_
  intro p e s m args below meth c s₁ B hml hnh hv
  obtain ⟨rfl, hsz, hP, hK, hD0, hN, hT⟩ := hv
  have hx := B.exec
  have hb := B.bytes
  have hr := B.returns
  have hts := atoms_spec (ws := Cond.code yX7_failForm cX7_failForm 1 none :: zw) B.pre
  have hA : ∀ w ∈ zw, w.before _ s = true := fun w h => hts w (List.mem_cons_of_mem _ h)
  have hown : s.vm.findClass RX7 = some m.cls := findClass_of_methodNamed B.named
  have hlocks := B.notSynchronized
  subst hsz
  have hD := hD0.self (sz := s.heap.size)
  generalize hAe : va_A [(h0, .inr (7, [.ref ptok, .ref pnee, .ref pnam, .int ar, .ref pbui, .ref pdra, .int fu, .int fn, .int fp])), (ptok, .inr (10, [.ref ts, .ref tp, .ref tw, .int z, .int pa, .int so, .int pl, .long wd]))] s.heap.size = A at hD hT ⊢
  have hAA : ∀ q : Nat, s.heap.size ≤ q → A q := fun q h => by rw [← hAe]; exact Or.inr h
  have hS : va_S A s.heap s.heap [] := va_S.rf
  have hl := lv_entry ([.ref h0]) (n := 1) (Nat.le_of_ble_eq_true rfl)
  rw [lg_entry_eq]
  generalize (lg_sl ([.ref h0]) ++ List.replicate (1 - (lg_sl ([.ref h0])).length) Slot.unset).toArray = ls at hl ⊢
  have hl : lv_has ls 1 [(0, .ref h0)] := hl
  refine lv_aload_n hx hb dX7_failForm_0 rfl (lv_at hl 0 rfl) ?_
  refine lv_iconst (v := 1) hx hb dX7_failForm_1 (by decide) ?_
  refine lv_aload_n hx hb dX7_failForm_2 rfl (lv_at hl 0 rfl) ?_
  refine va_get (D := (dC, dI)) (ci := 7) (v := .ref ptok) (C := RX7) (T := TX7) (N := 9) hx hb hA zin_X7 hown hK hP 0 rfl rfl 0 (by decide) (hA _ wi_387) (fun _ h9 => h9) rfl dX7_failForm_3 ?_
  refine va_get (D := (dC, dI)) (ci := 10) (v := .int pl) (C := RX10) (T := TX10) (N := 8) hx hb hA zin_X10 hown hK hP 1 rfl rfl 6 (by decide) (hA _ wi_355) (fun _ h9 => h9) rfl dX7_failForm_6 ?_
  have hPc := hP.sub (ws' := [(h0, .inr (7, [.ref ptok, .ref pnee, .ref pnam, .int ar, .ref pbui, .ref pdra, .int fu, .int fn, .int fp]))]) [0] rfl
  have hDc := hD.sub (ws' := [(h0, .inr (7, [.ref ptok, .ref pnee, .ref pnam, .int ar, .ref pbui, .ref pdra, .int fu, .int fn, .int fp]))]) [0] (by decide) rfl
  have hKc := hK.sub (tys' := []) [] rfl
  have hFc := va_free (wc := [(h0, .inr (7, [.ref ptok, .ref pnee, .ref pnam, .int ar, .ref pbui, .ref pdra, .int fu, .int fn, .int fp]))]) hD hS hAA [0] rfl
  refine vy_callv (vy_runV (As := [.int 1, .int pl]) (rest := []) ⟨hx, hb, hml, hown, hA⟩ (c_X7_fail l dC dI aK aV h0 ptok pnee pnam pbui pdra ar fu fn fp 1 pl s.heap.size hlt) (cwV 2 hA (zw_V wi_806 wi_808 wi_5 wi_136 (zw_good wi_809)) rfl rfl rfl (by decide +kernel) ⟨(Nat.le_of_ble_eq_true rfl), (Nat.le_of_ble_eq_true rfl)⟩) ⟨zP_blind, va_recv hKc hPc (ci := 7) (q0 := 0) rfl rfl, zz_pre hKc hPc hDc hN hT hS hFc⟩ rfl rfl hl.1 rfl (lv_room (Nat.le_of_ble_eq_true rfl)) dX7_failForm_9 ⟨(Nat.le_of_ble_eq_true rfl), (Nat.le_of_ble_eq_true rfl)⟩) hS (fun q _ h => hFc q h) hFc (fun q _ h => hFc q h) (fun E9 ce9 q9 u t H1 locs ht hvm hw hB hz1 hk1 hS hcell hcv hcl => ?_) (fun u t H1 locs ht hvm hw hB hz1 hk1 hS => absurd hw id)
  obtain ⟨x_fn2_2, x_fp2_3⟩ := u
  obtain ⟨rfl, hP1, hK1, hD1⟩ := hB
  rw [ht] at hP1
  have hK1 := va_K.moved hvm.symm hK1
  obtain ⟨hP, hD⟩ := va_join (wr := [(ptok, .inr (10, [.ref ts, .ref tp, .ref tw, .int z, .int pa, .int so, .int pl, .long wd]))]) (w1 := [(h0, .inr (7, [.ref ptok, .ref pnee, .ref pnam, .int ar, .ref pbui, .ref pdra, .int fu, .int x_fn2_2, .int x_fp2_3]))]) hP hD [0] [1] rfl rfl (by decide) (by decide) hk1 hFc hP1 hD1
  have hK := (hK.sub (tys' := []) [] rfl).app hK1
  clear hPc hDc hFc hP1 hD1 hk1 hz1 ht hvm
  generalize H1 = H at hP hS hcell ⊢
  have hP : va_P (dC, dI) vwCl [(ptok, .inr (10, [.ref ts, .ref tp, .ref tw, .int z, .int pa, .int so, .int pl, .long wd])), (h0, .inr (7, [.ref ptok, .ref pnee, .ref pnam, .int ar, .ref pbui, .ref pdra, .int fu, .int x_fn2_2, .int x_fp2_3]))] H := hP
  have hD : va_D A [(ptok, .inr (10, [.ref ts, .ref tp, .ref tw, .int z, .int pa, .int so, .int pl, .long wd])), (h0, .inr (7, [.ref ptok, .ref pnee, .ref pnam, .int ar, .ref pbui, .ref pdra, .int fu, .int x_fn2_2, .int x_fp2_3]))] := hD
  have hK : va_K (dC, dI) vwCl [] s := hK
  have hq_4 := hw
  try dsimp only at hq_4
  refine vx_widen (k := 1) (n := 6) (Nat.le_of_ble_eq_true rfl) (Nat.le_of_ble_eq_true rfl) ?_
  have hP9 := hP.sub (ws' := [(h0, .inr (7, [.ref ptok, .ref pnee, .ref pnam, .int ar, .ref pbui, .ref pdra, .int fu, .int x_fn2_2, .int x_fp2_3])), (ptok, .inr (10, [.ref ts, .ref tp, .ref tw, .int z, .int pa, .int so, .int pl, .long wd]))]) [1, 0] rfl
  have hD9 := hD.sub (ws' := [(h0, .inr (7, [.ref ptok, .ref pnee, .ref pnam, .int ar, .ref pbui, .ref pdra, .int fu, .int x_fn2_2, .int x_fp2_3])), (ptok, .inr (10, [.ref ts, .ref tp, .ref tw, .int z, .int pa, .int so, .int pl, .long wd]))]) [1, 0] (by decide) rfl
  have hK9 := hK.sub (tys' := []) [] rfl
  exact vy_monoX vy_thr (vx_out (fun x hx => (hnh x hx).elim) hlocks hcell hcv hcl (fun t ht hvm => ⟨(x_fn2_2, x_fp2_3), (by omega), ⟨rfl, by rw [ht]; exact hP9, va_K.moved hvm hK9, hD9⟩, hS.F ht⟩) hS.2.2 (Nat.le_of_ble_eq_true rfl) (Nat.le_of_ble_eq_true rfl))

end
section
theorem wi_353 : Cond.fieldLink RX7 60 "ReuseHouse$Tokens" "sort" "I" ∈ zw := zw_in (List.mem_of_getElem? (i := 353) (by decide +kernel)) (by decide +kernel)
theorem wi_797 : Cond.code yX10_opensBracketNext cX10_opensBracketNext 1 (some .boolean) ∈ zw := zw_in (List.mem_of_getElem? (i := 797) (by decide +kernel)) (by decide +kernel)
theorem wi_794 : Cond.methodLink RX7 87 yX10_opensBracketNext ∈ zw := zw_in (List.mem_of_getElem? (i := 794) (by decide +kernel)) (by decide +kernel)
theorem wi_795 : Cond.instanceMethod yX10_opensBracketNext ∈ zw := zw_in (List.mem_of_getElem? (i := 795) (by decide +kernel)) (by decide +kernel)
theorem wi_796 : Cond.selects RX10 yX10_opensBracketNext yX10_opensBracketNext ∈ zw := zw_in (List.mem_of_getElem? (i := 796) (by decide +kernel)) (by decide +kernel)
theorem wi_392 : Cond.fieldLink RX7 40 "ReuseHouse$Parser" "draft" "LReuseHouse$Program;" ∈ zw := zw_in (List.mem_of_getElem? (i := 392) (by decide +kernel)) (by decide +kernel)
theorem wi_317 : Cond.fieldLink RX7 91 "ReuseHouse$Program" "kinds" "LReuseHouse$Kinds;" ∈ zw := zw_in (List.mem_of_getElem? (i := 317) (by decide +kernel)) (by decide +kernel)
theorem wi_357 : Cond.fieldLink RX7 95 "ReuseHouse$Tokens" "word" "J" ∈ zw := zw_in (List.mem_of_getElem? (i := 357) (by decide +kernel)) (by decide +kernel)
theorem wi_801 : Cond.code yX4_find cX4_find 4 (some .int) ∈ zw := zw_in (List.mem_of_getElem? (i := 801) (by decide +kernel)) (by decide +kernel)
theorem wi_798 : Cond.methodLink RX7 99 yX4_find ∈ zw := zw_in (List.mem_of_getElem? (i := 798) (by decide +kernel)) (by decide +kernel)
theorem wi_799 : Cond.instanceMethod yX4_find ∈ zw := zw_in (List.mem_of_getElem? (i := 799) (by decide +kernel)) (by decide +kernel)
theorem wi_800 : Cond.selects RX4 yX4_find yX4_find ∈ zw := zw_in (List.mem_of_getElem? (i := 800) (by decide +kernel)) (by decide +kernel)
theorem wi_134 : Cond.initialized RX4 ∈ zw := zw_in (List.mem_of_getElem? (i := 134) (by decide +kernel)) (by decide +kernel)
theorem wi_805 : Cond.code yX4_fieldsOf cX4_fieldsOf 2 (some .int) ∈ zw := zw_in (List.mem_of_getElem? (i := 805) (by decide +kernel)) (by decide +kernel)
theorem wi_802 : Cond.methodLink RX7 105 yX4_fieldsOf ∈ zw := zw_in (List.mem_of_getElem? (i := 802) (by decide +kernel)) (by decide +kernel)
theorem wi_803 : Cond.instanceMethod yX4_fieldsOf ∈ zw := zw_in (List.mem_of_getElem? (i := 803) (by decide +kernel)) (by decide +kernel)
theorem wi_804 : Cond.selects RX4 yX4_fieldsOf yX4_fieldsOf ∈ zw := zw_in (List.mem_of_getElem? (i := 804) (by decide +kernel)) (by decide +kernel)
theorem wi_777 : Cond.code yX10_advance cX10_advance 1 none ∈ zw := zw_in (List.mem_of_getElem? (i := 777) (by decide +kernel)) (by decide +kernel)
theorem wi_881 : Cond.methodLink RX7 112 yX10_advance ∈ zw := zw_in (List.mem_of_getElem? (i := 881) (by decide +kernel)) (by decide +kernel)
theorem wi_775 : Cond.instanceMethod yX10_advance ∈ zw := zw_in (List.mem_of_getElem? (i := 775) (by decide +kernel)) (by decide +kernel)
theorem wi_776 : Cond.selects RX10 yX10_advance yX10_advance ∈ zw := zw_in (List.mem_of_getElem? (i := 776) (by decide +kernel)) (by decide +kernel)
theorem wi_880 : Cond.code yX7_failForm cX7_failForm 1 none ∈ zw := zw_in (List.mem_of_getElem? (i := 880) (by decide +kernel)) (by decide +kernel)
theorem wi_877 : Cond.methodLink RX7 109 yX7_failForm ∈ zw := zw_in (List.mem_of_getElem? (i := 877) (by decide +kernel)) (by decide +kernel)
theorem wi_879 : Cond.instanceMethod yX7_failForm ∈ zw := zw_in (List.mem_of_getElem? (i := 879) (by decide +kernel)) (by decide +kernel)
theorem wi_8 : Cond.selects RX7 yX7_failForm yX7_failForm ∈ zw := zw_in (List.mem_of_getElem? (i := 8) (by decide +kernel)) (by decide +kernel)
theorem wi_390 : Cond.fieldLink RX7 29 "ReuseHouse$Parser" "around" "I" ∈ zw := zw_in (List.mem_of_getElem? (i := 390) (by decide +kernel)) (by decide +kernel)
theorem wi_389 : Cond.fieldLink RX7 25 "ReuseHouse$Parser" "names" "[J" ∈ zw := zw_in (List.mem_of_getElem? (i := 389) (by decide +kernel)) (by decide +kernel)
theorem wi_901 : Cond.code yX7_slotOf cX7_slotOf 4 (some .int) ∈ zw := zw_in (List.mem_of_getElem? (i := 901) (by decide +kernel)) (by decide +kernel)
theorem wi_898 : Cond.methodLink RX7 159 yX7_slotOf ∈ zw := zw_in (List.mem_of_getElem? (i := 898) (by decide +kernel)) (by decide +kernel)
theorem wi_900 : Cond.instanceMethod yX7_slotOf ∈ zw := zw_in (List.mem_of_getElem? (i := 900) (by decide +kernel)) (by decide +kernel)
theorem wi_11 : Cond.selects RX7 yX7_slotOf yX7_slotOf ∈ zw := zw_in (List.mem_of_getElem? (i := 11) (by decide +kernel)) (by decide +kernel)
theorem wi_793 : Cond.code yX7_failMany cX7_failMany 2 none ∈ zw := zw_in (List.mem_of_getElem? (i := 793) (by decide +kernel)) (by decide +kernel)
theorem wi_790 : Cond.methodLink RX7 124 yX7_failMany ∈ zw := zw_in (List.mem_of_getElem? (i := 790) (by decide +kernel)) (by decide +kernel)
theorem wi_792 : Cond.instanceMethod yX7_failMany ∈ zw := zw_in (List.mem_of_getElem? (i := 792) (by decide +kernel)) (by decide +kernel)
theorem wi_4 : Cond.selects RX7 yX7_failMany yX7_failMany ∈ zw := zw_in (List.mem_of_getElem? (i := 4) (by decide +kernel)) (by decide +kernel)
theorem wi_323 : Cond.fieldLink RX7 115 "ReuseHouse$Program" "functions" "LReuseHouse$Functions;" ∈ zw := zw_in (List.mem_of_getElem? (i := 323) (by decide +kernel)) (by decide +kernel)
theorem wi_394 : Cond.fieldLink RX7 44 "ReuseHouse$Parser" "function" "I" ∈ zw := zw_in (List.mem_of_getElem? (i := 394) (by decide +kernel)) (by decide +kernel)
theorem wi_909 : Cond.code yX3_fact cX3_fact 3 (some .int) ∈ zw := zw_in (List.mem_of_getElem? (i := 909) (by decide +kernel)) (by decide +kernel)
theorem wi_906 : Cond.methodLink RX7 162 yX3_fact ∈ zw := zw_in (List.mem_of_getElem? (i := 906) (by decide +kernel)) (by decide +kernel)
theorem wi_907 : Cond.instanceMethod yX3_fact ∈ zw := zw_in (List.mem_of_getElem? (i := 907) (by decide +kernel)) (by decide +kernel)
theorem wi_908 : Cond.selects RX3 yX3_fact yX3_fact ∈ zw := zw_in (List.mem_of_getElem? (i := 908) (by decide +kernel)) (by decide +kernel)
theorem wi_917 : Cond.code yX3_oneMore cX3_oneMore 3 none ∈ zw := zw_in (List.mem_of_getElem? (i := 917) (by decide +kernel)) (by decide +kernel)
theorem wi_914 : Cond.methodLink RX7 156 yX3_oneMore ∈ zw := zw_in (List.mem_of_getElem? (i := 914) (by decide +kernel)) (by decide +kernel)
theorem wi_915 : Cond.instanceMethod yX3_oneMore ∈ zw := zw_in (List.mem_of_getElem? (i := 915) (by decide +kernel)) (by decide +kernel)
theorem wi_916 : Cond.selects RX3 yX3_oneMore yX3_oneMore ∈ zw := zw_in (List.mem_of_getElem? (i := 916) (by decide +kernel)) (by decide +kernel)
theorem wi_965 : Cond.code yX4_add cX4_add 3 (some .int) ∈ zw := zw_in (List.mem_of_getElem? (i := 965) (by decide +kernel)) (by decide +kernel)
theorem wi_962 : Cond.methodLink RX7 241 yX4_add ∈ zw := zw_in (List.mem_of_getElem? (i := 962) (by decide +kernel)) (by decide +kernel)
theorem wi_963 : Cond.instanceMethod yX4_add ∈ zw := zw_in (List.mem_of_getElem? (i := 963) (by decide +kernel)) (by decide +kernel)
theorem wi_964 : Cond.selects RX4 yX4_add yX4_add ∈ zw := zw_in (List.mem_of_getElem? (i := 964) (by decide +kernel)) (by decide +kernel)
theorem wi_275 : Cond.fieldLink RX7 240 "ReuseHouse$Kinds" "size" "I" ∈ zw := zw_in (List.mem_of_getElem? (i := 275) (by decide +kernel)) (by decide +kernel)
theorem wi_272 : Cond.fieldLink RX7 242 "ReuseHouse$Kinds" "fields" "[I" ∈ zw := zw_in (List.mem_of_getElem? (i := 272) (by decide +kernel)) (by decide +kernel)
theorem dX7_expect_0 : decode cX7_expect 0 = .ok (.aload_n 0, 1) := by decide +kernel
theorem dX7_expect_1 : decode cX7_expect 1 = .ok (.getfield 12, 3) := by decide +kernel
theorem dX7_expect_4 : decode cX7_expect 4 = .ok (.getfield 60, 3) := by decide +kernel
theorem dX7_expect_7 : decode cX7_expect 7 = .ok (.iload_n 1, 1) := by decide +kernel
theorem dX7_expect_8 : decode cX7_expect 8 = .ok (.if_icmp .eq 7, 3) := by decide +kernel
theorem dX7_expect_11 : decode cX7_expect 11 = .ok (.aload_n 0, 1) := by decide +kernel
theorem dX7_expect_12 : decode cX7_expect 12 = .ok (.invokevirtual 109, 3) := by decide +kernel
theorem dX7_expect_15 : decode cX7_expect 15 = .ok (.aload_n 0, 1) := by decide +kernel
theorem dX7_expect_16 : decode cX7_expect 16 = .ok (.getfield 12, 3) := by decide +kernel
theorem dX7_expect_19 : decode cX7_expect 19 = .ok (.invokevirtual 112, 3) := by decide +kernel
theorem dX7_expect_22 : decode cX7_expect 22 = .ok (.return_, 1) := by decide +kernel
theorem dX7_failMany_0 : decode cX7_failMany 0 = .ok (.aload_n 0, 1) := by decide +kernel
theorem dX7_failMany_1 : decode cX7_failMany 1 = .ok (.getfield 12, 3) := by decide +kernel
theorem dX7_failMany_4 : decode cX7_failMany 4 = .ok (.getfield 60, 3) := by decide +kernel
theorem dX7_failMany_7 : decode cX7_failMany 7 = .ok (.sipush 259, 3) := by decide +kernel
theorem dX7_failMany_10 : decode cX7_failMany 10 = .ok (.if_icmp .ne 62, 3) := by decide +kernel
theorem dX7_failMany_13 : decode cX7_failMany 13 = .ok (.aload_n 0, 1) := by decide +kernel
theorem dX7_failMany_14 : decode cX7_failMany 14 = .ok (.getfield 12, 3) := by decide +kernel
theorem dX7_failMany_17 : decode cX7_failMany 17 = .ok (.invokevirtual 87, 3) := by decide +kernel
theorem dX7_failMany_20 : decode cX7_failMany 20 = .ok (.ifCond .ne 52, 3) := by decide +kernel
theorem dX7_failMany_23 : decode cX7_failMany 23 = .ok (.aload_n 0, 1) := by decide +kernel
theorem dX7_failMany_24 : decode cX7_failMany 24 = .ok (.getfield 40, 3) := by decide +kernel
theorem dX7_failMany_27 : decode cX7_failMany 27 = .ok (.getfield 91, 3) := by decide +kernel
theorem dX7_failMany_30 : decode cX7_failMany 30 = .ok (.aload_n 0, 1) := by decide +kernel
theorem dX7_failMany_31 : decode cX7_failMany 31 = .ok (.getfield 12, 3) := by decide +kernel
theorem dX7_failMany_34 : decode cX7_failMany 34 = .ok (.getfield 95, 3) := by decide +kernel
theorem dX7_failMany_37 : decode cX7_failMany 37 = .ok (.invokevirtual 99, 3) := by decide +kernel
theorem dX7_failMany_40 : decode cX7_failMany 40 = .ok (.istore_n 1, 1) := by decide +kernel
theorem dX7_failMany_41 : decode cX7_failMany 41 = .ok (.iload_n 1, 1) := by decide +kernel
theorem dX7_failMany_42 : decode cX7_failMany 42 = .ok (.iconst (-1), 1) := by decide +kernel
theorem dX7_failMany_43 : decode cX7_failMany 43 = .ok (.if_icmp .eq 29, 3) := by decide +kernel
theorem dX7_failMany_46 : decode cX7_failMany 46 = .ok (.aload_n 0, 1) := by decide +kernel
theorem dX7_failMany_47 : decode cX7_failMany 47 = .ok (.getfield 40, 3) := by decide +kernel
theorem dX7_failMany_50 : decode cX7_failMany 50 = .ok (.getfield 91, 3) := by decide +kernel
theorem dX7_failMany_53 : decode cX7_failMany 53 = .ok (.iload_n 1, 1) := by decide +kernel
theorem dX7_failMany_54 : decode cX7_failMany 54 = .ok (.invokevirtual 105, 3) := by decide +kernel
theorem dX7_failMany_57 : decode cX7_failMany 57 = .ok (.ifCond .le 15, 3) := by decide +kernel
theorem dX7_failMany_60 : decode cX7_failMany 60 = .ok (.aload_n 0, 1) := by decide +kernel
theorem dX7_failMany_61 : decode cX7_failMany 61 = .ok (.iconst 4, 1) := by decide +kernel
theorem dX7_failMany_62 : decode cX7_failMany 62 = .ok (.aload_n 0, 1) := by decide +kernel
theorem dX7_failMany_63 : decode cX7_failMany 63 = .ok (.getfield 12, 3) := by decide +kernel
theorem dX7_failMany_66 : decode cX7_failMany 66 = .ok (.getfield 80, 3) := by decide +kernel
theorem dX7_failMany_69 : decode cX7_failMany 69 = .ok (.invokevirtual 83, 3) := by decide +kernel
theorem dX7_failMany_72 : decode cX7_failMany 72 = .ok (.aload_n 0, 1) := by decide +kernel
theorem dX7_failMany_73 : decode cX7_failMany 73 = .ok (.iconst 5, 1) := by decide +kernel
theorem dX7_failMany_74 : decode cX7_failMany 74 = .ok (.aload_n 0, 1) := by decide +kernel
theorem dX7_failMany_75 : decode cX7_failMany 75 = .ok (.getfield 12, 3) := by decide +kernel
theorem dX7_failMany_78 : decode cX7_failMany 78 = .ok (.getfield 80, 3) := by decide +kernel
theorem dX7_failMany_81 : decode cX7_failMany 81 = .ok (.invokevirtual 83, 3) := by decide +kernel
theorem dX7_kindAtHand_0 : decode cX7_kindAtHand 0 = .ok (.aload_n 0, 1) := by decide +kernel
theorem dX7_kindAtHand_1 : decode cX7_kindAtHand 1 = .ok (.getfield 40, 3) := by decide +kernel
theorem dX7_kindAtHand_4 : decode cX7_kindAtHand 4 = .ok (.getfield 91, 3) := by decide +kernel
theorem dX7_kindAtHand_7 : decode cX7_kindAtHand 7 = .ok (.aload_n 0, 1) := by decide +kernel
theorem dX7_kindAtHand_8 : decode cX7_kindAtHand 8 = .ok (.getfield 12, 3) := by decide +kernel
theorem dX7_kindAtHand_11 : decode cX7_kindAtHand 11 = .ok (.getfield 95, 3) := by decide +kernel
theorem dX7_kindAtHand_14 : decode cX7_kindAtHand 14 = .ok (.invokevirtual 99, 3) := by decide +kernel
theorem dX7_kindAtHand_17 : decode cX7_kindAtHand 17 = .ok (.istore_n 1, 1) := by decide +kernel
theorem dX7_kindAtHand_18 : decode cX7_kindAtHand 18 = .ok (.iload_n 1, 1) := by decide +kernel
theorem dX7_kindAtHand_19 : decode cX7_kindAtHand 19 = .ok (.iconst (-1), 1) := by decide +kernel
theorem dX7_kindAtHand_20 : decode cX7_kindAtHand 20 = .ok (.if_icmp .ne 22, 3) := by decide +kernel
theorem dX7_kindAtHand_23 : decode cX7_kindAtHand 23 = .ok (.aload_n 0, 1) := by decide +kernel
theorem dX7_kindAtHand_24 : decode cX7_kindAtHand 24 = .ok (.getfield 40, 3) := by decide +kernel
theorem dX7_kindAtHand_27 : decode cX7_kindAtHand 27 = .ok (.getfield 91, 3) := by decide +kernel
theorem dX7_kindAtHand_30 : decode cX7_kindAtHand 30 = .ok (.getfield 240, 3) := by decide +kernel
theorem dX7_kindAtHand_33 : decode cX7_kindAtHand 33 = .ok (.bipush 20, 2) := by decide +kernel
theorem dX7_kindAtHand_35 : decode cX7_kindAtHand 35 = .ok (.if_icmp .lt 7, 3) := by decide +kernel
theorem dX7_kindAtHand_38 : decode cX7_kindAtHand 38 = .ok (.aload_n 0, 1) := by decide +kernel
theorem dX7_kindAtHand_39 : decode cX7_kindAtHand 39 = .ok (.invokevirtual 124, 3) := by decide +kernel
theorem dX7_kindAtHand_42 : decode cX7_kindAtHand 42 = .ok (.iload_n 1, 1) := by decide +kernel
theorem dX7_kindAtHand_43 : decode cX7_kindAtHand 43 = .ok (.iconst (-1), 1) := by decide +kernel
theorem dX7_kindAtHand_44 : decode cX7_kindAtHand 44 = .ok (.if_icmp .ne 23, 3) := by decide +kernel
theorem dX7_kindAtHand_47 : decode cX7_kindAtHand 47 = .ok (.aload_n 0, 1) := by decide +kernel
theorem dX7_kindAtHand_48 : decode cX7_kindAtHand 48 = .ok (.getfield 40, 3) := by decide +kernel
theorem dX7_kindAtHand_51 : decode cX7_kindAtHand 51 = .ok (.getfield 91, 3) := by decide +kernel
theorem dX7_kindAtHand_54 : decode cX7_kindAtHand 54 = .ok (.aload_n 0, 1) := by decide +kernel
theorem dX7_kindAtHand_55 : decode cX7_kindAtHand 55 = .ok (.getfield 12, 3) := by decide +kernel
theorem dX7_kindAtHand_58 : decode cX7_kindAtHand 58 = .ok (.getfield 95, 3) := by decide +kernel
theorem dX7_kindAtHand_61 : decode cX7_kindAtHand 61 = .ok (.invokevirtual 241, 3) := by decide +kernel
theorem dX7_kindAtHand_64 : decode cX7_kindAtHand 64 = .ok (.goto 4, 3) := by decide +kernel
theorem dX7_kindAtHand_67 : decode cX7_kindAtHand 67 = .ok (.iload_n 1, 1) := by decide +kernel
theorem dX7_kindAtHand_68 : decode cX7_kindAtHand 68 = .ok (.ireturn, 1) := by decide +kernel
theorem dX7_mustBeginExpression_0 : decode cX7_mustBeginExpression 0 = .ok (.aload_n 0, 1) := by decide +kernel
theorem dX7_mustBeginExpression_1 : decode cX7_mustBeginExpression 1 = .ok (.getfield 12, 3) := by decide +kernel
theorem dX7_mustBeginExpression_4 : decode cX7_mustBeginExpression 4 = .ok (.getfield 60, 3) := by decide +kernel
theorem dX7_mustBeginExpression_7 : decode cX7_mustBeginExpression 7 = .ok (.lookupswitch 66 #[(40, 65), (258, 65), (259, 65), (260, 65), (262, 65), (264, 65), (267, 65)], 65) := by decide +kernel
theorem dX7_mustBeginExpression_72 : decode cX7_mustBeginExpression 72 = .ok (.return_, 1) := by decide +kernel
theorem dX7_mustBeginExpression_73 : decode cX7_mustBeginExpression 73 = .ok (.aload_n 0, 1) := by decide +kernel
theorem dX7_mustBeginExpression_74 : decode cX7_mustBeginExpression 74 = .ok (.invokevirtual 109, 3) := by decide +kernel
theorem dX7_newName_0 : decode cX7_newName 0 = .ok (.aload_n 0, 1) := by decide +kernel
theorem dX7_newName_1 : decode cX7_newName 1 = .ok (.getfield 12, 3) := by decide +kernel
theorem dX7_newName_4 : decode cX7_newName 4 = .ok (.getfield 60, 3) := by decide +kernel
theorem dX7_newName_7 : decode cX7_newName 7 = .ok (.sipush 258, 3) := by decide +kernel
theorem dX7_newName_10 : decode cX7_newName 10 = .ok (.if_icmp .eq 7, 3) := by decide +kernel
theorem dX7_newName_13 : decode cX7_newName 13 = .ok (.aload_n 0, 1) := by decide +kernel
theorem dX7_newName_14 : decode cX7_newName 14 = .ok (.invokevirtual 109, 3) := by decide +kernel
theorem dX7_newName_17 : decode cX7_newName 17 = .ok (.aload_n 0, 1) := by decide +kernel
theorem dX7_newName_18 : decode cX7_newName 18 = .ok (.aload_n 0, 1) := by decide +kernel
theorem dX7_newName_19 : decode cX7_newName 19 = .ok (.getfield 12, 3) := by decide +kernel
theorem dX7_newName_22 : decode cX7_newName 22 = .ok (.getfield 95, 3) := by decide +kernel
theorem dX7_newName_25 : decode cX7_newName 25 = .ok (.invokevirtual 159, 3) := by decide +kernel
theorem dX7_newName_28 : decode cX7_newName 28 = .ok (.iconst (-1), 1) := by decide +kernel
theorem dX7_newName_29 : decode cX7_newName 29 = .ok (.if_icmp .eq 15, 3) := by decide +kernel
theorem dX7_newName_32 : decode cX7_newName 32 = .ok (.aload_n 0, 1) := by decide +kernel
theorem dX7_newName_33 : decode cX7_newName 33 = .ok (.iconst 3, 1) := by decide +kernel
theorem dX7_newName_34 : decode cX7_newName 34 = .ok (.aload_n 0, 1) := by decide +kernel
theorem dX7_newName_35 : decode cX7_newName 35 = .ok (.getfield 12, 3) := by decide +kernel
theorem dX7_newName_38 : decode cX7_newName 38 = .ok (.getfield 80, 3) := by decide +kernel
theorem dX7_newName_41 : decode cX7_newName 41 = .ok (.invokevirtual 83, 3) := by decide +kernel
theorem dX7_newName_44 : decode cX7_newName 44 = .ok (.aload_n 0, 1) := by decide +kernel
theorem dX7_newName_45 : decode cX7_newName 45 = .ok (.getfield 29, 3) := by decide +kernel
theorem dX7_newName_48 : decode cX7_newName 48 = .ok (.bipush 24, 2) := by decide +kernel
theorem dX7_newName_50 : decode cX7_newName 50 = .ok (.if_icmp .lt 7, 3) := by decide +kernel
theorem dX7_newName_53 : decode cX7_newName 53 = .ok (.aload_n 0, 1) := by decide +kernel
theorem dX7_newName_54 : decode cX7_newName 54 = .ok (.invokevirtual 124, 3) := by decide +kernel
theorem dX7_newName_57 : decode cX7_newName 57 = .ok (.return_, 1) := by decide +kernel
theorem dX7_slotOf_0 : decode cX7_slotOf 0 = .ok (.iconst 0, 1) := by decide +kernel
theorem dX7_slotOf_1 : decode cX7_slotOf 1 = .ok (.istore_n 3, 1) := by decide +kernel
theorem dX7_slotOf_2 : decode cX7_slotOf 2 = .ok (.iload_n 3, 1) := by decide +kernel
theorem dX7_slotOf_3 : decode cX7_slotOf 3 = .ok (.aload_n 0, 1) := by decide +kernel
theorem dX7_slotOf_4 : decode cX7_slotOf 4 = .ok (.getfield 29, 3) := by decide +kernel
theorem dX7_slotOf_7 : decode cX7_slotOf 7 = .ok (.if_icmp .ge 22, 3) := by decide +kernel
theorem dX7_slotOf_10 : decode cX7_slotOf 10 = .ok (.aload_n 0, 1) := by decide +kernel
theorem dX7_slotOf_11 : decode cX7_slotOf 11 = .ok (.getfield 25, 3) := by decide +kernel
theorem dX7_slotOf_14 : decode cX7_slotOf 14 = .ok (.iload_n 3, 1) := by decide +kernel
theorem dX7_slotOf_15 : decode cX7_slotOf 15 = .ok (.laload, 1) := by decide +kernel
theorem dX7_slotOf_16 : decode cX7_slotOf 16 = .ok (.lload_n 1, 1) := by decide +kernel
theorem dX7_slotOf_17 : decode cX7_slotOf 17 = .ok (.lcmp, 1) := by decide +kernel
theorem dX7_slotOf_18 : decode cX7_slotOf 18 = .ok (.ifCond .ne 5, 3) := by decide +kernel
theorem dX7_slotOf_21 : decode cX7_slotOf 21 = .ok (.iload_n 3, 1) := by decide +kernel
theorem dX7_slotOf_22 : decode cX7_slotOf 22 = .ok (.ireturn, 1) := by decide +kernel
theorem dX7_slotOf_23 : decode cX7_slotOf 23 = .ok (.iinc 3 1, 3) := by decide +kernel
theorem dX7_slotOf_26 : decode cX7_slotOf 26 = .ok (.goto (-24), 3) := by decide +kernel
theorem dX7_slotOf_29 : decode cX7_slotOf 29 = .ok (.iconst (-1), 1) := by decide +kernel
theorem dX7_slotOf_30 : decode cX7_slotOf 30 = .ok (.ireturn, 1) := by decide +kernel
theorem dX7_tell_0 : decode cX7_tell 0 = .ok (.aload_n 0, 1) := by decide +kernel
theorem dX7_tell_1 : decode cX7_tell 1 = .ok (.getfield 29, 3) := by decide +kernel
theorem dX7_tell_4 : decode cX7_tell 4 = .ok (.bipush 24, 2) := by decide +kernel
theorem dX7_tell_6 : decode cX7_tell 6 = .ok (.if_icmp .lt 6, 3) := by decide +kernel
theorem dX7_tell_12 : decode cX7_tell 12 = .ok (.aload_n 0, 1) := by decide +kernel
theorem dX7_tell_13 : decode cX7_tell 13 = .ok (.getfield 25, 3) := by decide +kernel
theorem dX7_tell_16 : decode cX7_tell 16 = .ok (.aload_n 0, 1) := by decide +kernel
theorem dX7_tell_17 : decode cX7_tell 17 = .ok (.getfield 29, 3) := by decide +kernel
theorem dX7_tell_20 : decode cX7_tell 20 = .ok (.lload_n 1, 1) := by decide +kernel
theorem dX7_tell_21 : decode cX7_tell 21 = .ok (.lastore, 1) := by decide +kernel
theorem dX7_tell_22 : decode cX7_tell 22 = .ok (.aload_n 0, 1) := by decide +kernel
theorem dX7_tell_23 : decode cX7_tell 23 = .ok (.dup, 1) := by decide +kernel
theorem dX7_tell_24 : decode cX7_tell 24 = .ok (.getfield 29, 3) := by decide +kernel
theorem dX7_tell_27 : decode cX7_tell 27 = .ok (.iconst 1, 1) := by decide +kernel
theorem dX7_tell_28 : decode cX7_tell 28 = .ok (.iadd, 1) := by decide +kernel
theorem dX7_tell_29 : decode cX7_tell 29 = .ok (.putfield 29, 3) := by decide +kernel
theorem dX7_tell_32 : decode cX7_tell 32 = .ok (.aload_n 0, 1) := by decide +kernel
theorem dX7_tell_33 : decode cX7_tell 33 = .ok (.getfield 29, 3) := by decide +kernel
theorem dX7_tell_36 : decode cX7_tell 36 = .ok (.aload_n 0, 1) := by decide +kernel
theorem dX7_tell_37 : decode cX7_tell 37 = .ok (.getfield 40, 3) := by decide +kernel
theorem dX7_tell_40 : decode cX7_tell 40 = .ok (.getfield 115, 3) := by decide +kernel
theorem dX7_tell_43 : decode cX7_tell 43 = .ok (.aload_n 0, 1) := by decide +kernel
theorem dX7_tell_44 : decode cX7_tell 44 = .ok (.getfield 44, 3) := by decide +kernel
theorem dX7_tell_47 : decode cX7_tell 47 = .ok (.iconst 1, 1) := by decide +kernel
theorem dX7_tell_48 : decode cX7_tell 48 = .ok (.invokevirtual 162, 3) := by decide +kernel
theorem dX7_tell_51 : decode cX7_tell 51 = .ok (.if_icmp .le 18, 3) := by decide +kernel
theorem dX7_tell_54 : decode cX7_tell 54 = .ok (.aload_n 0, 1) := by decide +kernel
theorem dX7_tell_55 : decode cX7_tell 55 = .ok (.getfield 40, 3) := by decide +kernel
theorem dX7_tell_58 : decode cX7_tell 58 = .ok (.getfield 115, 3) := by decide +kernel
theorem dX7_tell_61 : decode cX7_tell 61 = .ok (.aload_n 0, 1) := by decide +kernel
theorem dX7_tell_62 : decode cX7_tell 62 = .ok (.getfield 44, 3) := by decide +kernel
theorem dX7_tell_65 : decode cX7_tell 65 = .ok (.iconst 1, 1) := by decide +kernel
theorem dX7_tell_66 : decode cX7_tell 66 = .ok (.invokevirtual 156, 3) := by decide +kernel
theorem dX7_tell_69 : decode cX7_tell 69 = .ok (.aload_n 0, 1) := by decide +kernel
theorem dX7_tell_70 : decode cX7_tell 70 = .ok (.getfield 29, 3) := by decide +kernel
theorem dX7_tell_73 : decode cX7_tell 73 = .ok (.iconst 1, 1) := by decide +kernel
theorem dX7_tell_74 : decode cX7_tell 74 = .ok (.isub, 1) := by decide +kernel
theorem dX7_tell_75 : decode cX7_tell 75 = .ok (.ireturn, 1) := by decide +kernel
theorem dX7_toldToEnd_0 : decode cX7_toldToEnd 0 = .ok (.aload_n 0, 1) := by decide +kernel
theorem dX7_toldToEnd_1 : decode cX7_toldToEnd 1 = .ok (.getfield 40, 3) := by decide +kernel
theorem dX7_toldToEnd_4 : decode cX7_toldToEnd 4 = .ok (.getfield 91, 3) := by decide +kernel
theorem dX7_toldToEnd_7 : decode cX7_toldToEnd 7 = .ok (.getfield 242, 3) := by decide +kernel
theorem dX7_toldToEnd_10 : decode cX7_toldToEnd 10 = .ok (.iload_n 1, 1) := by decide +kernel
theorem dX7_toldToEnd_11 : decode cX7_toldToEnd 11 = .ok (.iaload, 1) := by decide +kernel
theorem dX7_toldToEnd_12 : decode cX7_toldToEnd 12 = .ok (.iconst (-1), 1) := by decide +kernel
theorem dX7_toldToEnd_13 : decode cX7_toldToEnd 13 = .ok (.if_icmp .ne 19, 3) := by decide +kernel
theorem dX7_toldToEnd_16 : decode cX7_toldToEnd 16 = .ok (.aload_n 0, 1) := by decide +kernel
theorem dX7_toldToEnd_17 : decode cX7_toldToEnd 17 = .ok (.getfield 40, 3) := by decide +kernel
theorem dX7_toldToEnd_20 : decode cX7_toldToEnd 20 = .ok (.getfield 91, 3) := by decide +kernel
theorem dX7_toldToEnd_23 : decode cX7_toldToEnd 23 = .ok (.getfield 242, 3) := by decide +kernel
theorem dX7_toldToEnd_26 : decode cX7_toldToEnd 26 = .ok (.iload_n 1, 1) := by decide +kernel
theorem dX7_toldToEnd_27 : decode cX7_toldToEnd 27 = .ok (.iload_n 2, 1) := by decide +kernel
theorem dX7_toldToEnd_28 : decode cX7_toldToEnd 28 = .ok (.iastore, 1) := by decide +kernel
theorem dX7_toldToEnd_29 : decode cX7_toldToEnd 29 = .ok (.goto 25, 3) := by decide +kernel
theorem dX7_toldToEnd_32 : decode cX7_toldToEnd 32 = .ok (.aload_n 0, 1) := by decide +kernel
theorem dX7_toldToEnd_33 : decode cX7_toldToEnd 33 = .ok (.getfield 40, 3) := by decide +kernel
theorem dX7_toldToEnd_36 : decode cX7_toldToEnd 36 = .ok (.getfield 91, 3) := by decide +kernel
theorem dX7_toldToEnd_39 : decode cX7_toldToEnd 39 = .ok (.getfield 242, 3) := by decide +kernel
theorem dX7_toldToEnd_42 : decode cX7_toldToEnd 42 = .ok (.iload_n 1, 1) := by decide +kernel
theorem dX7_toldToEnd_43 : decode cX7_toldToEnd 43 = .ok (.iaload, 1) := by decide +kernel
theorem dX7_toldToEnd_44 : decode cX7_toldToEnd 44 = .ok (.iload_n 2, 1) := by decide +kernel
theorem dX7_toldToEnd_45 : decode cX7_toldToEnd 45 = .ok (.if_icmp .eq 9, 3) := by decide +kernel
theorem dX7_toldToEnd_48 : decode cX7_toldToEnd 48 = .ok (.aload_n 0, 1) := by decide +kernel
theorem dX7_toldToEnd_49 : decode cX7_toldToEnd 49 = .ok (.iconst 4, 1) := by decide +kernel
theorem dX7_toldToEnd_50 : decode cX7_toldToEnd 50 = .ok (.iload_n 3, 1) := by decide +kernel
theorem dX7_toldToEnd_51 : decode cX7_toldToEnd 51 = .ok (.invokevirtual 83, 3) := by decide +kernel
theorem dX7_toldToEnd_54 : decode cX7_toldToEnd 54 = .ok (.return_, 1) := by decide +kernel
set_option maxHeartbeats 4000000 in
set_option maxRecDepth 100000 in
theorem c_X7_failMany (l : Launch) (dC : Nat → ClassId) (dI : Nat → Nat → Nat) (aK aV : Nat → Nat) (h0 : Nat) (ptok : Nat) (pnee : Nat) (pnam : Nat) (pbui : Nat) (pdra : Nat) (ar : Int32) (fu : Int32) (fn : Int32) (fp : Int32) (ts : Nat) (tp : Nat) (tw : Nat) (t1 : ClassId) (t2 : ClassId) (t3 : ClassId) (z : Int32) (pa : Int32) (so : Int32) (pl : Int32) (wd : Int64) (gs : Nat → Int32) (gp : Nat → Int32) (gw : Nat → Int64) (gco : Nat) (gar : Nat) (gki : Nat) (gfu : Nat) (kw : Nat) (kf : Nat) (k1 : ClassId) (k2 : ClassId) (kz : Int32) (kgw : Nat → Int64) (kgf : Nat → Int32) (sz : Nat) (hlt : l.stackTraces = false) (hz0 : 0 ≤ z.toInt) (hz1 : z.toInt ≤ 2000) (ha0 : -1 ≤ pa.toInt) (ha1 : pa.toInt ≤ z.toInt) (hgz : gs (Int32.toNatClampNeg z) = 256) (hk0 : 0 ≤ kz.toInt) (hk1 : kz.toInt ≤ 20) (hkf : zx 4 kgf) : vy_Met l yX7_failMany (Cond.code yX7_failMany cX7_failMany 2 none :: zw) ({ frames := 14, cells := 1, slots := 6, locals := 500 }) (va_Pc [.ref h0] (zP dC dI aK aV sz [(t1, .int), (t2, .int), (t3, .long), (k1, .long), (k2, .int)] [(h0, .inr (7, [.ref ptok, .ref pnee, .ref pnam, .int ar, .ref pbui, .ref pdra, .int fu, .int fn, .int fp])), (ptok, .inr (10, [.ref ts, .ref tp, .ref tw, .int z, .int pa, .int so, .int pl, .long wd])), (ts, .inl (t1, 2001, .inl gs)), (tp, .inl (t2, 2001, .inl gp)), (tw, .inl (t3, 2001, .inr (.inl gw))), (pdra, .inr (9, [.ref gco, .ref gar, .ref gki, .ref gfu])), (gki, .inr (4, [.ref kw, .ref kf, .int kz])), (kw, .inl (k1, 20, .inr (.inl kgw))), (kf, .inl (k2, 20, .inl kgf))])) (va_Qv (fun u : Unit => (False)) (fun u => zQ dC dI (va_A [(h0, .inr (7, [.ref ptok, .ref pnee, .ref pnam, .int ar, .ref pbui, .ref pdra, .int fu, .int fn, .int fp])), (ptok, .inr (10, [.ref ts, .ref tp, .ref tw, .int z, .int pa, .int so, .int pl, .long wd])), (ts, .inl (t1, 2001, .inl gs)), (tp, .inl (t2, 2001, .inl gp)), (tw, .inl (t3, 2001, .inr (.inl gw))), (pdra, .inr (9, [.ref gco, .ref gar, .ref gki, .ref gfu])), (gki, .inr (4, [.ref kw, .ref kf, .int kz])), (kw, .inl (k1, 20, .inr (.inl kgw))), (kf, .inl (k2, 20, .inl kgf))] sz) [] []) (va_A [(h0, .inr (7, [.ref ptok, .ref pnee, .ref pnam, .int ar, .ref pbui, .ref pdra, .int fu, .int fn, .int fp])), (ptok, .inr (10, [.ref ts, .ref tp, .ref tw, .int z, .int pa, .int so, .int pl, .long wd])), (ts, .inl (t1, 2001, .inl gs)), (tp, .inl (t2, 2001, .inl gp)), (tw, .inl (t3, 2001, .inr (.inl gw))), (pdra, .inr (9, [.ref gco, .ref gar, .ref gki, .ref gfu])), (gki, .inr (4, [.ref kw, .ref kf, .int kz])), (kw, .inl (k1, 20, .inr (.inl kgw))), (kf, .inl (k2, 20, .inl kgf))] sz)) (vx_X (fun u : Int32 × Int32 => match u with | (fn2, fp2) => (fp2.toInt = pl.toInt)) (fun E u t => E = "java/lang/IllegalStateException" ∧ (match u with | (fn2, fp2) => zQ dC dI (va_A [(h0, .inr (7, [.ref ptok, .ref pnee, .ref pnam, .int ar, .ref pbui, .ref pdra, .int fu, .int fn, .int fp])), (ptok, .inr (10, [.ref ts, .ref tp, .ref tw, .int z, .int pa, .int so, .int pl, .long wd])), (ts, .inl (t1, 2001, .inl gs)), (tp, .inl (t2, 2001, .inl gp)), (tw, .inl (t3, 2001, .inr (.inl gw))), (pdra, .inr (9, [.ref gco, .ref gar, .ref gki, .ref gfu])), (gki, .inr (4, [.ref kw, .ref kf, .int kz])), (kw, .inl (k1, 20, .inr (.inl kgw))), (kf, .inl (k2, 20, .inl kgf))] sz) [(t1, .int), (t2, .int), (t3, .long), (k1, .long), (k2, .int)] [(h0, .inr (7, [.ref ptok, .ref pnee, .ref pnam, .int ar, .ref pbui, .ref pdra, .int fu, .int fn2, .int fp2])), (ptok, .inr (10, [.ref ts, .ref tp, .ref tw, .int z, .int pa, .int so, .int pl, .long wd])), (ts, .inl (t1, 2001, .inl gs)), (tp, .inl (t2, 2001, .inl gp)), (tw, .inl (t3, 2001, .inr (.inl gw))), (pdra, .inr (9, [.ref gco, .ref gar, .ref gki, .ref gfu])), (gki, .inr (4, [.ref kw, .ref kf, .int kz])), (kw, .inl (k1, 20, .inr (.inl kgw))), (kf, .inl (k2, 20, .inl kgf))] t)) (va_A [(h0, .inr (7, [.ref ptok, .ref pnee, .ref pnam, .int ar, .ref pbui, .ref pdra, .int fu, .int fn, .int fp])), (ptok, .inr (10, [.ref ts, .ref tp, .ref tw, .int z, .int pa, .int so, .int pl, .long wd])), (ts, .inl (t1, 2001, .inl gs)), (tp, .inl (t2, 2001, .inl gp)), (tw, .inl (t3, 2001, .inr (.inl gw))), (pdra, .inr (9, [.ref gco, .ref gar, .ref gki, .ref gfu])), (gki, .inr (4, [.ref kw, .ref kf, .int kz])), (kw, .inl (k1, 20, .inr (.inl kgw))), (kf, .inl (k2, 20, .inl kgf))] sz)) 0 0 1 6 (va_A [(h0, .inr (7, [.ref ptok, .ref pnee, .ref pnam, .int ar, .ref pbui, .ref pdra, .int fu, .int fn, .int fp])), (ptok, .inr (10, [.ref ts, .ref tp, .ref tw, .int z, .int pa, .int so, .int pl, .long wd])), (ts, .inl (t1, 2001, .inl gs)), (tp, .inl (t2, 2001, .inl gp)), (tw, .inl (t3, 2001, .inr (.inl gw))), (pdra, .inr (9, [.ref gco, .ref gar, .ref gki, .ref gfu])), (gki, .inr (4, [.ref kw, .ref kf, .int kz])), (kw, .inl (k1, 20, .inr (.inl kgw))), (kf, .inl (k2, 20, .inl kgf))] sz) := by
  refine vy_ofW (cc := cX7_failMany) (maxL := 2) (ret := none) (by decide) rfl ?_
  intro p e s m args below meth c s₁ B hml hnh hv
  obtain ⟨rfl, hsz, hP, hK, hD0, hN, hT⟩ := hv
  have hx := B.exec
  have hb := B.bytes
  have hr := B.returns
  have hts := atoms_spec (ws := Cond.code yX7_failMany cX7_failMany 2 none :: zw) B.pre
  have hA : ∀ w ∈ zw, w.before _ s = true := fun w h => hts w (List.mem_cons_of_mem _ h)
  have hown : s.vm.findClass RX7 = some m.cls := findClass_of_methodNamed B.named
  have hlocks := B.notSynchronized
  subst hsz
  have hD := hD0.self (sz := s.heap.size)
  generalize hAe : va_A [(h0, .inr (7, [.ref ptok, .ref pnee, .ref pnam, .int ar, .ref pbui, .ref pdra, .int fu, .int fn, .int fp])), (ptok, .inr (10, [.ref ts, .ref tp, .ref tw, .int z, .int pa, .int so, .int pl, .long wd])), (ts, .inl (t1, 2001, .inl gs)), (tp, .inl (t2, 2001, .inl gp)), (tw, .inl (t3, 2001, .inr (.inl gw))), (pdra, .inr (9, [.ref gco, .ref gar, .ref gki, .ref gfu])), (gki, .inr (4, [.ref kw, .ref kf, .int kz])), (kw, .inl (k1, 20, .inr (.inl kgw))), (kf, .inl (k2, 20, .inl kgf))] s.heap.size = A at hD hT ⊢
  have hAA : ∀ q : Nat, s.heap.size ≤ q → A q := fun q h => by rw [← hAe]; exact Or.inr h
  have hS : va_S A s.heap s.heap [] := va_S.rf
  have hl := lv_entry ([.ref h0]) (n := 2) (Nat.le_of_ble_eq_true rfl)
  rw [lg_entry_eq]
  generalize (lg_sl ([.ref h0]) ++ List.replicate (2 - (lg_sl ([.ref h0])).length) Slot.unset).toArray = ls at hl ⊢
  have hl : lv_has ls 2 [(0, .ref h0)] := hl
  refine lv_aload_n hx hb dX7_failMany_0 rfl (lv_at hl 0 rfl) ?_
  refine va_get (D := (dC, dI)) (ci := 7) (v := .ref ptok) (C := RX7) (T := TX7) (N := 9) hx hb hA zin_X7 hown hK hP 0 rfl rfl 0 (by decide) (hA _ wi_387) (fun _ h9 => h9) rfl dX7_failMany_1 ?_
  refine va_get (D := (dC, dI)) (ci := 10) (v := .int so) (C := RX10) (T := TX10) (N := 8) hx hb hA zin_X10 hown hK hP 1 rfl rfl 5 (by decide) (hA _ wi_353) (fun _ h9 => h9) rfl dX7_failMany_4 ?_
  refine lv_sipush (v := 259) hx hb dX7_failMany_7 (by decide) ?_
  refine lv_icmp_ne (tgt := 72) hx hb dX7_failMany_10 (by decide) (fun c_1 => ?_) (fun c_1 => ?_)
  · have ic_1 : so.toInt ≠ 259 := zi_ne c_1
    refine lv_aload_n hx hb dX7_failMany_72 rfl (lv_at hl 0 rfl) ?_
    refine lv_iconst (v := 5) hx hb dX7_failMany_73 (by decide) ?_
    refine lv_aload_n hx hb dX7_failMany_74 rfl (lv_at hl 0 rfl) ?_
    refine va_get (D := (dC, dI)) (ci := 7) (v := .ref ptok) (C := RX7) (T := TX7) (N := 9) hx hb hA zin_X7 hown hK hP 0 rfl rfl 0 (by decide) (hA _ wi_387) (fun _ h9 => h9) rfl dX7_failMany_75 ?_
    refine va_get (D := (dC, dI)) (ci := 10) (v := .int pl) (C := RX10) (T := TX10) (N := 8) hx hb hA zin_X10 hown hK hP 1 rfl rfl 6 (by decide) (hA _ wi_355) (fun _ h9 => h9) rfl dX7_failMany_78 ?_
    have hPc := hP.sub (ws' := [(h0, .inr (7, [.ref ptok, .ref pnee, .ref pnam, .int ar, .ref pbui, .ref pdra, .int fu, .int fn, .int fp]))]) [0] rfl
    have hDc := hD.sub (ws' := [(h0, .inr (7, [.ref ptok, .ref pnee, .ref pnam, .int ar, .ref pbui, .ref pdra, .int fu, .int fn, .int fp]))]) [0] (by decide) rfl
    have hKc := hK.sub (tys' := []) [] rfl
    have hFc := va_free (wc := [(h0, .inr (7, [.ref ptok, .ref pnee, .ref pnam, .int ar, .ref pbui, .ref pdra, .int fu, .int fn, .int fp]))]) hD hS hAA [0] rfl
    refine vy_callv (vy_runV (As := [.int 5, .int pl]) (rest := []) ⟨hx, hb, hml, hown, hA⟩ (c_X7_fail l dC dI aK aV h0 ptok pnee pnam pbui pdra ar fu fn fp 5 pl s.heap.size hlt) (cwV 2 hA (zw_V wi_806 wi_808 wi_5 wi_136 (zw_good wi_809)) rfl rfl rfl (by decide +kernel) ⟨(Nat.le_of_ble_eq_true rfl), (Nat.le_of_ble_eq_true rfl)⟩) ⟨zP_blind, va_recv hKc hPc (ci := 7) (q0 := 0) rfl rfl, zz_pre hKc hPc hDc hN hT hS hFc⟩ rfl rfl hl.1 rfl (lv_room (Nat.le_of_ble_eq_true rfl)) dX7_failMany_81 ⟨(Nat.le_of_ble_eq_true rfl), (Nat.le_of_ble_eq_true rfl)⟩) hS (fun q _ h => hFc q h) hFc (fun q _ h => hFc q h) (fun E9 ce9 q9 u t H1 locs ht hvm hw hB hz1 hk1 hS hcell hcv hcl => ?_) (fun u t H1 locs ht hvm hw hB hz1 hk1 hS => absurd hw id)
    obtain ⟨x_fn2_3, x_fp2_4⟩ := u
    obtain ⟨rfl, hP1, hK1, hD1⟩ := hB
    rw [ht] at hP1
    have hK1 := va_K.moved hvm.symm hK1
    obtain ⟨hP, hD⟩ := va_join (wr := [(ptok, .inr (10, [.ref ts, .ref tp, .ref tw, .int z, .int pa, .int so, .int pl, .long wd])), (ts, .inl (t1, 2001, .inl gs)), (tp, .inl (t2, 2001, .inl gp)), (tw, .inl (t3, 2001, .inr (.inl gw))), (pdra, .inr (9, [.ref gco, .ref gar, .ref gki, .ref gfu])), (gki, .inr (4, [.ref kw, .ref kf, .int kz])), (kw, .inl (k1, 20, .inr (.inl kgw))), (kf, .inl (k2, 20, .inl kgf))]) (w1 := [(h0, .inr (7, [.ref ptok, .ref pnee, .ref pnam, .int ar, .ref pbui, .ref pdra, .int fu, .int x_fn2_3, .int x_fp2_4]))]) hP hD [0] [1, 2, 3, 4, 5, 6, 7, 8] rfl rfl (by decide) (by decide) hk1 hFc hP1 hD1
    have hK := (hK.sub (tys' := [(t1, .int), (t2, .int), (t3, .long), (k1, .long), (k2, .int)]) [0, 1, 2, 3, 4] rfl).app hK1
    clear hPc hDc hFc hP1 hD1 hk1 hz1 ht hvm
    generalize H1 = H at hP hS hcell ⊢
    have hP : va_P (dC, dI) vwCl [(ptok, .inr (10, [.ref ts, .ref tp, .ref tw, .int z, .int pa, .int so, .int pl, .long wd])), (ts, .inl (t1, 2001, .inl gs)), (tp, .inl (t2, 2001, .inl gp)), (tw, .inl (t3, 2001, .inr (.inl gw))), (pdra, .inr (9, [.ref gco, .ref gar, .ref gki, .ref gfu])), (gki, .inr (4, [.ref kw, .ref kf, .int kz])), (kw, .inl (k1, 20, .inr (.inl kgw))), (kf, .inl (k2, 20, .inl kgf)), (h0, .inr (7, [.ref ptok, .ref pnee, .ref pnam, .int ar, .ref pbui, .ref pdra, .int fu, .int x_fn2_3, .int x_fp2_4]))] H := hP
    have hD : va_D A [(ptok, .inr (10, [.ref ts, .ref tp, .ref tw, .int z, .int pa, .int so, .int pl, .long wd])), (ts, .inl (t1, 2001, .inl gs)), (tp, .inl (t2, 2001, .inl gp)), (tw, .inl (t3, 2001, .inr (.inl gw))), (pdra, .inr (9, [.ref gco, .ref gar, .ref gki, .ref gfu])), (gki, .inr (4, [.ref kw, .ref kf, .int kz])), (kw, .inl (k1, 20, .inr (.inl kgw))), (kf, .inl (k2, 20, .inl kgf)), (h0, .inr (7, [.ref ptok, .ref pnee, .ref pnam, .int ar, .ref pbui, .ref pdra, .int fu, .int x_fn2_3, .int x_fp2_4]))] := hD
    have hK : va_K (dC, dI) vwCl [(t1, .int), (t2, .int), (t3, .long), (k1, .long), (k2, .int)] s := hK
    have hq_5 := hw
    try dsimp only at hq_5
    refine vx_widen (k := 1) (n := 6) (Nat.le_of_ble_eq_true rfl) (Nat.le_of_ble_eq_true rfl) ?_
    have hP9 := hP.sub (ws' := [(h0, .inr (7, [.ref ptok, .ref pnee, .ref pnam, .int ar, .ref pbui, .ref pdra, .int fu, .int x_fn2_3, .int x_fp2_4])), (ptok, .inr (10, [.ref ts, .ref tp, .ref tw, .int z, .int pa, .int so, .int pl, .long wd])), (ts, .inl (t1, 2001, .inl gs)), (tp, .inl (t2, 2001, .inl gp)), (tw, .inl (t3, 2001, .inr (.inl gw))), (pdra, .inr (9, [.ref gco, .ref gar, .ref gki, .ref gfu])), (gki, .inr (4, [.ref kw, .ref kf, .int kz])), (kw, .inl (k1, 20, .inr (.inl kgw))), (kf, .inl (k2, 20, .inl kgf))]) [8, 0, 1, 2, 3, 4, 5, 6, 7] rfl
    have hD9 := hD.sub (ws' := [(h0, .inr (7, [.ref ptok, .ref pnee, .ref pnam, .int ar, .ref pbui, .ref pdra, .int fu, .int x_fn2_3, .int x_fp2_4])), (ptok, .inr (10, [.ref ts, .ref tp, .ref tw, .int z, .int pa, .int so, .int pl, .long wd])), (ts, .inl (t1, 2001, .inl gs)), (tp, .inl (t2, 2001, .inl gp)), (tw, .inl (t3, 2001, .inr (.inl gw))), (pdra, .inr (9, [.ref gco, .ref gar, .ref gki, .ref gfu])), (gki, .inr (4, [.ref kw, .ref kf, .int kz])), (kw, .inl (k1, 20, .inr (.inl kgw))), (kf, .inl (k2, 20, .inl kgf))]) [8, 0, 1, 2, 3, 4, 5, 6, 7] (by decide) rfl
    have hK9 := hK.sub (tys' := [(t1, .int), (t2, .int), (t3, .long), (k1, .long), (k2, .int)]) [0, 1, 2, 3, 4] rfl
    exact vy_monoX vy_thr (vx_out (fun x hx => (hnh x hx).elim) hlocks hcell hcv hcl (fun t ht hvm => ⟨(x_fn2_3, x_fp2_4), (by omega), ⟨rfl, by rw [ht]; exact hP9, va_K.moved hvm hK9, hD9⟩, hS.F ht⟩) hS.2.2 (Nat.le_of_ble_eq_true rfl) (Nat.le_of_ble_eq_true rfl))
  · have ic_1 : so.toInt = 259 := zi_eq c_1
    refine lv_aload_n hx hb dX7_failMany_13 rfl (lv_at hl 0 rfl) ?_
    refine va_get (D := (dC, dI)) (ci := 7) (v := .ref ptok) (C := RX7) (T := TX7) (N := 9) hx hb hA zin_X7 hown hK hP 0 rfl rfl 0 (by decide) (hA _ wi_387) (fun _ h9 => h9) rfl dX7_failMany_14 ?_
    have hPc := hP.sub (ws' := [(ptok, .inr (10, [.ref ts, .ref tp, .ref tw, .int z, .int pa, .int so, .int pl, .long wd])), (ts, .inl (t1, 2001, .inl gs)), (tp, .inl (t2, 2001, .inl gp)), (tw, .inl (t3, 2001, .inr (.inl gw)))]) [1, 2, 3, 4] rfl
    have hDc := hD.sub (ws' := [(ptok, .inr (10, [.ref ts, .ref tp, .ref tw, .int z, .int pa, .int so, .int pl, .long wd])), (ts, .inl (t1, 2001, .inl gs)), (tp, .inl (t2, 2001, .inl gp)), (tw, .inl (t3, 2001, .inr (.inl gw)))]) [1, 2, 3, 4] (by decide) rfl
    have hKc := hK.sub (tys' := [(t1, .int), (t2, .int), (t3, .long)]) [0, 1, 2] rfl
    have hFc := va_free (wc := [(ptok, .inr (10, [.ref ts, .ref tp, .ref tw, .int z, .int pa, .int so, .int pl, .long wd])), (ts, .inl (t1, 2001, .inl gs)), (tp, .inl (t2, 2001, .inl gp)), (tw, .inl (t3, 2001, .inr (.inl gw)))]) hD hS hAA [1, 2, 3, 4] rfl
    refine va_calli (va_runV (As := []) (rest := []) ⟨hx, hb, hml, hown, hA⟩ (c_X10_opensBracketNext l dC dI aK aV ptok ts tp tw t1 t2 t3 z pa so pl wd gs gp gw s.heap.size (by omega) (by omega) (by omega) (by omega) hgz) (cwV 0 hA (zw_V wi_794 wi_795 wi_796 wi_137 (zw_good wi_797)) rfl rfl rfl (by decide +kernel) ⟨(Nat.le_of_ble_eq_true rfl), (Nat.le_of_ble_eq_true rfl)⟩) ⟨zP_blind, va_recv hKc hPc (ci := 10) (q0 := 0) rfl rfl, zz_pre hKc hPc hDc hN hT hS hFc⟩ rfl rfl hl.1 rfl (lv_room (Nat.le_of_ble_eq_true rfl)) dX7_failMany_17 ⟨(Nat.le_of_ble_eq_true rfl), (Nat.le_of_ble_eq_true rfl)⟩) hS (fun q _ h => hFc q h) hFc (fun r_6 u t H1 locs ht hvm hw hB hz1 hk1 hS => ?_)
    obtain ⟨hP1, hK1, hD1⟩ := hB
    rw [ht] at hP1
    have hK1 := va_K.moved hvm.symm hK1
    obtain ⟨hP, hD⟩ := va_join (wr := [(h0, .inr (7, [.ref ptok, .ref pnee, .ref pnam, .int ar, .ref pbui, .ref pdra, .int fu, .int fn, .int fp])), (pdra, .inr (9, [.ref gco, .ref gar, .ref gki, .ref gfu])), (gki, .inr (4, [.ref kw, .ref kf, .int kz])), (kw, .inl (k1, 20, .inr (.inl kgw))), (kf, .inl (k2, 20, .inl kgf))]) (w1 := [(ptok, .inr (10, [.ref ts, .ref tp, .ref tw, .int z, .int pa, .int so, .int pl, .long wd])), (ts, .inl (t1, 2001, .inl gs)), (tp, .inl (t2, 2001, .inl gp)), (tw, .inl (t3, 2001, .inr (.inl gw)))]) hP hD [1, 2, 3, 4] [0, 5, 6, 7, 8] rfl rfl (by decide) (by decide) hk1 hFc hP1 hD1
    have hK := (hK.sub (tys' := [(k1, .long), (k2, .int)]) [3, 4] rfl).app hK1
    generalize H1 = H at hP hS ⊢
    have hP : va_P (dC, dI) vwCl [(h0, .inr (7, [.ref ptok, .ref pnee, .ref pnam, .int ar, .ref pbui, .ref pdra, .int fu, .int fn, .int fp])), (pdra, .inr (9, [.ref gco, .ref gar, .ref gki, .ref gfu])), (gki, .inr (4, [.ref kw, .ref kf, .int kz])), (kw, .inl (k1, 20, .inr (.inl kgw))), (kf, .inl (k2, 20, .inl kgf)), (ptok, .inr (10, [.ref ts, .ref tp, .ref tw, .int z, .int pa, .int so, .int pl, .long wd])), (ts, .inl (t1, 2001, .inl gs)), (tp, .inl (t2, 2001, .inl gp)), (tw, .inl (t3, 2001, .inr (.inl gw)))] H := hP
    have hD : va_D A [(h0, .inr (7, [.ref ptok, .ref pnee, .ref pnam, .int ar, .ref pbui, .ref pdra, .int fu, .int fn, .int fp])), (pdra, .inr (9, [.ref gco, .ref gar, .ref gki, .ref gfu])), (gki, .inr (4, [.ref kw, .ref kf, .int kz])), (kw, .inl (k1, 20, .inr (.inl kgw))), (kf, .inl (k2, 20, .inl kgf)), (ptok, .inr (10, [.ref ts, .ref tp, .ref tw, .int z, .int pa, .int so, .int pl, .long wd])), (ts, .inl (t1, 2001, .inl gs)), (tp, .inl (t2, 2001, .inl gp)), (tw, .inl (t3, 2001, .inr (.inl gw)))] := hD
    have hK : va_K (dC, dI) vwCl [(k1, .long), (k2, .int), (t1, .int), (t2, .int), (t3, .long)] s := hK
    have hw_r_6 := hw
    try dsimp only at hw_r_6
    refine lv_if_ne (tgt := 72) hx hb dX7_failMany_20 (by decide) (fun c_7 => ?_) (fun c_7 => ?_)
    · have ic_7 : r_6.toInt ≠ 0 := zi_ne c_7
      refine lv_aload_n hx hb dX7_failMany_72 rfl (lv_at hl 0 rfl) ?_
      refine lv_iconst (v := 5) hx hb dX7_failMany_73 (by decide) ?_
      refine lv_aload_n hx hb dX7_failMany_74 rfl (lv_at hl 0 rfl) ?_
      refine va_get (D := (dC, dI)) (ci := 7) (v := .ref ptok) (C := RX7) (T := TX7) (N := 9) hx hb hA zin_X7 hown hK hP 0 rfl rfl 0 (by decide) (hA _ wi_387) (fun _ h9 => h9) rfl dX7_failMany_75 ?_
      refine va_get (D := (dC, dI)) (ci := 10) (v := .int pl) (C := RX10) (T := TX10) (N := 8) hx hb hA zin_X10 hown hK hP 5 rfl rfl 6 (by decide) (hA _ wi_355) (fun _ h9 => h9) rfl dX7_failMany_78 ?_
      have hPc := hP.sub (ws' := [(h0, .inr (7, [.ref ptok, .ref pnee, .ref pnam, .int ar, .ref pbui, .ref pdra, .int fu, .int fn, .int fp]))]) [0] rfl
      have hDc := hD.sub (ws' := [(h0, .inr (7, [.ref ptok, .ref pnee, .ref pnam, .int ar, .ref pbui, .ref pdra, .int fu, .int fn, .int fp]))]) [0] (by decide) rfl
      have hKc := hK.sub (tys' := []) [] rfl
      have hFc := va_free (wc := [(h0, .inr (7, [.ref ptok, .ref pnee, .ref pnam, .int ar, .ref pbui, .ref pdra, .int fu, .int fn, .int fp]))]) hD hS hAA [0] rfl
      refine vy_callv (vy_runV (As := [.int 5, .int pl]) (rest := []) ⟨hx, hb, hml, hown, hA⟩ (c_X7_fail l dC dI aK aV h0 ptok pnee pnam pbui pdra ar fu fn fp 5 pl H.size hlt) (cwV 2 hA (zw_V wi_806 wi_808 wi_5 wi_136 (zw_good wi_809)) rfl rfl rfl (by decide +kernel) ⟨(Nat.le_of_ble_eq_true rfl), (Nat.le_of_ble_eq_true rfl)⟩) ⟨zP_blind, va_recv hKc hPc (ci := 7) (q0 := 0) rfl rfl, zz_pre hKc hPc hDc hN hT hS hFc⟩ rfl rfl hl.1 rfl (lv_room (Nat.le_of_ble_eq_true rfl)) dX7_failMany_81 ⟨(Nat.le_of_ble_eq_true rfl), (Nat.le_of_ble_eq_true rfl)⟩) hS (fun q _ h => hFc q h) hFc (fun q _ h => hFc q h) (fun E9 ce9 q9 u t H1 locs ht hvm hw hB hz1 hk1 hS hcell hcv hcl => ?_) (fun u t H1 locs ht hvm hw hB hz1 hk1 hS => absurd hw id)
      obtain ⟨x_fn2_9, x_fp2_10⟩ := u
      obtain ⟨rfl, hP1, hK1, hD1⟩ := hB
      rw [ht] at hP1
      have hK1 := va_K.moved hvm.symm hK1
      obtain ⟨hP, hD⟩ := va_join (wr := [(pdra, .inr (9, [.ref gco, .ref gar, .ref gki, .ref gfu])), (gki, .inr (4, [.ref kw, .ref kf, .int kz])), (kw, .inl (k1, 20, .inr (.inl kgw))), (kf, .inl (k2, 20, .inl kgf)), (ptok, .inr (10, [.ref ts, .ref tp, .ref tw, .int z, .int pa, .int so, .int pl, .long wd])), (ts, .inl (t1, 2001, .inl gs)), (tp, .inl (t2, 2001, .inl gp)), (tw, .inl (t3, 2001, .inr (.inl gw)))]) (w1 := [(h0, .inr (7, [.ref ptok, .ref pnee, .ref pnam, .int ar, .ref pbui, .ref pdra, .int fu, .int x_fn2_9, .int x_fp2_10]))]) hP hD [0] [1, 2, 3, 4, 5, 6, 7, 8] rfl rfl (by decide) (by decide) hk1 hFc hP1 hD1
      have hK := (hK.sub (tys' := [(k1, .long), (k2, .int), (t1, .int), (t2, .int), (t3, .long)]) [0, 1, 2, 3, 4] rfl).app hK1
      clear hPc hDc hFc hP1 hD1 hk1 hz1 ht hvm
      generalize H1 = H at hP hS hcell ⊢
      have hP : va_P (dC, dI) vwCl [(pdra, .inr (9, [.ref gco, .ref gar, .ref gki, .ref gfu])), (gki, .inr (4, [.ref kw, .ref kf, .int kz])), (kw, .inl (k1, 20, .inr (.inl kgw))), (kf, .inl (k2, 20, .inl kgf)), (ptok, .inr (10, [.ref ts, .ref tp, .ref tw, .int z, .int pa, .int so, .int pl, .long wd])), (ts, .inl (t1, 2001, .inl gs)), (tp, .inl (t2, 2001, .inl gp)), (tw, .inl (t3, 2001, .inr (.inl gw))), (h0, .inr (7, [.ref ptok, .ref pnee, .ref pnam, .int ar, .ref pbui, .ref pdra, .int fu, .int x_fn2_9, .int x_fp2_10]))] H := hP
      have hD : va_D A [(pdra, .inr (9, [.ref gco, .ref gar, .ref gki, .ref gfu])), (gki, .inr (4, [.ref kw, .ref kf, .int kz])), (kw, .inl (k1, 20, .inr (.inl kgw))), (kf, .inl (k2, 20, .inl kgf)), (ptok, .inr (10, [.ref ts, .ref tp, .ref tw, .int z, .int pa, .int so, .int pl, .long wd])), (ts, .inl (t1, 2001, .inl gs)), (tp, .inl (t2, 2001, .inl gp)), (tw, .inl (t3, 2001, .inr (.inl gw))), (h0, .inr (7, [.ref ptok, .ref pnee, .ref pnam, .int ar, .ref pbui, .ref pdra, .int fu, .int x_fn2_9, .int x_fp2_10]))] := hD
      have hK : va_K (dC, dI) vwCl [(k1, .long), (k2, .int), (t1, .int), (t2, .int), (t3, .long)] s := hK
      have hq_11 := hw
      try dsimp only at hq_11
      refine vx_widen (k := 1) (n := 6) (Nat.le_of_ble_eq_true rfl) (Nat.le_of_ble_eq_true rfl) ?_
      have hP9 := hP.sub (ws' := [(h0, .inr (7, [.ref ptok, .ref pnee, .ref pnam, .int ar, .ref pbui, .ref pdra, .int fu, .int x_fn2_9, .int x_fp2_10])), (ptok, .inr (10, [.ref ts, .ref tp, .ref tw, .int z, .int pa, .int so, .int pl, .long wd])), (ts, .inl (t1, 2001, .inl gs)), (tp, .inl (t2, 2001, .inl gp)), (tw, .inl (t3, 2001, .inr (.inl gw))), (pdra, .inr (9, [.ref gco, .ref gar, .ref gki, .ref gfu])), (gki, .inr (4, [.ref kw, .ref kf, .int kz])), (kw, .inl (k1, 20, .inr (.inl kgw))), (kf, .inl (k2, 20, .inl kgf))]) [8, 4, 5, 6, 7, 0, 1, 2, 3] rfl
      have hD9 := hD.sub (ws' := [(h0, .inr (7, [.ref ptok, .ref pnee, .ref pnam, .int ar, .ref pbui, .ref pdra, .int fu, .int x_fn2_9, .int x_fp2_10])), (ptok, .inr (10, [.ref ts, .ref tp, .ref tw, .int z, .int pa, .int so, .int pl, .long wd])), (ts, .inl (t1, 2001, .inl gs)), (tp, .inl (t2, 2001, .inl gp)), (tw, .inl (t3, 2001, .inr (.inl gw))), (pdra, .inr (9, [.ref gco, .ref gar, .ref gki, .ref gfu])), (gki, .inr (4, [.ref kw, .ref kf, .int kz])), (kw, .inl (k1, 20, .inr (.inl kgw))), (kf, .inl (k2, 20, .inl kgf))]) [8, 4, 5, 6, 7, 0, 1, 2, 3] (by decide) rfl
      have hK9 := hK.sub (tys' := [(t1, .int), (t2, .int), (t3, .long), (k1, .long), (k2, .int)]) [2, 3, 4, 0, 1] rfl
      exact vy_monoX vy_thr (vx_out (fun x hx => (hnh x hx).elim) hlocks hcell hcv hcl (fun t ht hvm => ⟨(x_fn2_9, x_fp2_10), (by omega), ⟨rfl, by rw [ht]; exact hP9, va_K.moved hvm hK9, hD9⟩, hS.F ht⟩) hS.2.2 (Nat.le_of_ble_eq_true rfl) (Nat.le_of_ble_eq_true rfl))
    · have ic_7 : r_6.toInt = 0 := zi_eq c_7
      refine lv_aload_n hx hb dX7_failMany_23 rfl (lv_at hl 0 rfl) ?_
      refine va_get (D := (dC, dI)) (ci := 7) (v := .ref pdra) (C := RX7) (T := TX7) (N := 9) hx hb hA zin_X7 hown hK hP 0 rfl rfl 5 (by decide) (hA _ wi_392) (fun _ h9 => h9) rfl dX7_failMany_24 ?_
      refine va_get (D := (dC, dI)) (ci := 9) (v := .ref gki) (C := RX9) (T := TX9) (N := 4) hx hb hA zin_X9 hown hK hP 1 rfl rfl 2 (by decide) (hA _ wi_317) (fun _ h9 => h9) rfl dX7_failMany_27 ?_
      refine lv_aload_n hx hb dX7_failMany_30 rfl (lv_at hl 0 rfl) ?_
      refine va_get (D := (dC, dI)) (ci := 7) (v := .ref ptok) (C := RX7) (T := TX7) (N := 9) hx hb hA zin_X7 hown hK hP 0 rfl rfl 0 (by decide) (hA _ wi_387) (fun _ h9 => h9) rfl dX7_failMany_31 ?_
      refine va_get (D := (dC, dI)) (ci := 10) (v := .long wd) (C := RX10) (T := TX10) (N := 8) hx hb hA zin_X10 hown hK hP 5 rfl rfl 7 (by decide) (hA _ wi_357) (fun _ h9 => h9) rfl dX7_failMany_34 ?_
      have hPc := hP.sub (ws' := [(gki, .inr (4, [.ref kw, .ref kf, .int kz])), (kw, .inl (k1, 20, .inr (.inl kgw))), (kf, .inl (k2, 20, .inl kgf))]) [2, 3, 4] rfl
      have hDc := hD.sub (ws' := [(gki, .inr (4, [.ref kw, .ref kf, .int kz])), (kw, .inl (k1, 20, .inr (.inl kgw))), (kf, .inl (k2, 20, .inl kgf))]) [2, 3, 4] (by decide) rfl
      have hKc := hK.sub (tys' := [(k1, .long), (k2, .int)]) [0, 1] rfl
      have hFc := va_free (wc := [(gki, .inr (4, [.ref kw, .ref kf, .int kz])), (kw, .inl (k1, 20, .inr (.inl kgw))), (kf, .inl (k2, 20, .inl kgf))]) hD hS hAA [2, 3, 4] rfl
      refine va_calli (va_runV (As := [.long wd]) (rest := []) ⟨hx, hb, hml, hown, hA⟩ (c_X4_find l dC dI aK aV gki kw kf k1 k2 kz kgw kgf wd H.size (by omega) (by omega)) (cwV 1 hA (zw_V wi_798 wi_799 wi_800 wi_134 (zw_good wi_801)) rfl rfl rfl (by decide +kernel) ⟨(Nat.le_of_ble_eq_true rfl), (Nat.le_of_ble_eq_true rfl)⟩) ⟨zP_blind, va_recv hKc hPc (ci := 4) (q0 := 0) rfl rfl, zz_pre hKc hPc hDc hN hT hS hFc⟩ rfl rfl hl.1 rfl (lv_room (Nat.le_of_ble_eq_true rfl)) dX7_failMany_37 ⟨(Nat.le_of_ble_eq_true rfl), (Nat.le_of_ble_eq_true rfl)⟩) hS (fun q _ h => hFc q h) hFc (fun r_12 u t H1 locs ht hvm hw hB hz1 hk1 hS => ?_)
      obtain ⟨hP1, hK1, hD1⟩ := hB
      rw [ht] at hP1
      have hK1 := va_K.moved hvm.symm hK1
      obtain ⟨hP, hD⟩ := va_join (wr := [(h0, .inr (7, [.ref ptok, .ref pnee, .ref pnam, .int ar, .ref pbui, .ref pdra, .int fu, .int fn, .int fp])), (pdra, .inr (9, [.ref gco, .ref gar, .ref gki, .ref gfu])), (ptok, .inr (10, [.ref ts, .ref tp, .ref tw, .int z, .int pa, .int so, .int pl, .long wd])), (ts, .inl (t1, 2001, .inl gs)), (tp, .inl (t2, 2001, .inl gp)), (tw, .inl (t3, 2001, .inr (.inl gw)))]) (w1 := [(gki, .inr (4, [.ref kw, .ref kf, .int kz])), (kw, .inl (k1, 20, .inr (.inl kgw))), (kf, .inl (k2, 20, .inl kgf))]) hP hD [2, 3, 4] [0, 1, 5, 6, 7, 8] rfl rfl (by decide) (by decide) hk1 hFc hP1 hD1
      have hK := (hK.sub (tys' := [(t1, .int), (t2, .int), (t3, .long)]) [2, 3, 4] rfl).app hK1
      generalize H1 = H at hP hS ⊢
      have hP : va_P (dC, dI) vwCl [(h0, .inr (7, [.ref ptok, .ref pnee, .ref pnam, .int ar, .ref pbui, .ref pdra, .int fu, .int fn, .int fp])), (pdra, .inr (9, [.ref gco, .ref gar, .ref gki, .ref gfu])), (ptok, .inr (10, [.ref ts, .ref tp, .ref tw, .int z, .int pa, .int so, .int pl, .long wd])), (ts, .inl (t1, 2001, .inl gs)), (tp, .inl (t2, 2001, .inl gp)), (tw, .inl (t3, 2001, .inr (.inl gw))), (gki, .inr (4, [.ref kw, .ref kf, .int kz])), (kw, .inl (k1, 20, .inr (.inl kgw))), (kf, .inl (k2, 20, .inl kgf))] H := hP
      have hD : va_D A [(h0, .inr (7, [.ref ptok, .ref pnee, .ref pnam, .int ar, .ref pbui, .ref pdra, .int fu, .int fn, .int fp])), (pdra, .inr (9, [.ref gco, .ref gar, .ref gki, .ref gfu])), (ptok, .inr (10, [.ref ts, .ref tp, .ref tw, .int z, .int pa, .int so, .int pl, .long wd])), (ts, .inl (t1, 2001, .inl gs)), (tp, .inl (t2, 2001, .inl gp)), (tw, .inl (t3, 2001, .inr (.inl gw))), (gki, .inr (4, [.ref kw, .ref kf, .int kz])), (kw, .inl (k1, 20, .inr (.inl kgw))), (kf, .inl (k2, 20, .inl kgf))] := hD
      have hK : va_K (dC, dI) vwCl [(t1, .int), (t2, .int), (t3, .long), (k1, .long), (k2, .int)] s := hK
      have hw_r_12 := hw
      try dsimp only at hw_r_12
      obtain ⟨hq_13, hq_14⟩ := hw
      refine lv_istore_n (lv' := [(1, .int r_12), (0, .ref h0)]) hx hb dX7_failMany_40 rfl hl (by decide) rfl (fun ls hl => ?_)
      refine lv_iload_n hx hb dX7_failMany_41 rfl (lv_at hl 0 rfl) ?_
      refine lv_iconst (v := (-1)) hx hb dX7_failMany_42 (by decide) ?_
      refine lv_icmp_eq (tgt := 72) hx hb dX7_failMany_43 (by decide) (fun c_15 => ?_) (fun c_15 => ?_)
      · have ic_15 : r_12.toInt = (-1) := zi_eq c_15
        refine lv_aload_n hx hb dX7_failMany_72 rfl (lv_at hl 1 rfl) ?_
        refine lv_iconst (v := 5) hx hb dX7_failMany_73 (by decide) ?_
        refine lv_aload_n hx hb dX7_failMany_74 rfl (lv_at hl 1 rfl) ?_
        refine va_get (D := (dC, dI)) (ci := 7) (v := .ref ptok) (C := RX7) (T := TX7) (N := 9) hx hb hA zin_X7 hown hK hP 0 rfl rfl 0 (by decide) (hA _ wi_387) (fun _ h9 => h9) rfl dX7_failMany_75 ?_
        refine va_get (D := (dC, dI)) (ci := 10) (v := .int pl) (C := RX10) (T := TX10) (N := 8) hx hb hA zin_X10 hown hK hP 2 rfl rfl 6 (by decide) (hA _ wi_355) (fun _ h9 => h9) rfl dX7_failMany_78 ?_
        have hPc := hP.sub (ws' := [(h0, .inr (7, [.ref ptok, .ref pnee, .ref pnam, .int ar, .ref pbui, .ref pdra, .int fu, .int fn, .int fp]))]) [0] rfl
        have hDc := hD.sub (ws' := [(h0, .inr (7, [.ref ptok, .ref pnee, .ref pnam, .int ar, .ref pbui, .ref pdra, .int fu, .int fn, .int fp]))]) [0] (by decide) rfl
        have hKc := hK.sub (tys' := []) [] rfl
        have hFc := va_free (wc := [(h0, .inr (7, [.ref ptok, .ref pnee, .ref pnam, .int ar, .ref pbui, .ref pdra, .int fu, .int fn, .int fp]))]) hD hS hAA [0] rfl
        refine vy_callv (vy_runV (As := [.int 5, .int pl]) (rest := []) ⟨hx, hb, hml, hown, hA⟩ (c_X7_fail l dC dI aK aV h0 ptok pnee pnam pbui pdra ar fu fn fp 5 pl H.size hlt) (cwV 2 hA (zw_V wi_806 wi_808 wi_5 wi_136 (zw_good wi_809)) rfl rfl rfl (by decide +kernel) ⟨(Nat.le_of_ble_eq_true rfl), (Nat.le_of_ble_eq_true rfl)⟩) ⟨zP_blind, va_recv hKc hPc (ci := 7) (q0 := 0) rfl rfl, zz_pre hKc hPc hDc hN hT hS hFc⟩ rfl rfl hl.1 rfl (lv_room (Nat.le_of_ble_eq_true rfl)) dX7_failMany_81 ⟨(Nat.le_of_ble_eq_true rfl), (Nat.le_of_ble_eq_true rfl)⟩) hS (fun q _ h => hFc q h) hFc (fun q _ h => hFc q h) (fun E9 ce9 q9 u t H1 locs ht hvm hw hB hz1 hk1 hS hcell hcv hcl => ?_) (fun u t H1 locs ht hvm hw hB hz1 hk1 hS => absurd hw id)
        obtain ⟨x_fn2_17, x_fp2_18⟩ := u
        obtain ⟨rfl, hP1, hK1, hD1⟩ := hB
        rw [ht] at hP1
        have hK1 := va_K.moved hvm.symm hK1
        obtain ⟨hP, hD⟩ := va_join (wr := [(pdra, .inr (9, [.ref gco, .ref gar, .ref gki, .ref gfu])), (ptok, .inr (10, [.ref ts, .ref tp, .ref tw, .int z, .int pa, .int so, .int pl, .long wd])), (ts, .inl (t1, 2001, .inl gs)), (tp, .inl (t2, 2001, .inl gp)), (tw, .inl (t3, 2001, .inr (.inl gw))), (gki, .inr (4, [.ref kw, .ref kf, .int kz])), (kw, .inl (k1, 20, .inr (.inl kgw))), (kf, .inl (k2, 20, .inl kgf))]) (w1 := [(h0, .inr (7, [.ref ptok, .ref pnee, .ref pnam, .int ar, .ref pbui, .ref pdra, .int fu, .int x_fn2_17, .int x_fp2_18]))]) hP hD [0] [1, 2, 3, 4, 5, 6, 7, 8] rfl rfl (by decide) (by decide) hk1 hFc hP1 hD1
        have hK := (hK.sub (tys' := [(t1, .int), (t2, .int), (t3, .long), (k1, .long), (k2, .int)]) [0, 1, 2, 3, 4] rfl).app hK1
        clear hPc hDc hFc hP1 hD1 hk1 hz1 ht hvm
        generalize H1 = H at hP hS hcell ⊢
        have hP : va_P (dC, dI) vwCl [(pdra, .inr (9, [.ref gco, .ref gar, .ref gki, .ref gfu])), (ptok, .inr (10, [.ref ts, .ref tp, .ref tw, .int z, .int pa, .int so, .int pl, .long wd])), (ts, .inl (t1, 2001, .inl gs)), (tp, .inl (t2, 2001, .inl gp)), (tw, .inl (t3, 2001, .inr (.inl gw))), (gki, .inr (4, [.ref kw, .ref kf, .int kz])), (kw, .inl (k1, 20, .inr (.inl kgw))), (kf, .inl (k2, 20, .inl kgf)), (h0, .inr (7, [.ref ptok, .ref pnee, .ref pnam, .int ar, .ref pbui, .ref pdra, .int fu, .int x_fn2_17, .int x_fp2_18]))] H := hP
        have hD : va_D A [(pdra, .inr (9, [.ref gco, .ref gar, .ref gki, .ref gfu])), (ptok, .inr (10, [.ref ts, .ref tp, .ref tw, .int z, .int pa, .int so, .int pl, .long wd])), (ts, .inl (t1, 2001, .inl gs)), (tp, .inl (t2, 2001, .inl gp)), (tw, .inl (t3, 2001, .inr (.inl gw))), (gki, .inr (4, [.ref kw, .ref kf, .int kz])), (kw, .inl (k1, 20, .inr (.inl kgw))), (kf, .inl (k2, 20, .inl kgf)), (h0, .inr (7, [.ref ptok, .ref pnee, .ref pnam, .int ar, .ref pbui, .ref pdra, .int fu, .int x_fn2_17, .int x_fp2_18]))] := hD
        have hK : va_K (dC, dI) vwCl [(t1, .int), (t2, .int), (t3, .long), (k1, .long), (k2, .int)] s := hK
        have hq_19 := hw
        try dsimp only at hq_19
        refine vx_widen (k := 1) (n := 6) (Nat.le_of_ble_eq_true rfl) (Nat.le_of_ble_eq_true rfl) ?_
        have hP9 := hP.sub (ws' := [(h0, .inr (7, [.ref ptok, .ref pnee, .ref pnam, .int ar, .ref pbui, .ref pdra, .int fu, .int x_fn2_17, .int x_fp2_18])), (ptok, .inr (10, [.ref ts, .ref tp, .ref tw, .int z, .int pa, .int so, .int pl, .long wd])), (ts, .inl (t1, 2001, .inl gs)), (tp, .inl (t2, 2001, .inl gp)), (tw, .inl (t3, 2001, .inr (.inl gw))), (pdra, .inr (9, [.ref gco, .ref gar, .ref gki, .ref gfu])), (gki, .inr (4, [.ref kw, .ref kf, .int kz])), (kw, .inl (k1, 20, .inr (.inl kgw))), (kf, .inl (k2, 20, .inl kgf))]) [8, 1, 2, 3, 4, 0, 5, 6, 7] rfl
        have hD9 := hD.sub (ws' := [(h0, .inr (7, [.ref ptok, .ref pnee, .ref pnam, .int ar, .ref pbui, .ref pdra, .int fu, .int x_fn2_17, .int x_fp2_18])), (ptok, .inr (10, [.ref ts, .ref tp, .ref tw, .int z, .int pa, .int so, .int pl, .long wd])), (ts, .inl (t1, 2001, .inl gs)), (tp, .inl (t2, 2001, .inl gp)), (tw, .inl (t3, 2001, .inr (.inl gw))), (pdra, .inr (9, [.ref gco, .ref gar, .ref gki, .ref gfu])), (gki, .inr (4, [.ref kw, .ref kf, .int kz])), (kw, .inl (k1, 20, .inr (.inl kgw))), (kf, .inl (k2, 20, .inl kgf))]) [8, 1, 2, 3, 4, 0, 5, 6, 7] (by decide) rfl
        have hK9 := hK.sub (tys' := [(t1, .int), (t2, .int), (t3, .long), (k1, .long), (k2, .int)]) [0, 1, 2, 3, 4] rfl
        exact vy_monoX vy_thr (vx_out (fun x hx => (hnh x hx).elim) hlocks hcell hcv hcl (fun t ht hvm => ⟨(x_fn2_17, x_fp2_18), (by omega), ⟨rfl, by rw [ht]; exact hP9, va_K.moved hvm hK9, hD9⟩, hS.F ht⟩) hS.2.2 (Nat.le_of_ble_eq_true rfl) (Nat.le_of_ble_eq_true rfl))
      · have ic_15 : r_12.toInt ≠ (-1) := zi_ne c_15
        refine lv_aload_n hx hb dX7_failMany_46 rfl (lv_at hl 1 rfl) ?_
        refine va_get (D := (dC, dI)) (ci := 7) (v := .ref pdra) (C := RX7) (T := TX7) (N := 9) hx hb hA zin_X7 hown hK hP 0 rfl rfl 5 (by decide) (hA _ wi_392) (fun _ h9 => h9) rfl dX7_failMany_47 ?_
        refine va_get (D := (dC, dI)) (ci := 9) (v := .ref gki) (C := RX9) (T := TX9) (N := 4) hx hb hA zin_X9 hown hK hP 1 rfl rfl 2 (by decide) (hA _ wi_317) (fun _ h9 => h9) rfl dX7_failMany_50 ?_
        refine lv_iload_n hx hb dX7_failMany_53 rfl (lv_at hl 0 rfl) ?_
        have hPc := hP.sub (ws' := [(gki, .inr (4, [.ref kw, .ref kf, .int kz])), (kw, .inl (k1, 20, .inr (.inl kgw))), (kf, .inl (k2, 20, .inl kgf))]) [6, 7, 8] rfl
        have hDc := hD.sub (ws' := [(gki, .inr (4, [.ref kw, .ref kf, .int kz])), (kw, .inl (k1, 20, .inr (.inl kgw))), (kf, .inl (k2, 20, .inl kgf))]) [6, 7, 8] (by decide) rfl
        have hKc := hK.sub (tys' := [(k1, .long), (k2, .int)]) [3, 4] rfl
        have hFc := va_free (wc := [(gki, .inr (4, [.ref kw, .ref kf, .int kz])), (kw, .inl (k1, 20, .inr (.inl kgw))), (kf, .inl (k2, 20, .inl kgf))]) hD hS hAA [6, 7, 8] rfl
        refine va_calli (va_runV (As := [.int r_12]) (rest := []) ⟨hx, hb, hml, hown, hA⟩ (c_X4_fieldsOf l dC dI aK aV gki kw kf k1 k2 kz kgw kgf r_12 H.size (by omega) (by omega) hkf) (cwV 1 hA (zw_V wi_802 wi_803 wi_804 wi_134 (zw_good wi_805)) rfl rfl rfl (by decide +kernel) ⟨(Nat.le_of_ble_eq_true rfl), (Nat.le_of_ble_eq_true rfl)⟩) ⟨zP_blind, va_recv hKc hPc (ci := 4) (q0 := 0) rfl rfl, zz_pre hKc hPc hDc hN hT hS hFc⟩ rfl rfl hl.1 rfl (lv_room (Nat.le_of_ble_eq_true rfl)) dX7_failMany_54 ⟨(Nat.le_of_ble_eq_true rfl), (Nat.le_of_ble_eq_true rfl)⟩) hS (fun q _ h => hFc q h) hFc (fun r_20 u t H1 locs ht hvm hw hB hz1 hk1 hS => ?_)
        obtain ⟨hP1, hK1, hD1⟩ := hB
        rw [ht] at hP1
        have hK1 := va_K.moved hvm.symm hK1
        obtain ⟨hP, hD⟩ := va_join (wr := [(h0, .inr (7, [.ref ptok, .ref pnee, .ref pnam, .int ar, .ref pbui, .ref pdra, .int fu, .int fn, .int fp])), (pdra, .inr (9, [.ref gco, .ref gar, .ref gki, .ref gfu])), (ptok, .inr (10, [.ref ts, .ref tp, .ref tw, .int z, .int pa, .int so, .int pl, .long wd])), (ts, .inl (t1, 2001, .inl gs)), (tp, .inl (t2, 2001, .inl gp)), (tw, .inl (t3, 2001, .inr (.inl gw)))]) (w1 := [(gki, .inr (4, [.ref kw, .ref kf, .int kz])), (kw, .inl (k1, 20, .inr (.inl kgw))), (kf, .inl (k2, 20, .inl kgf))]) hP hD [6, 7, 8] [0, 1, 2, 3, 4, 5] rfl rfl (by decide) (by decide) hk1 hFc hP1 hD1
        have hK := (hK.sub (tys' := [(t1, .int), (t2, .int), (t3, .long)]) [0, 1, 2] rfl).app hK1
        generalize H1 = H at hP hS ⊢
        have hP : va_P (dC, dI) vwCl [(h0, .inr (7, [.ref ptok, .ref pnee, .ref pnam, .int ar, .ref pbui, .ref pdra, .int fu, .int fn, .int fp])), (pdra, .inr (9, [.ref gco, .ref gar, .ref gki, .ref gfu])), (ptok, .inr (10, [.ref ts, .ref tp, .ref tw, .int z, .int pa, .int so, .int pl, .long wd])), (ts, .inl (t1, 2001, .inl gs)), (tp, .inl (t2, 2001, .inl gp)), (tw, .inl (t3, 2001, .inr (.inl gw))), (gki, .inr (4, [.ref kw, .ref kf, .int kz])), (kw, .inl (k1, 20, .inr (.inl kgw))), (kf, .inl (k2, 20, .inl kgf))] H := hP
        have hD : va_D A [(h0, .inr (7, [.ref ptok, .ref pnee, .ref pnam, .int ar, .ref pbui, .ref pdra, .int fu, .int fn, .int fp])), (pdra, .inr (9, [.ref gco, .ref gar, .ref gki, .ref gfu])), (ptok, .inr (10, [.ref ts, .ref tp, .ref tw, .int z, .int pa, .int so, .int pl, .long wd])), (ts, .inl (t1, 2001, .inl gs)), (tp, .inl (t2, 2001, .inl gp)), (tw, .inl (t3, 2001, .inr (.inl gw))), (gki, .inr (4, [.ref kw, .ref kf, .int kz])), (kw, .inl (k1, 20, .inr (.inl kgw))), (kf, .inl (k2, 20, .inl kgf))] := hD
        have hK : va_K (dC, dI) vwCl [(t1, .int), (t2, .int), (t3, .long), (k1, .long), (k2, .int)] s := hK
        have hw_r_20 := hw
        try dsimp only at hw_r_20
        obtain ⟨hq_21, hq_22⟩ := hw
        refine lv_if_le (tgt := 72) hx hb dX7_failMany_57 (by decide) (fun c_23 => ?_) (fun c_23 => ?_)
        · have ic_23 : r_20.toInt ≤ 0 := zi_le c_23
          refine lv_aload_n hx hb dX7_failMany_72 rfl (lv_at hl 1 rfl) ?_
          refine lv_iconst (v := 5) hx hb dX7_failMany_73 (by decide) ?_
          refine lv_aload_n hx hb dX7_failMany_74 rfl (lv_at hl 1 rfl) ?_
          refine va_get (D := (dC, dI)) (ci := 7) (v := .ref ptok) (C := RX7) (T := TX7) (N := 9) hx hb hA zin_X7 hown hK hP 0 rfl rfl 0 (by decide) (hA _ wi_387) (fun _ h9 => h9) rfl dX7_failMany_75 ?_
          refine va_get (D := (dC, dI)) (ci := 10) (v := .int pl) (C := RX10) (T := TX10) (N := 8) hx hb hA zin_X10 hown hK hP 2 rfl rfl 6 (by decide) (hA _ wi_355) (fun _ h9 => h9) rfl dX7_failMany_78 ?_
          have hPc := hP.sub (ws' := [(h0, .inr (7, [.ref ptok, .ref pnee, .ref pnam, .int ar, .ref pbui, .ref pdra, .int fu, .int fn, .int fp]))]) [0] rfl
          have hDc := hD.sub (ws' := [(h0, .inr (7, [.ref ptok, .ref pnee, .ref pnam, .int ar, .ref pbui, .ref pdra, .int fu, .int fn, .int fp]))]) [0] (by decide) rfl
          have hKc := hK.sub (tys' := []) [] rfl
          have hFc := va_free (wc := [(h0, .inr (7, [.ref ptok, .ref pnee, .ref pnam, .int ar, .ref pbui, .ref pdra, .int fu, .int fn, .int fp]))]) hD hS hAA [0] rfl
          refine vy_callv (vy_runV (As := [.int 5, .int pl]) (rest := []) ⟨hx, hb, hml, hown, hA⟩ (c_X7_fail l dC dI aK aV h0 ptok pnee pnam pbui pdra ar fu fn fp 5 pl H.size hlt) (cwV 2 hA (zw_V wi_806 wi_808 wi_5 wi_136 (zw_good wi_809)) rfl rfl rfl (by decide +kernel) ⟨(Nat.le_of_ble_eq_true rfl), (Nat.le_of_ble_eq_true rfl)⟩) ⟨zP_blind, va_recv hKc hPc (ci := 7) (q0 := 0) rfl rfl, zz_pre hKc hPc hDc hN hT hS hFc⟩ rfl rfl hl.1 rfl (lv_room (Nat.le_of_ble_eq_true rfl)) dX7_failMany_81 ⟨(Nat.le_of_ble_eq_true rfl), (Nat.le_of_ble_eq_true rfl)⟩) hS (fun q _ h => hFc q h) hFc (fun q _ h => hFc q h) (fun E9 ce9 q9 u t H1 locs ht hvm hw hB hz1 hk1 hS hcell hcv hcl => ?_) (fun u t H1 locs ht hvm hw hB hz1 hk1 hS => absurd hw id)
          obtain ⟨x_fn2_25, x_fp2_26⟩ := u
          obtain ⟨rfl, hP1, hK1, hD1⟩ := hB
          rw [ht] at hP1
          have hK1 := va_K.moved hvm.symm hK1
          obtain ⟨hP, hD⟩ := va_join (wr := [(pdra, .inr (9, [.ref gco, .ref gar, .ref gki, .ref gfu])), (ptok, .inr (10, [.ref ts, .ref tp, .ref tw, .int z, .int pa, .int so, .int pl, .long wd])), (ts, .inl (t1, 2001, .inl gs)), (tp, .inl (t2, 2001, .inl gp)), (tw, .inl (t3, 2001, .inr (.inl gw))), (gki, .inr (4, [.ref kw, .ref kf, .int kz])), (kw, .inl (k1, 20, .inr (.inl kgw))), (kf, .inl (k2, 20, .inl kgf))]) (w1 := [(h0, .inr (7, [.ref ptok, .ref pnee, .ref pnam, .int ar, .ref pbui, .ref pdra, .int fu, .int x_fn2_25, .int x_fp2_26]))]) hP hD [0] [1, 2, 3, 4, 5, 6, 7, 8] rfl rfl (by decide) (by decide) hk1 hFc hP1 hD1
          have hK := (hK.sub (tys' := [(t1, .int), (t2, .int), (t3, .long), (k1, .long), (k2, .int)]) [0, 1, 2, 3, 4] rfl).app hK1
          clear hPc hDc hFc hP1 hD1 hk1 hz1 ht hvm
          generalize H1 = H at hP hS hcell ⊢
          have hP : va_P (dC, dI) vwCl [(pdra, .inr (9, [.ref gco, .ref gar, .ref gki, .ref gfu])), (ptok, .inr (10, [.ref ts, .ref tp, .ref tw, .int z, .int pa, .int so, .int pl, .long wd])), (ts, .inl (t1, 2001, .inl gs)), (tp, .inl (t2, 2001, .inl gp)), (tw, .inl (t3, 2001, .inr (.inl gw))), (gki, .inr (4, [.ref kw, .ref kf, .int kz])), (kw, .inl (k1, 20, .inr (.inl kgw))), (kf, .inl (k2, 20, .inl kgf)), (h0, .inr (7, [.ref ptok, .ref pnee, .ref pnam, .int ar, .ref pbui, .ref pdra, .int fu, .int x_fn2_25, .int x_fp2_26]))] H := hP
          have hD : va_D A [(pdra, .inr (9, [.ref gco, .ref gar, .ref gki, .ref gfu])), (ptok, .inr (10, [.ref ts, .ref tp, .ref tw, .int z, .int pa, .int so, .int pl, .long wd])), (ts, .inl (t1, 2001, .inl gs)), (tp, .inl (t2, 2001, .inl gp)), (tw, .inl (t3, 2001, .inr (.inl gw))), (gki, .inr (4, [.ref kw, .ref kf, .int kz])), (kw, .inl (k1, 20, .inr (.inl kgw))), (kf, .inl (k2, 20, .inl kgf)), (h0, .inr (7, [.ref ptok, .ref pnee, .ref pnam, .int ar, .ref pbui, .ref pdra, .int fu, .int x_fn2_25, .int x_fp2_26]))] := hD
          have hK : va_K (dC, dI) vwCl [(t1, .int), (t2, .int), (t3, .long), (k1, .long), (k2, .int)] s := hK
          have hq_27 := hw
          try dsimp only at hq_27
          refine vx_widen (k := 1) (n := 6) (Nat.le_of_ble_eq_true rfl) (Nat.le_of_ble_eq_true rfl) ?_
          have hP9 := hP.sub (ws' := [(h0, .inr (7, [.ref ptok, .ref pnee, .ref pnam, .int ar, .ref pbui, .ref pdra, .int fu, .int x_fn2_25, .int x_fp2_26])), (ptok, .inr (10, [.ref ts, .ref tp, .ref tw, .int z, .int pa, .int so, .int pl, .long wd])), (ts, .inl (t1, 2001, .inl gs)), (tp, .inl (t2, 2001, .inl gp)), (tw, .inl (t3, 2001, .inr (.inl gw))), (pdra, .inr (9, [.ref gco, .ref gar, .ref gki, .ref gfu])), (gki, .inr (4, [.ref kw, .ref kf, .int kz])), (kw, .inl (k1, 20, .inr (.inl kgw))), (kf, .inl (k2, 20, .inl kgf))]) [8, 1, 2, 3, 4, 0, 5, 6, 7] rfl
          have hD9 := hD.sub (ws' := [(h0, .inr (7, [.ref ptok, .ref pnee, .ref pnam, .int ar, .ref pbui, .ref pdra, .int fu, .int x_fn2_25, .int x_fp2_26])), (ptok, .inr (10, [.ref ts, .ref tp, .ref tw, .int z, .int pa, .int so, .int pl, .long wd])), (ts, .inl (t1, 2001, .inl gs)), (tp, .inl (t2, 2001, .inl gp)), (tw, .inl (t3, 2001, .inr (.inl gw))), (pdra, .inr (9, [.ref gco, .ref gar, .ref gki, .ref gfu])), (gki, .inr (4, [.ref kw, .ref kf, .int kz])), (kw, .inl (k1, 20, .inr (.inl kgw))), (kf, .inl (k2, 20, .inl kgf))]) [8, 1, 2, 3, 4, 0, 5, 6, 7] (by decide) rfl
          have hK9 := hK.sub (tys' := [(t1, .int), (t2, .int), (t3, .long), (k1, .long), (k2, .int)]) [0, 1, 2, 3, 4] rfl
          exact vy_monoX vy_thr (vx_out (fun x hx => (hnh x hx).elim) hlocks hcell hcv hcl (fun t ht hvm => ⟨(x_fn2_25, x_fp2_26), (by omega), ⟨rfl, by rw [ht]; exact hP9, va_K.moved hvm hK9, hD9⟩, hS.F ht⟩) hS.2.2 (Nat.le_of_ble_eq_true rfl) (Nat.le_of_ble_eq_true rfl))
        · have ic_23 : 0 < r_20.toInt := zi_nle c_23
          refine lv_aload_n hx hb dX7_failMany_60 rfl (lv_at hl 1 rfl) ?_
          refine lv_iconst (v := 4) hx hb dX7_failMany_61 (by decide) ?_
          refine lv_aload_n hx hb dX7_failMany_62 rfl (lv_at hl 1 rfl) ?_
          refine va_get (D := (dC, dI)) (ci := 7) (v := .ref ptok) (C := RX7) (T := TX7) (N := 9) hx hb hA zin_X7 hown hK hP 0 rfl rfl 0 (by decide) (hA _ wi_387) (fun _ h9 => h9) rfl dX7_failMany_63 ?_
          refine va_get (D := (dC, dI)) (ci := 10) (v := .int pl) (C := RX10) (T := TX10) (N := 8) hx hb hA zin_X10 hown hK hP 2 rfl rfl 6 (by decide) (hA _ wi_355) (fun _ h9 => h9) rfl dX7_failMany_66 ?_
          have hPc := hP.sub (ws' := [(h0, .inr (7, [.ref ptok, .ref pnee, .ref pnam, .int ar, .ref pbui, .ref pdra, .int fu, .int fn, .int fp]))]) [0] rfl
          have hDc := hD.sub (ws' := [(h0, .inr (7, [.ref ptok, .ref pnee, .ref pnam, .int ar, .ref pbui, .ref pdra, .int fu, .int fn, .int fp]))]) [0] (by decide) rfl
          have hKc := hK.sub (tys' := []) [] rfl
          have hFc := va_free (wc := [(h0, .inr (7, [.ref ptok, .ref pnee, .ref pnam, .int ar, .ref pbui, .ref pdra, .int fu, .int fn, .int fp]))]) hD hS hAA [0] rfl
          refine vy_callv (vy_runV (As := [.int 4, .int pl]) (rest := []) ⟨hx, hb, hml, hown, hA⟩ (c_X7_fail l dC dI aK aV h0 ptok pnee pnam pbui pdra ar fu fn fp 4 pl H.size hlt) (cwV 2 hA (zw_V wi_806 wi_808 wi_5 wi_136 (zw_good wi_809)) rfl rfl rfl (by decide +kernel) ⟨(Nat.le_of_ble_eq_true rfl), (Nat.le_of_ble_eq_true rfl)⟩) ⟨zP_blind, va_recv hKc hPc (ci := 7) (q0 := 0) rfl rfl, zz_pre hKc hPc hDc hN hT hS hFc⟩ rfl rfl hl.1 rfl (lv_room (Nat.le_of_ble_eq_true rfl)) dX7_failMany_69 ⟨(Nat.le_of_ble_eq_true rfl), (Nat.le_of_ble_eq_true rfl)⟩) hS (fun q _ h => hFc q h) hFc (fun q _ h => hFc q h) (fun E9 ce9 q9 u t H1 locs ht hvm hw hB hz1 hk1 hS hcell hcv hcl => ?_) (fun u t H1 locs ht hvm hw hB hz1 hk1 hS => absurd hw id)
          obtain ⟨x_fn2_29, x_fp2_30⟩ := u
          obtain ⟨rfl, hP1, hK1, hD1⟩ := hB
          rw [ht] at hP1
          have hK1 := va_K.moved hvm.symm hK1
          obtain ⟨hP, hD⟩ := va_join (wr := [(pdra, .inr (9, [.ref gco, .ref gar, .ref gki, .ref gfu])), (ptok, .inr (10, [.ref ts, .ref tp, .ref tw, .int z, .int pa, .int so, .int pl, .long wd])), (ts, .inl (t1, 2001, .inl gs)), (tp, .inl (t2, 2001, .inl gp)), (tw, .inl (t3, 2001, .inr (.inl gw))), (gki, .inr (4, [.ref kw, .ref kf, .int kz])), (kw, .inl (k1, 20, .inr (.inl kgw))), (kf, .inl (k2, 20, .inl kgf))]) (w1 := [(h0, .inr (7, [.ref ptok, .ref pnee, .ref pnam, .int ar, .ref pbui, .ref pdra, .int fu, .int x_fn2_29, .int x_fp2_30]))]) hP hD [0] [1, 2, 3, 4, 5, 6, 7, 8] rfl rfl (by decide) (by decide) hk1 hFc hP1 hD1
          have hK := (hK.sub (tys' := [(t1, .int), (t2, .int), (t3, .long), (k1, .long), (k2, .int)]) [0, 1, 2, 3, 4] rfl).app hK1
          clear hPc hDc hFc hP1 hD1 hk1 hz1 ht hvm
          generalize H1 = H at hP hS hcell ⊢
          have hP : va_P (dC, dI) vwCl [(pdra, .inr (9, [.ref gco, .ref gar, .ref gki, .ref gfu])), (ptok, .inr (10, [.ref ts, .ref tp, .ref tw, .int z, .int pa, .int so, .int pl, .long wd])), (ts, .inl (t1, 2001, .inl gs)), (tp, .inl (t2, 2001, .inl gp)), (tw, .inl (t3, 2001, .inr (.inl gw))), (gki, .inr (4, [.ref kw, .ref kf, .int kz])), (kw, .inl (k1, 20, .inr (.inl kgw))), (kf, .inl (k2, 20, .inl kgf)), (h0, .inr (7, [.ref ptok, .ref pnee, .ref pnam, .int ar, .ref pbui, .ref pdra, .int fu, .int x_fn2_29, .int x_fp2_30]))] H := hP
          have hD : va_D A [(pdra, .inr (9, [.ref gco, .ref gar, .ref gki, .ref gfu])), (ptok, .inr (10, [.ref ts, .ref tp, .ref tw, .int z, .int pa, .int so, .int pl, .long wd])), (ts, .inl (t1, 2001, .inl gs)), (tp, .inl (t2, 2001, .inl gp)), (tw, .inl (t3, 2001, .inr (.inl gw))), (gki, .inr (4, [.ref kw, .ref kf, .int kz])), (kw, .inl (k1, 20, .inr (.inl kgw))), (kf, .inl (k2, 20, .inl kgf)), (h0, .inr (7, [.ref ptok, .ref pnee, .ref pnam, .int ar, .ref pbui, .ref pdra, .int fu, .int x_fn2_29, .int x_fp2_30]))] := hD
          have hK : va_K (dC, dI) vwCl [(t1, .int), (t2, .int), (t3, .long), (k1, .long), (k2, .int)] s := hK
          have hq_31 := hw
          try dsimp only at hq_31
          refine vx_widen (k := 1) (n := 6) (Nat.le_of_ble_eq_true rfl) (Nat.le_of_ble_eq_true rfl) ?_
          have hP9 := hP.sub (ws' := [(h0, .inr (7, [.ref ptok, .ref pnee, .ref pnam, .int ar, .ref pbui, .ref pdra, .int fu, .int x_fn2_29, .int x_fp2_30])), (ptok, .inr (10, [.ref ts, .ref tp, .ref tw, .int z, .int pa, .int so, .int pl, .long wd])), (ts, .inl (t1, 2001, .inl gs)), (tp, .inl (t2, 2001, .inl gp)), (tw, .inl (t3, 2001, .inr (.inl gw))), (pdra, .inr (9, [.ref gco, .ref gar, .ref gki, .ref gfu])), (gki, .inr (4, [.ref kw, .ref kf, .int kz])), (kw, .inl (k1, 20, .inr (.inl kgw))), (kf, .inl (k2, 20, .inl kgf))]) [8, 1, 2, 3, 4, 0, 5, 6, 7] rfl
          have hD9 := hD.sub (ws' := [(h0, .inr (7, [.ref ptok, .ref pnee, .ref pnam, .int ar, .ref pbui, .ref pdra, .int fu, .int x_fn2_29, .int x_fp2_30])), (ptok, .inr (10, [.ref ts, .ref tp, .ref tw, .int z, .int pa, .int so, .int pl, .long wd])), (ts, .inl (t1, 2001, .inl gs)), (tp, .inl (t2, 2001, .inl gp)), (tw, .inl (t3, 2001, .inr (.inl gw))), (pdra, .inr (9, [.ref gco, .ref gar, .ref gki, .ref gfu])), (gki, .inr (4, [.ref kw, .ref kf, .int kz])), (kw, .inl (k1, 20, .inr (.inl kgw))), (kf, .inl (k2, 20, .inl kgf))]) [8, 1, 2, 3, 4, 0, 5, 6, 7] (by decide) rfl
          have hK9 := hK.sub (tys' := [(t1, .int), (t2, .int), (t3, .long), (k1, .long), (k2, .int)]) [0, 1, 2, 3, 4] rfl
          exact vy_monoX vy_thr (vx_out (fun x hx => (hnh x hx).elim) hlocks hcell hcv hcl (fun t ht hvm => ⟨(x_fn2_29, x_fp2_30), (by omega), ⟨rfl, by rw [ht]; exact hP9, va_K.moved hvm hK9, hD9⟩, hS.F ht⟩) hS.2.2 (Nat.le_of_ble_eq_true rfl) (Nat.le_of_ble_eq_true rfl))

end
