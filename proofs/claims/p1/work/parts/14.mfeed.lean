theorem wi_1500 : Cond.fieldLink RX14 350 "ReuseHouseModel" "taped" "I" ∈ zw := zw_in (List.mem_of_getElem? (i := 1500) (by decide +kernel)) (by decide +kernel)
theorem dX14_feed_0 : decode cX14_feed 0 = .ok (.aload_n 0, 1) := by decide +kernel
theorem dX14_feed_1 : decode cX14_feed 1 = .ok (.iconst 0, 1) := by decide +kernel
theorem dX14_feed_2 : decode cX14_feed 2 = .ok (.putfield 105, 3) := by decide +kernel
theorem dX14_feed_5 : decode cX14_feed 5 = .ok (.aload_n 0, 1) := by decide +kernel
theorem dX14_feed_6 : decode cX14_feed 6 = .ok (.getfield 350, 3) := by decide +kernel
theorem dX14_feed_9 : decode cX14_feed 9 = .ok (.bipush 20, 2) := by decide +kernel
theorem dX14_feed_11 : decode cX14_feed 11 = .ok (.iadd, 1) := by decide +kernel
theorem dX14_feed_12 : decode cX14_feed 12 = .ok (.sipush 2000, 3) := by decide +kernel
theorem dX14_feed_15 : decode cX14_feed 15 = .ok (.if_icmp .le 5, 3) := by decide +kernel
theorem dX14_feed_20 : decode cX14_feed 20 = .ok (.iconst 0, 1) := by decide +kernel
theorem dX14_feed_21 : decode cX14_feed 21 = .ok (.istore 6, 2) := by decide +kernel
theorem dX14_feed_23 : decode cX14_feed 23 = .ok (.iload 6, 2) := by decide +kernel
theorem dX14_feed_25 : decode cX14_feed 25 = .ok (.bipush 20, 2) := by decide +kernel
theorem dX14_feed_27 : decode cX14_feed 27 = .ok (.if_icmp .ge 90, 3) := by decide +kernel
theorem dX14_feed_30 : decode cX14_feed 30 = .ok (.iload 6, 2) := by decide +kernel
theorem dX14_feed_32 : decode cX14_feed 32 = .ok (.iconst 4, 1) := by decide +kernel
theorem dX14_feed_33 : decode cX14_feed 33 = .ok (.if_icmp .ge 7, 3) := by decide +kernel
theorem dX14_feed_36 : decode cX14_feed 36 = .ok (.iload_n 1, 1) := by decide +kernel
theorem dX14_feed_37 : decode cX14_feed 37 = .ok (.goto 39, 3) := by decide +kernel
theorem dX14_feed_40 : decode cX14_feed 40 = .ok (.iload 6, 2) := by decide +kernel
theorem dX14_feed_42 : decode cX14_feed 42 = .ok (.bipush 8, 2) := by decide +kernel
theorem dX14_feed_44 : decode cX14_feed 44 = .ok (.if_icmp .ge 7, 3) := by decide +kernel
theorem dX14_feed_47 : decode cX14_feed 47 = .ok (.iload_n 2, 1) := by decide +kernel
theorem dX14_feed_48 : decode cX14_feed 48 = .ok (.goto 28, 3) := by decide +kernel
theorem dX14_feed_51 : decode cX14_feed 51 = .ok (.iload 6, 2) := by decide +kernel
theorem dX14_feed_53 : decode cX14_feed 53 = .ok (.bipush 12, 2) := by decide +kernel
theorem dX14_feed_55 : decode cX14_feed 55 = .ok (.if_icmp .ge 7, 3) := by decide +kernel
theorem dX14_feed_58 : decode cX14_feed 58 = .ok (.iload_n 3, 1) := by decide +kernel
theorem dX14_feed_59 : decode cX14_feed 59 = .ok (.goto 17, 3) := by decide +kernel
theorem dX14_feed_62 : decode cX14_feed 62 = .ok (.iload 6, 2) := by decide +kernel
theorem dX14_feed_64 : decode cX14_feed 64 = .ok (.bipush 16, 2) := by decide +kernel
theorem dX14_feed_66 : decode cX14_feed 66 = .ok (.if_icmp .ge 8, 3) := by decide +kernel
theorem dX14_feed_69 : decode cX14_feed 69 = .ok (.iload 4, 2) := by decide +kernel
theorem dX14_feed_71 : decode cX14_feed 71 = .ok (.goto 5, 3) := by decide +kernel
theorem dX14_feed_74 : decode cX14_feed 74 = .ok (.iload 5, 2) := by decide +kernel
theorem dX14_feed_76 : decode cX14_feed 76 = .ok (.istore 7, 2) := by decide +kernel
theorem dX14_feed_78 : decode cX14_feed 78 = .ok (.aload_n 0, 1) := by decide +kernel
theorem dX14_feed_79 : decode cX14_feed 79 = .ok (.getfield 16, 3) := by decide +kernel
theorem dX14_feed_82 : decode cX14_feed 82 = .ok (.aload_n 0, 1) := by decide +kernel
theorem dX14_feed_83 : decode cX14_feed 83 = .ok (.getfield 350, 3) := by decide +kernel
theorem dX14_feed_86 : decode cX14_feed 86 = .ok (.iload 7, 2) := by decide +kernel
theorem dX14_feed_88 : decode cX14_feed 88 = .ok (.bipush 24, 2) := by decide +kernel
theorem dX14_feed_90 : decode cX14_feed 90 = .ok (.bipush 8, 2) := by decide +kernel
theorem dX14_feed_92 : decode cX14_feed 92 = .ok (.iload 6, 2) := by decide +kernel
theorem dX14_feed_94 : decode cX14_feed 94 = .ok (.iconst 4, 1) := by decide +kernel
theorem dX14_feed_95 : decode cX14_feed 95 = .ok (.irem, 1) := by decide +kernel
theorem dX14_feed_96 : decode cX14_feed 96 = .ok (.imul, 1) := by decide +kernel
theorem dX14_feed_97 : decode cX14_feed 97 = .ok (.isub, 1) := by decide +kernel
theorem dX14_feed_98 : decode cX14_feed 98 = .ok (.ishr, 1) := by decide +kernel
theorem dX14_feed_99 : decode cX14_feed 99 = .ok (.i2b, 1) := by decide +kernel
theorem dX14_feed_100 : decode cX14_feed 100 = .ok (.bastore, 1) := by decide +kernel
theorem dX14_feed_101 : decode cX14_feed 101 = .ok (.aload_n 0, 1) := by decide +kernel
theorem dX14_feed_102 : decode cX14_feed 102 = .ok (.dup, 1) := by decide +kernel
theorem dX14_feed_103 : decode cX14_feed 103 = .ok (.getfield 350, 3) := by decide +kernel
theorem dX14_feed_106 : decode cX14_feed 106 = .ok (.iconst 1, 1) := by decide +kernel
theorem dX14_feed_107 : decode cX14_feed 107 = .ok (.iadd, 1) := by decide +kernel
theorem dX14_feed_108 : decode cX14_feed 108 = .ok (.putfield 350, 3) := by decide +kernel
theorem dX14_feed_111 : decode cX14_feed 111 = .ok (.iinc 6 1, 3) := by decide +kernel
theorem dX14_feed_114 : decode cX14_feed 114 = .ok (.goto (-91), 3) := by decide +kernel
theorem dX14_feed_117 : decode cX14_feed 117 = .ok (.aload_n 0, 1) := by decide +kernel
theorem dX14_feed_118 : decode cX14_feed 118 = .ok (.getfield 350, 3) := by decide +kernel
theorem dX14_feed_121 : decode cX14_feed 121 = .ok (.ireturn, 1) := by decide +kernel
set_option maxHeartbeats 4000000 in
set_option maxRecDepth 100000 in
theorem c_X14_feed (l : Launch) (dC : Nat → ClassId) (dI : Nat → Nat → Nat) (h0 : Nat) (m_stop : Nat) (m_tape : Nat) (m_p : Nat) (m_spare : Nat) (m_scope : Nat) (m_cellKind : Nat) (m_cellCount : Nat) (m_free : Nat) (m_pile : Nat) (m_cellField : Nat) (m_otherKind : Nat) (m_otherField : Nat) (m_taskWhat : Nat) (m_taskPart : Nat) (m_values : Nat) (m_slots : Nat) (m_present : Nat) (m_shell : Nat) (m_shellArm : Nat) (m_shellCall : Nat) (m_keptCounts : Nat) (m_asideKind : Nat) (m_asideCount : Nat) (m_asideField : Nat) (m_out : Nat) (m_side : Nat) (m_saying : Nat) (mkt : ClassId) (a1 : Int32) (a2 : Int32) (a3 : Int32) (a4 : Int32) (a5 : Int32) (sz : Nat)  : Met l yX14_feed (Cond.code yX14_feed cX14_feed 8 (some .int) :: zw) ({ frames := 8, cells := 0, slots := 0, locals := 200 }) (va_Pc [.ref h0, .int a1, .int a2, .int a3, .int a4, .int a5] (zP dC dI sz [(mkt, .byte)] [(h0, .inr (14, [.int 0, .ref m_stop, .ref m_tape, .int 0, .int 0, .int 0, .int 0, .int 0, .int 0, .long 0, .ref m_p, .ref m_spare, .int 0, .ref m_scope, .int 0, .int 0, .int 0, .int 0, .int (-1), .ref m_cellKind, .ref m_cellCount, .ref m_free, .ref m_pile, .ref m_cellField, .int 0, .int 0, .int 0, .ref m_otherKind, .ref m_otherField, .int 0, .int 0, .int 0, .int 0, .long 0, .long 0, .int 0, .int 0, .int 0, .int 0, .int 0, .int 0, .int 0, .ref m_taskWhat, .ref m_taskPart, .ref m_values, .int 0, .int 0, .int 0, .ref m_slots, .ref m_present, .ref m_shell, .ref m_shellArm, .ref m_shellCall, .int 0, .ref m_keptCounts, .ref m_asideKind, .ref m_asideCount, .ref m_asideField, .ref m_out, .ref m_side, .int 0, .int 0, .ref m_saying])), (m_tape, .inl (mkt, 2000, .inl (fun _ => 0)))])) (va_Qi (fun (r : Int32) (u : Unit) => r = 20) (fun u => zQ dC dI (va_A [(h0, .inr (14, [.int 0, .ref m_stop, .ref m_tape, .int 0, .int 0, .int 0, .int 0, .int 0, .int 0, .long 0, .ref m_p, .ref m_spare, .int 0, .ref m_scope, .int 0, .int 0, .int 0, .int 0, .int (-1), .ref m_cellKind, .ref m_cellCount, .ref m_free, .ref m_pile, .ref m_cellField, .int 0, .int 0, .int 0, .ref m_otherKind, .ref m_otherField, .int 0, .int 0, .int 0, .int 0, .long 0, .long 0, .int 0, .int 0, .int 0, .int 0, .int 0, .int 0, .int 0, .ref m_taskWhat, .ref m_taskPart, .ref m_values, .int 0, .int 0, .int 0, .ref m_slots, .ref m_present, .ref m_shell, .ref m_shellArm, .ref m_shellCall, .int 0, .ref m_keptCounts, .ref m_asideKind, .ref m_asideCount, .ref m_asideField, .ref m_out, .ref m_side, .int 0, .int 0, .ref m_saying])), (m_tape, .inl (mkt, 2000, .inl (fun _ => 0)))] sz) [] []) (va_A [(h0, .inr (14, [.int 0, .ref m_stop, .ref m_tape, .int 0, .int 0, .int 0, .int 0, .int 0, .int 0, .long 0, .ref m_p, .ref m_spare, .int 0, .ref m_scope, .int 0, .int 0, .int 0, .int 0, .int (-1), .ref m_cellKind, .ref m_cellCount, .ref m_free, .ref m_pile, .ref m_cellField, .int 0, .int 0, .int 0, .ref m_otherKind, .ref m_otherField, .int 0, .int 0, .int 0, .int 0, .long 0, .long 0, .int 0, .int 0, .int 0, .int 0, .int 0, .int 0, .int 0, .ref m_taskWhat, .ref m_taskPart, .ref m_values, .int 0, .int 0, .int 0, .ref m_slots, .ref m_present, .ref m_shell, .ref m_shellArm, .ref m_shellCall, .int 0, .ref m_keptCounts, .ref m_asideKind, .ref m_asideCount, .ref m_asideField, .ref m_out, .ref m_side, .int 0, .int 0, .ref m_saying])), (m_tape, .inl (mkt, 2000, .inl (fun _ => 0)))] sz)) 0 0 (va_A [(h0, .inr (14, [.int 0, .ref m_stop, .ref m_tape, .int 0, .int 0, .int 0, .int 0, .int 0, .int 0, .long 0, .ref m_p, .ref m_spare, .int 0, .ref m_scope, .int 0, .int 0, .int 0, .int 0, .int (-1), .ref m_cellKind, .ref m_cellCount, .ref m_free, .ref m_pile, .ref m_cellField, .int 0, .int 0, .int 0, .ref m_otherKind, .ref m_otherField, .int 0, .int 0, .int 0, .int 0, .long 0, .long 0, .int 0, .int 0, .int 0, .int 0, .int 0, .int 0, .int 0, .ref m_taskWhat, .ref m_taskPart, .ref m_values, .int 0, .int 0, .int 0, .ref m_slots, .ref m_present, .ref m_shell, .ref m_shellArm, .ref m_shellCall, .int 0, .ref m_keptCounts, .ref m_asideKind, .ref m_asideCount, .ref m_asideField, .ref m_out, .ref m_side, .int 0, .int 0, .ref m_saying])), (m_tape, .inl (mkt, 2000, .inl (fun _ => 0)))] sz) := by
  refine Met.ofW (cc := cX14_feed) (maxL := 8) (ret := (some .int)) (by decide) rfl ?_
  intro p e s m args below meth c s₁ B hml hv
  obtain ⟨rfl, hsz, hP, hK, hD0, hN, hT⟩ := hv
  have hx := B.exec
  have hb := B.bytes
  have hr := B.returns
  have hts := atoms_spec (ws := Cond.code yX14_feed cX14_feed 8 (some .int) :: zw) B.pre
  have hA : ∀ w ∈ zw, w.before _ s = true := fun w h => hts w (List.mem_cons_of_mem _ h)
  have hown : s.vm.findClass RX14 = some m.cls := findClass_of_methodNamed B.named
  have hlocks := B.notSynchronized
  subst hsz
  have hD := hD0.self (sz := s.heap.size)
  generalize hAe : va_A [(h0, .inr (14, [.int 0, .ref m_stop, .ref m_tape, .int 0, .int 0, .int 0, .int 0, .int 0, .int 0, .long 0, .ref m_p, .ref m_spare, .int 0, .ref m_scope, .int 0, .int 0, .int 0, .int 0, .int (-1), .ref m_cellKind, .ref m_cellCount, .ref m_free, .ref m_pile, .ref m_cellField, .int 0, .int 0, .int 0, .ref m_otherKind, .ref m_otherField, .int 0, .int 0, .int 0, .int 0, .long 0, .long 0, .int 0, .int 0, .int 0, .int 0, .int 0, .int 0, .int 0, .ref m_taskWhat, .ref m_taskPart, .ref m_values, .int 0, .int 0, .int 0, .ref m_slots, .ref m_present, .ref m_shell, .ref m_shellArm, .ref m_shellCall, .int 0, .ref m_keptCounts, .ref m_asideKind, .ref m_asideCount, .ref m_asideField, .ref m_out, .ref m_side, .int 0, .int 0, .ref m_saying])), (m_tape, .inl (mkt, 2000, .inl (fun _ => 0)))] s.heap.size = A at hD hT ⊢
  have hAA : ∀ q : Nat, s.heap.size ≤ q → A q := fun q h => by rw [← hAe]; exact Or.inr h
  have hS : va_S A s.heap s.heap [] := va_S.rf
  have hl := lv_entry ([.ref h0, .int a1, .int a2, .int a3, .int a4, .int a5]) (n := 8) (Nat.le_of_ble_eq_true rfl)
  rw [lg_entry_eq]
  generalize (lg_sl ([.ref h0, .int a1, .int a2, .int a3, .int a4, .int a5]) ++ List.replicate (8 - (lg_sl ([.ref h0, .int a1, .int a2, .int a3, .int a4, .int a5])).length) Slot.unset).toArray = ls at hl ⊢
  have hl : lv_has ls 8 [(0, .ref h0), (1, .int a1), (2, .int a2), (3, .int a3), (4, .int a4), (5, .int a5)] := hl
  refine lv_aload_n hx hb dX14_feed_0 rfl (lv_at hl 0 rfl) ?_
  refine lv_iconst (v := 0) hx hb dX14_feed_1 (by decide) ?_
  refine va_put (D := (dC, dI)) (ci := 14) (v := .int 0) (ty := .int) (C := RX14) (T := TX14) (N := 63) hx hb hA zin_X14 tyX14 tyX14_ok nmX14 hown hK hP hD hS 0 rfl rfl 0 (by decide) (hA _ wi_1497) (fun _ h9 => h9) rfl (by decide +kernel) rfl rfl (Nat.le_of_ble_eq_true rfl) dX14_feed_2 (fun H locs hP hD hS => ?_)
  have hP : va_P (dC, dI) vwCl [(h0, .inr (14, [.int 0, .ref m_stop, .ref m_tape, .int 0, .int 0, .int 0, .int 0, .int 0, .int 0, .long 0, .ref m_p, .ref m_spare, .int 0, .ref m_scope, .int 0, .int 0, .int 0, .int 0, .int (-1), .ref m_cellKind, .ref m_cellCount, .ref m_free, .ref m_pile, .ref m_cellField, .int 0, .int 0, .int 0, .ref m_otherKind, .ref m_otherField, .int 0, .int 0, .int 0, .int 0, .long 0, .long 0, .int 0, .int 0, .int 0, .int 0, .int 0, .int 0, .int 0, .ref m_taskWhat, .ref m_taskPart, .ref m_values, .int 0, .int 0, .int 0, .ref m_slots, .ref m_present, .ref m_shell, .ref m_shellArm, .ref m_shellCall, .int 0, .ref m_keptCounts, .ref m_asideKind, .ref m_asideCount, .ref m_asideField, .ref m_out, .ref m_side, .int 0, .int 0, .ref m_saying])), (m_tape, .inl (mkt, 2000, .inl (fun _ => 0)))] H := hP
  have hD : va_D A [(h0, .inr (14, [.int 0, .ref m_stop, .ref m_tape, .int 0, .int 0, .int 0, .int 0, .int 0, .int 0, .long 0, .ref m_p, .ref m_spare, .int 0, .ref m_scope, .int 0, .int 0, .int 0, .int 0, .int (-1), .ref m_cellKind, .ref m_cellCount, .ref m_free, .ref m_pile, .ref m_cellField, .int 0, .int 0, .int 0, .ref m_otherKind, .ref m_otherField, .int 0, .int 0, .int 0, .int 0, .long 0, .long 0, .int 0, .int 0, .int 0, .int 0, .int 0, .int 0, .int 0, .ref m_taskWhat, .ref m_taskPart, .ref m_values, .int 0, .int 0, .int 0, .ref m_slots, .ref m_present, .ref m_shell, .ref m_shellArm, .ref m_shellCall, .int 0, .ref m_keptCounts, .ref m_asideKind, .ref m_asideCount, .ref m_asideField, .ref m_out, .ref m_side, .int 0, .int 0, .ref m_saying])), (m_tape, .inl (mkt, 2000, .inl (fun _ => 0)))] := hD
  refine lv_aload_n hx hb dX14_feed_5 rfl (lv_at hl 0 rfl) ?_
  refine va_get (D := (dC, dI)) (ci := 14) (v := .int 0) (C := RX14) (T := TX14) (N := 63) hx hb hA zin_X14 hown hK hP 0 rfl rfl 3 (by decide) (hA _ wi_1500) (fun _ h9 => h9) rfl dX14_feed_6 ?_
  refine lv_bipush (v := 20) hx hb dX14_feed_9 (by decide) ?_
  refine lv_iadd hx hb dX14_feed_11 ?_
  refine lv_topi (fun x_1 ex_1 => ?_)
  obtain rfl : x_1 = 20 := ex_1.trans (by decide)
  refine lv_sipush (v := 2000) hx hb dX14_feed_12 (by decide) ?_
  refine lv_icmp_le (tgt := 20) hx hb dX14_feed_15 (by decide) (fun _ => ?_) (fun c_0 => absurd (by decide) c_0)
  refine lv_iconst (v := 0) hx hb dX14_feed_20 (by decide) ?_
  refine lv_istore (lv' := [(6, .int 0), (0, .ref h0), (1, .int a1), (2, .int a2), (3, .int a3), (4, .int a4), (5, .int a5)]) hx hb dX14_feed_21 hl (by decide) rfl (fun ls hl => ?_)
  refine lv_iload hx hb dX14_feed_23 (lv_at hl 0 rfl) ?_
  refine lv_bipush (v := 20) hx hb dX14_feed_25 (by decide) ?_
  refine lv_icmp_ge (tgt := 117) hx hb dX14_feed_27 (by decide) (fun c_0 => absurd c_0 (by decide)) (fun _ => ?_)
  refine lv_iload hx hb dX14_feed_30 (lv_at hl 0 rfl) ?_
  refine lv_iconst (v := 4) hx hb dX14_feed_32 (by decide) ?_
  refine lv_icmp_ge (tgt := 40) hx hb dX14_feed_33 (by decide) (fun c_0 => absurd c_0 (by decide)) (fun _ => ?_)
  refine lv_iload_n hx hb dX14_feed_36 rfl (lv_at hl 2 rfl) ?_
  refine lv_goto (tgt := 76) hx hb dX14_feed_37 (by decide) ?_
  refine lv_istore (lv' := [(7, .int a1), (6, .int 0), (0, .ref h0), (1, .int a1), (2, .int a2), (3, .int a3), (4, .int a4), (5, .int a5)]) hx hb dX14_feed_76 hl (by decide) rfl (fun ls hl => ?_)
  refine lv_aload_n hx hb dX14_feed_78 rfl (lv_at hl 2 rfl) ?_
  refine va_get (D := (dC, dI)) (ci := 14) (v := .ref m_tape) (C := RX14) (T := TX14) (N := 63) hx hb hA zin_X14 hown hK hP 0 rfl rfl 2 (by decide) (hA _ wi_1499) (fun _ h9 => h9) rfl dX14_feed_79 ?_
  refine lv_aload_n hx hb dX14_feed_82 rfl (lv_at hl 2 rfl) ?_
  refine va_get (D := (dC, dI)) (ci := 14) (v := .int 0) (C := RX14) (T := TX14) (N := 63) hx hb hA zin_X14 hown hK hP 0 rfl rfl 3 (by decide) (hA _ wi_1500) (fun _ h9 => h9) rfl dX14_feed_83 ?_
  refine lv_iload hx hb dX14_feed_86 (lv_at hl 0 rfl) ?_
  refine lv_bipush (v := 24) hx hb dX14_feed_88 (by decide) ?_
  refine lv_bipush (v := 8) hx hb dX14_feed_90 (by decide) ?_
  refine lv_iload hx hb dX14_feed_92 (lv_at hl 1 rfl) ?_
  refine lv_iconst (v := 4) hx hb dX14_feed_94 (by decide) ?_
  refine lv_irem hx hb dX14_feed_95 (by decide) ?_
  refine lv_topi (fun x_2 ex_2 => ?_)
  obtain rfl : x_2 = 0 := ex_2.trans (by decide)
  refine lv_imul hx hb dX14_feed_96 ?_
  refine lv_topi (fun x_3 ex_3 => ?_)
  obtain rfl : x_3 = 0 := ex_3.trans (by decide)
  refine lv_isub hx hb dX14_feed_97 ?_
  refine lv_topi (fun x_4 ex_4 => ?_)
  obtain rfl : x_4 = 24 := ex_4.trans (by decide)
  refine lv_ishr hx hb dX14_feed_98 ?_
  refine lv_topi (fun x_5 ex_5 => ?_)
  obtain ⟨x_6, ex_6⟩ : ∃ z : Int32, z = (Int32.toInt8 x_5).toInt32 := ⟨_, rfl⟩
  refine lv_i2b (v := x_6) hx hb dX14_feed_99 ex_6.symm ?_
  refine va_bast hx hb hK hP hD hS 1 0 rfl rfl (by unfold vp_in; decide) dX14_feed_100 (fun H locs hP hD hS => ?_)
  obtain ⟨f_7, ef_7⟩ : ∃ gz9 : Nat → Int32, gz9 = upd (fun _ => 0) (Int32.toNatClampNeg 0) (vp_nar .byte x_6) := ⟨_, rfl⟩
  rw [← ef_7] at hP hD
  have hP : va_P (dC, dI) vwCl [(h0, .inr (14, [.int 0, .ref m_stop, .ref m_tape, .int 0, .int 0, .int 0, .int 0, .int 0, .int 0, .long 0, .ref m_p, .ref m_spare, .int 0, .ref m_scope, .int 0, .int 0, .int 0, .int 0, .int (-1), .ref m_cellKind, .ref m_cellCount, .ref m_free, .ref m_pile, .ref m_cellField, .int 0, .int 0, .int 0, .ref m_otherKind, .ref m_otherField, .int 0, .int 0, .int 0, .int 0, .long 0, .long 0, .int 0, .int 0, .int 0, .int 0, .int 0, .int 0, .int 0, .ref m_taskWhat, .ref m_taskPart, .ref m_values, .int 0, .int 0, .int 0, .ref m_slots, .ref m_present, .ref m_shell, .ref m_shellArm, .ref m_shellCall, .int 0, .ref m_keptCounts, .ref m_asideKind, .ref m_asideCount, .ref m_asideField, .ref m_out, .ref m_side, .int 0, .int 0, .ref m_saying])), (m_tape, .inl (mkt, 2000, .inl f_7))] H := hP
  have hD : va_D A [(h0, .inr (14, [.int 0, .ref m_stop, .ref m_tape, .int 0, .int 0, .int 0, .int 0, .int 0, .int 0, .long 0, .ref m_p, .ref m_spare, .int 0, .ref m_scope, .int 0, .int 0, .int 0, .int 0, .int (-1), .ref m_cellKind, .ref m_cellCount, .ref m_free, .ref m_pile, .ref m_cellField, .int 0, .int 0, .int 0, .ref m_otherKind, .ref m_otherField, .int 0, .int 0, .int 0, .int 0, .long 0, .long 0, .int 0, .int 0, .int 0, .int 0, .int 0, .int 0, .int 0, .ref m_taskWhat, .ref m_taskPart, .ref m_values, .int 0, .int 0, .int 0, .ref m_slots, .ref m_present, .ref m_shell, .ref m_shellArm, .ref m_shellCall, .int 0, .ref m_keptCounts, .ref m_asideKind, .ref m_asideCount, .ref m_asideField, .ref m_out, .ref m_side, .int 0, .int 0, .ref m_saying])), (m_tape, .inl (mkt, 2000, .inl f_7))] := hD
  refine lv_aload_n hx hb dX14_feed_101 rfl (lv_at hl 2 rfl) ?_
  refine lv_dup hx hb dX14_feed_102 rfl ?_
  refine va_get (D := (dC, dI)) (ci := 14) (v := .int 0) (C := RX14) (T := TX14) (N := 63) hx hb hA zin_X14 hown hK hP 0 rfl rfl 3 (by decide) (hA _ wi_1500) (fun _ h9 => h9) rfl dX14_feed_103 ?_
  refine lv_iconst (v := 1) hx hb dX14_feed_106 (by decide) ?_
  refine lv_iadd hx hb dX14_feed_107 ?_
  refine lv_topi (fun x_8 ex_8 => ?_)
  obtain rfl : x_8 = 1 := ex_8.trans (by decide)
  refine va_put (D := (dC, dI)) (ci := 14) (v := .int 1) (ty := .int) (C := RX14) (T := TX14) (N := 63) hx hb hA zin_X14 tyX14 tyX14_ok nmX14 hown hK hP hD hS 0 rfl rfl 3 (by decide) (hA _ wi_1500) (fun _ h9 => h9) rfl (by decide +kernel) rfl rfl (Nat.le_of_ble_eq_true rfl) dX14_feed_108 (fun H locs hP hD hS => ?_)
  have hP : va_P (dC, dI) vwCl [(h0, .inr (14, [.int 0, .ref m_stop, .ref m_tape, .int 1, .int 0, .int 0, .int 0, .int 0, .int 0, .long 0, .ref m_p, .ref m_spare, .int 0, .ref m_scope, .int 0, .int 0, .int 0, .int 0, .int (-1), .ref m_cellKind, .ref m_cellCount, .ref m_free, .ref m_pile, .ref m_cellField, .int 0, .int 0, .int 0, .ref m_otherKind, .ref m_otherField, .int 0, .int 0, .int 0, .int 0, .long 0, .long 0, .int 0, .int 0, .int 0, .int 0, .int 0, .int 0, .int 0, .ref m_taskWhat, .ref m_taskPart, .ref m_values, .int 0, .int 0, .int 0, .ref m_slots, .ref m_present, .ref m_shell, .ref m_shellArm, .ref m_shellCall, .int 0, .ref m_keptCounts, .ref m_asideKind, .ref m_asideCount, .ref m_asideField, .ref m_out, .ref m_side, .int 0, .int 0, .ref m_saying])), (m_tape, .inl (mkt, 2000, .inl f_7))] H := hP
  have hD : va_D A [(h0, .inr (14, [.int 0, .ref m_stop, .ref m_tape, .int 1, .int 0, .int 0, .int 0, .int 0, .int 0, .long 0, .ref m_p, .ref m_spare, .int 0, .ref m_scope, .int 0, .int 0, .int 0, .int 0, .int (-1), .ref m_cellKind, .ref m_cellCount, .ref m_free, .ref m_pile, .ref m_cellField, .int 0, .int 0, .int 0, .ref m_otherKind, .ref m_otherField, .int 0, .int 0, .int 0, .int 0, .long 0, .long 0, .int 0, .int 0, .int 0, .int 0, .int 0, .int 0, .int 0, .ref m_taskWhat, .ref m_taskPart, .ref m_values, .int 0, .int 0, .int 0, .ref m_slots, .ref m_present, .ref m_shell, .ref m_shellArm, .ref m_shellCall, .int 0, .ref m_keptCounts, .ref m_asideKind, .ref m_asideCount, .ref m_asideField, .ref m_out, .ref m_side, .int 0, .int 0, .ref m_saying])), (m_tape, .inl (mkt, 2000, .inl f_7))] := hD
  refine lv_iinc (v := 1) (lv' := [(6, .int 1), (7, .int a1), (0, .ref h0), (1, .int a1), (2, .int a2), (3, .int a3), (4, .int a4), (5, .int a5)]) hx hb dX14_feed_111 hl (k := 1) rfl (by decide) (by decide) rfl (fun ls hl => ?_)
  refine lv_goto (tgt := 23) hx hb dX14_feed_114 (by decide) ?_
  refine lv_iload hx hb dX14_feed_23 (lv_at hl 0 rfl) ?_
  refine lv_bipush (v := 20) hx hb dX14_feed_25 (by decide) ?_
  refine lv_icmp_ge (tgt := 117) hx hb dX14_feed_27 (by decide) (fun c_0 => absurd c_0 (by decide)) (fun _ => ?_)
  refine lv_iload hx hb dX14_feed_30 (lv_at hl 0 rfl) ?_
  refine lv_iconst (v := 4) hx hb dX14_feed_32 (by decide) ?_
  refine lv_icmp_ge (tgt := 40) hx hb dX14_feed_33 (by decide) (fun c_0 => absurd c_0 (by decide)) (fun _ => ?_)
  refine lv_iload_n hx hb dX14_feed_36 rfl (lv_at hl 3 rfl) ?_
  refine lv_goto (tgt := 76) hx hb dX14_feed_37 (by decide) ?_
  refine lv_istore (lv' := [(7, .int a1), (6, .int 1), (0, .ref h0), (1, .int a1), (2, .int a2), (3, .int a3), (4, .int a4), (5, .int a5)]) hx hb dX14_feed_76 hl (by decide) rfl (fun ls hl => ?_)
  refine lv_aload_n hx hb dX14_feed_78 rfl (lv_at hl 2 rfl) ?_
  refine va_get (D := (dC, dI)) (ci := 14) (v := .ref m_tape) (C := RX14) (T := TX14) (N := 63) hx hb hA zin_X14 hown hK hP 0 rfl rfl 2 (by decide) (hA _ wi_1499) (fun _ h9 => h9) rfl dX14_feed_79 ?_
  refine lv_aload_n hx hb dX14_feed_82 rfl (lv_at hl 2 rfl) ?_
  refine va_get (D := (dC, dI)) (ci := 14) (v := .int 1) (C := RX14) (T := TX14) (N := 63) hx hb hA zin_X14 hown hK hP 0 rfl rfl 3 (by decide) (hA _ wi_1500) (fun _ h9 => h9) rfl dX14_feed_83 ?_
  refine lv_iload hx hb dX14_feed_86 (lv_at hl 0 rfl) ?_
  refine lv_bipush (v := 24) hx hb dX14_feed_88 (by decide) ?_
  refine lv_bipush (v := 8) hx hb dX14_feed_90 (by decide) ?_
  refine lv_iload hx hb dX14_feed_92 (lv_at hl 1 rfl) ?_
  refine lv_iconst (v := 4) hx hb dX14_feed_94 (by decide) ?_
  refine lv_irem hx hb dX14_feed_95 (by decide) ?_
  refine lv_topi (fun x_9 ex_9 => ?_)
  obtain rfl : x_9 = 1 := ex_9.trans (by decide)
  refine lv_imul hx hb dX14_feed_96 ?_
  refine lv_topi (fun x_10 ex_10 => ?_)
  obtain rfl : x_10 = 8 := ex_10.trans (by decide)
  refine lv_isub hx hb dX14_feed_97 ?_
  refine lv_topi (fun x_11 ex_11 => ?_)
  obtain rfl : x_11 = 16 := ex_11.trans (by decide)
  refine lv_ishr hx hb dX14_feed_98 ?_
  refine lv_topi (fun x_12 ex_12 => ?_)
  obtain ⟨x_13, ex_13⟩ : ∃ z : Int32, z = (Int32.toInt8 x_12).toInt32 := ⟨_, rfl⟩
  refine lv_i2b (v := x_13) hx hb dX14_feed_99 ex_13.symm ?_
  refine va_bast hx hb hK hP hD hS 1 0 rfl rfl (by unfold vp_in; decide) dX14_feed_100 (fun H locs hP hD hS => ?_)
  obtain ⟨f_14, ef_14⟩ : ∃ gz9 : Nat → Int32, gz9 = upd f_7 (Int32.toNatClampNeg 1) (vp_nar .byte x_13) := ⟨_, rfl⟩
  rw [← ef_14] at hP hD
  have hP : va_P (dC, dI) vwCl [(h0, .inr (14, [.int 0, .ref m_stop, .ref m_tape, .int 1, .int 0, .int 0, .int 0, .int 0, .int 0, .long 0, .ref m_p, .ref m_spare, .int 0, .ref m_scope, .int 0, .int 0, .int 0, .int 0, .int (-1), .ref m_cellKind, .ref m_cellCount, .ref m_free, .ref m_pile, .ref m_cellField, .int 0, .int 0, .int 0, .ref m_otherKind, .ref m_otherField, .int 0, .int 0, .int 0, .int 0, .long 0, .long 0, .int 0, .int 0, .int 0, .int 0, .int 0, .int 0, .int 0, .ref m_taskWhat, .ref m_taskPart, .ref m_values, .int 0, .int 0, .int 0, .ref m_slots, .ref m_present, .ref m_shell, .ref m_shellArm, .ref m_shellCall, .int 0, .ref m_keptCounts, .ref m_asideKind, .ref m_asideCount, .ref m_asideField, .ref m_out, .ref m_side, .int 0, .int 0, .ref m_saying])), (m_tape, .inl (mkt, 2000, .inl f_14))] H := hP
  have hD : va_D A [(h0, .inr (14, [.int 0, .ref m_stop, .ref m_tape, .int 1, .int 0, .int 0, .int 0, .int 0, .int 0, .long 0, .ref m_p, .ref m_spare, .int 0, .ref m_scope, .int 0, .int 0, .int 0, .int 0, .int (-1), .ref m_cellKind, .ref m_cellCount, .ref m_free, .ref m_pile, .ref m_cellField, .int 0, .int 0, .int 0, .ref m_otherKind, .ref m_otherField, .int 0, .int 0, .int 0, .int 0, .long 0, .long 0, .int 0, .int 0, .int 0, .int 0, .int 0, .int 0, .int 0, .ref m_taskWhat, .ref m_taskPart, .ref m_values, .int 0, .int 0, .int 0, .ref m_slots, .ref m_present, .ref m_shell, .ref m_shellArm, .ref m_shellCall, .int 0, .ref m_keptCounts, .ref m_asideKind, .ref m_asideCount, .ref m_asideField, .ref m_out, .ref m_side, .int 0, .int 0, .ref m_saying])), (m_tape, .inl (mkt, 2000, .inl f_14))] := hD
  refine lv_aload_n hx hb dX14_feed_101 rfl (lv_at hl 2 rfl) ?_
  refine lv_dup hx hb dX14_feed_102 rfl ?_
  refine va_get (D := (dC, dI)) (ci := 14) (v := .int 1) (C := RX14) (T := TX14) (N := 63) hx hb hA zin_X14 hown hK hP 0 rfl rfl 3 (by decide) (hA _ wi_1500) (fun _ h9 => h9) rfl dX14_feed_103 ?_
  refine lv_iconst (v := 1) hx hb dX14_feed_106 (by decide) ?_
  refine lv_iadd hx hb dX14_feed_107 ?_
  refine lv_topi (fun x_15 ex_15 => ?_)
  obtain rfl : x_15 = 2 := ex_15.trans (by decide)
  refine va_put (D := (dC, dI)) (ci := 14) (v := .int 2) (ty := .int) (C := RX14) (T := TX14) (N := 63) hx hb hA zin_X14 tyX14 tyX14_ok nmX14 hown hK hP hD hS 0 rfl rfl 3 (by decide) (hA _ wi_1500) (fun _ h9 => h9) rfl (by decide +kernel) rfl rfl (Nat.le_of_ble_eq_true rfl) dX14_feed_108 (fun H locs hP hD hS => ?_)
  have hP : va_P (dC, dI) vwCl [(h0, .inr (14, [.int 0, .ref m_stop, .ref m_tape, .int 2, .int 0, .int 0, .int 0, .int 0, .int 0, .long 0, .ref m_p, .ref m_spare, .int 0, .ref m_scope, .int 0, .int 0, .int 0, .int 0, .int (-1), .ref m_cellKind, .ref m_cellCount, .ref m_free, .ref m_pile, .ref m_cellField, .int 0, .int 0, .int 0, .ref m_otherKind, .ref m_otherField, .int 0, .int 0, .int 0, .int 0, .long 0, .long 0, .int 0, .int 0, .int 0, .int 0, .int 0, .int 0, .int 0, .ref m_taskWhat, .ref m_taskPart, .ref m_values, .int 0, .int 0, .int 0, .ref m_slots, .ref m_present, .ref m_shell, .ref m_shellArm, .ref m_shellCall, .int 0, .ref m_keptCounts, .ref m_asideKind, .ref m_asideCount, .ref m_asideField, .ref m_out, .ref m_side, .int 0, .int 0, .ref m_saying])), (m_tape, .inl (mkt, 2000, .inl f_14))] H := hP
  have hD : va_D A [(h0, .inr (14, [.int 0, .ref m_stop, .ref m_tape, .int 2, .int 0, .int 0, .int 0, .int 0, .int 0, .long 0, .ref m_p, .ref m_spare, .int 0, .ref m_scope, .int 0, .int 0, .int 0, .int 0, .int (-1), .ref m_cellKind, .ref m_cellCount, .ref m_free, .ref m_pile, .ref m_cellField, .int 0, .int 0, .int 0, .ref m_otherKind, .ref m_otherField, .int 0, .int 0, .int 0, .int 0, .long 0, .long 0, .int 0, .int 0, .int 0, .int 0, .int 0, .int 0, .int 0, .ref m_taskWhat, .ref m_taskPart, .ref m_values, .int 0, .int 0, .int 0, .ref m_slots, .ref m_present, .ref m_shell, .ref m_shellArm, .ref m_shellCall, .int 0, .ref m_keptCounts, .ref m_asideKind, .ref m_asideCount, .ref m_asideField, .ref m_out, .ref m_side, .int 0, .int 0, .ref m_saying])), (m_tape, .inl (mkt, 2000, .inl f_14))] := hD
  refine lv_iinc (v := 2) (lv' := [(6, .int 2), (7, .int a1), (0, .ref h0), (1, .int a1), (2, .int a2), (3, .int a3), (4, .int a4), (5, .int a5)]) hx hb dX14_feed_111 hl (k := 1) rfl (by decide) (by decide) rfl (fun ls hl => ?_)
  refine lv_goto (tgt := 23) hx hb dX14_feed_114 (by decide) ?_
  refine lv_iload hx hb dX14_feed_23 (lv_at hl 0 rfl) ?_
  refine lv_bipush (v := 20) hx hb dX14_feed_25 (by decide) ?_
  refine lv_icmp_ge (tgt := 117) hx hb dX14_feed_27 (by decide) (fun c_0 => absurd c_0 (by decide)) (fun _ => ?_)
  refine lv_iload hx hb dX14_feed_30 (lv_at hl 0 rfl) ?_
  refine lv_iconst (v := 4) hx hb dX14_feed_32 (by decide) ?_
  refine lv_icmp_ge (tgt := 40) hx hb dX14_feed_33 (by decide) (fun c_0 => absurd c_0 (by decide)) (fun _ => ?_)
  refine lv_iload_n hx hb dX14_feed_36 rfl (lv_at hl 3 rfl) ?_
  refine lv_goto (tgt := 76) hx hb dX14_feed_37 (by decide) ?_
  refine lv_istore (lv' := [(7, .int a1), (6, .int 2), (0, .ref h0), (1, .int a1), (2, .int a2), (3, .int a3), (4, .int a4), (5, .int a5)]) hx hb dX14_feed_76 hl (by decide) rfl (fun ls hl => ?_)
  refine lv_aload_n hx hb dX14_feed_78 rfl (lv_at hl 2 rfl) ?_
  refine va_get (D := (dC, dI)) (ci := 14) (v := .ref m_tape) (C := RX14) (T := TX14) (N := 63) hx hb hA zin_X14 hown hK hP 0 rfl rfl 2 (by decide) (hA _ wi_1499) (fun _ h9 => h9) rfl dX14_feed_79 ?_
  refine lv_aload_n hx hb dX14_feed_82 rfl (lv_at hl 2 rfl) ?_
  refine va_get (D := (dC, dI)) (ci := 14) (v := .int 2) (C := RX14) (T := TX14) (N := 63) hx hb hA zin_X14 hown hK hP 0 rfl rfl 3 (by decide) (hA _ wi_1500) (fun _ h9 => h9) rfl dX14_feed_83 ?_
  refine lv_iload hx hb dX14_feed_86 (lv_at hl 0 rfl) ?_
  refine lv_bipush (v := 24) hx hb dX14_feed_88 (by decide) ?_
  refine lv_bipush (v := 8) hx hb dX14_feed_90 (by decide) ?_
  refine lv_iload hx hb dX14_feed_92 (lv_at hl 1 rfl) ?_
  refine lv_iconst (v := 4) hx hb dX14_feed_94 (by decide) ?_
  refine lv_irem hx hb dX14_feed_95 (by decide) ?_
  refine lv_topi (fun x_16 ex_16 => ?_)
  obtain rfl : x_16 = 2 := ex_16.trans (by decide)
  refine lv_imul hx hb dX14_feed_96 ?_
  refine lv_topi (fun x_17 ex_17 => ?_)
  obtain rfl : x_17 = 16 := ex_17.trans (by decide)
  refine lv_isub hx hb dX14_feed_97 ?_
  refine lv_topi (fun x_18 ex_18 => ?_)
  obtain rfl : x_18 = 8 := ex_18.trans (by decide)
  refine lv_ishr hx hb dX14_feed_98 ?_
  refine lv_topi (fun x_19 ex_19 => ?_)
  obtain ⟨x_20, ex_20⟩ : ∃ z : Int32, z = (Int32.toInt8 x_19).toInt32 := ⟨_, rfl⟩
  refine lv_i2b (v := x_20) hx hb dX14_feed_99 ex_20.symm ?_
  refine va_bast hx hb hK hP hD hS 1 0 rfl rfl (by unfold vp_in; decide) dX14_feed_100 (fun H locs hP hD hS => ?_)
  obtain ⟨f_21, ef_21⟩ : ∃ gz9 : Nat → Int32, gz9 = upd f_14 (Int32.toNatClampNeg 2) (vp_nar .byte x_20) := ⟨_, rfl⟩
  rw [← ef_21] at hP hD
  have hP : va_P (dC, dI) vwCl [(h0, .inr (14, [.int 0, .ref m_stop, .ref m_tape, .int 2, .int 0, .int 0, .int 0, .int 0, .int 0, .long 0, .ref m_p, .ref m_spare, .int 0, .ref m_scope, .int 0, .int 0, .int 0, .int 0, .int (-1), .ref m_cellKind, .ref m_cellCount, .ref m_free, .ref m_pile, .ref m_cellField, .int 0, .int 0, .int 0, .ref m_otherKind, .ref m_otherField, .int 0, .int 0, .int 0, .int 0, .long 0, .long 0, .int 0, .int 0, .int 0, .int 0, .int 0, .int 0, .int 0, .ref m_taskWhat, .ref m_taskPart, .ref m_values, .int 0, .int 0, .int 0, .ref m_slots, .ref m_present, .ref m_shell, .ref m_shellArm, .ref m_shellCall, .int 0, .ref m_keptCounts, .ref m_asideKind, .ref m_asideCount, .ref m_asideField, .ref m_out, .ref m_side, .int 0, .int 0, .ref m_saying])), (m_tape, .inl (mkt, 2000, .inl f_21))] H := hP
  have hD : va_D A [(h0, .inr (14, [.int 0, .ref m_stop, .ref m_tape, .int 2, .int 0, .int 0, .int 0, .int 0, .int 0, .long 0, .ref m_p, .ref m_spare, .int 0, .ref m_scope, .int 0, .int 0, .int 0, .int 0, .int (-1), .ref m_cellKind, .ref m_cellCount, .ref m_free, .ref m_pile, .ref m_cellField, .int 0, .int 0, .int 0, .ref m_otherKind, .ref m_otherField, .int 0, .int 0, .int 0, .int 0, .long 0, .long 0, .int 0, .int 0, .int 0, .int 0, .int 0, .int 0, .int 0, .ref m_taskWhat, .ref m_taskPart, .ref m_values, .int 0, .int 0, .int 0, .ref m_slots, .ref m_present, .ref m_shell, .ref m_shellArm, .ref m_shellCall, .int 0, .ref m_keptCounts, .ref m_asideKind, .ref m_asideCount, .ref m_asideField, .ref m_out, .ref m_side, .int 0, .int 0, .ref m_saying])), (m_tape, .inl (mkt, 2000, .inl f_21))] := hD
  refine lv_aload_n hx hb dX14_feed_101 rfl (lv_at hl 2 rfl) ?_
  refine lv_dup hx hb dX14_feed_102 rfl ?_
  refine va_get (D := (dC, dI)) (ci := 14) (v := .int 2) (C := RX14) (T := TX14) (N := 63) hx hb hA zin_X14 hown hK hP 0 rfl rfl 3 (by decide) (hA _ wi_1500) (fun _ h9 => h9) rfl dX14_feed_103 ?_
  refine lv_iconst (v := 1) hx hb dX14_feed_106 (by decide) ?_
  refine lv_iadd hx hb dX14_feed_107 ?_
  refine lv_topi (fun x_22 ex_22 => ?_)
  obtain rfl : x_22 = 3 := ex_22.trans (by decide)
  refine va_put (D := (dC, dI)) (ci := 14) (v := .int 3) (ty := .int) (C := RX14) (T := TX14) (N := 63) hx hb hA zin_X14 tyX14 tyX14_ok nmX14 hown hK hP hD hS 0 rfl rfl 3 (by decide) (hA _ wi_1500) (fun _ h9 => h9) rfl (by decide +kernel) rfl rfl (Nat.le_of_ble_eq_true rfl) dX14_feed_108 (fun H locs hP hD hS => ?_)
  have hP : va_P (dC, dI) vwCl [(h0, .inr (14, [.int 0, .ref m_stop, .ref m_tape, .int 3, .int 0, .int 0, .int 0, .int 0, .int 0, .long 0, .ref m_p, .ref m_spare, .int 0, .ref m_scope, .int 0, .int 0, .int 0, .int 0, .int (-1), .ref m_cellKind, .ref m_cellCount, .ref m_free, .ref m_pile, .ref m_cellField, .int 0, .int 0, .int 0, .ref m_otherKind, .ref m_otherField, .int 0, .int 0, .int 0, .int 0, .long 0, .long 0, .int 0, .int 0, .int 0, .int 0, .int 0, .int 0, .int 0, .ref m_taskWhat, .ref m_taskPart, .ref m_values, .int 0, .int 0, .int 0, .ref m_slots, .ref m_present, .ref m_shell, .ref m_shellArm, .ref m_shellCall, .int 0, .ref m_keptCounts, .ref m_asideKind, .ref m_asideCount, .ref m_asideField, .ref m_out, .ref m_side, .int 0, .int 0, .ref m_saying])), (m_tape, .inl (mkt, 2000, .inl f_21))] H := hP
  have hD : va_D A [(h0, .inr (14, [.int 0, .ref m_stop, .ref m_tape, .int 3, .int 0, .int 0, .int 0, .int 0, .int 0, .long 0, .ref m_p, .ref m_spare, .int 0, .ref m_scope, .int 0, .int 0, .int 0, .int 0, .int (-1), .ref m_cellKind, .ref m_cellCount, .ref m_free, .ref m_pile, .ref m_cellField, .int 0, .int 0, .int 0, .ref m_otherKind, .ref m_otherField, .int 0, .int 0, .int 0, .int 0, .long 0, .long 0, .int 0, .int 0, .int 0, .int 0, .int 0, .int 0, .int 0, .ref m_taskWhat, .ref m_taskPart, .ref m_values, .int 0, .int 0, .int 0, .ref m_slots, .ref m_present, .ref m_shell, .ref m_shellArm, .ref m_shellCall, .int 0, .ref m_keptCounts, .ref m_asideKind, .ref m_asideCount, .ref m_asideField, .ref m_out, .ref m_side, .int 0, .int 0, .ref m_saying])), (m_tape, .inl (mkt, 2000, .inl f_21))] := hD
  refine lv_iinc (v := 3) (lv' := [(6, .int 3), (7, .int a1), (0, .ref h0), (1, .int a1), (2, .int a2), (3, .int a3), (4, .int a4), (5, .int a5)]) hx hb dX14_feed_111 hl (k := 1) rfl (by decide) (by decide) rfl (fun ls hl => ?_)
  refine lv_goto (tgt := 23) hx hb dX14_feed_114 (by decide) ?_
  refine lv_iload hx hb dX14_feed_23 (lv_at hl 0 rfl) ?_
  refine lv_bipush (v := 20) hx hb dX14_feed_25 (by decide) ?_
  refine lv_icmp_ge (tgt := 117) hx hb dX14_feed_27 (by decide) (fun c_0 => absurd c_0 (by decide)) (fun _ => ?_)
  refine lv_iload hx hb dX14_feed_30 (lv_at hl 0 rfl) ?_
  refine lv_iconst (v := 4) hx hb dX14_feed_32 (by decide) ?_
  refine lv_icmp_ge (tgt := 40) hx hb dX14_feed_33 (by decide) (fun c_0 => absurd c_0 (by decide)) (fun _ => ?_)
  refine lv_iload_n hx hb dX14_feed_36 rfl (lv_at hl 3 rfl) ?_
  refine lv_goto (tgt := 76) hx hb dX14_feed_37 (by decide) ?_
  refine lv_istore (lv' := [(7, .int a1), (6, .int 3), (0, .ref h0), (1, .int a1), (2, .int a2), (3, .int a3), (4, .int a4), (5, .int a5)]) hx hb dX14_feed_76 hl (by decide) rfl (fun ls hl => ?_)
  refine lv_aload_n hx hb dX14_feed_78 rfl (lv_at hl 2 rfl) ?_
  refine va_get (D := (dC, dI)) (ci := 14) (v := .ref m_tape) (C := RX14) (T := TX14) (N := 63) hx hb hA zin_X14 hown hK hP 0 rfl rfl 2 (by decide) (hA _ wi_1499) (fun _ h9 => h9) rfl dX14_feed_79 ?_
  refine lv_aload_n hx hb dX14_feed_82 rfl (lv_at hl 2 rfl) ?_
  refine va_get (D := (dC, dI)) (ci := 14) (v := .int 3) (C := RX14) (T := TX14) (N := 63) hx hb hA zin_X14 hown hK hP 0 rfl rfl 3 (by decide) (hA _ wi_1500) (fun _ h9 => h9) rfl dX14_feed_83 ?_
  refine lv_iload hx hb dX14_feed_86 (lv_at hl 0 rfl) ?_
  refine lv_bipush (v := 24) hx hb dX14_feed_88 (by decide) ?_
  refine lv_bipush (v := 8) hx hb dX14_feed_90 (by decide) ?_
  refine lv_iload hx hb dX14_feed_92 (lv_at hl 1 rfl) ?_
  refine lv_iconst (v := 4) hx hb dX14_feed_94 (by decide) ?_
  refine lv_irem hx hb dX14_feed_95 (by decide) ?_
  refine lv_topi (fun x_23 ex_23 => ?_)
  obtain rfl : x_23 = 3 := ex_23.trans (by decide)
  refine lv_imul hx hb dX14_feed_96 ?_
  refine lv_topi (fun x_24 ex_24 => ?_)
  obtain rfl : x_24 = 24 := ex_24.trans (by decide)
  refine lv_isub hx hb dX14_feed_97 ?_
  refine lv_topi (fun x_25 ex_25 => ?_)
  obtain rfl : x_25 = 0 := ex_25.trans (by decide)
  refine lv_ishr hx hb dX14_feed_98 ?_
  refine lv_topi (fun x_26 ex_26 => ?_)
  obtain ⟨x_27, ex_27⟩ : ∃ z : Int32, z = (Int32.toInt8 x_26).toInt32 := ⟨_, rfl⟩
  refine lv_i2b (v := x_27) hx hb dX14_feed_99 ex_27.symm ?_
  refine va_bast hx hb hK hP hD hS 1 0 rfl rfl (by unfold vp_in; decide) dX14_feed_100 (fun H locs hP hD hS => ?_)
  obtain ⟨f_28, ef_28⟩ : ∃ gz9 : Nat → Int32, gz9 = upd f_21 (Int32.toNatClampNeg 3) (vp_nar .byte x_27) := ⟨_, rfl⟩
  rw [← ef_28] at hP hD
  have hP : va_P (dC, dI) vwCl [(h0, .inr (14, [.int 0, .ref m_stop, .ref m_tape, .int 3, .int 0, .int 0, .int 0, .int 0, .int 0, .long 0, .ref m_p, .ref m_spare, .int 0, .ref m_scope, .int 0, .int 0, .int 0, .int 0, .int (-1), .ref m_cellKind, .ref m_cellCount, .ref m_free, .ref m_pile, .ref m_cellField, .int 0, .int 0, .int 0, .ref m_otherKind, .ref m_otherField, .int 0, .int 0, .int 0, .int 0, .long 0, .long 0, .int 0, .int 0, .int 0, .int 0, .int 0, .int 0, .int 0, .ref m_taskWhat, .ref m_taskPart, .ref m_values, .int 0, .int 0, .int 0, .ref m_slots, .ref m_present, .ref m_shell, .ref m_shellArm, .ref m_shellCall, .int 0, .ref m_keptCounts, .ref m_asideKind, .ref m_asideCount, .ref m_asideField, .ref m_out, .ref m_side, .int 0, .int 0, .ref m_saying])), (m_tape, .inl (mkt, 2000, .inl f_28))] H := hP
  have hD : va_D A [(h0, .inr (14, [.int 0, .ref m_stop, .ref m_tape, .int 3, .int 0, .int 0, .int 0, .int 0, .int 0, .long 0, .ref m_p, .ref m_spare, .int 0, .ref m_scope, .int 0, .int 0, .int 0, .int 0, .int (-1), .ref m_cellKind, .ref m_cellCount, .ref m_free, .ref m_pile, .ref m_cellField, .int 0, .int 0, .int 0, .ref m_otherKind, .ref m_otherField, .int 0, .int 0, .int 0, .int 0, .long 0, .long 0, .int 0, .int 0, .int 0, .int 0, .int 0, .int 0, .int 0, .ref m_taskWhat, .ref m_taskPart, .ref m_values, .int 0, .int 0, .int 0, .ref m_slots, .ref m_present, .ref m_shell, .ref m_shellArm, .ref m_shellCall, .int 0, .ref m_keptCounts, .ref m_asideKind, .ref m_asideCount, .ref m_asideField, .ref m_out, .ref m_side, .int 0, .int 0, .ref m_saying])), (m_tape, .inl (mkt, 2000, .inl f_28))] := hD
  refine lv_aload_n hx hb dX14_feed_101 rfl (lv_at hl 2 rfl) ?_
  refine lv_dup hx hb dX14_feed_102 rfl ?_
  refine va_get (D := (dC, dI)) (ci := 14) (v := .int 3) (C := RX14) (T := TX14) (N := 63) hx hb hA zin_X14 hown hK hP 0 rfl rfl 3 (by decide) (hA _ wi_1500) (fun _ h9 => h9) rfl dX14_feed_103 ?_
  refine lv_iconst (v := 1) hx hb dX14_feed_106 (by decide) ?_
  refine lv_iadd hx hb dX14_feed_107 ?_
  refine lv_topi (fun x_29 ex_29 => ?_)
  obtain rfl : x_29 = 4 := ex_29.trans (by decide)
  refine va_put (D := (dC, dI)) (ci := 14) (v := .int 4) (ty := .int) (C := RX14) (T := TX14) (N := 63) hx hb hA zin_X14 tyX14 tyX14_ok nmX14 hown hK hP hD hS 0 rfl rfl 3 (by decide) (hA _ wi_1500) (fun _ h9 => h9) rfl (by decide +kernel) rfl rfl (Nat.le_of_ble_eq_true rfl) dX14_feed_108 (fun H locs hP hD hS => ?_)
  have hP : va_P (dC, dI) vwCl [(h0, .inr (14, [.int 0, .ref m_stop, .ref m_tape, .int 4, .int 0, .int 0, .int 0, .int 0, .int 0, .long 0, .ref m_p, .ref m_spare, .int 0, .ref m_scope, .int 0, .int 0, .int 0, .int 0, .int (-1), .ref m_cellKind, .ref m_cellCount, .ref m_free, .ref m_pile, .ref m_cellField, .int 0, .int 0, .int 0, .ref m_otherKind, .ref m_otherField, .int 0, .int 0, .int 0, .int 0, .long 0, .long 0, .int 0, .int 0, .int 0, .int 0, .int 0, .int 0, .int 0, .ref m_taskWhat, .ref m_taskPart, .ref m_values, .int 0, .int 0, .int 0, .ref m_slots, .ref m_present, .ref m_shell, .ref m_shellArm, .ref m_shellCall, .int 0, .ref m_keptCounts, .ref m_asideKind, .ref m_asideCount, .ref m_asideField, .ref m_out, .ref m_side, .int 0, .int 0, .ref m_saying])), (m_tape, .inl (mkt, 2000, .inl f_28))] H := hP
  have hD : va_D A [(h0, .inr (14, [.int 0, .ref m_stop, .ref m_tape, .int 4, .int 0, .int 0, .int 0, .int 0, .int 0, .long 0, .ref m_p, .ref m_spare, .int 0, .ref m_scope, .int 0, .int 0, .int 0, .int 0, .int (-1), .ref m_cellKind, .ref m_cellCount, .ref m_free, .ref m_pile, .ref m_cellField, .int 0, .int 0, .int 0, .ref m_otherKind, .ref m_otherField, .int 0, .int 0, .int 0, .int 0, .long 0, .long 0, .int 0, .int 0, .int 0, .int 0, .int 0, .int 0, .int 0, .ref m_taskWhat, .ref m_taskPart, .ref m_values, .int 0, .int 0, .int 0, .ref m_slots, .ref m_present, .ref m_shell, .ref m_shellArm, .ref m_shellCall, .int 0, .ref m_keptCounts, .ref m_asideKind, .ref m_asideCount, .ref m_asideField, .ref m_out, .ref m_side, .int 0, .int 0, .ref m_saying])), (m_tape, .inl (mkt, 2000, .inl f_28))] := hD
  refine lv_iinc (v := 4) (lv' := [(6, .int 4), (7, .int a1), (0, .ref h0), (1, .int a1), (2, .int a2), (3, .int a3), (4, .int a4), (5, .int a5)]) hx hb dX14_feed_111 hl (k := 1) rfl (by decide) (by decide) rfl (fun ls hl => ?_)
  refine lv_goto (tgt := 23) hx hb dX14_feed_114 (by decide) ?_
  refine lv_iload hx hb dX14_feed_23 (lv_at hl 0 rfl) ?_
  refine lv_bipush (v := 20) hx hb dX14_feed_25 (by decide) ?_
  refine lv_icmp_ge (tgt := 117) hx hb dX14_feed_27 (by decide) (fun c_0 => absurd c_0 (by decide)) (fun _ => ?_)
  refine lv_iload hx hb dX14_feed_30 (lv_at hl 0 rfl) ?_
  refine lv_iconst (v := 4) hx hb dX14_feed_32 (by decide) ?_
  refine lv_icmp_ge (tgt := 40) hx hb dX14_feed_33 (by decide) (fun _ => ?_) (fun c_0 => absurd (by decide) c_0)
  refine lv_iload hx hb dX14_feed_40 (lv_at hl 0 rfl) ?_
  refine lv_bipush (v := 8) hx hb dX14_feed_42 (by decide) ?_
  refine lv_icmp_ge (tgt := 51) hx hb dX14_feed_44 (by decide) (fun c_0 => absurd c_0 (by decide)) (fun _ => ?_)
  refine lv_iload_n hx hb dX14_feed_47 rfl (lv_at hl 4 rfl) ?_
  refine lv_goto (tgt := 76) hx hb dX14_feed_48 (by decide) ?_
  refine lv_istore (lv' := [(7, .int a2), (6, .int 4), (0, .ref h0), (1, .int a1), (2, .int a2), (3, .int a3), (4, .int a4), (5, .int a5)]) hx hb dX14_feed_76 hl (by decide) rfl (fun ls hl => ?_)
  refine lv_aload_n hx hb dX14_feed_78 rfl (lv_at hl 2 rfl) ?_
  refine va_get (D := (dC, dI)) (ci := 14) (v := .ref m_tape) (C := RX14) (T := TX14) (N := 63) hx hb hA zin_X14 hown hK hP 0 rfl rfl 2 (by decide) (hA _ wi_1499) (fun _ h9 => h9) rfl dX14_feed_79 ?_
  refine lv_aload_n hx hb dX14_feed_82 rfl (lv_at hl 2 rfl) ?_
  refine va_get (D := (dC, dI)) (ci := 14) (v := .int 4) (C := RX14) (T := TX14) (N := 63) hx hb hA zin_X14 hown hK hP 0 rfl rfl 3 (by decide) (hA _ wi_1500) (fun _ h9 => h9) rfl dX14_feed_83 ?_
  refine lv_iload hx hb dX14_feed_86 (lv_at hl 0 rfl) ?_
  refine lv_bipush (v := 24) hx hb dX14_feed_88 (by decide) ?_
  refine lv_bipush (v := 8) hx hb dX14_feed_90 (by decide) ?_
  refine lv_iload hx hb dX14_feed_92 (lv_at hl 1 rfl) ?_
  refine lv_iconst (v := 4) hx hb dX14_feed_94 (by decide) ?_
  refine lv_irem hx hb dX14_feed_95 (by decide) ?_
  refine lv_topi (fun x_30 ex_30 => ?_)
  obtain rfl : x_30 = 0 := ex_30.trans (by decide)
  refine lv_imul hx hb dX14_feed_96 ?_
  refine lv_topi (fun x_31 ex_31 => ?_)
  obtain rfl : x_31 = 0 := ex_31.trans (by decide)
  refine lv_isub hx hb dX14_feed_97 ?_
  refine lv_topi (fun x_32 ex_32 => ?_)
  obtain rfl : x_32 = 24 := ex_32.trans (by decide)
  refine lv_ishr hx hb dX14_feed_98 ?_
  refine lv_topi (fun x_33 ex_33 => ?_)
  obtain ⟨x_34, ex_34⟩ : ∃ z : Int32, z = (Int32.toInt8 x_33).toInt32 := ⟨_, rfl⟩
  refine lv_i2b (v := x_34) hx hb dX14_feed_99 ex_34.symm ?_
  refine va_bast hx hb hK hP hD hS 1 0 rfl rfl (by unfold vp_in; decide) dX14_feed_100 (fun H locs hP hD hS => ?_)
  obtain ⟨f_35, ef_35⟩ : ∃ gz9 : Nat → Int32, gz9 = upd f_28 (Int32.toNatClampNeg 4) (vp_nar .byte x_34) := ⟨_, rfl⟩
  rw [← ef_35] at hP hD
  have hP : va_P (dC, dI) vwCl [(h0, .inr (14, [.int 0, .ref m_stop, .ref m_tape, .int 4, .int 0, .int 0, .int 0, .int 0, .int 0, .long 0, .ref m_p, .ref m_spare, .int 0, .ref m_scope, .int 0, .int 0, .int 0, .int 0, .int (-1), .ref m_cellKind, .ref m_cellCount, .ref m_free, .ref m_pile, .ref m_cellField, .int 0, .int 0, .int 0, .ref m_otherKind, .ref m_otherField, .int 0, .int 0, .int 0, .int 0, .long 0, .long 0, .int 0, .int 0, .int 0, .int 0, .int 0, .int 0, .int 0, .ref m_taskWhat, .ref m_taskPart, .ref m_values, .int 0, .int 0, .int 0, .ref m_slots, .ref m_present, .ref m_shell, .ref m_shellArm, .ref m_shellCall, .int 0, .ref m_keptCounts, .ref m_asideKind, .ref m_asideCount, .ref m_asideField, .ref m_out, .ref m_side, .int 0, .int 0, .ref m_saying])), (m_tape, .inl (mkt, 2000, .inl f_35))] H := hP
  have hD : va_D A [(h0, .inr (14, [.int 0, .ref m_stop, .ref m_tape, .int 4, .int 0, .int 0, .int 0, .int 0, .int 0, .long 0, .ref m_p, .ref m_spare, .int 0, .ref m_scope, .int 0, .int 0, .int 0, .int 0, .int (-1), .ref m_cellKind, .ref m_cellCount, .ref m_free, .ref m_pile, .ref m_cellField, .int 0, .int 0, .int 0, .ref m_otherKind, .ref m_otherField, .int 0, .int 0, .int 0, .int 0, .long 0, .long 0, .int 0, .int 0, .int 0, .int 0, .int 0, .int 0, .int 0, .ref m_taskWhat, .ref m_taskPart, .ref m_values, .int 0, .int 0, .int 0, .ref m_slots, .ref m_present, .ref m_shell, .ref m_shellArm, .ref m_shellCall, .int 0, .ref m_keptCounts, .ref m_asideKind, .ref m_asideCount, .ref m_asideField, .ref m_out, .ref m_side, .int 0, .int 0, .ref m_saying])), (m_tape, .inl (mkt, 2000, .inl f_35))] := hD
  refine lv_aload_n hx hb dX14_feed_101 rfl (lv_at hl 2 rfl) ?_
  refine lv_dup hx hb dX14_feed_102 rfl ?_
  refine va_get (D := (dC, dI)) (ci := 14) (v := .int 4) (C := RX14) (T := TX14) (N := 63) hx hb hA zin_X14 hown hK hP 0 rfl rfl 3 (by decide) (hA _ wi_1500) (fun _ h9 => h9) rfl dX14_feed_103 ?_
  refine lv_iconst (v := 1) hx hb dX14_feed_106 (by decide) ?_
  refine lv_iadd hx hb dX14_feed_107 ?_
  refine lv_topi (fun x_36 ex_36 => ?_)
  obtain rfl : x_36 = 5 := ex_36.trans (by decide)
  refine va_put (D := (dC, dI)) (ci := 14) (v := .int 5) (ty := .int) (C := RX14) (T := TX14) (N := 63) hx hb hA zin_X14 tyX14 tyX14_ok nmX14 hown hK hP hD hS 0 rfl rfl 3 (by decide) (hA _ wi_1500) (fun _ h9 => h9) rfl (by decide +kernel) rfl rfl (Nat.le_of_ble_eq_true rfl) dX14_feed_108 (fun H locs hP hD hS => ?_)
  have hP : va_P (dC, dI) vwCl [(h0, .inr (14, [.int 0, .ref m_stop, .ref m_tape, .int 5, .int 0, .int 0, .int 0, .int 0, .int 0, .long 0, .ref m_p, .ref m_spare, .int 0, .ref m_scope, .int 0, .int 0, .int 0, .int 0, .int (-1), .ref m_cellKind, .ref m_cellCount, .ref m_free, .ref m_pile, .ref m_cellField, .int 0, .int 0, .int 0, .ref m_otherKind, .ref m_otherField, .int 0, .int 0, .int 0, .int 0, .long 0, .long 0, .int 0, .int 0, .int 0, .int 0, .int 0, .int 0, .int 0, .ref m_taskWhat, .ref m_taskPart, .ref m_values, .int 0, .int 0, .int 0, .ref m_slots, .ref m_present, .ref m_shell, .ref m_shellArm, .ref m_shellCall, .int 0, .ref m_keptCounts, .ref m_asideKind, .ref m_asideCount, .ref m_asideField, .ref m_out, .ref m_side, .int 0, .int 0, .ref m_saying])), (m_tape, .inl (mkt, 2000, .inl f_35))] H := hP
  have hD : va_D A [(h0, .inr (14, [.int 0, .ref m_stop, .ref m_tape, .int 5, .int 0, .int 0, .int 0, .int 0, .int 0, .long 0, .ref m_p, .ref m_spare, .int 0, .ref m_scope, .int 0, .int 0, .int 0, .int 0, .int (-1), .ref m_cellKind, .ref m_cellCount, .ref m_free, .ref m_pile, .ref m_cellField, .int 0, .int 0, .int 0, .ref m_otherKind, .ref m_otherField, .int 0, .int 0, .int 0, .int 0, .long 0, .long 0, .int 0, .int 0, .int 0, .int 0, .int 0, .int 0, .int 0, .ref m_taskWhat, .ref m_taskPart, .ref m_values, .int 0, .int 0, .int 0, .ref m_slots, .ref m_present, .ref m_shell, .ref m_shellArm, .ref m_shellCall, .int 0, .ref m_keptCounts, .ref m_asideKind, .ref m_asideCount, .ref m_asideField, .ref m_out, .ref m_side, .int 0, .int 0, .ref m_saying])), (m_tape, .inl (mkt, 2000, .inl f_35))] := hD
  refine lv_iinc (v := 5) (lv' := [(6, .int 5), (7, .int a2), (0, .ref h0), (1, .int a1), (2, .int a2), (3, .int a3), (4, .int a4), (5, .int a5)]) hx hb dX14_feed_111 hl (k := 1) rfl (by decide) (by decide) rfl (fun ls hl => ?_)
  refine lv_goto (tgt := 23) hx hb dX14_feed_114 (by decide) ?_
  refine lv_iload hx hb dX14_feed_23 (lv_at hl 0 rfl) ?_
  refine lv_bipush (v := 20) hx hb dX14_feed_25 (by decide) ?_
  refine lv_icmp_ge (tgt := 117) hx hb dX14_feed_27 (by decide) (fun c_0 => absurd c_0 (by decide)) (fun _ => ?_)
  refine lv_iload hx hb dX14_feed_30 (lv_at hl 0 rfl) ?_
  refine lv_iconst (v := 4) hx hb dX14_feed_32 (by decide) ?_
  refine lv_icmp_ge (tgt := 40) hx hb dX14_feed_33 (by decide) (fun _ => ?_) (fun c_0 => absurd (by decide) c_0)
  refine lv_iload hx hb dX14_feed_40 (lv_at hl 0 rfl) ?_
  refine lv_bipush (v := 8) hx hb dX14_feed_42 (by decide) ?_
  refine lv_icmp_ge (tgt := 51) hx hb dX14_feed_44 (by decide) (fun c_0 => absurd c_0 (by decide)) (fun _ => ?_)
  refine lv_iload_n hx hb dX14_feed_47 rfl (lv_at hl 4 rfl) ?_
  refine lv_goto (tgt := 76) hx hb dX14_feed_48 (by decide) ?_
  refine lv_istore (lv' := [(7, .int a2), (6, .int 5), (0, .ref h0), (1, .int a1), (2, .int a2), (3, .int a3), (4, .int a4), (5, .int a5)]) hx hb dX14_feed_76 hl (by decide) rfl (fun ls hl => ?_)
  refine lv_aload_n hx hb dX14_feed_78 rfl (lv_at hl 2 rfl) ?_
  refine va_get (D := (dC, dI)) (ci := 14) (v := .ref m_tape) (C := RX14) (T := TX14) (N := 63) hx hb hA zin_X14 hown hK hP 0 rfl rfl 2 (by decide) (hA _ wi_1499) (fun _ h9 => h9) rfl dX14_feed_79 ?_
  refine lv_aload_n hx hb dX14_feed_82 rfl (lv_at hl 2 rfl) ?_
  refine va_get (D := (dC, dI)) (ci := 14) (v := .int 5) (C := RX14) (T := TX14) (N := 63) hx hb hA zin_X14 hown hK hP 0 rfl rfl 3 (by decide) (hA _ wi_1500) (fun _ h9 => h9) rfl dX14_feed_83 ?_
  refine lv_iload hx hb dX14_feed_86 (lv_at hl 0 rfl) ?_
  refine lv_bipush (v := 24) hx hb dX14_feed_88 (by decide) ?_
  refine lv_bipush (v := 8) hx hb dX14_feed_90 (by decide) ?_
  refine lv_iload hx hb dX14_feed_92 (lv_at hl 1 rfl) ?_
  refine lv_iconst (v := 4) hx hb dX14_feed_94 (by decide) ?_
  refine lv_irem hx hb dX14_feed_95 (by decide) ?_
  refine lv_topi (fun x_37 ex_37 => ?_)
  obtain rfl : x_37 = 1 := ex_37.trans (by decide)
  refine lv_imul hx hb dX14_feed_96 ?_
  refine lv_topi (fun x_38 ex_38 => ?_)
  obtain rfl : x_38 = 8 := ex_38.trans (by decide)
  refine lv_isub hx hb dX14_feed_97 ?_
  refine lv_topi (fun x_39 ex_39 => ?_)
  obtain rfl : x_39 = 16 := ex_39.trans (by decide)
  refine lv_ishr hx hb dX14_feed_98 ?_
  refine lv_topi (fun x_40 ex_40 => ?_)
  obtain ⟨x_41, ex_41⟩ : ∃ z : Int32, z = (Int32.toInt8 x_40).toInt32 := ⟨_, rfl⟩
  refine lv_i2b (v := x_41) hx hb dX14_feed_99 ex_41.symm ?_
  refine va_bast hx hb hK hP hD hS 1 0 rfl rfl (by unfold vp_in; decide) dX14_feed_100 (fun H locs hP hD hS => ?_)
  obtain ⟨f_42, ef_42⟩ : ∃ gz9 : Nat → Int32, gz9 = upd f_35 (Int32.toNatClampNeg 5) (vp_nar .byte x_41) := ⟨_, rfl⟩
  rw [← ef_42] at hP hD
  have hP : va_P (dC, dI) vwCl [(h0, .inr (14, [.int 0, .ref m_stop, .ref m_tape, .int 5, .int 0, .int 0, .int 0, .int 0, .int 0, .long 0, .ref m_p, .ref m_spare, .int 0, .ref m_scope, .int 0, .int 0, .int 0, .int 0, .int (-1), .ref m_cellKind, .ref m_cellCount, .ref m_free, .ref m_pile, .ref m_cellField, .int 0, .int 0, .int 0, .ref m_otherKind, .ref m_otherField, .int 0, .int 0, .int 0, .int 0, .long 0, .long 0, .int 0, .int 0, .int 0, .int 0, .int 0, .int 0, .int 0, .ref m_taskWhat, .ref m_taskPart, .ref m_values, .int 0, .int 0, .int 0, .ref m_slots, .ref m_present, .ref m_shell, .ref m_shellArm, .ref m_shellCall, .int 0, .ref m_keptCounts, .ref m_asideKind, .ref m_asideCount, .ref m_asideField, .ref m_out, .ref m_side, .int 0, .int 0, .ref m_saying])), (m_tape, .inl (mkt, 2000, .inl f_42))] H := hP
  have hD : va_D A [(h0, .inr (14, [.int 0, .ref m_stop, .ref m_tape, .int 5, .int 0, .int 0, .int 0, .int 0, .int 0, .long 0, .ref m_p, .ref m_spare, .int 0, .ref m_scope, .int 0, .int 0, .int 0, .int 0, .int (-1), .ref m_cellKind, .ref m_cellCount, .ref m_free, .ref m_pile, .ref m_cellField, .int 0, .int 0, .int 0, .ref m_otherKind, .ref m_otherField, .int 0, .int 0, .int 0, .int 0, .long 0, .long 0, .int 0, .int 0, .int 0, .int 0, .int 0, .int 0, .int 0, .ref m_taskWhat, .ref m_taskPart, .ref m_values, .int 0, .int 0, .int 0, .ref m_slots, .ref m_present, .ref m_shell, .ref m_shellArm, .ref m_shellCall, .int 0, .ref m_keptCounts, .ref m_asideKind, .ref m_asideCount, .ref m_asideField, .ref m_out, .ref m_side, .int 0, .int 0, .ref m_saying])), (m_tape, .inl (mkt, 2000, .inl f_42))] := hD
  refine lv_aload_n hx hb dX14_feed_101 rfl (lv_at hl 2 rfl) ?_
  refine lv_dup hx hb dX14_feed_102 rfl ?_
  refine va_get (D := (dC, dI)) (ci := 14) (v := .int 5) (C := RX14) (T := TX14) (N := 63) hx hb hA zin_X14 hown hK hP 0 rfl rfl 3 (by decide) (hA _ wi_1500) (fun _ h9 => h9) rfl dX14_feed_103 ?_
  refine lv_iconst (v := 1) hx hb dX14_feed_106 (by decide) ?_
  refine lv_iadd hx hb dX14_feed_107 ?_
  refine lv_topi (fun x_43 ex_43 => ?_)
  obtain rfl : x_43 = 6 := ex_43.trans (by decide)
  refine va_put (D := (dC, dI)) (ci := 14) (v := .int 6) (ty := .int) (C := RX14) (T := TX14) (N := 63) hx hb hA zin_X14 tyX14 tyX14_ok nmX14 hown hK hP hD hS 0 rfl rfl 3 (by decide) (hA _ wi_1500) (fun _ h9 => h9) rfl (by decide +kernel) rfl rfl (Nat.le_of_ble_eq_true rfl) dX14_feed_108 (fun H locs hP hD hS => ?_)
  have hP : va_P (dC, dI) vwCl [(h0, .inr (14, [.int 0, .ref m_stop, .ref m_tape, .int 6, .int 0, .int 0, .int 0, .int 0, .int 0, .long 0, .ref m_p, .ref m_spare, .int 0, .ref m_scope, .int 0, .int 0, .int 0, .int 0, .int (-1), .ref m_cellKind, .ref m_cellCount, .ref m_free, .ref m_pile, .ref m_cellField, .int 0, .int 0, .int 0, .ref m_otherKind, .ref m_otherField, .int 0, .int 0, .int 0, .int 0, .long 0, .long 0, .int 0, .int 0, .int 0, .int 0, .int 0, .int 0, .int 0, .ref m_taskWhat, .ref m_taskPart, .ref m_values, .int 0, .int 0, .int 0, .ref m_slots, .ref m_present, .ref m_shell, .ref m_shellArm, .ref m_shellCall, .int 0, .ref m_keptCounts, .ref m_asideKind, .ref m_asideCount, .ref m_asideField, .ref m_out, .ref m_side, .int 0, .int 0, .ref m_saying])), (m_tape, .inl (mkt, 2000, .inl f_42))] H := hP
  have hD : va_D A [(h0, .inr (14, [.int 0, .ref m_stop, .ref m_tape, .int 6, .int 0, .int 0, .int 0, .int 0, .int 0, .long 0, .ref m_p, .ref m_spare, .int 0, .ref m_scope, .int 0, .int 0, .int 0, .int 0, .int (-1), .ref m_cellKind, .ref m_cellCount, .ref m_free, .ref m_pile, .ref m_cellField, .int 0, .int 0, .int 0, .ref m_otherKind, .ref m_otherField, .int 0, .int 0, .int 0, .int 0, .long 0, .long 0, .int 0, .int 0, .int 0, .int 0, .int 0, .int 0, .int 0, .ref m_taskWhat, .ref m_taskPart, .ref m_values, .int 0, .int 0, .int 0, .ref m_slots, .ref m_present, .ref m_shell, .ref m_shellArm, .ref m_shellCall, .int 0, .ref m_keptCounts, .ref m_asideKind, .ref m_asideCount, .ref m_asideField, .ref m_out, .ref m_side, .int 0, .int 0, .ref m_saying])), (m_tape, .inl (mkt, 2000, .inl f_42))] := hD
  refine lv_iinc (v := 6) (lv' := [(6, .int 6), (7, .int a2), (0, .ref h0), (1, .int a1), (2, .int a2), (3, .int a3), (4, .int a4), (5, .int a5)]) hx hb dX14_feed_111 hl (k := 1) rfl (by decide) (by decide) rfl (fun ls hl => ?_)
  refine lv_goto (tgt := 23) hx hb dX14_feed_114 (by decide) ?_
  refine lv_iload hx hb dX14_feed_23 (lv_at hl 0 rfl) ?_
  refine lv_bipush (v := 20) hx hb dX14_feed_25 (by decide) ?_
  refine lv_icmp_ge (tgt := 117) hx hb dX14_feed_27 (by decide) (fun c_0 => absurd c_0 (by decide)) (fun _ => ?_)
  refine lv_iload hx hb dX14_feed_30 (lv_at hl 0 rfl) ?_
  refine lv_iconst (v := 4) hx hb dX14_feed_32 (by decide) ?_
  refine lv_icmp_ge (tgt := 40) hx hb dX14_feed_33 (by decide) (fun _ => ?_) (fun c_0 => absurd (by decide) c_0)
  refine lv_iload hx hb dX14_feed_40 (lv_at hl 0 rfl) ?_
  refine lv_bipush (v := 8) hx hb dX14_feed_42 (by decide) ?_
  refine lv_icmp_ge (tgt := 51) hx hb dX14_feed_44 (by decide) (fun c_0 => absurd c_0 (by decide)) (fun _ => ?_)
  refine lv_iload_n hx hb dX14_feed_47 rfl (lv_at hl 4 rfl) ?_
  refine lv_goto (tgt := 76) hx hb dX14_feed_48 (by decide) ?_
  refine lv_istore (lv' := [(7, .int a2), (6, .int 6), (0, .ref h0), (1, .int a1), (2, .int a2), (3, .int a3), (4, .int a4), (5, .int a5)]) hx hb dX14_feed_76 hl (by decide) rfl (fun ls hl => ?_)
  refine lv_aload_n hx hb dX14_feed_78 rfl (lv_at hl 2 rfl) ?_
  refine va_get (D := (dC, dI)) (ci := 14) (v := .ref m_tape) (C := RX14) (T := TX14) (N := 63) hx hb hA zin_X14 hown hK hP 0 rfl rfl 2 (by decide) (hA _ wi_1499) (fun _ h9 => h9) rfl dX14_feed_79 ?_
  refine lv_aload_n hx hb dX14_feed_82 rfl (lv_at hl 2 rfl) ?_
  refine va_get (D := (dC, dI)) (ci := 14) (v := .int 6) (C := RX14) (T := TX14) (N := 63) hx hb hA zin_X14 hown hK hP 0 rfl rfl 3 (by decide) (hA _ wi_1500) (fun _ h9 => h9) rfl dX14_feed_83 ?_
  refine lv_iload hx hb dX14_feed_86 (lv_at hl 0 rfl) ?_
  refine lv_bipush (v := 24) hx hb dX14_feed_88 (by decide) ?_
  refine lv_bipush (v := 8) hx hb dX14_feed_90 (by decide) ?_
  refine lv_iload hx hb dX14_feed_92 (lv_at hl 1 rfl) ?_
  refine lv_iconst (v := 4) hx hb dX14_feed_94 (by decide) ?_
  refine lv_irem hx hb dX14_feed_95 (by decide) ?_
  refine lv_topi (fun x_44 ex_44 => ?_)
  obtain rfl : x_44 = 2 := ex_44.trans (by decide)
  refine lv_imul hx hb dX14_feed_96 ?_
  refine lv_topi (fun x_45 ex_45 => ?_)
  obtain rfl : x_45 = 16 := ex_45.trans (by decide)
  refine lv_isub hx hb dX14_feed_97 ?_
  refine lv_topi (fun x_46 ex_46 => ?_)
  obtain rfl : x_46 = 8 := ex_46.trans (by decide)
  refine lv_ishr hx hb dX14_feed_98 ?_
  refine lv_topi (fun x_47 ex_47 => ?_)
  obtain ⟨x_48, ex_48⟩ : ∃ z : Int32, z = (Int32.toInt8 x_47).toInt32 := ⟨_, rfl⟩
  refine lv_i2b (v := x_48) hx hb dX14_feed_99 ex_48.symm ?_
  refine va_bast hx hb hK hP hD hS 1 0 rfl rfl (by unfold vp_in; decide) dX14_feed_100 (fun H locs hP hD hS => ?_)
  obtain ⟨f_49, ef_49⟩ : ∃ gz9 : Nat → Int32, gz9 = upd f_42 (Int32.toNatClampNeg 6) (vp_nar .byte x_48) := ⟨_, rfl⟩
  rw [← ef_49] at hP hD
  have hP : va_P (dC, dI) vwCl [(h0, .inr (14, [.int 0, .ref m_stop, .ref m_tape, .int 6, .int 0, .int 0, .int 0, .int 0, .int 0, .long 0, .ref m_p, .ref m_spare, .int 0, .ref m_scope, .int 0, .int 0, .int 0, .int 0, .int (-1), .ref m_cellKind, .ref m_cellCount, .ref m_free, .ref m_pile, .ref m_cellField, .int 0, .int 0, .int 0, .ref m_otherKind, .ref m_otherField, .int 0, .int 0, .int 0, .int 0, .long 0, .long 0, .int 0, .int 0, .int 0, .int 0, .int 0, .int 0, .int 0, .ref m_taskWhat, .ref m_taskPart, .ref m_values, .int 0, .int 0, .int 0, .ref m_slots, .ref m_present, .ref m_shell, .ref m_shellArm, .ref m_shellCall, .int 0, .ref m_keptCounts, .ref m_asideKind, .ref m_asideCount, .ref m_asideField, .ref m_out, .ref m_side, .int 0, .int 0, .ref m_saying])), (m_tape, .inl (mkt, 2000, .inl f_49))] H := hP
  have hD : va_D A [(h0, .inr (14, [.int 0, .ref m_stop, .ref m_tape, .int 6, .int 0, .int 0, .int 0, .int 0, .int 0, .long 0, .ref m_p, .ref m_spare, .int 0, .ref m_scope, .int 0, .int 0, .int 0, .int 0, .int (-1), .ref m_cellKind, .ref m_cellCount, .ref m_free, .ref m_pile, .ref m_cellField, .int 0, .int 0, .int 0, .ref m_otherKind, .ref m_otherField, .int 0, .int 0, .int 0, .int 0, .long 0, .long 0, .int 0, .int 0, .int 0, .int 0, .int 0, .int 0, .int 0, .ref m_taskWhat, .ref m_taskPart, .ref m_values, .int 0, .int 0, .int 0, .ref m_slots, .ref m_present, .ref m_shell, .ref m_shellArm, .ref m_shellCall, .int 0, .ref m_keptCounts, .ref m_asideKind, .ref m_asideCount, .ref m_asideField, .ref m_out, .ref m_side, .int 0, .int 0, .ref m_saying])), (m_tape, .inl (mkt, 2000, .inl f_49))] := hD
  refine lv_aload_n hx hb dX14_feed_101 rfl (lv_at hl 2 rfl) ?_
  refine lv_dup hx hb dX14_feed_102 rfl ?_
  refine va_get (D := (dC, dI)) (ci := 14) (v := .int 6) (C := RX14) (T := TX14) (N := 63) hx hb hA zin_X14 hown hK hP 0 rfl rfl 3 (by decide) (hA _ wi_1500) (fun _ h9 => h9) rfl dX14_feed_103 ?_
  refine lv_iconst (v := 1) hx hb dX14_feed_106 (by decide) ?_
  refine lv_iadd hx hb dX14_feed_107 ?_
  refine lv_topi (fun x_50 ex_50 => ?_)
  obtain rfl : x_50 = 7 := ex_50.trans (by decide)
  refine va_put (D := (dC, dI)) (ci := 14) (v := .int 7) (ty := .int) (C := RX14) (T := TX14) (N := 63) hx hb hA zin_X14 tyX14 tyX14_ok nmX14 hown hK hP hD hS 0 rfl rfl 3 (by decide) (hA _ wi_1500) (fun _ h9 => h9) rfl (by decide +kernel) rfl rfl (Nat.le_of_ble_eq_true rfl) dX14_feed_108 (fun H locs hP hD hS => ?_)
  have hP : va_P (dC, dI) vwCl [(h0, .inr (14, [.int 0, .ref m_stop, .ref m_tape, .int 7, .int 0, .int 0, .int 0, .int 0, .int 0, .long 0, .ref m_p, .ref m_spare, .int 0, .ref m_scope, .int 0, .int 0, .int 0, .int 0, .int (-1), .ref m_cellKind, .ref m_cellCount, .ref m_free, .ref m_pile, .ref m_cellField, .int 0, .int 0, .int 0, .ref m_otherKind, .ref m_otherField, .int 0, .int 0, .int 0, .int 0, .long 0, .long 0, .int 0, .int 0, .int 0, .int 0, .int 0, .int 0, .int 0, .ref m_taskWhat, .ref m_taskPart, .ref m_values, .int 0, .int 0, .int 0, .ref m_slots, .ref m_present, .ref m_shell, .ref m_shellArm, .ref m_shellCall, .int 0, .ref m_keptCounts, .ref m_asideKind, .ref m_asideCount, .ref m_asideField, .ref m_out, .ref m_side, .int 0, .int 0, .ref m_saying])), (m_tape, .inl (mkt, 2000, .inl f_49))] H := hP
  have hD : va_D A [(h0, .inr (14, [.int 0, .ref m_stop, .ref m_tape, .int 7, .int 0, .int 0, .int 0, .int 0, .int 0, .long 0, .ref m_p, .ref m_spare, .int 0, .ref m_scope, .int 0, .int 0, .int 0, .int 0, .int (-1), .ref m_cellKind, .ref m_cellCount, .ref m_free, .ref m_pile, .ref m_cellField, .int 0, .int 0, .int 0, .ref m_otherKind, .ref m_otherField, .int 0, .int 0, .int 0, .int 0, .long 0, .long 0, .int 0, .int 0, .int 0, .int 0, .int 0, .int 0, .int 0, .ref m_taskWhat, .ref m_taskPart, .ref m_values, .int 0, .int 0, .int 0, .ref m_slots, .ref m_present, .ref m_shell, .ref m_shellArm, .ref m_shellCall, .int 0, .ref m_keptCounts, .ref m_asideKind, .ref m_asideCount, .ref m_asideField, .ref m_out, .ref m_side, .int 0, .int 0, .ref m_saying])), (m_tape, .inl (mkt, 2000, .inl f_49))] := hD
  refine lv_iinc (v := 7) (lv' := [(6, .int 7), (7, .int a2), (0, .ref h0), (1, .int a1), (2, .int a2), (3, .int a3), (4, .int a4), (5, .int a5)]) hx hb dX14_feed_111 hl (k := 1) rfl (by decide) (by decide) rfl (fun ls hl => ?_)
  refine lv_goto (tgt := 23) hx hb dX14_feed_114 (by decide) ?_
  refine lv_iload hx hb dX14_feed_23 (lv_at hl 0 rfl) ?_
  refine lv_bipush (v := 20) hx hb dX14_feed_25 (by decide) ?_
  refine lv_icmp_ge (tgt := 117) hx hb dX14_feed_27 (by decide) (fun c_0 => absurd c_0 (by decide)) (fun _ => ?_)
  refine lv_iload hx hb dX14_feed_30 (lv_at hl 0 rfl) ?_
  refine lv_iconst (v := 4) hx hb dX14_feed_32 (by decide) ?_
  refine lv_icmp_ge (tgt := 40) hx hb dX14_feed_33 (by decide) (fun _ => ?_) (fun c_0 => absurd (by decide) c_0)
  refine lv_iload hx hb dX14_feed_40 (lv_at hl 0 rfl) ?_
  refine lv_bipush (v := 8) hx hb dX14_feed_42 (by decide) ?_
  refine lv_icmp_ge (tgt := 51) hx hb dX14_feed_44 (by decide) (fun c_0 => absurd c_0 (by decide)) (fun _ => ?_)
  refine lv_iload_n hx hb dX14_feed_47 rfl (lv_at hl 4 rfl) ?_
  refine lv_goto (tgt := 76) hx hb dX14_feed_48 (by decide) ?_
  refine lv_istore (lv' := [(7, .int a2), (6, .int 7), (0, .ref h0), (1, .int a1), (2, .int a2), (3, .int a3), (4, .int a4), (5, .int a5)]) hx hb dX14_feed_76 hl (by decide) rfl (fun ls hl => ?_)
  refine lv_aload_n hx hb dX14_feed_78 rfl (lv_at hl 2 rfl) ?_
  refine va_get (D := (dC, dI)) (ci := 14) (v := .ref m_tape) (C := RX14) (T := TX14) (N := 63) hx hb hA zin_X14 hown hK hP 0 rfl rfl 2 (by decide) (hA _ wi_1499) (fun _ h9 => h9) rfl dX14_feed_79 ?_
  refine lv_aload_n hx hb dX14_feed_82 rfl (lv_at hl 2 rfl) ?_
  refine va_get (D := (dC, dI)) (ci := 14) (v := .int 7) (C := RX14) (T := TX14) (N := 63) hx hb hA zin_X14 hown hK hP 0 rfl rfl 3 (by decide) (hA _ wi_1500) (fun _ h9 => h9) rfl dX14_feed_83 ?_
  refine lv_iload hx hb dX14_feed_86 (lv_at hl 0 rfl) ?_
  refine lv_bipush (v := 24) hx hb dX14_feed_88 (by decide) ?_
  refine lv_bipush (v := 8) hx hb dX14_feed_90 (by decide) ?_
  refine lv_iload hx hb dX14_feed_92 (lv_at hl 1 rfl) ?_
  refine lv_iconst (v := 4) hx hb dX14_feed_94 (by decide) ?_
  refine lv_irem hx hb dX14_feed_95 (by decide) ?_
  refine lv_topi (fun x_51 ex_51 => ?_)
  obtain rfl : x_51 = 3 := ex_51.trans (by decide)
  refine lv_imul hx hb dX14_feed_96 ?_
  refine lv_topi (fun x_52 ex_52 => ?_)
  obtain rfl : x_52 = 24 := ex_52.trans (by decide)
  refine lv_isub hx hb dX14_feed_97 ?_
  refine lv_topi (fun x_53 ex_53 => ?_)
  obtain rfl : x_53 = 0 := ex_53.trans (by decide)
  refine lv_ishr hx hb dX14_feed_98 ?_
  refine lv_topi (fun x_54 ex_54 => ?_)
  obtain ⟨x_55, ex_55⟩ : ∃ z : Int32, z = (Int32.toInt8 x_54).toInt32 := ⟨_, rfl⟩
  refine lv_i2b (v := x_55) hx hb dX14_feed_99 ex_55.symm ?_
  refine va_bast hx hb hK hP hD hS 1 0 rfl rfl (by unfold vp_in; decide) dX14_feed_100 (fun H locs hP hD hS => ?_)
  obtain ⟨f_56, ef_56⟩ : ∃ gz9 : Nat → Int32, gz9 = upd f_49 (Int32.toNatClampNeg 7) (vp_nar .byte x_55) := ⟨_, rfl⟩
  rw [← ef_56] at hP hD
  have hP : va_P (dC, dI) vwCl [(h0, .inr (14, [.int 0, .ref m_stop, .ref m_tape, .int 7, .int 0, .int 0, .int 0, .int 0, .int 0, .long 0, .ref m_p, .ref m_spare, .int 0, .ref m_scope, .int 0, .int 0, .int 0, .int 0, .int (-1), .ref m_cellKind, .ref m_cellCount, .ref m_free, .ref m_pile, .ref m_cellField, .int 0, .int 0, .int 0, .ref m_otherKind, .ref m_otherField, .int 0, .int 0, .int 0, .int 0, .long 0, .long 0, .int 0, .int 0, .int 0, .int 0, .int 0, .int 0, .int 0, .ref m_taskWhat, .ref m_taskPart, .ref m_values, .int 0, .int 0, .int 0, .ref m_slots, .ref m_present, .ref m_shell, .ref m_shellArm, .ref m_shellCall, .int 0, .ref m_keptCounts, .ref m_asideKind, .ref m_asideCount, .ref m_asideField, .ref m_out, .ref m_side, .int 0, .int 0, .ref m_saying])), (m_tape, .inl (mkt, 2000, .inl f_56))] H := hP
  have hD : va_D A [(h0, .inr (14, [.int 0, .ref m_stop, .ref m_tape, .int 7, .int 0, .int 0, .int 0, .int 0, .int 0, .long 0, .ref m_p, .ref m_spare, .int 0, .ref m_scope, .int 0, .int 0, .int 0, .int 0, .int (-1), .ref m_cellKind, .ref m_cellCount, .ref m_free, .ref m_pile, .ref m_cellField, .int 0, .int 0, .int 0, .ref m_otherKind, .ref m_otherField, .int 0, .int 0, .int 0, .int 0, .long 0, .long 0, .int 0, .int 0, .int 0, .int 0, .int 0, .int 0, .int 0, .ref m_taskWhat, .ref m_taskPart, .ref m_values, .int 0, .int 0, .int 0, .ref m_slots, .ref m_present, .ref m_shell, .ref m_shellArm, .ref m_shellCall, .int 0, .ref m_keptCounts, .ref m_asideKind, .ref m_asideCount, .ref m_asideField, .ref m_out, .ref m_side, .int 0, .int 0, .ref m_saying])), (m_tape, .inl (mkt, 2000, .inl f_56))] := hD
  refine lv_aload_n hx hb dX14_feed_101 rfl (lv_at hl 2 rfl) ?_
  refine lv_dup hx hb dX14_feed_102 rfl ?_
  refine va_get (D := (dC, dI)) (ci := 14) (v := .int 7) (C := RX14) (T := TX14) (N := 63) hx hb hA zin_X14 hown hK hP 0 rfl rfl 3 (by decide) (hA _ wi_1500) (fun _ h9 => h9) rfl dX14_feed_103 ?_
  refine lv_iconst (v := 1) hx hb dX14_feed_106 (by decide) ?_
  refine lv_iadd hx hb dX14_feed_107 ?_
  refine lv_topi (fun x_57 ex_57 => ?_)
  obtain rfl : x_57 = 8 := ex_57.trans (by decide)
  refine va_put (D := (dC, dI)) (ci := 14) (v := .int 8) (ty := .int) (C := RX14) (T := TX14) (N := 63) hx hb hA zin_X14 tyX14 tyX14_ok nmX14 hown hK hP hD hS 0 rfl rfl 3 (by decide) (hA _ wi_1500) (fun _ h9 => h9) rfl (by decide +kernel) rfl rfl (Nat.le_of_ble_eq_true rfl) dX14_feed_108 (fun H locs hP hD hS => ?_)
  have hP : va_P (dC, dI) vwCl [(h0, .inr (14, [.int 0, .ref m_stop, .ref m_tape, .int 8, .int 0, .int 0, .int 0, .int 0, .int 0, .long 0, .ref m_p, .ref m_spare, .int 0, .ref m_scope, .int 0, .int 0, .int 0, .int 0, .int (-1), .ref m_cellKind, .ref m_cellCount, .ref m_free, .ref m_pile, .ref m_cellField, .int 0, .int 0, .int 0, .ref m_otherKind, .ref m_otherField, .int 0, .int 0, .int 0, .int 0, .long 0, .long 0, .int 0, .int 0, .int 0, .int 0, .int 0, .int 0, .int 0, .ref m_taskWhat, .ref m_taskPart, .ref m_values, .int 0, .int 0, .int 0, .ref m_slots, .ref m_present, .ref m_shell, .ref m_shellArm, .ref m_shellCall, .int 0, .ref m_keptCounts, .ref m_asideKind, .ref m_asideCount, .ref m_asideField, .ref m_out, .ref m_side, .int 0, .int 0, .ref m_saying])), (m_tape, .inl (mkt, 2000, .inl f_56))] H := hP
  have hD : va_D A [(h0, .inr (14, [.int 0, .ref m_stop, .ref m_tape, .int 8, .int 0, .int 0, .int 0, .int 0, .int 0, .long 0, .ref m_p, .ref m_spare, .int 0, .ref m_scope, .int 0, .int 0, .int 0, .int 0, .int (-1), .ref m_cellKind, .ref m_cellCount, .ref m_free, .ref m_pile, .ref m_cellField, .int 0, .int 0, .int 0, .ref m_otherKind, .ref m_otherField, .int 0, .int 0, .int 0, .int 0, .long 0, .long 0, .int 0, .int 0, .int 0, .int 0, .int 0, .int 0, .int 0, .ref m_taskWhat, .ref m_taskPart, .ref m_values, .int 0, .int 0, .int 0, .ref m_slots, .ref m_present, .ref m_shell, .ref m_shellArm, .ref m_shellCall, .int 0, .ref m_keptCounts, .ref m_asideKind, .ref m_asideCount, .ref m_asideField, .ref m_out, .ref m_side, .int 0, .int 0, .ref m_saying])), (m_tape, .inl (mkt, 2000, .inl f_56))] := hD
  refine lv_iinc (v := 8) (lv' := [(6, .int 8), (7, .int a2), (0, .ref h0), (1, .int a1), (2, .int a2), (3, .int a3), (4, .int a4), (5, .int a5)]) hx hb dX14_feed_111 hl (k := 1) rfl (by decide) (by decide) rfl (fun ls hl => ?_)
  refine lv_goto (tgt := 23) hx hb dX14_feed_114 (by decide) ?_
  refine lv_iload hx hb dX14_feed_23 (lv_at hl 0 rfl) ?_
  refine lv_bipush (v := 20) hx hb dX14_feed_25 (by decide) ?_
  refine lv_icmp_ge (tgt := 117) hx hb dX14_feed_27 (by decide) (fun c_0 => absurd c_0 (by decide)) (fun _ => ?_)
  refine lv_iload hx hb dX14_feed_30 (lv_at hl 0 rfl) ?_
  refine lv_iconst (v := 4) hx hb dX14_feed_32 (by decide) ?_
  refine lv_icmp_ge (tgt := 40) hx hb dX14_feed_33 (by decide) (fun _ => ?_) (fun c_0 => absurd (by decide) c_0)
  refine lv_iload hx hb dX14_feed_40 (lv_at hl 0 rfl) ?_
  refine lv_bipush (v := 8) hx hb dX14_feed_42 (by decide) ?_
  refine lv_icmp_ge (tgt := 51) hx hb dX14_feed_44 (by decide) (fun _ => ?_) (fun c_0 => absurd (by decide) c_0)
  refine lv_iload hx hb dX14_feed_51 (lv_at hl 0 rfl) ?_
  refine lv_bipush (v := 12) hx hb dX14_feed_53 (by decide) ?_
  refine lv_icmp_ge (tgt := 62) hx hb dX14_feed_55 (by decide) (fun c_0 => absurd c_0 (by decide)) (fun _ => ?_)
  refine lv_iload_n hx hb dX14_feed_58 rfl (lv_at hl 5 rfl) ?_
  refine lv_goto (tgt := 76) hx hb dX14_feed_59 (by decide) ?_
  refine lv_istore (lv' := [(7, .int a3), (6, .int 8), (0, .ref h0), (1, .int a1), (2, .int a2), (3, .int a3), (4, .int a4), (5, .int a5)]) hx hb dX14_feed_76 hl (by decide) rfl (fun ls hl => ?_)
  refine lv_aload_n hx hb dX14_feed_78 rfl (lv_at hl 2 rfl) ?_
  refine va_get (D := (dC, dI)) (ci := 14) (v := .ref m_tape) (C := RX14) (T := TX14) (N := 63) hx hb hA zin_X14 hown hK hP 0 rfl rfl 2 (by decide) (hA _ wi_1499) (fun _ h9 => h9) rfl dX14_feed_79 ?_
  refine lv_aload_n hx hb dX14_feed_82 rfl (lv_at hl 2 rfl) ?_
  refine va_get (D := (dC, dI)) (ci := 14) (v := .int 8) (C := RX14) (T := TX14) (N := 63) hx hb hA zin_X14 hown hK hP 0 rfl rfl 3 (by decide) (hA _ wi_1500) (fun _ h9 => h9) rfl dX14_feed_83 ?_
  refine lv_iload hx hb dX14_feed_86 (lv_at hl 0 rfl) ?_
  refine lv_bipush (v := 24) hx hb dX14_feed_88 (by decide) ?_
  refine lv_bipush (v := 8) hx hb dX14_feed_90 (by decide) ?_
  refine lv_iload hx hb dX14_feed_92 (lv_at hl 1 rfl) ?_
  refine lv_iconst (v := 4) hx hb dX14_feed_94 (by decide) ?_
  refine lv_irem hx hb dX14_feed_95 (by decide) ?_
  refine lv_topi (fun x_58 ex_58 => ?_)
  obtain rfl : x_58 = 0 := ex_58.trans (by decide)
  refine lv_imul hx hb dX14_feed_96 ?_
  refine lv_topi (fun x_59 ex_59 => ?_)
  obtain rfl : x_59 = 0 := ex_59.trans (by decide)
  refine lv_isub hx hb dX14_feed_97 ?_
  refine lv_topi (fun x_60 ex_60 => ?_)
  obtain rfl : x_60 = 24 := ex_60.trans (by decide)
  refine lv_ishr hx hb dX14_feed_98 ?_
  refine lv_topi (fun x_61 ex_61 => ?_)
  obtain ⟨x_62, ex_62⟩ : ∃ z : Int32, z = (Int32.toInt8 x_61).toInt32 := ⟨_, rfl⟩
  refine lv_i2b (v := x_62) hx hb dX14_feed_99 ex_62.symm ?_
  refine va_bast hx hb hK hP hD hS 1 0 rfl rfl (by unfold vp_in; decide) dX14_feed_100 (fun H locs hP hD hS => ?_)
  obtain ⟨f_63, ef_63⟩ : ∃ gz9 : Nat → Int32, gz9 = upd f_56 (Int32.toNatClampNeg 8) (vp_nar .byte x_62) := ⟨_, rfl⟩
  rw [← ef_63] at hP hD
  have hP : va_P (dC, dI) vwCl [(h0, .inr (14, [.int 0, .ref m_stop, .ref m_tape, .int 8, .int 0, .int 0, .int 0, .int 0, .int 0, .long 0, .ref m_p, .ref m_spare, .int 0, .ref m_scope, .int 0, .int 0, .int 0, .int 0, .int (-1), .ref m_cellKind, .ref m_cellCount, .ref m_free, .ref m_pile, .ref m_cellField, .int 0, .int 0, .int 0, .ref m_otherKind, .ref m_otherField, .int 0, .int 0, .int 0, .int 0, .long 0, .long 0, .int 0, .int 0, .int 0, .int 0, .int 0, .int 0, .int 0, .ref m_taskWhat, .ref m_taskPart, .ref m_values, .int 0, .int 0, .int 0, .ref m_slots, .ref m_present, .ref m_shell, .ref m_shellArm, .ref m_shellCall, .int 0, .ref m_keptCounts, .ref m_asideKind, .ref m_asideCount, .ref m_asideField, .ref m_out, .ref m_side, .int 0, .int 0, .ref m_saying])), (m_tape, .inl (mkt, 2000, .inl f_63))] H := hP
  have hD : va_D A [(h0, .inr (14, [.int 0, .ref m_stop, .ref m_tape, .int 8, .int 0, .int 0, .int 0, .int 0, .int 0, .long 0, .ref m_p, .ref m_spare, .int 0, .ref m_scope, .int 0, .int 0, .int 0, .int 0, .int (-1), .ref m_cellKind, .ref m_cellCount, .ref m_free, .ref m_pile, .ref m_cellField, .int 0, .int 0, .int 0, .ref m_otherKind, .ref m_otherField, .int 0, .int 0, .int 0, .int 0, .long 0, .long 0, .int 0, .int 0, .int 0, .int 0, .int 0, .int 0, .int 0, .ref m_taskWhat, .ref m_taskPart, .ref m_values, .int 0, .int 0, .int 0, .ref m_slots, .ref m_present, .ref m_shell, .ref m_shellArm, .ref m_shellCall, .int 0, .ref m_keptCounts, .ref m_asideKind, .ref m_asideCount, .ref m_asideField, .ref m_out, .ref m_side, .int 0, .int 0, .ref m_saying])), (m_tape, .inl (mkt, 2000, .inl f_63))] := hD
  refine lv_aload_n hx hb dX14_feed_101 rfl (lv_at hl 2 rfl) ?_
  refine lv_dup hx hb dX14_feed_102 rfl ?_
  refine va_get (D := (dC, dI)) (ci := 14) (v := .int 8) (C := RX14) (T := TX14) (N := 63) hx hb hA zin_X14 hown hK hP 0 rfl rfl 3 (by decide) (hA _ wi_1500) (fun _ h9 => h9) rfl dX14_feed_103 ?_
  refine lv_iconst (v := 1) hx hb dX14_feed_106 (by decide) ?_
  refine lv_iadd hx hb dX14_feed_107 ?_
  refine lv_topi (fun x_64 ex_64 => ?_)
  obtain rfl : x_64 = 9 := ex_64.trans (by decide)
  refine va_put (D := (dC, dI)) (ci := 14) (v := .int 9) (ty := .int) (C := RX14) (T := TX14) (N := 63) hx hb hA zin_X14 tyX14 tyX14_ok nmX14 hown hK hP hD hS 0 rfl rfl 3 (by decide) (hA _ wi_1500) (fun _ h9 => h9) rfl (by decide +kernel) rfl rfl (Nat.le_of_ble_eq_true rfl) dX14_feed_108 (fun H locs hP hD hS => ?_)
  have hP : va_P (dC, dI) vwCl [(h0, .inr (14, [.int 0, .ref m_stop, .ref m_tape, .int 9, .int 0, .int 0, .int 0, .int 0, .int 0, .long 0, .ref m_p, .ref m_spare, .int 0, .ref m_scope, .int 0, .int 0, .int 0, .int 0, .int (-1), .ref m_cellKind, .ref m_cellCount, .ref m_free, .ref m_pile, .ref m_cellField, .int 0, .int 0, .int 0, .ref m_otherKind, .ref m_otherField, .int 0, .int 0, .int 0, .int 0, .long 0, .long 0, .int 0, .int 0, .int 0, .int 0, .int 0, .int 0, .int 0, .ref m_taskWhat, .ref m_taskPart, .ref m_values, .int 0, .int 0, .int 0, .ref m_slots, .ref m_present, .ref m_shell, .ref m_shellArm, .ref m_shellCall, .int 0, .ref m_keptCounts, .ref m_asideKind, .ref m_asideCount, .ref m_asideField, .ref m_out, .ref m_side, .int 0, .int 0, .ref m_saying])), (m_tape, .inl (mkt, 2000, .inl f_63))] H := hP
  have hD : va_D A [(h0, .inr (14, [.int 0, .ref m_stop, .ref m_tape, .int 9, .int 0, .int 0, .int 0, .int 0, .int 0, .long 0, .ref m_p, .ref m_spare, .int 0, .ref m_scope, .int 0, .int 0, .int 0, .int 0, .int (-1), .ref m_cellKind, .ref m_cellCount, .ref m_free, .ref m_pile, .ref m_cellField, .int 0, .int 0, .int 0, .ref m_otherKind, .ref m_otherField, .int 0, .int 0, .int 0, .int 0, .long 0, .long 0, .int 0, .int 0, .int 0, .int 0, .int 0, .int 0, .int 0, .ref m_taskWhat, .ref m_taskPart, .ref m_values, .int 0, .int 0, .int 0, .ref m_slots, .ref m_present, .ref m_shell, .ref m_shellArm, .ref m_shellCall, .int 0, .ref m_keptCounts, .ref m_asideKind, .ref m_asideCount, .ref m_asideField, .ref m_out, .ref m_side, .int 0, .int 0, .ref m_saying])), (m_tape, .inl (mkt, 2000, .inl f_63))] := hD
  refine lv_iinc (v := 9) (lv' := [(6, .int 9), (7, .int a3), (0, .ref h0), (1, .int a1), (2, .int a2), (3, .int a3), (4, .int a4), (5, .int a5)]) hx hb dX14_feed_111 hl (k := 1) rfl (by decide) (by decide) rfl (fun ls hl => ?_)
  refine lv_goto (tgt := 23) hx hb dX14_feed_114 (by decide) ?_
  refine lv_iload hx hb dX14_feed_23 (lv_at hl 0 rfl) ?_
  refine lv_bipush (v := 20) hx hb dX14_feed_25 (by decide) ?_
  refine lv_icmp_ge (tgt := 117) hx hb dX14_feed_27 (by decide) (fun c_0 => absurd c_0 (by decide)) (fun _ => ?_)
  refine lv_iload hx hb dX14_feed_30 (lv_at hl 0 rfl) ?_
  refine lv_iconst (v := 4) hx hb dX14_feed_32 (by decide) ?_
  refine lv_icmp_ge (tgt := 40) hx hb dX14_feed_33 (by decide) (fun _ => ?_) (fun c_0 => absurd (by decide) c_0)
  refine lv_iload hx hb dX14_feed_40 (lv_at hl 0 rfl) ?_
  refine lv_bipush (v := 8) hx hb dX14_feed_42 (by decide) ?_
  refine lv_icmp_ge (tgt := 51) hx hb dX14_feed_44 (by decide) (fun _ => ?_) (fun c_0 => absurd (by decide) c_0)
  refine lv_iload hx hb dX14_feed_51 (lv_at hl 0 rfl) ?_
  refine lv_bipush (v := 12) hx hb dX14_feed_53 (by decide) ?_
  refine lv_icmp_ge (tgt := 62) hx hb dX14_feed_55 (by decide) (fun c_0 => absurd c_0 (by decide)) (fun _ => ?_)
  refine lv_iload_n hx hb dX14_feed_58 rfl (lv_at hl 5 rfl) ?_
  refine lv_goto (tgt := 76) hx hb dX14_feed_59 (by decide) ?_
  refine lv_istore (lv' := [(7, .int a3), (6, .int 9), (0, .ref h0), (1, .int a1), (2, .int a2), (3, .int a3), (4, .int a4), (5, .int a5)]) hx hb dX14_feed_76 hl (by decide) rfl (fun ls hl => ?_)
  refine lv_aload_n hx hb dX14_feed_78 rfl (lv_at hl 2 rfl) ?_
  refine va_get (D := (dC, dI)) (ci := 14) (v := .ref m_tape) (C := RX14) (T := TX14) (N := 63) hx hb hA zin_X14 hown hK hP 0 rfl rfl 2 (by decide) (hA _ wi_1499) (fun _ h9 => h9) rfl dX14_feed_79 ?_
  refine lv_aload_n hx hb dX14_feed_82 rfl (lv_at hl 2 rfl) ?_
  refine va_get (D := (dC, dI)) (ci := 14) (v := .int 9) (C := RX14) (T := TX14) (N := 63) hx hb hA zin_X14 hown hK hP 0 rfl rfl 3 (by decide) (hA _ wi_1500) (fun _ h9 => h9) rfl dX14_feed_83 ?_
  refine lv_iload hx hb dX14_feed_86 (lv_at hl 0 rfl) ?_
  refine lv_bipush (v := 24) hx hb dX14_feed_88 (by decide) ?_
  refine lv_bipush (v := 8) hx hb dX14_feed_90 (by decide) ?_
  refine lv_iload hx hb dX14_feed_92 (lv_at hl 1 rfl) ?_
  refine lv_iconst (v := 4) hx hb dX14_feed_94 (by decide) ?_
  refine lv_irem hx hb dX14_feed_95 (by decide) ?_
  refine lv_topi (fun x_65 ex_65 => ?_)
  obtain rfl : x_65 = 1 := ex_65.trans (by decide)
  refine lv_imul hx hb dX14_feed_96 ?_
  refine lv_topi (fun x_66 ex_66 => ?_)
  obtain rfl : x_66 = 8 := ex_66.trans (by decide)
  refine lv_isub hx hb dX14_feed_97 ?_
  refine lv_topi (fun x_67 ex_67 => ?_)
  obtain rfl : x_67 = 16 := ex_67.trans (by decide)
  refine lv_ishr hx hb dX14_feed_98 ?_
  refine lv_topi (fun x_68 ex_68 => ?_)
  obtain ⟨x_69, ex_69⟩ : ∃ z : Int32, z = (Int32.toInt8 x_68).toInt32 := ⟨_, rfl⟩
  refine lv_i2b (v := x_69) hx hb dX14_feed_99 ex_69.symm ?_
  refine va_bast hx hb hK hP hD hS 1 0 rfl rfl (by unfold vp_in; decide) dX14_feed_100 (fun H locs hP hD hS => ?_)
  obtain ⟨f_70, ef_70⟩ : ∃ gz9 : Nat → Int32, gz9 = upd f_63 (Int32.toNatClampNeg 9) (vp_nar .byte x_69) := ⟨_, rfl⟩
  rw [← ef_70] at hP hD
  have hP : va_P (dC, dI) vwCl [(h0, .inr (14, [.int 0, .ref m_stop, .ref m_tape, .int 9, .int 0, .int 0, .int 0, .int 0, .int 0, .long 0, .ref m_p, .ref m_spare, .int 0, .ref m_scope, .int 0, .int 0, .int 0, .int 0, .int (-1), .ref m_cellKind, .ref m_cellCount, .ref m_free, .ref m_pile, .ref m_cellField, .int 0, .int 0, .int 0, .ref m_otherKind, .ref m_otherField, .int 0, .int 0, .int 0, .int 0, .long 0, .long 0, .int 0, .int 0, .int 0, .int 0, .int 0, .int 0, .int 0, .ref m_taskWhat, .ref m_taskPart, .ref m_values, .int 0, .int 0, .int 0, .ref m_slots, .ref m_present, .ref m_shell, .ref m_shellArm, .ref m_shellCall, .int 0, .ref m_keptCounts, .ref m_asideKind, .ref m_asideCount, .ref m_asideField, .ref m_out, .ref m_side, .int 0, .int 0, .ref m_saying])), (m_tape, .inl (mkt, 2000, .inl f_70))] H := hP
  have hD : va_D A [(h0, .inr (14, [.int 0, .ref m_stop, .ref m_tape, .int 9, .int 0, .int 0, .int 0, .int 0, .int 0, .long 0, .ref m_p, .ref m_spare, .int 0, .ref m_scope, .int 0, .int 0, .int 0, .int 0, .int (-1), .ref m_cellKind, .ref m_cellCount, .ref m_free, .ref m_pile, .ref m_cellField, .int 0, .int 0, .int 0, .ref m_otherKind, .ref m_otherField, .int 0, .int 0, .int 0, .int 0, .long 0, .long 0, .int 0, .int 0, .int 0, .int 0, .int 0, .int 0, .int 0, .ref m_taskWhat, .ref m_taskPart, .ref m_values, .int 0, .int 0, .int 0, .ref m_slots, .ref m_present, .ref m_shell, .ref m_shellArm, .ref m_shellCall, .int 0, .ref m_keptCounts, .ref m_asideKind, .ref m_asideCount, .ref m_asideField, .ref m_out, .ref m_side, .int 0, .int 0, .ref m_saying])), (m_tape, .inl (mkt, 2000, .inl f_70))] := hD
  refine lv_aload_n hx hb dX14_feed_101 rfl (lv_at hl 2 rfl) ?_
  refine lv_dup hx hb dX14_feed_102 rfl ?_
  refine va_get (D := (dC, dI)) (ci := 14) (v := .int 9) (C := RX14) (T := TX14) (N := 63) hx hb hA zin_X14 hown hK hP 0 rfl rfl 3 (by decide) (hA _ wi_1500) (fun _ h9 => h9) rfl dX14_feed_103 ?_
  refine lv_iconst (v := 1) hx hb dX14_feed_106 (by decide) ?_
  refine lv_iadd hx hb dX14_feed_107 ?_
  refine lv_topi (fun x_71 ex_71 => ?_)
  obtain rfl : x_71 = 10 := ex_71.trans (by decide)
  refine va_put (D := (dC, dI)) (ci := 14) (v := .int 10) (ty := .int) (C := RX14) (T := TX14) (N := 63) hx hb hA zin_X14 tyX14 tyX14_ok nmX14 hown hK hP hD hS 0 rfl rfl 3 (by decide) (hA _ wi_1500) (fun _ h9 => h9) rfl (by decide +kernel) rfl rfl (Nat.le_of_ble_eq_true rfl) dX14_feed_108 (fun H locs hP hD hS => ?_)
  have hP : va_P (dC, dI) vwCl [(h0, .inr (14, [.int 0, .ref m_stop, .ref m_tape, .int 10, .int 0, .int 0, .int 0, .int 0, .int 0, .long 0, .ref m_p, .ref m_spare, .int 0, .ref m_scope, .int 0, .int 0, .int 0, .int 0, .int (-1), .ref m_cellKind, .ref m_cellCount, .ref m_free, .ref m_pile, .ref m_cellField, .int 0, .int 0, .int 0, .ref m_otherKind, .ref m_otherField, .int 0, .int 0, .int 0, .int 0, .long 0, .long 0, .int 0, .int 0, .int 0, .int 0, .int 0, .int 0, .int 0, .ref m_taskWhat, .ref m_taskPart, .ref m_values, .int 0, .int 0, .int 0, .ref m_slots, .ref m_present, .ref m_shell, .ref m_shellArm, .ref m_shellCall, .int 0, .ref m_keptCounts, .ref m_asideKind, .ref m_asideCount, .ref m_asideField, .ref m_out, .ref m_side, .int 0, .int 0, .ref m_saying])), (m_tape, .inl (mkt, 2000, .inl f_70))] H := hP
  have hD : va_D A [(h0, .inr (14, [.int 0, .ref m_stop, .ref m_tape, .int 10, .int 0, .int 0, .int 0, .int 0, .int 0, .long 0, .ref m_p, .ref m_spare, .int 0, .ref m_scope, .int 0, .int 0, .int 0, .int 0, .int (-1), .ref m_cellKind, .ref m_cellCount, .ref m_free, .ref m_pile, .ref m_cellField, .int 0, .int 0, .int 0, .ref m_otherKind, .ref m_otherField, .int 0, .int 0, .int 0, .int 0, .long 0, .long 0, .int 0, .int 0, .int 0, .int 0, .int 0, .int 0, .int 0, .ref m_taskWhat, .ref m_taskPart, .ref m_values, .int 0, .int 0, .int 0, .ref m_slots, .ref m_present, .ref m_shell, .ref m_shellArm, .ref m_shellCall, .int 0, .ref m_keptCounts, .ref m_asideKind, .ref m_asideCount, .ref m_asideField, .ref m_out, .ref m_side, .int 0, .int 0, .ref m_saying])), (m_tape, .inl (mkt, 2000, .inl f_70))] := hD
  refine lv_iinc (v := 10) (lv' := [(6, .int 10), (7, .int a3), (0, .ref h0), (1, .int a1), (2, .int a2), (3, .int a3), (4, .int a4), (5, .int a5)]) hx hb dX14_feed_111 hl (k := 1) rfl (by decide) (by decide) rfl (fun ls hl => ?_)
  refine lv_goto (tgt := 23) hx hb dX14_feed_114 (by decide) ?_
  refine lv_iload hx hb dX14_feed_23 (lv_at hl 0 rfl) ?_
  refine lv_bipush (v := 20) hx hb dX14_feed_25 (by decide) ?_
  refine lv_icmp_ge (tgt := 117) hx hb dX14_feed_27 (by decide) (fun c_0 => absurd c_0 (by decide)) (fun _ => ?_)
  refine lv_iload hx hb dX14_feed_30 (lv_at hl 0 rfl) ?_
  refine lv_iconst (v := 4) hx hb dX14_feed_32 (by decide) ?_
  refine lv_icmp_ge (tgt := 40) hx hb dX14_feed_33 (by decide) (fun _ => ?_) (fun c_0 => absurd (by decide) c_0)
  refine lv_iload hx hb dX14_feed_40 (lv_at hl 0 rfl) ?_
  refine lv_bipush (v := 8) hx hb dX14_feed_42 (by decide) ?_
  refine lv_icmp_ge (tgt := 51) hx hb dX14_feed_44 (by decide) (fun _ => ?_) (fun c_0 => absurd (by decide) c_0)
  refine lv_iload hx hb dX14_feed_51 (lv_at hl 0 rfl) ?_
  refine lv_bipush (v := 12) hx hb dX14_feed_53 (by decide) ?_
  refine lv_icmp_ge (tgt := 62) hx hb dX14_feed_55 (by decide) (fun c_0 => absurd c_0 (by decide)) (fun _ => ?_)
  refine lv_iload_n hx hb dX14_feed_58 rfl (lv_at hl 5 rfl) ?_
  refine lv_goto (tgt := 76) hx hb dX14_feed_59 (by decide) ?_
  refine lv_istore (lv' := [(7, .int a3), (6, .int 10), (0, .ref h0), (1, .int a1), (2, .int a2), (3, .int a3), (4, .int a4), (5, .int a5)]) hx hb dX14_feed_76 hl (by decide) rfl (fun ls hl => ?_)
  refine lv_aload_n hx hb dX14_feed_78 rfl (lv_at hl 2 rfl) ?_
  refine va_get (D := (dC, dI)) (ci := 14) (v := .ref m_tape) (C := RX14) (T := TX14) (N := 63) hx hb hA zin_X14 hown hK hP 0 rfl rfl 2 (by decide) (hA _ wi_1499) (fun _ h9 => h9) rfl dX14_feed_79 ?_
  refine lv_aload_n hx hb dX14_feed_82 rfl (lv_at hl 2 rfl) ?_
  refine va_get (D := (dC, dI)) (ci := 14) (v := .int 10) (C := RX14) (T := TX14) (N := 63) hx hb hA zin_X14 hown hK hP 0 rfl rfl 3 (by decide) (hA _ wi_1500) (fun _ h9 => h9) rfl dX14_feed_83 ?_
  refine lv_iload hx hb dX14_feed_86 (lv_at hl 0 rfl) ?_
  refine lv_bipush (v := 24) hx hb dX14_feed_88 (by decide) ?_
  refine lv_bipush (v := 8) hx hb dX14_feed_90 (by decide) ?_
  refine lv_iload hx hb dX14_feed_92 (lv_at hl 1 rfl) ?_
  refine lv_iconst (v := 4) hx hb dX14_feed_94 (by decide) ?_
  refine lv_irem hx hb dX14_feed_95 (by decide) ?_
  refine lv_topi (fun x_72 ex_72 => ?_)
  obtain rfl : x_72 = 2 := ex_72.trans (by decide)
  refine lv_imul hx hb dX14_feed_96 ?_
  refine lv_topi (fun x_73 ex_73 => ?_)
  obtain rfl : x_73 = 16 := ex_73.trans (by decide)
  refine lv_isub hx hb dX14_feed_97 ?_
  refine lv_topi (fun x_74 ex_74 => ?_)
  obtain rfl : x_74 = 8 := ex_74.trans (by decide)
  refine lv_ishr hx hb dX14_feed_98 ?_
  refine lv_topi (fun x_75 ex_75 => ?_)
  obtain ⟨x_76, ex_76⟩ : ∃ z : Int32, z = (Int32.toInt8 x_75).toInt32 := ⟨_, rfl⟩
  refine lv_i2b (v := x_76) hx hb dX14_feed_99 ex_76.symm ?_
  refine va_bast hx hb hK hP hD hS 1 0 rfl rfl (by unfold vp_in; decide) dX14_feed_100 (fun H locs hP hD hS => ?_)
  obtain ⟨f_77, ef_77⟩ : ∃ gz9 : Nat → Int32, gz9 = upd f_70 (Int32.toNatClampNeg 10) (vp_nar .byte x_76) := ⟨_, rfl⟩
  rw [← ef_77] at hP hD
  have hP : va_P (dC, dI) vwCl [(h0, .inr (14, [.int 0, .ref m_stop, .ref m_tape, .int 10, .int 0, .int 0, .int 0, .int 0, .int 0, .long 0, .ref m_p, .ref m_spare, .int 0, .ref m_scope, .int 0, .int 0, .int 0, .int 0, .int (-1), .ref m_cellKind, .ref m_cellCount, .ref m_free, .ref m_pile, .ref m_cellField, .int 0, .int 0, .int 0, .ref m_otherKind, .ref m_otherField, .int 0, .int 0, .int 0, .int 0, .long 0, .long 0, .int 0, .int 0, .int 0, .int 0, .int 0, .int 0, .int 0, .ref m_taskWhat, .ref m_taskPart, .ref m_values, .int 0, .int 0, .int 0, .ref m_slots, .ref m_present, .ref m_shell, .ref m_shellArm, .ref m_shellCall, .int 0, .ref m_keptCounts, .ref m_asideKind, .ref m_asideCount, .ref m_asideField, .ref m_out, .ref m_side, .int 0, .int 0, .ref m_saying])), (m_tape, .inl (mkt, 2000, .inl f_77))] H := hP
  have hD : va_D A [(h0, .inr (14, [.int 0, .ref m_stop, .ref m_tape, .int 10, .int 0, .int 0, .int 0, .int 0, .int 0, .long 0, .ref m_p, .ref m_spare, .int 0, .ref m_scope, .int 0, .int 0, .int 0, .int 0, .int (-1), .ref m_cellKind, .ref m_cellCount, .ref m_free, .ref m_pile, .ref m_cellField, .int 0, .int 0, .int 0, .ref m_otherKind, .ref m_otherField, .int 0, .int 0, .int 0, .int 0, .long 0, .long 0, .int 0, .int 0, .int 0, .int 0, .int 0, .int 0, .int 0, .ref m_taskWhat, .ref m_taskPart, .ref m_values, .int 0, .int 0, .int 0, .ref m_slots, .ref m_present, .ref m_shell, .ref m_shellArm, .ref m_shellCall, .int 0, .ref m_keptCounts, .ref m_asideKind, .ref m_asideCount, .ref m_asideField, .ref m_out, .ref m_side, .int 0, .int 0, .ref m_saying])), (m_tape, .inl (mkt, 2000, .inl f_77))] := hD
  refine lv_aload_n hx hb dX14_feed_101 rfl (lv_at hl 2 rfl) ?_
  refine lv_dup hx hb dX14_feed_102 rfl ?_
  refine va_get (D := (dC, dI)) (ci := 14) (v := .int 10) (C := RX14) (T := TX14) (N := 63) hx hb hA zin_X14 hown hK hP 0 rfl rfl 3 (by decide) (hA _ wi_1500) (fun _ h9 => h9) rfl dX14_feed_103 ?_
  refine lv_iconst (v := 1) hx hb dX14_feed_106 (by decide) ?_
  refine lv_iadd hx hb dX14_feed_107 ?_
  refine lv_topi (fun x_78 ex_78 => ?_)
  obtain rfl : x_78 = 11 := ex_78.trans (by decide)
  refine va_put (D := (dC, dI)) (ci := 14) (v := .int 11) (ty := .int) (C := RX14) (T := TX14) (N := 63) hx hb hA zin_X14 tyX14 tyX14_ok nmX14 hown hK hP hD hS 0 rfl rfl 3 (by decide) (hA _ wi_1500) (fun _ h9 => h9) rfl (by decide +kernel) rfl rfl (Nat.le_of_ble_eq_true rfl) dX14_feed_108 (fun H locs hP hD hS => ?_)
  have hP : va_P (dC, dI) vwCl [(h0, .inr (14, [.int 0, .ref m_stop, .ref m_tape, .int 11, .int 0, .int 0, .int 0, .int 0, .int 0, .long 0, .ref m_p, .ref m_spare, .int 0, .ref m_scope, .int 0, .int 0, .int 0, .int 0, .int (-1), .ref m_cellKind, .ref m_cellCount, .ref m_free, .ref m_pile, .ref m_cellField, .int 0, .int 0, .int 0, .ref m_otherKind, .ref m_otherField, .int 0, .int 0, .int 0, .int 0, .long 0, .long 0, .int 0, .int 0, .int 0, .int 0, .int 0, .int 0, .int 0, .ref m_taskWhat, .ref m_taskPart, .ref m_values, .int 0, .int 0, .int 0, .ref m_slots, .ref m_present, .ref m_shell, .ref m_shellArm, .ref m_shellCall, .int 0, .ref m_keptCounts, .ref m_asideKind, .ref m_asideCount, .ref m_asideField, .ref m_out, .ref m_side, .int 0, .int 0, .ref m_saying])), (m_tape, .inl (mkt, 2000, .inl f_77))] H := hP
  have hD : va_D A [(h0, .inr (14, [.int 0, .ref m_stop, .ref m_tape, .int 11, .int 0, .int 0, .int 0, .int 0, .int 0, .long 0, .ref m_p, .ref m_spare, .int 0, .ref m_scope, .int 0, .int 0, .int 0, .int 0, .int (-1), .ref m_cellKind, .ref m_cellCount, .ref m_free, .ref m_pile, .ref m_cellField, .int 0, .int 0, .int 0, .ref m_otherKind, .ref m_otherField, .int 0, .int 0, .int 0, .int 0, .long 0, .long 0, .int 0, .int 0, .int 0, .int 0, .int 0, .int 0, .int 0, .ref m_taskWhat, .ref m_taskPart, .ref m_values, .int 0, .int 0, .int 0, .ref m_slots, .ref m_present, .ref m_shell, .ref m_shellArm, .ref m_shellCall, .int 0, .ref m_keptCounts, .ref m_asideKind, .ref m_asideCount, .ref m_asideField, .ref m_out, .ref m_side, .int 0, .int 0, .ref m_saying])), (m_tape, .inl (mkt, 2000, .inl f_77))] := hD
  refine lv_iinc (v := 11) (lv' := [(6, .int 11), (7, .int a3), (0, .ref h0), (1, .int a1), (2, .int a2), (3, .int a3), (4, .int a4), (5, .int a5)]) hx hb dX14_feed_111 hl (k := 1) rfl (by decide) (by decide) rfl (fun ls hl => ?_)
  refine lv_goto (tgt := 23) hx hb dX14_feed_114 (by decide) ?_
  refine lv_iload hx hb dX14_feed_23 (lv_at hl 0 rfl) ?_
  refine lv_bipush (v := 20) hx hb dX14_feed_25 (by decide) ?_
  refine lv_icmp_ge (tgt := 117) hx hb dX14_feed_27 (by decide) (fun c_0 => absurd c_0 (by decide)) (fun _ => ?_)
  refine lv_iload hx hb dX14_feed_30 (lv_at hl 0 rfl) ?_
  refine lv_iconst (v := 4) hx hb dX14_feed_32 (by decide) ?_
  refine lv_icmp_ge (tgt := 40) hx hb dX14_feed_33 (by decide) (fun _ => ?_) (fun c_0 => absurd (by decide) c_0)
  refine lv_iload hx hb dX14_feed_40 (lv_at hl 0 rfl) ?_
  refine lv_bipush (v := 8) hx hb dX14_feed_42 (by decide) ?_
  refine lv_icmp_ge (tgt := 51) hx hb dX14_feed_44 (by decide) (fun _ => ?_) (fun c_0 => absurd (by decide) c_0)
  refine lv_iload hx hb dX14_feed_51 (lv_at hl 0 rfl) ?_
  refine lv_bipush (v := 12) hx hb dX14_feed_53 (by decide) ?_
  refine lv_icmp_ge (tgt := 62) hx hb dX14_feed_55 (by decide) (fun c_0 => absurd c_0 (by decide)) (fun _ => ?_)
  refine lv_iload_n hx hb dX14_feed_58 rfl (lv_at hl 5 rfl) ?_
  refine lv_goto (tgt := 76) hx hb dX14_feed_59 (by decide) ?_
  refine lv_istore (lv' := [(7, .int a3), (6, .int 11), (0, .ref h0), (1, .int a1), (2, .int a2), (3, .int a3), (4, .int a4), (5, .int a5)]) hx hb dX14_feed_76 hl (by decide) rfl (fun ls hl => ?_)
  refine lv_aload_n hx hb dX14_feed_78 rfl (lv_at hl 2 rfl) ?_
  refine va_get (D := (dC, dI)) (ci := 14) (v := .ref m_tape) (C := RX14) (T := TX14) (N := 63) hx hb hA zin_X14 hown hK hP 0 rfl rfl 2 (by decide) (hA _ wi_1499) (fun _ h9 => h9) rfl dX14_feed_79 ?_
  refine lv_aload_n hx hb dX14_feed_82 rfl (lv_at hl 2 rfl) ?_
  refine va_get (D := (dC, dI)) (ci := 14) (v := .int 11) (C := RX14) (T := TX14) (N := 63) hx hb hA zin_X14 hown hK hP 0 rfl rfl 3 (by decide) (hA _ wi_1500) (fun _ h9 => h9) rfl dX14_feed_83 ?_
  refine lv_iload hx hb dX14_feed_86 (lv_at hl 0 rfl) ?_
  refine lv_bipush (v := 24) hx hb dX14_feed_88 (by decide) ?_
  refine lv_bipush (v := 8) hx hb dX14_feed_90 (by decide) ?_
  refine lv_iload hx hb dX14_feed_92 (lv_at hl 1 rfl) ?_
  refine lv_iconst (v := 4) hx hb dX14_feed_94 (by decide) ?_
  refine lv_irem hx hb dX14_feed_95 (by decide) ?_
  refine lv_topi (fun x_79 ex_79 => ?_)
  obtain rfl : x_79 = 3 := ex_79.trans (by decide)
  refine lv_imul hx hb dX14_feed_96 ?_
  refine lv_topi (fun x_80 ex_80 => ?_)
  obtain rfl : x_80 = 24 := ex_80.trans (by decide)
  refine lv_isub hx hb dX14_feed_97 ?_
  refine lv_topi (fun x_81 ex_81 => ?_)
  obtain rfl : x_81 = 0 := ex_81.trans (by decide)
  refine lv_ishr hx hb dX14_feed_98 ?_
  refine lv_topi (fun x_82 ex_82 => ?_)
  obtain ⟨x_83, ex_83⟩ : ∃ z : Int32, z = (Int32.toInt8 x_82).toInt32 := ⟨_, rfl⟩
  refine lv_i2b (v := x_83) hx hb dX14_feed_99 ex_83.symm ?_
  refine va_bast hx hb hK hP hD hS 1 0 rfl rfl (by unfold vp_in; decide) dX14_feed_100 (fun H locs hP hD hS => ?_)
  obtain ⟨f_84, ef_84⟩ : ∃ gz9 : Nat → Int32, gz9 = upd f_77 (Int32.toNatClampNeg 11) (vp_nar .byte x_83) := ⟨_, rfl⟩
  rw [← ef_84] at hP hD
  have hP : va_P (dC, dI) vwCl [(h0, .inr (14, [.int 0, .ref m_stop, .ref m_tape, .int 11, .int 0, .int 0, .int 0, .int 0, .int 0, .long 0, .ref m_p, .ref m_spare, .int 0, .ref m_scope, .int 0, .int 0, .int 0, .int 0, .int (-1), .ref m_cellKind, .ref m_cellCount, .ref m_free, .ref m_pile, .ref m_cellField, .int 0, .int 0, .int 0, .ref m_otherKind, .ref m_otherField, .int 0, .int 0, .int 0, .int 0, .long 0, .long 0, .int 0, .int 0, .int 0, .int 0, .int 0, .int 0, .int 0, .ref m_taskWhat, .ref m_taskPart, .ref m_values, .int 0, .int 0, .int 0, .ref m_slots, .ref m_present, .ref m_shell, .ref m_shellArm, .ref m_shellCall, .int 0, .ref m_keptCounts, .ref m_asideKind, .ref m_asideCount, .ref m_asideField, .ref m_out, .ref m_side, .int 0, .int 0, .ref m_saying])), (m_tape, .inl (mkt, 2000, .inl f_84))] H := hP
  have hD : va_D A [(h0, .inr (14, [.int 0, .ref m_stop, .ref m_tape, .int 11, .int 0, .int 0, .int 0, .int 0, .int 0, .long 0, .ref m_p, .ref m_spare, .int 0, .ref m_scope, .int 0, .int 0, .int 0, .int 0, .int (-1), .ref m_cellKind, .ref m_cellCount, .ref m_free, .ref m_pile, .ref m_cellField, .int 0, .int 0, .int 0, .ref m_otherKind, .ref m_otherField, .int 0, .int 0, .int 0, .int 0, .long 0, .long 0, .int 0, .int 0, .int 0, .int 0, .int 0, .int 0, .int 0, .ref m_taskWhat, .ref m_taskPart, .ref m_values, .int 0, .int 0, .int 0, .ref m_slots, .ref m_present, .ref m_shell, .ref m_shellArm, .ref m_shellCall, .int 0, .ref m_keptCounts, .ref m_asideKind, .ref m_asideCount, .ref m_asideField, .ref m_out, .ref m_side, .int 0, .int 0, .ref m_saying])), (m_tape, .inl (mkt, 2000, .inl f_84))] := hD
  refine lv_aload_n hx hb dX14_feed_101 rfl (lv_at hl 2 rfl) ?_
  refine lv_dup hx hb dX14_feed_102 rfl ?_
  refine va_get (D := (dC, dI)) (ci := 14) (v := .int 11) (C := RX14) (T := TX14) (N := 63) hx hb hA zin_X14 hown hK hP 0 rfl rfl 3 (by decide) (hA _ wi_1500) (fun _ h9 => h9) rfl dX14_feed_103 ?_
  refine lv_iconst (v := 1) hx hb dX14_feed_106 (by decide) ?_
  refine lv_iadd hx hb dX14_feed_107 ?_
  refine lv_topi (fun x_85 ex_85 => ?_)
  obtain rfl : x_85 = 12 := ex_85.trans (by decide)
  refine va_put (D := (dC, dI)) (ci := 14) (v := .int 12) (ty := .int) (C := RX14) (T := TX14) (N := 63) hx hb hA zin_X14 tyX14 tyX14_ok nmX14 hown hK hP hD hS 0 rfl rfl 3 (by decide) (hA _ wi_1500) (fun _ h9 => h9) rfl (by decide +kernel) rfl rfl (Nat.le_of_ble_eq_true rfl) dX14_feed_108 (fun H locs hP hD hS => ?_)
  have hP : va_P (dC, dI) vwCl [(h0, .inr (14, [.int 0, .ref m_stop, .ref m_tape, .int 12, .int 0, .int 0, .int 0, .int 0, .int 0, .long 0, .ref m_p, .ref m_spare, .int 0, .ref m_scope, .int 0, .int 0, .int 0, .int 0, .int (-1), .ref m_cellKind, .ref m_cellCount, .ref m_free, .ref m_pile, .ref m_cellField, .int 0, .int 0, .int 0, .ref m_otherKind, .ref m_otherField, .int 0, .int 0, .int 0, .int 0, .long 0, .long 0, .int 0, .int 0, .int 0, .int 0, .int 0, .int 0, .int 0, .ref m_taskWhat, .ref m_taskPart, .ref m_values, .int 0, .int 0, .int 0, .ref m_slots, .ref m_present, .ref m_shell, .ref m_shellArm, .ref m_shellCall, .int 0, .ref m_keptCounts, .ref m_asideKind, .ref m_asideCount, .ref m_asideField, .ref m_out, .ref m_side, .int 0, .int 0, .ref m_saying])), (m_tape, .inl (mkt, 2000, .inl f_84))] H := hP
  have hD : va_D A [(h0, .inr (14, [.int 0, .ref m_stop, .ref m_tape, .int 12, .int 0, .int 0, .int 0, .int 0, .int 0, .long 0, .ref m_p, .ref m_spare, .int 0, .ref m_scope, .int 0, .int 0, .int 0, .int 0, .int (-1), .ref m_cellKind, .ref m_cellCount, .ref m_free, .ref m_pile, .ref m_cellField, .int 0, .int 0, .int 0, .ref m_otherKind, .ref m_otherField, .int 0, .int 0, .int 0, .int 0, .long 0, .long 0, .int 0, .int 0, .int 0, .int 0, .int 0, .int 0, .int 0, .ref m_taskWhat, .ref m_taskPart, .ref m_values, .int 0, .int 0, .int 0, .ref m_slots, .ref m_present, .ref m_shell, .ref m_shellArm, .ref m_shellCall, .int 0, .ref m_keptCounts, .ref m_asideKind, .ref m_asideCount, .ref m_asideField, .ref m_out, .ref m_side, .int 0, .int 0, .ref m_saying])), (m_tape, .inl (mkt, 2000, .inl f_84))] := hD
  refine lv_iinc (v := 12) (lv' := [(6, .int 12), (7, .int a3), (0, .ref h0), (1, .int a1), (2, .int a2), (3, .int a3), (4, .int a4), (5, .int a5)]) hx hb dX14_feed_111 hl (k := 1) rfl (by decide) (by decide) rfl (fun ls hl => ?_)
  refine lv_goto (tgt := 23) hx hb dX14_feed_114 (by decide) ?_
  refine lv_iload hx hb dX14_feed_23 (lv_at hl 0 rfl) ?_
  refine lv_bipush (v := 20) hx hb dX14_feed_25 (by decide) ?_
  refine lv_icmp_ge (tgt := 117) hx hb dX14_feed_27 (by decide) (fun c_0 => absurd c_0 (by decide)) (fun _ => ?_)
  refine lv_iload hx hb dX14_feed_30 (lv_at hl 0 rfl) ?_
  refine lv_iconst (v := 4) hx hb dX14_feed_32 (by decide) ?_
  refine lv_icmp_ge (tgt := 40) hx hb dX14_feed_33 (by decide) (fun _ => ?_) (fun c_0 => absurd (by decide) c_0)
  refine lv_iload hx hb dX14_feed_40 (lv_at hl 0 rfl) ?_
  refine lv_bipush (v := 8) hx hb dX14_feed_42 (by decide) ?_
  refine lv_icmp_ge (tgt := 51) hx hb dX14_feed_44 (by decide) (fun _ => ?_) (fun c_0 => absurd (by decide) c_0)
  refine lv_iload hx hb dX14_feed_51 (lv_at hl 0 rfl) ?_
  refine lv_bipush (v := 12) hx hb dX14_feed_53 (by decide) ?_
  refine lv_icmp_ge (tgt := 62) hx hb dX14_feed_55 (by decide) (fun _ => ?_) (fun c_0 => absurd (by decide) c_0)
  refine lv_iload hx hb dX14_feed_62 (lv_at hl 0 rfl) ?_
  refine lv_bipush (v := 16) hx hb dX14_feed_64 (by decide) ?_
  refine lv_icmp_ge (tgt := 74) hx hb dX14_feed_66 (by decide) (fun c_0 => absurd c_0 (by decide)) (fun _ => ?_)
  refine lv_iload hx hb dX14_feed_69 (lv_at hl 6 rfl) ?_
  refine lv_goto (tgt := 76) hx hb dX14_feed_71 (by decide) ?_
  refine lv_istore (lv' := [(7, .int a4), (6, .int 12), (0, .ref h0), (1, .int a1), (2, .int a2), (3, .int a3), (4, .int a4), (5, .int a5)]) hx hb dX14_feed_76 hl (by decide) rfl (fun ls hl => ?_)
  refine lv_aload_n hx hb dX14_feed_78 rfl (lv_at hl 2 rfl) ?_
  refine va_get (D := (dC, dI)) (ci := 14) (v := .ref m_tape) (C := RX14) (T := TX14) (N := 63) hx hb hA zin_X14 hown hK hP 0 rfl rfl 2 (by decide) (hA _ wi_1499) (fun _ h9 => h9) rfl dX14_feed_79 ?_
  refine lv_aload_n hx hb dX14_feed_82 rfl (lv_at hl 2 rfl) ?_
  refine va_get (D := (dC, dI)) (ci := 14) (v := .int 12) (C := RX14) (T := TX14) (N := 63) hx hb hA zin_X14 hown hK hP 0 rfl rfl 3 (by decide) (hA _ wi_1500) (fun _ h9 => h9) rfl dX14_feed_83 ?_
  refine lv_iload hx hb dX14_feed_86 (lv_at hl 0 rfl) ?_
  refine lv_bipush (v := 24) hx hb dX14_feed_88 (by decide) ?_
  refine lv_bipush (v := 8) hx hb dX14_feed_90 (by decide) ?_
  refine lv_iload hx hb dX14_feed_92 (lv_at hl 1 rfl) ?_
  refine lv_iconst (v := 4) hx hb dX14_feed_94 (by decide) ?_
  refine lv_irem hx hb dX14_feed_95 (by decide) ?_
  refine lv_topi (fun x_86 ex_86 => ?_)
  obtain rfl : x_86 = 0 := ex_86.trans (by decide)
  refine lv_imul hx hb dX14_feed_96 ?_
  refine lv_topi (fun x_87 ex_87 => ?_)
  obtain rfl : x_87 = 0 := ex_87.trans (by decide)
  refine lv_isub hx hb dX14_feed_97 ?_
  refine lv_topi (fun x_88 ex_88 => ?_)
  obtain rfl : x_88 = 24 := ex_88.trans (by decide)
  refine lv_ishr hx hb dX14_feed_98 ?_
  refine lv_topi (fun x_89 ex_89 => ?_)
  obtain ⟨x_90, ex_90⟩ : ∃ z : Int32, z = (Int32.toInt8 x_89).toInt32 := ⟨_, rfl⟩
  refine lv_i2b (v := x_90) hx hb dX14_feed_99 ex_90.symm ?_
  refine va_bast hx hb hK hP hD hS 1 0 rfl rfl (by unfold vp_in; decide) dX14_feed_100 (fun H locs hP hD hS => ?_)
  obtain ⟨f_91, ef_91⟩ : ∃ gz9 : Nat → Int32, gz9 = upd f_84 (Int32.toNatClampNeg 12) (vp_nar .byte x_90) := ⟨_, rfl⟩
  rw [← ef_91] at hP hD
  have hP : va_P (dC, dI) vwCl [(h0, .inr (14, [.int 0, .ref m_stop, .ref m_tape, .int 12, .int 0, .int 0, .int 0, .int 0, .int 0, .long 0, .ref m_p, .ref m_spare, .int 0, .ref m_scope, .int 0, .int 0, .int 0, .int 0, .int (-1), .ref m_cellKind, .ref m_cellCount, .ref m_free, .ref m_pile, .ref m_cellField, .int 0, .int 0, .int 0, .ref m_otherKind, .ref m_otherField, .int 0, .int 0, .int 0, .int 0, .long 0, .long 0, .int 0, .int 0, .int 0, .int 0, .int 0, .int 0, .int 0, .ref m_taskWhat, .ref m_taskPart, .ref m_values, .int 0, .int 0, .int 0, .ref m_slots, .ref m_present, .ref m_shell, .ref m_shellArm, .ref m_shellCall, .int 0, .ref m_keptCounts, .ref m_asideKind, .ref m_asideCount, .ref m_asideField, .ref m_out, .ref m_side, .int 0, .int 0, .ref m_saying])), (m_tape, .inl (mkt, 2000, .inl f_91))] H := hP
  have hD : va_D A [(h0, .inr (14, [.int 0, .ref m_stop, .ref m_tape, .int 12, .int 0, .int 0, .int 0, .int 0, .int 0, .long 0, .ref m_p, .ref m_spare, .int 0, .ref m_scope, .int 0, .int 0, .int 0, .int 0, .int (-1), .ref m_cellKind, .ref m_cellCount, .ref m_free, .ref m_pile, .ref m_cellField, .int 0, .int 0, .int 0, .ref m_otherKind, .ref m_otherField, .int 0, .int 0, .int 0, .int 0, .long 0, .long 0, .int 0, .int 0, .int 0, .int 0, .int 0, .int 0, .int 0, .ref m_taskWhat, .ref m_taskPart, .ref m_values, .int 0, .int 0, .int 0, .ref m_slots, .ref m_present, .ref m_shell, .ref m_shellArm, .ref m_shellCall, .int 0, .ref m_keptCounts, .ref m_asideKind, .ref m_asideCount, .ref m_asideField, .ref m_out, .ref m_side, .int 0, .int 0, .ref m_saying])), (m_tape, .inl (mkt, 2000, .inl f_91))] := hD
  refine lv_aload_n hx hb dX14_feed_101 rfl (lv_at hl 2 rfl) ?_
  refine lv_dup hx hb dX14_feed_102 rfl ?_
  refine va_get (D := (dC, dI)) (ci := 14) (v := .int 12) (C := RX14) (T := TX14) (N := 63) hx hb hA zin_X14 hown hK hP 0 rfl rfl 3 (by decide) (hA _ wi_1500) (fun _ h9 => h9) rfl dX14_feed_103 ?_
  refine lv_iconst (v := 1) hx hb dX14_feed_106 (by decide) ?_
  refine lv_iadd hx hb dX14_feed_107 ?_
  refine lv_topi (fun x_92 ex_92 => ?_)
  obtain rfl : x_92 = 13 := ex_92.trans (by decide)
  refine va_put (D := (dC, dI)) (ci := 14) (v := .int 13) (ty := .int) (C := RX14) (T := TX14) (N := 63) hx hb hA zin_X14 tyX14 tyX14_ok nmX14 hown hK hP hD hS 0 rfl rfl 3 (by decide) (hA _ wi_1500) (fun _ h9 => h9) rfl (by decide +kernel) rfl rfl (Nat.le_of_ble_eq_true rfl) dX14_feed_108 (fun H locs hP hD hS => ?_)
  have hP : va_P (dC, dI) vwCl [(h0, .inr (14, [.int 0, .ref m_stop, .ref m_tape, .int 13, .int 0, .int 0, .int 0, .int 0, .int 0, .long 0, .ref m_p, .ref m_spare, .int 0, .ref m_scope, .int 0, .int 0, .int 0, .int 0, .int (-1), .ref m_cellKind, .ref m_cellCount, .ref m_free, .ref m_pile, .ref m_cellField, .int 0, .int 0, .int 0, .ref m_otherKind, .ref m_otherField, .int 0, .int 0, .int 0, .int 0, .long 0, .long 0, .int 0, .int 0, .int 0, .int 0, .int 0, .int 0, .int 0, .ref m_taskWhat, .ref m_taskPart, .ref m_values, .int 0, .int 0, .int 0, .ref m_slots, .ref m_present, .ref m_shell, .ref m_shellArm, .ref m_shellCall, .int 0, .ref m_keptCounts, .ref m_asideKind, .ref m_asideCount, .ref m_asideField, .ref m_out, .ref m_side, .int 0, .int 0, .ref m_saying])), (m_tape, .inl (mkt, 2000, .inl f_91))] H := hP
  have hD : va_D A [(h0, .inr (14, [.int 0, .ref m_stop, .ref m_tape, .int 13, .int 0, .int 0, .int 0, .int 0, .int 0, .long 0, .ref m_p, .ref m_spare, .int 0, .ref m_scope, .int 0, .int 0, .int 0, .int 0, .int (-1), .ref m_cellKind, .ref m_cellCount, .ref m_free, .ref m_pile, .ref m_cellField, .int 0, .int 0, .int 0, .ref m_otherKind, .ref m_otherField, .int 0, .int 0, .int 0, .int 0, .long 0, .long 0, .int 0, .int 0, .int 0, .int 0, .int 0, .int 0, .int 0, .ref m_taskWhat, .ref m_taskPart, .ref m_values, .int 0, .int 0, .int 0, .ref m_slots, .ref m_present, .ref m_shell, .ref m_shellArm, .ref m_shellCall, .int 0, .ref m_keptCounts, .ref m_asideKind, .ref m_asideCount, .ref m_asideField, .ref m_out, .ref m_side, .int 0, .int 0, .ref m_saying])), (m_tape, .inl (mkt, 2000, .inl f_91))] := hD
  refine lv_iinc (v := 13) (lv' := [(6, .int 13), (7, .int a4), (0, .ref h0), (1, .int a1), (2, .int a2), (3, .int a3), (4, .int a4), (5, .int a5)]) hx hb dX14_feed_111 hl (k := 1) rfl (by decide) (by decide) rfl (fun ls hl => ?_)
  refine lv_goto (tgt := 23) hx hb dX14_feed_114 (by decide) ?_
  refine lv_iload hx hb dX14_feed_23 (lv_at hl 0 rfl) ?_
  refine lv_bipush (v := 20) hx hb dX14_feed_25 (by decide) ?_
  refine lv_icmp_ge (tgt := 117) hx hb dX14_feed_27 (by decide) (fun c_0 => absurd c_0 (by decide)) (fun _ => ?_)
  refine lv_iload hx hb dX14_feed_30 (lv_at hl 0 rfl) ?_
  refine lv_iconst (v := 4) hx hb dX14_feed_32 (by decide) ?_
  refine lv_icmp_ge (tgt := 40) hx hb dX14_feed_33 (by decide) (fun _ => ?_) (fun c_0 => absurd (by decide) c_0)
  refine lv_iload hx hb dX14_feed_40 (lv_at hl 0 rfl) ?_
  refine lv_bipush (v := 8) hx hb dX14_feed_42 (by decide) ?_
  refine lv_icmp_ge (tgt := 51) hx hb dX14_feed_44 (by decide) (fun _ => ?_) (fun c_0 => absurd (by decide) c_0)
  refine lv_iload hx hb dX14_feed_51 (lv_at hl 0 rfl) ?_
  refine lv_bipush (v := 12) hx hb dX14_feed_53 (by decide) ?_
  refine lv_icmp_ge (tgt := 62) hx hb dX14_feed_55 (by decide) (fun _ => ?_) (fun c_0 => absurd (by decide) c_0)
  refine lv_iload hx hb dX14_feed_62 (lv_at hl 0 rfl) ?_
  refine lv_bipush (v := 16) hx hb dX14_feed_64 (by decide) ?_
  refine lv_icmp_ge (tgt := 74) hx hb dX14_feed_66 (by decide) (fun c_0 => absurd c_0 (by decide)) (fun _ => ?_)
  refine lv_iload hx hb dX14_feed_69 (lv_at hl 6 rfl) ?_
  refine lv_goto (tgt := 76) hx hb dX14_feed_71 (by decide) ?_
  refine lv_istore (lv' := [(7, .int a4), (6, .int 13), (0, .ref h0), (1, .int a1), (2, .int a2), (3, .int a3), (4, .int a4), (5, .int a5)]) hx hb dX14_feed_76 hl (by decide) rfl (fun ls hl => ?_)
  refine lv_aload_n hx hb dX14_feed_78 rfl (lv_at hl 2 rfl) ?_
  refine va_get (D := (dC, dI)) (ci := 14) (v := .ref m_tape) (C := RX14) (T := TX14) (N := 63) hx hb hA zin_X14 hown hK hP 0 rfl rfl 2 (by decide) (hA _ wi_1499) (fun _ h9 => h9) rfl dX14_feed_79 ?_
  refine lv_aload_n hx hb dX14_feed_82 rfl (lv_at hl 2 rfl) ?_
  refine va_get (D := (dC, dI)) (ci := 14) (v := .int 13) (C := RX14) (T := TX14) (N := 63) hx hb hA zin_X14 hown hK hP 0 rfl rfl 3 (by decide) (hA _ wi_1500) (fun _ h9 => h9) rfl dX14_feed_83 ?_
  refine lv_iload hx hb dX14_feed_86 (lv_at hl 0 rfl) ?_
  refine lv_bipush (v := 24) hx hb dX14_feed_88 (by decide) ?_
  refine lv_bipush (v := 8) hx hb dX14_feed_90 (by decide) ?_
  refine lv_iload hx hb dX14_feed_92 (lv_at hl 1 rfl) ?_
  refine lv_iconst (v := 4) hx hb dX14_feed_94 (by decide) ?_
  refine lv_irem hx hb dX14_feed_95 (by decide) ?_
  refine lv_topi (fun x_93 ex_93 => ?_)
  obtain rfl : x_93 = 1 := ex_93.trans (by decide)
  refine lv_imul hx hb dX14_feed_96 ?_
  refine lv_topi (fun x_94 ex_94 => ?_)
  obtain rfl : x_94 = 8 := ex_94.trans (by decide)
  refine lv_isub hx hb dX14_feed_97 ?_
  refine lv_topi (fun x_95 ex_95 => ?_)
  obtain rfl : x_95 = 16 := ex_95.trans (by decide)
  refine lv_ishr hx hb dX14_feed_98 ?_
  refine lv_topi (fun x_96 ex_96 => ?_)
  obtain ⟨x_97, ex_97⟩ : ∃ z : Int32, z = (Int32.toInt8 x_96).toInt32 := ⟨_, rfl⟩
  refine lv_i2b (v := x_97) hx hb dX14_feed_99 ex_97.symm ?_
  refine va_bast hx hb hK hP hD hS 1 0 rfl rfl (by unfold vp_in; decide) dX14_feed_100 (fun H locs hP hD hS => ?_)
  obtain ⟨f_98, ef_98⟩ : ∃ gz9 : Nat → Int32, gz9 = upd f_91 (Int32.toNatClampNeg 13) (vp_nar .byte x_97) := ⟨_, rfl⟩
  rw [← ef_98] at hP hD
  have hP : va_P (dC, dI) vwCl [(h0, .inr (14, [.int 0, .ref m_stop, .ref m_tape, .int 13, .int 0, .int 0, .int 0, .int 0, .int 0, .long 0, .ref m_p, .ref m_spare, .int 0, .ref m_scope, .int 0, .int 0, .int 0, .int 0, .int (-1), .ref m_cellKind, .ref m_cellCount, .ref m_free, .ref m_pile, .ref m_cellField, .int 0, .int 0, .int 0, .ref m_otherKind, .ref m_otherField, .int 0, .int 0, .int 0, .int 0, .long 0, .long 0, .int 0, .int 0, .int 0, .int 0, .int 0, .int 0, .int 0, .ref m_taskWhat, .ref m_taskPart, .ref m_values, .int 0, .int 0, .int 0, .ref m_slots, .ref m_present, .ref m_shell, .ref m_shellArm, .ref m_shellCall, .int 0, .ref m_keptCounts, .ref m_asideKind, .ref m_asideCount, .ref m_asideField, .ref m_out, .ref m_side, .int 0, .int 0, .ref m_saying])), (m_tape, .inl (mkt, 2000, .inl f_98))] H := hP
  have hD : va_D A [(h0, .inr (14, [.int 0, .ref m_stop, .ref m_tape, .int 13, .int 0, .int 0, .int 0, .int 0, .int 0, .long 0, .ref m_p, .ref m_spare, .int 0, .ref m_scope, .int 0, .int 0, .int 0, .int 0, .int (-1), .ref m_cellKind, .ref m_cellCount, .ref m_free, .ref m_pile, .ref m_cellField, .int 0, .int 0, .int 0, .ref m_otherKind, .ref m_otherField, .int 0, .int 0, .int 0, .int 0, .long 0, .long 0, .int 0, .int 0, .int 0, .int 0, .int 0, .int 0, .int 0, .ref m_taskWhat, .ref m_taskPart, .ref m_values, .int 0, .int 0, .int 0, .ref m_slots, .ref m_present, .ref m_shell, .ref m_shellArm, .ref m_shellCall, .int 0, .ref m_keptCounts, .ref m_asideKind, .ref m_asideCount, .ref m_asideField, .ref m_out, .ref m_side, .int 0, .int 0, .ref m_saying])), (m_tape, .inl (mkt, 2000, .inl f_98))] := hD
  refine lv_aload_n hx hb dX14_feed_101 rfl (lv_at hl 2 rfl) ?_
  refine lv_dup hx hb dX14_feed_102 rfl ?_
  refine va_get (D := (dC, dI)) (ci := 14) (v := .int 13) (C := RX14) (T := TX14) (N := 63) hx hb hA zin_X14 hown hK hP 0 rfl rfl 3 (by decide) (hA _ wi_1500) (fun _ h9 => h9) rfl dX14_feed_103 ?_
  refine lv_iconst (v := 1) hx hb dX14_feed_106 (by decide) ?_
  refine lv_iadd hx hb dX14_feed_107 ?_
  refine lv_topi (fun x_99 ex_99 => ?_)
  obtain rfl : x_99 = 14 := ex_99.trans (by decide)
  refine va_put (D := (dC, dI)) (ci := 14) (v := .int 14) (ty := .int) (C := RX14) (T := TX14) (N := 63) hx hb hA zin_X14 tyX14 tyX14_ok nmX14 hown hK hP hD hS 0 rfl rfl 3 (by decide) (hA _ wi_1500) (fun _ h9 => h9) rfl (by decide +kernel) rfl rfl (Nat.le_of_ble_eq_true rfl) dX14_feed_108 (fun H locs hP hD hS => ?_)
  have hP : va_P (dC, dI) vwCl [(h0, .inr (14, [.int 0, .ref m_stop, .ref m_tape, .int 14, .int 0, .int 0, .int 0, .int 0, .int 0, .long 0, .ref m_p, .ref m_spare, .int 0, .ref m_scope, .int 0, .int 0, .int 0, .int 0, .int (-1), .ref m_cellKind, .ref m_cellCount, .ref m_free, .ref m_pile, .ref m_cellField, .int 0, .int 0, .int 0, .ref m_otherKind, .ref m_otherField, .int 0, .int 0, .int 0, .int 0, .long 0, .long 0, .int 0, .int 0, .int 0, .int 0, .int 0, .int 0, .int 0, .ref m_taskWhat, .ref m_taskPart, .ref m_values, .int 0, .int 0, .int 0, .ref m_slots, .ref m_present, .ref m_shell, .ref m_shellArm, .ref m_shellCall, .int 0, .ref m_keptCounts, .ref m_asideKind, .ref m_asideCount, .ref m_asideField, .ref m_out, .ref m_side, .int 0, .int 0, .ref m_saying])), (m_tape, .inl (mkt, 2000, .inl f_98))] H := hP
  have hD : va_D A [(h0, .inr (14, [.int 0, .ref m_stop, .ref m_tape, .int 14, .int 0, .int 0, .int 0, .int 0, .int 0, .long 0, .ref m_p, .ref m_spare, .int 0, .ref m_scope, .int 0, .int 0, .int 0, .int 0, .int (-1), .ref m_cellKind, .ref m_cellCount, .ref m_free, .ref m_pile, .ref m_cellField, .int 0, .int 0, .int 0, .ref m_otherKind, .ref m_otherField, .int 0, .int 0, .int 0, .int 0, .long 0, .long 0, .int 0, .int 0, .int 0, .int 0, .int 0, .int 0, .int 0, .ref m_taskWhat, .ref m_taskPart, .ref m_values, .int 0, .int 0, .int 0, .ref m_slots, .ref m_present, .ref m_shell, .ref m_shellArm, .ref m_shellCall, .int 0, .ref m_keptCounts, .ref m_asideKind, .ref m_asideCount, .ref m_asideField, .ref m_out, .ref m_side, .int 0, .int 0, .ref m_saying])), (m_tape, .inl (mkt, 2000, .inl f_98))] := hD
  refine lv_iinc (v := 14) (lv' := [(6, .int 14), (7, .int a4), (0, .ref h0), (1, .int a1), (2, .int a2), (3, .int a3), (4, .int a4), (5, .int a5)]) hx hb dX14_feed_111 hl (k := 1) rfl (by decide) (by decide) rfl (fun ls hl => ?_)
  refine lv_goto (tgt := 23) hx hb dX14_feed_114 (by decide) ?_
  refine lv_iload hx hb dX14_feed_23 (lv_at hl 0 rfl) ?_
  refine lv_bipush (v := 20) hx hb dX14_feed_25 (by decide) ?_
  refine lv_icmp_ge (tgt := 117) hx hb dX14_feed_27 (by decide) (fun c_0 => absurd c_0 (by decide)) (fun _ => ?_)
  refine lv_iload hx hb dX14_feed_30 (lv_at hl 0 rfl) ?_
  refine lv_iconst (v := 4) hx hb dX14_feed_32 (by decide) ?_
  refine lv_icmp_ge (tgt := 40) hx hb dX14_feed_33 (by decide) (fun _ => ?_) (fun c_0 => absurd (by decide) c_0)
  refine lv_iload hx hb dX14_feed_40 (lv_at hl 0 rfl) ?_
  refine lv_bipush (v := 8) hx hb dX14_feed_42 (by decide) ?_
  refine lv_icmp_ge (tgt := 51) hx hb dX14_feed_44 (by decide) (fun _ => ?_) (fun c_0 => absurd (by decide) c_0)
  refine lv_iload hx hb dX14_feed_51 (lv_at hl 0 rfl) ?_
  refine lv_bipush (v := 12) hx hb dX14_feed_53 (by decide) ?_
  refine lv_icmp_ge (tgt := 62) hx hb dX14_feed_55 (by decide) (fun _ => ?_) (fun c_0 => absurd (by decide) c_0)
  refine lv_iload hx hb dX14_feed_62 (lv_at hl 0 rfl) ?_
  refine lv_bipush (v := 16) hx hb dX14_feed_64 (by decide) ?_
  refine lv_icmp_ge (tgt := 74) hx hb dX14_feed_66 (by decide) (fun c_0 => absurd c_0 (by decide)) (fun _ => ?_)
  refine lv_iload hx hb dX14_feed_69 (lv_at hl 6 rfl) ?_
  refine lv_goto (tgt := 76) hx hb dX14_feed_71 (by decide) ?_
  refine lv_istore (lv' := [(7, .int a4), (6, .int 14), (0, .ref h0), (1, .int a1), (2, .int a2), (3, .int a3), (4, .int a4), (5, .int a5)]) hx hb dX14_feed_76 hl (by decide) rfl (fun ls hl => ?_)
  refine lv_aload_n hx hb dX14_feed_78 rfl (lv_at hl 2 rfl) ?_
  refine va_get (D := (dC, dI)) (ci := 14) (v := .ref m_tape) (C := RX14) (T := TX14) (N := 63) hx hb hA zin_X14 hown hK hP 0 rfl rfl 2 (by decide) (hA _ wi_1499) (fun _ h9 => h9) rfl dX14_feed_79 ?_
  refine lv_aload_n hx hb dX14_feed_82 rfl (lv_at hl 2 rfl) ?_
  refine va_get (D := (dC, dI)) (ci := 14) (v := .int 14) (C := RX14) (T := TX14) (N := 63) hx hb hA zin_X14 hown hK hP 0 rfl rfl 3 (by decide) (hA _ wi_1500) (fun _ h9 => h9) rfl dX14_feed_83 ?_
  refine lv_iload hx hb dX14_feed_86 (lv_at hl 0 rfl) ?_
  refine lv_bipush (v := 24) hx hb dX14_feed_88 (by decide) ?_
  refine lv_bipush (v := 8) hx hb dX14_feed_90 (by decide) ?_
  refine lv_iload hx hb dX14_feed_92 (lv_at hl 1 rfl) ?_
  refine lv_iconst (v := 4) hx hb dX14_feed_94 (by decide) ?_
  refine lv_irem hx hb dX14_feed_95 (by decide) ?_
  refine lv_topi (fun x_100 ex_100 => ?_)
  obtain rfl : x_100 = 2 := ex_100.trans (by decide)
  refine lv_imul hx hb dX14_feed_96 ?_
  refine lv_topi (fun x_101 ex_101 => ?_)
  obtain rfl : x_101 = 16 := ex_101.trans (by decide)
  refine lv_isub hx hb dX14_feed_97 ?_
  refine lv_topi (fun x_102 ex_102 => ?_)
  obtain rfl : x_102 = 8 := ex_102.trans (by decide)
  refine lv_ishr hx hb dX14_feed_98 ?_
  refine lv_topi (fun x_103 ex_103 => ?_)
  obtain ⟨x_104, ex_104⟩ : ∃ z : Int32, z = (Int32.toInt8 x_103).toInt32 := ⟨_, rfl⟩
  refine lv_i2b (v := x_104) hx hb dX14_feed_99 ex_104.symm ?_
  refine va_bast hx hb hK hP hD hS 1 0 rfl rfl (by unfold vp_in; decide) dX14_feed_100 (fun H locs hP hD hS => ?_)
  obtain ⟨f_105, ef_105⟩ : ∃ gz9 : Nat → Int32, gz9 = upd f_98 (Int32.toNatClampNeg 14) (vp_nar .byte x_104) := ⟨_, rfl⟩
  rw [← ef_105] at hP hD
  have hP : va_P (dC, dI) vwCl [(h0, .inr (14, [.int 0, .ref m_stop, .ref m_tape, .int 14, .int 0, .int 0, .int 0, .int 0, .int 0, .long 0, .ref m_p, .ref m_spare, .int 0, .ref m_scope, .int 0, .int 0, .int 0, .int 0, .int (-1), .ref m_cellKind, .ref m_cellCount, .ref m_free, .ref m_pile, .ref m_cellField, .int 0, .int 0, .int 0, .ref m_otherKind, .ref m_otherField, .int 0, .int 0, .int 0, .int 0, .long 0, .long 0, .int 0, .int 0, .int 0, .int 0, .int 0, .int 0, .int 0, .ref m_taskWhat, .ref m_taskPart, .ref m_values, .int 0, .int 0, .int 0, .ref m_slots, .ref m_present, .ref m_shell, .ref m_shellArm, .ref m_shellCall, .int 0, .ref m_keptCounts, .ref m_asideKind, .ref m_asideCount, .ref m_asideField, .ref m_out, .ref m_side, .int 0, .int 0, .ref m_saying])), (m_tape, .inl (mkt, 2000, .inl f_105))] H := hP
  have hD : va_D A [(h0, .inr (14, [.int 0, .ref m_stop, .ref m_tape, .int 14, .int 0, .int 0, .int 0, .int 0, .int 0, .long 0, .ref m_p, .ref m_spare, .int 0, .ref m_scope, .int 0, .int 0, .int 0, .int 0, .int (-1), .ref m_cellKind, .ref m_cellCount, .ref m_free, .ref m_pile, .ref m_cellField, .int 0, .int 0, .int 0, .ref m_otherKind, .ref m_otherField, .int 0, .int 0, .int 0, .int 0, .long 0, .long 0, .int 0, .int 0, .int 0, .int 0, .int 0, .int 0, .int 0, .ref m_taskWhat, .ref m_taskPart, .ref m_values, .int 0, .int 0, .int 0, .ref m_slots, .ref m_present, .ref m_shell, .ref m_shellArm, .ref m_shellCall, .int 0, .ref m_keptCounts, .ref m_asideKind, .ref m_asideCount, .ref m_asideField, .ref m_out, .ref m_side, .int 0, .int 0, .ref m_saying])), (m_tape, .inl (mkt, 2000, .inl f_105))] := hD
  refine lv_aload_n hx hb dX14_feed_101 rfl (lv_at hl 2 rfl) ?_
  refine lv_dup hx hb dX14_feed_102 rfl ?_
  refine va_get (D := (dC, dI)) (ci := 14) (v := .int 14) (C := RX14) (T := TX14) (N := 63) hx hb hA zin_X14 hown hK hP 0 rfl rfl 3 (by decide) (hA _ wi_1500) (fun _ h9 => h9) rfl dX14_feed_103 ?_
  refine lv_iconst (v := 1) hx hb dX14_feed_106 (by decide) ?_
  refine lv_iadd hx hb dX14_feed_107 ?_
  refine lv_topi (fun x_106 ex_106 => ?_)
  obtain rfl : x_106 = 15 := ex_106.trans (by decide)
  refine va_put (D := (dC, dI)) (ci := 14) (v := .int 15) (ty := .int) (C := RX14) (T := TX14) (N := 63) hx hb hA zin_X14 tyX14 tyX14_ok nmX14 hown hK hP hD hS 0 rfl rfl 3 (by decide) (hA _ wi_1500) (fun _ h9 => h9) rfl (by decide +kernel) rfl rfl (Nat.le_of_ble_eq_true rfl) dX14_feed_108 (fun H locs hP hD hS => ?_)
  have hP : va_P (dC, dI) vwCl [(h0, .inr (14, [.int 0, .ref m_stop, .ref m_tape, .int 15, .int 0, .int 0, .int 0, .int 0, .int 0, .long 0, .ref m_p, .ref m_spare, .int 0, .ref m_scope, .int 0, .int 0, .int 0, .int 0, .int (-1), .ref m_cellKind, .ref m_cellCount, .ref m_free, .ref m_pile, .ref m_cellField, .int 0, .int 0, .int 0, .ref m_otherKind, .ref m_otherField, .int 0, .int 0, .int 0, .int 0, .long 0, .long 0, .int 0, .int 0, .int 0, .int 0, .int 0, .int 0, .int 0, .ref m_taskWhat, .ref m_taskPart, .ref m_values, .int 0, .int 0, .int 0, .ref m_slots, .ref m_present, .ref m_shell, .ref m_shellArm, .ref m_shellCall, .int 0, .ref m_keptCounts, .ref m_asideKind, .ref m_asideCount, .ref m_asideField, .ref m_out, .ref m_side, .int 0, .int 0, .ref m_saying])), (m_tape, .inl (mkt, 2000, .inl f_105))] H := hP
  have hD : va_D A [(h0, .inr (14, [.int 0, .ref m_stop, .ref m_tape, .int 15, .int 0, .int 0, .int 0, .int 0, .int 0, .long 0, .ref m_p, .ref m_spare, .int 0, .ref m_scope, .int 0, .int 0, .int 0, .int 0, .int (-1), .ref m_cellKind, .ref m_cellCount, .ref m_free, .ref m_pile, .ref m_cellField, .int 0, .int 0, .int 0, .ref m_otherKind, .ref m_otherField, .int 0, .int 0, .int 0, .int 0, .long 0, .long 0, .int 0, .int 0, .int 0, .int 0, .int 0, .int 0, .int 0, .ref m_taskWhat, .ref m_taskPart, .ref m_values, .int 0, .int 0, .int 0, .ref m_slots, .ref m_present, .ref m_shell, .ref m_shellArm, .ref m_shellCall, .int 0, .ref m_keptCounts, .ref m_asideKind, .ref m_asideCount, .ref m_asideField, .ref m_out, .ref m_side, .int 0, .int 0, .ref m_saying])), (m_tape, .inl (mkt, 2000, .inl f_105))] := hD
  refine lv_iinc (v := 15) (lv' := [(6, .int 15), (7, .int a4), (0, .ref h0), (1, .int a1), (2, .int a2), (3, .int a3), (4, .int a4), (5, .int a5)]) hx hb dX14_feed_111 hl (k := 1) rfl (by decide) (by decide) rfl (fun ls hl => ?_)
  refine lv_goto (tgt := 23) hx hb dX14_feed_114 (by decide) ?_
  refine lv_iload hx hb dX14_feed_23 (lv_at hl 0 rfl) ?_
  refine lv_bipush (v := 20) hx hb dX14_feed_25 (by decide) ?_
  refine lv_icmp_ge (tgt := 117) hx hb dX14_feed_27 (by decide) (fun c_0 => absurd c_0 (by decide)) (fun _ => ?_)
  refine lv_iload hx hb dX14_feed_30 (lv_at hl 0 rfl) ?_
  refine lv_iconst (v := 4) hx hb dX14_feed_32 (by decide) ?_
  refine lv_icmp_ge (tgt := 40) hx hb dX14_feed_33 (by decide) (fun _ => ?_) (fun c_0 => absurd (by decide) c_0)
  refine lv_iload hx hb dX14_feed_40 (lv_at hl 0 rfl) ?_
  refine lv_bipush (v := 8) hx hb dX14_feed_42 (by decide) ?_
  refine lv_icmp_ge (tgt := 51) hx hb dX14_feed_44 (by decide) (fun _ => ?_) (fun c_0 => absurd (by decide) c_0)
  refine lv_iload hx hb dX14_feed_51 (lv_at hl 0 rfl) ?_
  refine lv_bipush (v := 12) hx hb dX14_feed_53 (by decide) ?_
  refine lv_icmp_ge (tgt := 62) hx hb dX14_feed_55 (by decide) (fun _ => ?_) (fun c_0 => absurd (by decide) c_0)
  refine lv_iload hx hb dX14_feed_62 (lv_at hl 0 rfl) ?_
  refine lv_bipush (v := 16) hx hb dX14_feed_64 (by decide) ?_
  refine lv_icmp_ge (tgt := 74) hx hb dX14_feed_66 (by decide) (fun c_0 => absurd c_0 (by decide)) (fun _ => ?_)
  refine lv_iload hx hb dX14_feed_69 (lv_at hl 6 rfl) ?_
  refine lv_goto (tgt := 76) hx hb dX14_feed_71 (by decide) ?_
  refine lv_istore (lv' := [(7, .int a4), (6, .int 15), (0, .ref h0), (1, .int a1), (2, .int a2), (3, .int a3), (4, .int a4), (5, .int a5)]) hx hb dX14_feed_76 hl (by decide) rfl (fun ls hl => ?_)
  refine lv_aload_n hx hb dX14_feed_78 rfl (lv_at hl 2 rfl) ?_
  refine va_get (D := (dC, dI)) (ci := 14) (v := .ref m_tape) (C := RX14) (T := TX14) (N := 63) hx hb hA zin_X14 hown hK hP 0 rfl rfl 2 (by decide) (hA _ wi_1499) (fun _ h9 => h9) rfl dX14_feed_79 ?_
  refine lv_aload_n hx hb dX14_feed_82 rfl (lv_at hl 2 rfl) ?_
  refine va_get (D := (dC, dI)) (ci := 14) (v := .int 15) (C := RX14) (T := TX14) (N := 63) hx hb hA zin_X14 hown hK hP 0 rfl rfl 3 (by decide) (hA _ wi_1500) (fun _ h9 => h9) rfl dX14_feed_83 ?_
  refine lv_iload hx hb dX14_feed_86 (lv_at hl 0 rfl) ?_
  refine lv_bipush (v := 24) hx hb dX14_feed_88 (by decide) ?_
  refine lv_bipush (v := 8) hx hb dX14_feed_90 (by decide) ?_
  refine lv_iload hx hb dX14_feed_92 (lv_at hl 1 rfl) ?_
  refine lv_iconst (v := 4) hx hb dX14_feed_94 (by decide) ?_
  refine lv_irem hx hb dX14_feed_95 (by decide) ?_
  refine lv_topi (fun x_107 ex_107 => ?_)
  obtain rfl : x_107 = 3 := ex_107.trans (by decide)
  refine lv_imul hx hb dX14_feed_96 ?_
  refine lv_topi (fun x_108 ex_108 => ?_)
  obtain rfl : x_108 = 24 := ex_108.trans (by decide)
  refine lv_isub hx hb dX14_feed_97 ?_
  refine lv_topi (fun x_109 ex_109 => ?_)
  obtain rfl : x_109 = 0 := ex_109.trans (by decide)
  refine lv_ishr hx hb dX14_feed_98 ?_
  refine lv_topi (fun x_110 ex_110 => ?_)
  obtain ⟨x_111, ex_111⟩ : ∃ z : Int32, z = (Int32.toInt8 x_110).toInt32 := ⟨_, rfl⟩
  refine lv_i2b (v := x_111) hx hb dX14_feed_99 ex_111.symm ?_
  refine va_bast hx hb hK hP hD hS 1 0 rfl rfl (by unfold vp_in; decide) dX14_feed_100 (fun H locs hP hD hS => ?_)
  obtain ⟨f_112, ef_112⟩ : ∃ gz9 : Nat → Int32, gz9 = upd f_105 (Int32.toNatClampNeg 15) (vp_nar .byte x_111) := ⟨_, rfl⟩
  rw [← ef_112] at hP hD
  have hP : va_P (dC, dI) vwCl [(h0, .inr (14, [.int 0, .ref m_stop, .ref m_tape, .int 15, .int 0, .int 0, .int 0, .int 0, .int 0, .long 0, .ref m_p, .ref m_spare, .int 0, .ref m_scope, .int 0, .int 0, .int 0, .int 0, .int (-1), .ref m_cellKind, .ref m_cellCount, .ref m_free, .ref m_pile, .ref m_cellField, .int 0, .int 0, .int 0, .ref m_otherKind, .ref m_otherField, .int 0, .int 0, .int 0, .int 0, .long 0, .long 0, .int 0, .int 0, .int 0, .int 0, .int 0, .int 0, .int 0, .ref m_taskWhat, .ref m_taskPart, .ref m_values, .int 0, .int 0, .int 0, .ref m_slots, .ref m_present, .ref m_shell, .ref m_shellArm, .ref m_shellCall, .int 0, .ref m_keptCounts, .ref m_asideKind, .ref m_asideCount, .ref m_asideField, .ref m_out, .ref m_side, .int 0, .int 0, .ref m_saying])), (m_tape, .inl (mkt, 2000, .inl f_112))] H := hP
  have hD : va_D A [(h0, .inr (14, [.int 0, .ref m_stop, .ref m_tape, .int 15, .int 0, .int 0, .int 0, .int 0, .int 0, .long 0, .ref m_p, .ref m_spare, .int 0, .ref m_scope, .int 0, .int 0, .int 0, .int 0, .int (-1), .ref m_cellKind, .ref m_cellCount, .ref m_free, .ref m_pile, .ref m_cellField, .int 0, .int 0, .int 0, .ref m_otherKind, .ref m_otherField, .int 0, .int 0, .int 0, .int 0, .long 0, .long 0, .int 0, .int 0, .int 0, .int 0, .int 0, .int 0, .int 0, .ref m_taskWhat, .ref m_taskPart, .ref m_values, .int 0, .int 0, .int 0, .ref m_slots, .ref m_present, .ref m_shell, .ref m_shellArm, .ref m_shellCall, .int 0, .ref m_keptCounts, .ref m_asideKind, .ref m_asideCount, .ref m_asideField, .ref m_out, .ref m_side, .int 0, .int 0, .ref m_saying])), (m_tape, .inl (mkt, 2000, .inl f_112))] := hD
  refine lv_aload_n hx hb dX14_feed_101 rfl (lv_at hl 2 rfl) ?_
  refine lv_dup hx hb dX14_feed_102 rfl ?_
  refine va_get (D := (dC, dI)) (ci := 14) (v := .int 15) (C := RX14) (T := TX14) (N := 63) hx hb hA zin_X14 hown hK hP 0 rfl rfl 3 (by decide) (hA _ wi_1500) (fun _ h9 => h9) rfl dX14_feed_103 ?_
  refine lv_iconst (v := 1) hx hb dX14_feed_106 (by decide) ?_
  refine lv_iadd hx hb dX14_feed_107 ?_
  refine lv_topi (fun x_113 ex_113 => ?_)
  obtain rfl : x_113 = 16 := ex_113.trans (by decide)
  refine va_put (D := (dC, dI)) (ci := 14) (v := .int 16) (ty := .int) (C := RX14) (T := TX14) (N := 63) hx hb hA zin_X14 tyX14 tyX14_ok nmX14 hown hK hP hD hS 0 rfl rfl 3 (by decide) (hA _ wi_1500) (fun _ h9 => h9) rfl (by decide +kernel) rfl rfl (Nat.le_of_ble_eq_true rfl) dX14_feed_108 (fun H locs hP hD hS => ?_)
  have hP : va_P (dC, dI) vwCl [(h0, .inr (14, [.int 0, .ref m_stop, .ref m_tape, .int 16, .int 0, .int 0, .int 0, .int 0, .int 0, .long 0, .ref m_p, .ref m_spare, .int 0, .ref m_scope, .int 0, .int 0, .int 0, .int 0, .int (-1), .ref m_cellKind, .ref m_cellCount, .ref m_free, .ref m_pile, .ref m_cellField, .int 0, .int 0, .int 0, .ref m_otherKind, .ref m_otherField, .int 0, .int 0, .int 0, .int 0, .long 0, .long 0, .int 0, .int 0, .int 0, .int 0, .int 0, .int 0, .int 0, .ref m_taskWhat, .ref m_taskPart, .ref m_values, .int 0, .int 0, .int 0, .ref m_slots, .ref m_present, .ref m_shell, .ref m_shellArm, .ref m_shellCall, .int 0, .ref m_keptCounts, .ref m_asideKind, .ref m_asideCount, .ref m_asideField, .ref m_out, .ref m_side, .int 0, .int 0, .ref m_saying])), (m_tape, .inl (mkt, 2000, .inl f_112))] H := hP
  have hD : va_D A [(h0, .inr (14, [.int 0, .ref m_stop, .ref m_tape, .int 16, .int 0, .int 0, .int 0, .int 0, .int 0, .long 0, .ref m_p, .ref m_spare, .int 0, .ref m_scope, .int 0, .int 0, .int 0, .int 0, .int (-1), .ref m_cellKind, .ref m_cellCount, .ref m_free, .ref m_pile, .ref m_cellField, .int 0, .int 0, .int 0, .ref m_otherKind, .ref m_otherField, .int 0, .int 0, .int 0, .int 0, .long 0, .long 0, .int 0, .int 0, .int 0, .int 0, .int 0, .int 0, .int 0, .ref m_taskWhat, .ref m_taskPart, .ref m_values, .int 0, .int 0, .int 0, .ref m_slots, .ref m_present, .ref m_shell, .ref m_shellArm, .ref m_shellCall, .int 0, .ref m_keptCounts, .ref m_asideKind, .ref m_asideCount, .ref m_asideField, .ref m_out, .ref m_side, .int 0, .int 0, .ref m_saying])), (m_tape, .inl (mkt, 2000, .inl f_112))] := hD
  refine lv_iinc (v := 16) (lv' := [(6, .int 16), (7, .int a4), (0, .ref h0), (1, .int a1), (2, .int a2), (3, .int a3), (4, .int a4), (5, .int a5)]) hx hb dX14_feed_111 hl (k := 1) rfl (by decide) (by decide) rfl (fun ls hl => ?_)
  refine lv_goto (tgt := 23) hx hb dX14_feed_114 (by decide) ?_
  refine lv_iload hx hb dX14_feed_23 (lv_at hl 0 rfl) ?_
  refine lv_bipush (v := 20) hx hb dX14_feed_25 (by decide) ?_
  refine lv_icmp_ge (tgt := 117) hx hb dX14_feed_27 (by decide) (fun c_0 => absurd c_0 (by decide)) (fun _ => ?_)
  refine lv_iload hx hb dX14_feed_30 (lv_at hl 0 rfl) ?_
  refine lv_iconst (v := 4) hx hb dX14_feed_32 (by decide) ?_
  refine lv_icmp_ge (tgt := 40) hx hb dX14_feed_33 (by decide) (fun _ => ?_) (fun c_0 => absurd (by decide) c_0)
  refine lv_iload hx hb dX14_feed_40 (lv_at hl 0 rfl) ?_
  refine lv_bipush (v := 8) hx hb dX14_feed_42 (by decide) ?_
  refine lv_icmp_ge (tgt := 51) hx hb dX14_feed_44 (by decide) (fun _ => ?_) (fun c_0 => absurd (by decide) c_0)
  refine lv_iload hx hb dX14_feed_51 (lv_at hl 0 rfl) ?_
  refine lv_bipush (v := 12) hx hb dX14_feed_53 (by decide) ?_
  refine lv_icmp_ge (tgt := 62) hx hb dX14_feed_55 (by decide) (fun _ => ?_) (fun c_0 => absurd (by decide) c_0)
  refine lv_iload hx hb dX14_feed_62 (lv_at hl 0 rfl) ?_
  refine lv_bipush (v := 16) hx hb dX14_feed_64 (by decide) ?_
  refine lv_icmp_ge (tgt := 74) hx hb dX14_feed_66 (by decide) (fun _ => ?_) (fun c_0 => absurd (by decide) c_0)
  refine lv_iload hx hb dX14_feed_74 (lv_at hl 7 rfl) ?_
  refine lv_istore (lv' := [(7, .int a5), (6, .int 16), (0, .ref h0), (1, .int a1), (2, .int a2), (3, .int a3), (4, .int a4), (5, .int a5)]) hx hb dX14_feed_76 hl (by decide) rfl (fun ls hl => ?_)
  refine lv_aload_n hx hb dX14_feed_78 rfl (lv_at hl 2 rfl) ?_
  refine va_get (D := (dC, dI)) (ci := 14) (v := .ref m_tape) (C := RX14) (T := TX14) (N := 63) hx hb hA zin_X14 hown hK hP 0 rfl rfl 2 (by decide) (hA _ wi_1499) (fun _ h9 => h9) rfl dX14_feed_79 ?_
  refine lv_aload_n hx hb dX14_feed_82 rfl (lv_at hl 2 rfl) ?_
  refine va_get (D := (dC, dI)) (ci := 14) (v := .int 16) (C := RX14) (T := TX14) (N := 63) hx hb hA zin_X14 hown hK hP 0 rfl rfl 3 (by decide) (hA _ wi_1500) (fun _ h9 => h9) rfl dX14_feed_83 ?_
  refine lv_iload hx hb dX14_feed_86 (lv_at hl 0 rfl) ?_
  refine lv_bipush (v := 24) hx hb dX14_feed_88 (by decide) ?_
  refine lv_bipush (v := 8) hx hb dX14_feed_90 (by decide) ?_
  refine lv_iload hx hb dX14_feed_92 (lv_at hl 1 rfl) ?_
  refine lv_iconst (v := 4) hx hb dX14_feed_94 (by decide) ?_
  refine lv_irem hx hb dX14_feed_95 (by decide) ?_
  refine lv_topi (fun x_114 ex_114 => ?_)
  obtain rfl : x_114 = 0 := ex_114.trans (by decide)
  refine lv_imul hx hb dX14_feed_96 ?_
  refine lv_topi (fun x_115 ex_115 => ?_)
  obtain rfl : x_115 = 0 := ex_115.trans (by decide)
  refine lv_isub hx hb dX14_feed_97 ?_
  refine lv_topi (fun x_116 ex_116 => ?_)
  obtain rfl : x_116 = 24 := ex_116.trans (by decide)
  refine lv_ishr hx hb dX14_feed_98 ?_
  refine lv_topi (fun x_117 ex_117 => ?_)
  obtain ⟨x_118, ex_118⟩ : ∃ z : Int32, z = (Int32.toInt8 x_117).toInt32 := ⟨_, rfl⟩
  refine lv_i2b (v := x_118) hx hb dX14_feed_99 ex_118.symm ?_
  refine va_bast hx hb hK hP hD hS 1 0 rfl rfl (by unfold vp_in; decide) dX14_feed_100 (fun H locs hP hD hS => ?_)
  obtain ⟨f_119, ef_119⟩ : ∃ gz9 : Nat → Int32, gz9 = upd f_112 (Int32.toNatClampNeg 16) (vp_nar .byte x_118) := ⟨_, rfl⟩
  rw [← ef_119] at hP hD
  have hP : va_P (dC, dI) vwCl [(h0, .inr (14, [.int 0, .ref m_stop, .ref m_tape, .int 16, .int 0, .int 0, .int 0, .int 0, .int 0, .long 0, .ref m_p, .ref m_spare, .int 0, .ref m_scope, .int 0, .int 0, .int 0, .int 0, .int (-1), .ref m_cellKind, .ref m_cellCount, .ref m_free, .ref m_pile, .ref m_cellField, .int 0, .int 0, .int 0, .ref m_otherKind, .ref m_otherField, .int 0, .int 0, .int 0, .int 0, .long 0, .long 0, .int 0, .int 0, .int 0, .int 0, .int 0, .int 0, .int 0, .ref m_taskWhat, .ref m_taskPart, .ref m_values, .int 0, .int 0, .int 0, .ref m_slots, .ref m_present, .ref m_shell, .ref m_shellArm, .ref m_shellCall, .int 0, .ref m_keptCounts, .ref m_asideKind, .ref m_asideCount, .ref m_asideField, .ref m_out, .ref m_side, .int 0, .int 0, .ref m_saying])), (m_tape, .inl (mkt, 2000, .inl f_119))] H := hP
  have hD : va_D A [(h0, .inr (14, [.int 0, .ref m_stop, .ref m_tape, .int 16, .int 0, .int 0, .int 0, .int 0, .int 0, .long 0, .ref m_p, .ref m_spare, .int 0, .ref m_scope, .int 0, .int 0, .int 0, .int 0, .int (-1), .ref m_cellKind, .ref m_cellCount, .ref m_free, .ref m_pile, .ref m_cellField, .int 0, .int 0, .int 0, .ref m_otherKind, .ref m_otherField, .int 0, .int 0, .int 0, .int 0, .long 0, .long 0, .int 0, .int 0, .int 0, .int 0, .int 0, .int 0, .int 0, .ref m_taskWhat, .ref m_taskPart, .ref m_values, .int 0, .int 0, .int 0, .ref m_slots, .ref m_present, .ref m_shell, .ref m_shellArm, .ref m_shellCall, .int 0, .ref m_keptCounts, .ref m_asideKind, .ref m_asideCount, .ref m_asideField, .ref m_out, .ref m_side, .int 0, .int 0, .ref m_saying])), (m_tape, .inl (mkt, 2000, .inl f_119))] := hD
  refine lv_aload_n hx hb dX14_feed_101 rfl (lv_at hl 2 rfl) ?_
  refine lv_dup hx hb dX14_feed_102 rfl ?_
  refine va_get (D := (dC, dI)) (ci := 14) (v := .int 16) (C := RX14) (T := TX14) (N := 63) hx hb hA zin_X14 hown hK hP 0 rfl rfl 3 (by decide) (hA _ wi_1500) (fun _ h9 => h9) rfl dX14_feed_103 ?_
  refine lv_iconst (v := 1) hx hb dX14_feed_106 (by decide) ?_
  refine lv_iadd hx hb dX14_feed_107 ?_
  refine lv_topi (fun x_120 ex_120 => ?_)
  obtain rfl : x_120 = 17 := ex_120.trans (by decide)
  refine va_put (D := (dC, dI)) (ci := 14) (v := .int 17) (ty := .int) (C := RX14) (T := TX14) (N := 63) hx hb hA zin_X14 tyX14 tyX14_ok nmX14 hown hK hP hD hS 0 rfl rfl 3 (by decide) (hA _ wi_1500) (fun _ h9 => h9) rfl (by decide +kernel) rfl rfl (Nat.le_of_ble_eq_true rfl) dX14_feed_108 (fun H locs hP hD hS => ?_)
  have hP : va_P (dC, dI) vwCl [(h0, .inr (14, [.int 0, .ref m_stop, .ref m_tape, .int 17, .int 0, .int 0, .int 0, .int 0, .int 0, .long 0, .ref m_p, .ref m_spare, .int 0, .ref m_scope, .int 0, .int 0, .int 0, .int 0, .int (-1), .ref m_cellKind, .ref m_cellCount, .ref m_free, .ref m_pile, .ref m_cellField, .int 0, .int 0, .int 0, .ref m_otherKind, .ref m_otherField, .int 0, .int 0, .int 0, .int 0, .long 0, .long 0, .int 0, .int 0, .int 0, .int 0, .int 0, .int 0, .int 0, .ref m_taskWhat, .ref m_taskPart, .ref m_values, .int 0, .int 0, .int 0, .ref m_slots, .ref m_present, .ref m_shell, .ref m_shellArm, .ref m_shellCall, .int 0, .ref m_keptCounts, .ref m_asideKind, .ref m_asideCount, .ref m_asideField, .ref m_out, .ref m_side, .int 0, .int 0, .ref m_saying])), (m_tape, .inl (mkt, 2000, .inl f_119))] H := hP
  have hD : va_D A [(h0, .inr (14, [.int 0, .ref m_stop, .ref m_tape, .int 17, .int 0, .int 0, .int 0, .int 0, .int 0, .long 0, .ref m_p, .ref m_spare, .int 0, .ref m_scope, .int 0, .int 0, .int 0, .int 0, .int (-1), .ref m_cellKind, .ref m_cellCount, .ref m_free, .ref m_pile, .ref m_cellField, .int 0, .int 0, .int 0, .ref m_otherKind, .ref m_otherField, .int 0, .int 0, .int 0, .int 0, .long 0, .long 0, .int 0, .int 0, .int 0, .int 0, .int 0, .int 0, .int 0, .ref m_taskWhat, .ref m_taskPart, .ref m_values, .int 0, .int 0, .int 0, .ref m_slots, .ref m_present, .ref m_shell, .ref m_shellArm, .ref m_shellCall, .int 0, .ref m_keptCounts, .ref m_asideKind, .ref m_asideCount, .ref m_asideField, .ref m_out, .ref m_side, .int 0, .int 0, .ref m_saying])), (m_tape, .inl (mkt, 2000, .inl f_119))] := hD
  refine lv_iinc (v := 17) (lv' := [(6, .int 17), (7, .int a5), (0, .ref h0), (1, .int a1), (2, .int a2), (3, .int a3), (4, .int a4), (5, .int a5)]) hx hb dX14_feed_111 hl (k := 1) rfl (by decide) (by decide) rfl (fun ls hl => ?_)
  refine lv_goto (tgt := 23) hx hb dX14_feed_114 (by decide) ?_
  refine lv_iload hx hb dX14_feed_23 (lv_at hl 0 rfl) ?_
  refine lv_bipush (v := 20) hx hb dX14_feed_25 (by decide) ?_
  refine lv_icmp_ge (tgt := 117) hx hb dX14_feed_27 (by decide) (fun c_0 => absurd c_0 (by decide)) (fun _ => ?_)
  refine lv_iload hx hb dX14_feed_30 (lv_at hl 0 rfl) ?_
  refine lv_iconst (v := 4) hx hb dX14_feed_32 (by decide) ?_
  refine lv_icmp_ge (tgt := 40) hx hb dX14_feed_33 (by decide) (fun _ => ?_) (fun c_0 => absurd (by decide) c_0)
  refine lv_iload hx hb dX14_feed_40 (lv_at hl 0 rfl) ?_
  refine lv_bipush (v := 8) hx hb dX14_feed_42 (by decide) ?_
  refine lv_icmp_ge (tgt := 51) hx hb dX14_feed_44 (by decide) (fun _ => ?_) (fun c_0 => absurd (by decide) c_0)
  refine lv_iload hx hb dX14_feed_51 (lv_at hl 0 rfl) ?_
  refine lv_bipush (v := 12) hx hb dX14_feed_53 (by decide) ?_
  refine lv_icmp_ge (tgt := 62) hx hb dX14_feed_55 (by decide) (fun _ => ?_) (fun c_0 => absurd (by decide) c_0)
  refine lv_iload hx hb dX14_feed_62 (lv_at hl 0 rfl) ?_
  refine lv_bipush (v := 16) hx hb dX14_feed_64 (by decide) ?_
  refine lv_icmp_ge (tgt := 74) hx hb dX14_feed_66 (by decide) (fun _ => ?_) (fun c_0 => absurd (by decide) c_0)
  refine lv_iload hx hb dX14_feed_74 (lv_at hl 7 rfl) ?_
  refine lv_istore (lv' := [(7, .int a5), (6, .int 17), (0, .ref h0), (1, .int a1), (2, .int a2), (3, .int a3), (4, .int a4), (5, .int a5)]) hx hb dX14_feed_76 hl (by decide) rfl (fun ls hl => ?_)
  refine lv_aload_n hx hb dX14_feed_78 rfl (lv_at hl 2 rfl) ?_
  refine va_get (D := (dC, dI)) (ci := 14) (v := .ref m_tape) (C := RX14) (T := TX14) (N := 63) hx hb hA zin_X14 hown hK hP 0 rfl rfl 2 (by decide) (hA _ wi_1499) (fun _ h9 => h9) rfl dX14_feed_79 ?_
  refine lv_aload_n hx hb dX14_feed_82 rfl (lv_at hl 2 rfl) ?_
  refine va_get (D := (dC, dI)) (ci := 14) (v := .int 17) (C := RX14) (T := TX14) (N := 63) hx hb hA zin_X14 hown hK hP 0 rfl rfl 3 (by decide) (hA _ wi_1500) (fun _ h9 => h9) rfl dX14_feed_83 ?_
  refine lv_iload hx hb dX14_feed_86 (lv_at hl 0 rfl) ?_
  refine lv_bipush (v := 24) hx hb dX14_feed_88 (by decide) ?_
  refine lv_bipush (v := 8) hx hb dX14_feed_90 (by decide) ?_
  refine lv_iload hx hb dX14_feed_92 (lv_at hl 1 rfl) ?_
  refine lv_iconst (v := 4) hx hb dX14_feed_94 (by decide) ?_
  refine lv_irem hx hb dX14_feed_95 (by decide) ?_
  refine lv_topi (fun x_121 ex_121 => ?_)
  obtain rfl : x_121 = 1 := ex_121.trans (by decide)
  refine lv_imul hx hb dX14_feed_96 ?_
  refine lv_topi (fun x_122 ex_122 => ?_)
  obtain rfl : x_122 = 8 := ex_122.trans (by decide)
  refine lv_isub hx hb dX14_feed_97 ?_
  refine lv_topi (fun x_123 ex_123 => ?_)
  obtain rfl : x_123 = 16 := ex_123.trans (by decide)
  refine lv_ishr hx hb dX14_feed_98 ?_
  refine lv_topi (fun x_124 ex_124 => ?_)
  obtain ⟨x_125, ex_125⟩ : ∃ z : Int32, z = (Int32.toInt8 x_124).toInt32 := ⟨_, rfl⟩
  refine lv_i2b (v := x_125) hx hb dX14_feed_99 ex_125.symm ?_
  refine va_bast hx hb hK hP hD hS 1 0 rfl rfl (by unfold vp_in; decide) dX14_feed_100 (fun H locs hP hD hS => ?_)
  obtain ⟨f_126, ef_126⟩ : ∃ gz9 : Nat → Int32, gz9 = upd f_119 (Int32.toNatClampNeg 17) (vp_nar .byte x_125) := ⟨_, rfl⟩
  rw [← ef_126] at hP hD
  have hP : va_P (dC, dI) vwCl [(h0, .inr (14, [.int 0, .ref m_stop, .ref m_tape, .int 17, .int 0, .int 0, .int 0, .int 0, .int 0, .long 0, .ref m_p, .ref m_spare, .int 0, .ref m_scope, .int 0, .int 0, .int 0, .int 0, .int (-1), .ref m_cellKind, .ref m_cellCount, .ref m_free, .ref m_pile, .ref m_cellField, .int 0, .int 0, .int 0, .ref m_otherKind, .ref m_otherField, .int 0, .int 0, .int 0, .int 0, .long 0, .long 0, .int 0, .int 0, .int 0, .int 0, .int 0, .int 0, .int 0, .ref m_taskWhat, .ref m_taskPart, .ref m_values, .int 0, .int 0, .int 0, .ref m_slots, .ref m_present, .ref m_shell, .ref m_shellArm, .ref m_shellCall, .int 0, .ref m_keptCounts, .ref m_asideKind, .ref m_asideCount, .ref m_asideField, .ref m_out, .ref m_side, .int 0, .int 0, .ref m_saying])), (m_tape, .inl (mkt, 2000, .inl f_126))] H := hP
  have hD : va_D A [(h0, .inr (14, [.int 0, .ref m_stop, .ref m_tape, .int 17, .int 0, .int 0, .int 0, .int 0, .int 0, .long 0, .ref m_p, .ref m_spare, .int 0, .ref m_scope, .int 0, .int 0, .int 0, .int 0, .int (-1), .ref m_cellKind, .ref m_cellCount, .ref m_free, .ref m_pile, .ref m_cellField, .int 0, .int 0, .int 0, .ref m_otherKind, .ref m_otherField, .int 0, .int 0, .int 0, .int 0, .long 0, .long 0, .int 0, .int 0, .int 0, .int 0, .int 0, .int 0, .int 0, .ref m_taskWhat, .ref m_taskPart, .ref m_values, .int 0, .int 0, .int 0, .ref m_slots, .ref m_present, .ref m_shell, .ref m_shellArm, .ref m_shellCall, .int 0, .ref m_keptCounts, .ref m_asideKind, .ref m_asideCount, .ref m_asideField, .ref m_out, .ref m_side, .int 0, .int 0, .ref m_saying])), (m_tape, .inl (mkt, 2000, .inl f_126))] := hD
  refine lv_aload_n hx hb dX14_feed_101 rfl (lv_at hl 2 rfl) ?_
  refine lv_dup hx hb dX14_feed_102 rfl ?_
  refine va_get (D := (dC, dI)) (ci := 14) (v := .int 17) (C := RX14) (T := TX14) (N := 63) hx hb hA zin_X14 hown hK hP 0 rfl rfl 3 (by decide) (hA _ wi_1500) (fun _ h9 => h9) rfl dX14_feed_103 ?_
  refine lv_iconst (v := 1) hx hb dX14_feed_106 (by decide) ?_
  refine lv_iadd hx hb dX14_feed_107 ?_
  refine lv_topi (fun x_127 ex_127 => ?_)
  obtain rfl : x_127 = 18 := ex_127.trans (by decide)
  refine va_put (D := (dC, dI)) (ci := 14) (v := .int 18) (ty := .int) (C := RX14) (T := TX14) (N := 63) hx hb hA zin_X14 tyX14 tyX14_ok nmX14 hown hK hP hD hS 0 rfl rfl 3 (by decide) (hA _ wi_1500) (fun _ h9 => h9) rfl (by decide +kernel) rfl rfl (Nat.le_of_ble_eq_true rfl) dX14_feed_108 (fun H locs hP hD hS => ?_)
  have hP : va_P (dC, dI) vwCl [(h0, .inr (14, [.int 0, .ref m_stop, .ref m_tape, .int 18, .int 0, .int 0, .int 0, .int 0, .int 0, .long 0, .ref m_p, .ref m_spare, .int 0, .ref m_scope, .int 0, .int 0, .int 0, .int 0, .int (-1), .ref m_cellKind, .ref m_cellCount, .ref m_free, .ref m_pile, .ref m_cellField, .int 0, .int 0, .int 0, .ref m_otherKind, .ref m_otherField, .int 0, .int 0, .int 0, .int 0, .long 0, .long 0, .int 0, .int 0, .int 0, .int 0, .int 0, .int 0, .int 0, .ref m_taskWhat, .ref m_taskPart, .ref m_values, .int 0, .int 0, .int 0, .ref m_slots, .ref m_present, .ref m_shell, .ref m_shellArm, .ref m_shellCall, .int 0, .ref m_keptCounts, .ref m_asideKind, .ref m_asideCount, .ref m_asideField, .ref m_out, .ref m_side, .int 0, .int 0, .ref m_saying])), (m_tape, .inl (mkt, 2000, .inl f_126))] H := hP
  have hD : va_D A [(h0, .inr (14, [.int 0, .ref m_stop, .ref m_tape, .int 18, .int 0, .int 0, .int 0, .int 0, .int 0, .long 0, .ref m_p, .ref m_spare, .int 0, .ref m_scope, .int 0, .int 0, .int 0, .int 0, .int (-1), .ref m_cellKind, .ref m_cellCount, .ref m_free, .ref m_pile, .ref m_cellField, .int 0, .int 0, .int 0, .ref m_otherKind, .ref m_otherField, .int 0, .int 0, .int 0, .int 0, .long 0, .long 0, .int 0, .int 0, .int 0, .int 0, .int 0, .int 0, .int 0, .ref m_taskWhat, .ref m_taskPart, .ref m_values, .int 0, .int 0, .int 0, .ref m_slots, .ref m_present, .ref m_shell, .ref m_shellArm, .ref m_shellCall, .int 0, .ref m_keptCounts, .ref m_asideKind, .ref m_asideCount, .ref m_asideField, .ref m_out, .ref m_side, .int 0, .int 0, .ref m_saying])), (m_tape, .inl (mkt, 2000, .inl f_126))] := hD
  refine lv_iinc (v := 18) (lv' := [(6, .int 18), (7, .int a5), (0, .ref h0), (1, .int a1), (2, .int a2), (3, .int a3), (4, .int a4), (5, .int a5)]) hx hb dX14_feed_111 hl (k := 1) rfl (by decide) (by decide) rfl (fun ls hl => ?_)
  refine lv_goto (tgt := 23) hx hb dX14_feed_114 (by decide) ?_
  refine lv_iload hx hb dX14_feed_23 (lv_at hl 0 rfl) ?_
  refine lv_bipush (v := 20) hx hb dX14_feed_25 (by decide) ?_
  refine lv_icmp_ge (tgt := 117) hx hb dX14_feed_27 (by decide) (fun c_0 => absurd c_0 (by decide)) (fun _ => ?_)
  refine lv_iload hx hb dX14_feed_30 (lv_at hl 0 rfl) ?_
  refine lv_iconst (v := 4) hx hb dX14_feed_32 (by decide) ?_
  refine lv_icmp_ge (tgt := 40) hx hb dX14_feed_33 (by decide) (fun _ => ?_) (fun c_0 => absurd (by decide) c_0)
  refine lv_iload hx hb dX14_feed_40 (lv_at hl 0 rfl) ?_
  refine lv_bipush (v := 8) hx hb dX14_feed_42 (by decide) ?_
  refine lv_icmp_ge (tgt := 51) hx hb dX14_feed_44 (by decide) (fun _ => ?_) (fun c_0 => absurd (by decide) c_0)
  refine lv_iload hx hb dX14_feed_51 (lv_at hl 0 rfl) ?_
  refine lv_bipush (v := 12) hx hb dX14_feed_53 (by decide) ?_
  refine lv_icmp_ge (tgt := 62) hx hb dX14_feed_55 (by decide) (fun _ => ?_) (fun c_0 => absurd (by decide) c_0)
  refine lv_iload hx hb dX14_feed_62 (lv_at hl 0 rfl) ?_
  refine lv_bipush (v := 16) hx hb dX14_feed_64 (by decide) ?_
  refine lv_icmp_ge (tgt := 74) hx hb dX14_feed_66 (by decide) (fun _ => ?_) (fun c_0 => absurd (by decide) c_0)
  refine lv_iload hx hb dX14_feed_74 (lv_at hl 7 rfl) ?_
  refine lv_istore (lv' := [(7, .int a5), (6, .int 18), (0, .ref h0), (1, .int a1), (2, .int a2), (3, .int a3), (4, .int a4), (5, .int a5)]) hx hb dX14_feed_76 hl (by decide) rfl (fun ls hl => ?_)
  refine lv_aload_n hx hb dX14_feed_78 rfl (lv_at hl 2 rfl) ?_
  refine va_get (D := (dC, dI)) (ci := 14) (v := .ref m_tape) (C := RX14) (T := TX14) (N := 63) hx hb hA zin_X14 hown hK hP 0 rfl rfl 2 (by decide) (hA _ wi_1499) (fun _ h9 => h9) rfl dX14_feed_79 ?_
  refine lv_aload_n hx hb dX14_feed_82 rfl (lv_at hl 2 rfl) ?_
  refine va_get (D := (dC, dI)) (ci := 14) (v := .int 18) (C := RX14) (T := TX14) (N := 63) hx hb hA zin_X14 hown hK hP 0 rfl rfl 3 (by decide) (hA _ wi_1500) (fun _ h9 => h9) rfl dX14_feed_83 ?_
  refine lv_iload hx hb dX14_feed_86 (lv_at hl 0 rfl) ?_
  refine lv_bipush (v := 24) hx hb dX14_feed_88 (by decide) ?_
  refine lv_bipush (v := 8) hx hb dX14_feed_90 (by decide) ?_
  refine lv_iload hx hb dX14_feed_92 (lv_at hl 1 rfl) ?_
  refine lv_iconst (v := 4) hx hb dX14_feed_94 (by decide) ?_
  refine lv_irem hx hb dX14_feed_95 (by decide) ?_
  refine lv_topi (fun x_128 ex_128 => ?_)
  obtain rfl : x_128 = 2 := ex_128.trans (by decide)
  refine lv_imul hx hb dX14_feed_96 ?_
  refine lv_topi (fun x_129 ex_129 => ?_)
  obtain rfl : x_129 = 16 := ex_129.trans (by decide)
  refine lv_isub hx hb dX14_feed_97 ?_
  refine lv_topi (fun x_130 ex_130 => ?_)
  obtain rfl : x_130 = 8 := ex_130.trans (by decide)
  refine lv_ishr hx hb dX14_feed_98 ?_
  refine lv_topi (fun x_131 ex_131 => ?_)
  obtain ⟨x_132, ex_132⟩ : ∃ z : Int32, z = (Int32.toInt8 x_131).toInt32 := ⟨_, rfl⟩
  refine lv_i2b (v := x_132) hx hb dX14_feed_99 ex_132.symm ?_
  refine va_bast hx hb hK hP hD hS 1 0 rfl rfl (by unfold vp_in; decide) dX14_feed_100 (fun H locs hP hD hS => ?_)
  obtain ⟨f_133, ef_133⟩ : ∃ gz9 : Nat → Int32, gz9 = upd f_126 (Int32.toNatClampNeg 18) (vp_nar .byte x_132) := ⟨_, rfl⟩
  rw [← ef_133] at hP hD
  have hP : va_P (dC, dI) vwCl [(h0, .inr (14, [.int 0, .ref m_stop, .ref m_tape, .int 18, .int 0, .int 0, .int 0, .int 0, .int 0, .long 0, .ref m_p, .ref m_spare, .int 0, .ref m_scope, .int 0, .int 0, .int 0, .int 0, .int (-1), .ref m_cellKind, .ref m_cellCount, .ref m_free, .ref m_pile, .ref m_cellField, .int 0, .int 0, .int 0, .ref m_otherKind, .ref m_otherField, .int 0, .int 0, .int 0, .int 0, .long 0, .long 0, .int 0, .int 0, .int 0, .int 0, .int 0, .int 0, .int 0, .ref m_taskWhat, .ref m_taskPart, .ref m_values, .int 0, .int 0, .int 0, .ref m_slots, .ref m_present, .ref m_shell, .ref m_shellArm, .ref m_shellCall, .int 0, .ref m_keptCounts, .ref m_asideKind, .ref m_asideCount, .ref m_asideField, .ref m_out, .ref m_side, .int 0, .int 0, .ref m_saying])), (m_tape, .inl (mkt, 2000, .inl f_133))] H := hP
  have hD : va_D A [(h0, .inr (14, [.int 0, .ref m_stop, .ref m_tape, .int 18, .int 0, .int 0, .int 0, .int 0, .int 0, .long 0, .ref m_p, .ref m_spare, .int 0, .ref m_scope, .int 0, .int 0, .int 0, .int 0, .int (-1), .ref m_cellKind, .ref m_cellCount, .ref m_free, .ref m_pile, .ref m_cellField, .int 0, .int 0, .int 0, .ref m_otherKind, .ref m_otherField, .int 0, .int 0, .int 0, .int 0, .long 0, .long 0, .int 0, .int 0, .int 0, .int 0, .int 0, .int 0, .int 0, .ref m_taskWhat, .ref m_taskPart, .ref m_values, .int 0, .int 0, .int 0, .ref m_slots, .ref m_present, .ref m_shell, .ref m_shellArm, .ref m_shellCall, .int 0, .ref m_keptCounts, .ref m_asideKind, .ref m_asideCount, .ref m_asideField, .ref m_out, .ref m_side, .int 0, .int 0, .ref m_saying])), (m_tape, .inl (mkt, 2000, .inl f_133))] := hD
  refine lv_aload_n hx hb dX14_feed_101 rfl (lv_at hl 2 rfl) ?_
  refine lv_dup hx hb dX14_feed_102 rfl ?_
  refine va_get (D := (dC, dI)) (ci := 14) (v := .int 18) (C := RX14) (T := TX14) (N := 63) hx hb hA zin_X14 hown hK hP 0 rfl rfl 3 (by decide) (hA _ wi_1500) (fun _ h9 => h9) rfl dX14_feed_103 ?_
  refine lv_iconst (v := 1) hx hb dX14_feed_106 (by decide) ?_
  refine lv_iadd hx hb dX14_feed_107 ?_
  refine lv_topi (fun x_134 ex_134 => ?_)
  obtain rfl : x_134 = 19 := ex_134.trans (by decide)
  refine va_put (D := (dC, dI)) (ci := 14) (v := .int 19) (ty := .int) (C := RX14) (T := TX14) (N := 63) hx hb hA zin_X14 tyX14 tyX14_ok nmX14 hown hK hP hD hS 0 rfl rfl 3 (by decide) (hA _ wi_1500) (fun _ h9 => h9) rfl (by decide +kernel) rfl rfl (Nat.le_of_ble_eq_true rfl) dX14_feed_108 (fun H locs hP hD hS => ?_)
  have hP : va_P (dC, dI) vwCl [(h0, .inr (14, [.int 0, .ref m_stop, .ref m_tape, .int 19, .int 0, .int 0, .int 0, .int 0, .int 0, .long 0, .ref m_p, .ref m_spare, .int 0, .ref m_scope, .int 0, .int 0, .int 0, .int 0, .int (-1), .ref m_cellKind, .ref m_cellCount, .ref m_free, .ref m_pile, .ref m_cellField, .int 0, .int 0, .int 0, .ref m_otherKind, .ref m_otherField, .int 0, .int 0, .int 0, .int 0, .long 0, .long 0, .int 0, .int 0, .int 0, .int 0, .int 0, .int 0, .int 0, .ref m_taskWhat, .ref m_taskPart, .ref m_values, .int 0, .int 0, .int 0, .ref m_slots, .ref m_present, .ref m_shell, .ref m_shellArm, .ref m_shellCall, .int 0, .ref m_keptCounts, .ref m_asideKind, .ref m_asideCount, .ref m_asideField, .ref m_out, .ref m_side, .int 0, .int 0, .ref m_saying])), (m_tape, .inl (mkt, 2000, .inl f_133))] H := hP
  have hD : va_D A [(h0, .inr (14, [.int 0, .ref m_stop, .ref m_tape, .int 19, .int 0, .int 0, .int 0, .int 0, .int 0, .long 0, .ref m_p, .ref m_spare, .int 0, .ref m_scope, .int 0, .int 0, .int 0, .int 0, .int (-1), .ref m_cellKind, .ref m_cellCount, .ref m_free, .ref m_pile, .ref m_cellField, .int 0, .int 0, .int 0, .ref m_otherKind, .ref m_otherField, .int 0, .int 0, .int 0, .int 0, .long 0, .long 0, .int 0, .int 0, .int 0, .int 0, .int 0, .int 0, .int 0, .ref m_taskWhat, .ref m_taskPart, .ref m_values, .int 0, .int 0, .int 0, .ref m_slots, .ref m_present, .ref m_shell, .ref m_shellArm, .ref m_shellCall, .int 0, .ref m_keptCounts, .ref m_asideKind, .ref m_asideCount, .ref m_asideField, .ref m_out, .ref m_side, .int 0, .int 0, .ref m_saying])), (m_tape, .inl (mkt, 2000, .inl f_133))] := hD
  refine lv_iinc (v := 19) (lv' := [(6, .int 19), (7, .int a5), (0, .ref h0), (1, .int a1), (2, .int a2), (3, .int a3), (4, .int a4), (5, .int a5)]) hx hb dX14_feed_111 hl (k := 1) rfl (by decide) (by decide) rfl (fun ls hl => ?_)
  refine lv_goto (tgt := 23) hx hb dX14_feed_114 (by decide) ?_
  refine lv_iload hx hb dX14_feed_23 (lv_at hl 0 rfl) ?_
  refine lv_bipush (v := 20) hx hb dX14_feed_25 (by decide) ?_
  refine lv_icmp_ge (tgt := 117) hx hb dX14_feed_27 (by decide) (fun c_0 => absurd c_0 (by decide)) (fun _ => ?_)
  refine lv_iload hx hb dX14_feed_30 (lv_at hl 0 rfl) ?_
  refine lv_iconst (v := 4) hx hb dX14_feed_32 (by decide) ?_
  refine lv_icmp_ge (tgt := 40) hx hb dX14_feed_33 (by decide) (fun _ => ?_) (fun c_0 => absurd (by decide) c_0)
  refine lv_iload hx hb dX14_feed_40 (lv_at hl 0 rfl) ?_
  refine lv_bipush (v := 8) hx hb dX14_feed_42 (by decide) ?_
  refine lv_icmp_ge (tgt := 51) hx hb dX14_feed_44 (by decide) (fun _ => ?_) (fun c_0 => absurd (by decide) c_0)
  refine lv_iload hx hb dX14_feed_51 (lv_at hl 0 rfl) ?_
  refine lv_bipush (v := 12) hx hb dX14_feed_53 (by decide) ?_
  refine lv_icmp_ge (tgt := 62) hx hb dX14_feed_55 (by decide) (fun _ => ?_) (fun c_0 => absurd (by decide) c_0)
  refine lv_iload hx hb dX14_feed_62 (lv_at hl 0 rfl) ?_
  refine lv_bipush (v := 16) hx hb dX14_feed_64 (by decide) ?_
  refine lv_icmp_ge (tgt := 74) hx hb dX14_feed_66 (by decide) (fun _ => ?_) (fun c_0 => absurd (by decide) c_0)
  refine lv_iload hx hb dX14_feed_74 (lv_at hl 7 rfl) ?_
  refine lv_istore (lv' := [(7, .int a5), (6, .int 19), (0, .ref h0), (1, .int a1), (2, .int a2), (3, .int a3), (4, .int a4), (5, .int a5)]) hx hb dX14_feed_76 hl (by decide) rfl (fun ls hl => ?_)
  refine lv_aload_n hx hb dX14_feed_78 rfl (lv_at hl 2 rfl) ?_
  refine va_get (D := (dC, dI)) (ci := 14) (v := .ref m_tape) (C := RX14) (T := TX14) (N := 63) hx hb hA zin_X14 hown hK hP 0 rfl rfl 2 (by decide) (hA _ wi_1499) (fun _ h9 => h9) rfl dX14_feed_79 ?_
  refine lv_aload_n hx hb dX14_feed_82 rfl (lv_at hl 2 rfl) ?_
  refine va_get (D := (dC, dI)) (ci := 14) (v := .int 19) (C := RX14) (T := TX14) (N := 63) hx hb hA zin_X14 hown hK hP 0 rfl rfl 3 (by decide) (hA _ wi_1500) (fun _ h9 => h9) rfl dX14_feed_83 ?_
  refine lv_iload hx hb dX14_feed_86 (lv_at hl 0 rfl) ?_
  refine lv_bipush (v := 24) hx hb dX14_feed_88 (by decide) ?_
  refine lv_bipush (v := 8) hx hb dX14_feed_90 (by decide) ?_
  refine lv_iload hx hb dX14_feed_92 (lv_at hl 1 rfl) ?_
  refine lv_iconst (v := 4) hx hb dX14_feed_94 (by decide) ?_
  refine lv_irem hx hb dX14_feed_95 (by decide) ?_
  refine lv_topi (fun x_135 ex_135 => ?_)
  obtain rfl : x_135 = 3 := ex_135.trans (by decide)
  refine lv_imul hx hb dX14_feed_96 ?_
  refine lv_topi (fun x_136 ex_136 => ?_)
  obtain rfl : x_136 = 24 := ex_136.trans (by decide)
  refine lv_isub hx hb dX14_feed_97 ?_
  refine lv_topi (fun x_137 ex_137 => ?_)
  obtain rfl : x_137 = 0 := ex_137.trans (by decide)
  refine lv_ishr hx hb dX14_feed_98 ?_
  refine lv_topi (fun x_138 ex_138 => ?_)
  obtain ⟨x_139, ex_139⟩ : ∃ z : Int32, z = (Int32.toInt8 x_138).toInt32 := ⟨_, rfl⟩
  refine lv_i2b (v := x_139) hx hb dX14_feed_99 ex_139.symm ?_
  refine va_bast hx hb hK hP hD hS 1 0 rfl rfl (by unfold vp_in; decide) dX14_feed_100 (fun H locs hP hD hS => ?_)
  obtain ⟨f_140, ef_140⟩ : ∃ gz9 : Nat → Int32, gz9 = upd f_133 (Int32.toNatClampNeg 19) (vp_nar .byte x_139) := ⟨_, rfl⟩
  rw [← ef_140] at hP hD
  have hP : va_P (dC, dI) vwCl [(h0, .inr (14, [.int 0, .ref m_stop, .ref m_tape, .int 19, .int 0, .int 0, .int 0, .int 0, .int 0, .long 0, .ref m_p, .ref m_spare, .int 0, .ref m_scope, .int 0, .int 0, .int 0, .int 0, .int (-1), .ref m_cellKind, .ref m_cellCount, .ref m_free, .ref m_pile, .ref m_cellField, .int 0, .int 0, .int 0, .ref m_otherKind, .ref m_otherField, .int 0, .int 0, .int 0, .int 0, .long 0, .long 0, .int 0, .int 0, .int 0, .int 0, .int 0, .int 0, .int 0, .ref m_taskWhat, .ref m_taskPart, .ref m_values, .int 0, .int 0, .int 0, .ref m_slots, .ref m_present, .ref m_shell, .ref m_shellArm, .ref m_shellCall, .int 0, .ref m_keptCounts, .ref m_asideKind, .ref m_asideCount, .ref m_asideField, .ref m_out, .ref m_side, .int 0, .int 0, .ref m_saying])), (m_tape, .inl (mkt, 2000, .inl f_140))] H := hP
  have hD : va_D A [(h0, .inr (14, [.int 0, .ref m_stop, .ref m_tape, .int 19, .int 0, .int 0, .int 0, .int 0, .int 0, .long 0, .ref m_p, .ref m_spare, .int 0, .ref m_scope, .int 0, .int 0, .int 0, .int 0, .int (-1), .ref m_cellKind, .ref m_cellCount, .ref m_free, .ref m_pile, .ref m_cellField, .int 0, .int 0, .int 0, .ref m_otherKind, .ref m_otherField, .int 0, .int 0, .int 0, .int 0, .long 0, .long 0, .int 0, .int 0, .int 0, .int 0, .int 0, .int 0, .int 0, .ref m_taskWhat, .ref m_taskPart, .ref m_values, .int 0, .int 0, .int 0, .ref m_slots, .ref m_present, .ref m_shell, .ref m_shellArm, .ref m_shellCall, .int 0, .ref m_keptCounts, .ref m_asideKind, .ref m_asideCount, .ref m_asideField, .ref m_out, .ref m_side, .int 0, .int 0, .ref m_saying])), (m_tape, .inl (mkt, 2000, .inl f_140))] := hD
  refine lv_aload_n hx hb dX14_feed_101 rfl (lv_at hl 2 rfl) ?_
  refine lv_dup hx hb dX14_feed_102 rfl ?_
  refine va_get (D := (dC, dI)) (ci := 14) (v := .int 19) (C := RX14) (T := TX14) (N := 63) hx hb hA zin_X14 hown hK hP 0 rfl rfl 3 (by decide) (hA _ wi_1500) (fun _ h9 => h9) rfl dX14_feed_103 ?_
  refine lv_iconst (v := 1) hx hb dX14_feed_106 (by decide) ?_
  refine lv_iadd hx hb dX14_feed_107 ?_
  refine lv_topi (fun x_141 ex_141 => ?_)
  obtain rfl : x_141 = 20 := ex_141.trans (by decide)
  refine va_put (D := (dC, dI)) (ci := 14) (v := .int 20) (ty := .int) (C := RX14) (T := TX14) (N := 63) hx hb hA zin_X14 tyX14 tyX14_ok nmX14 hown hK hP hD hS 0 rfl rfl 3 (by decide) (hA _ wi_1500) (fun _ h9 => h9) rfl (by decide +kernel) rfl rfl (Nat.le_of_ble_eq_true rfl) dX14_feed_108 (fun H locs hP hD hS => ?_)
  have hP : va_P (dC, dI) vwCl [(h0, .inr (14, [.int 0, .ref m_stop, .ref m_tape, .int 20, .int 0, .int 0, .int 0, .int 0, .int 0, .long 0, .ref m_p, .ref m_spare, .int 0, .ref m_scope, .int 0, .int 0, .int 0, .int 0, .int (-1), .ref m_cellKind, .ref m_cellCount, .ref m_free, .ref m_pile, .ref m_cellField, .int 0, .int 0, .int 0, .ref m_otherKind, .ref m_otherField, .int 0, .int 0, .int 0, .int 0, .long 0, .long 0, .int 0, .int 0, .int 0, .int 0, .int 0, .int 0, .int 0, .ref m_taskWhat, .ref m_taskPart, .ref m_values, .int 0, .int 0, .int 0, .ref m_slots, .ref m_present, .ref m_shell, .ref m_shellArm, .ref m_shellCall, .int 0, .ref m_keptCounts, .ref m_asideKind, .ref m_asideCount, .ref m_asideField, .ref m_out, .ref m_side, .int 0, .int 0, .ref m_saying])), (m_tape, .inl (mkt, 2000, .inl f_140))] H := hP
  have hD : va_D A [(h0, .inr (14, [.int 0, .ref m_stop, .ref m_tape, .int 20, .int 0, .int 0, .int 0, .int 0, .int 0, .long 0, .ref m_p, .ref m_spare, .int 0, .ref m_scope, .int 0, .int 0, .int 0, .int 0, .int (-1), .ref m_cellKind, .ref m_cellCount, .ref m_free, .ref m_pile, .ref m_cellField, .int 0, .int 0, .int 0, .ref m_otherKind, .ref m_otherField, .int 0, .int 0, .int 0, .int 0, .long 0, .long 0, .int 0, .int 0, .int 0, .int 0, .int 0, .int 0, .int 0, .ref m_taskWhat, .ref m_taskPart, .ref m_values, .int 0, .int 0, .int 0, .ref m_slots, .ref m_present, .ref m_shell, .ref m_shellArm, .ref m_shellCall, .int 0, .ref m_keptCounts, .ref m_asideKind, .ref m_asideCount, .ref m_asideField, .ref m_out, .ref m_side, .int 0, .int 0, .ref m_saying])), (m_tape, .inl (mkt, 2000, .inl f_140))] := hD
  refine lv_iinc (v := 20) (lv' := [(6, .int 20), (7, .int a5), (0, .ref h0), (1, .int a1), (2, .int a2), (3, .int a3), (4, .int a4), (5, .int a5)]) hx hb dX14_feed_111 hl (k := 1) rfl (by decide) (by decide) rfl (fun ls hl => ?_)
  refine lv_goto (tgt := 23) hx hb dX14_feed_114 (by decide) ?_
  refine lv_iload hx hb dX14_feed_23 (lv_at hl 0 rfl) ?_
  refine lv_bipush (v := 20) hx hb dX14_feed_25 (by decide) ?_
  refine lv_icmp_ge (tgt := 117) hx hb dX14_feed_27 (by decide) (fun _ => ?_) (fun c_0 => absurd (by decide) c_0)
  refine lv_aload_n hx hb dX14_feed_117 rfl (lv_at hl 2 rfl) ?_
  refine va_get (D := (dC, dI)) (ci := 14) (v := .int 20) (C := RX14) (T := TX14) (N := 63) hx hb hA zin_X14 hown hK hP 0 rfl rfl 3 (by decide) (hA _ wi_1500) (fun _ h9 => h9) rfl dX14_feed_118 ?_
  have hP9 := hP.sub (ws' := []) [] rfl
  have hD9 := hD.sub (ws' := []) [] (by decide) rfl
  have hK9 := hK.sub (tys' := []) [] rfl
  exact W.iret (v := 20) hx hb hr (fun t ht hW => ⟨⟨20, (), rfl, rfl, by rw [ht]; exact hP9, va_K.moved hW.alike hK9, hD9⟩, hS.F ht⟩) hS.2.2 dX14_feed_121
