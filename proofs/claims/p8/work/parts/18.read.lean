theorem wi_695 : Cond.code yJ0_indexOf_0f7a4 cJ0_indexOf_0f7a4 2 (some .int) ∈ zw := zw_in (List.mem_of_getElem? (i := 695) (by decide +kernel)) (by decide +kernel)
theorem wi_692 : Cond.methodLink RX10 91 yJ0_indexOf_0f7a4 ∈ zw := zw_in (List.mem_of_getElem? (i := 692) (by decide +kernel)) (by decide +kernel)
theorem wi_693 : Cond.instanceMethod yJ0_indexOf_0f7a4 ∈ zw := zw_in (List.mem_of_getElem? (i := 693) (by decide +kernel)) (by decide +kernel)
theorem wi_694 : Cond.selects RJ0 yJ0_indexOf_0f7a4 yJ0_indexOf_0f7a4 ∈ zw := zw_in (List.mem_of_getElem? (i := 694) (by decide +kernel)) (by decide +kernel)
theorem wi_660 : Cond.methodLink RX10 45 Lib.Math.max.name ∈ zw := zw_in (List.mem_of_getElem? (i := 660) (by decide +kernel)) (by decide +kernel)
theorem wi_774 : Cond.methodLink RX10 59 yX10_advance ∈ zw := zw_in (List.mem_of_getElem? (i := 774) (by decide +kernel)) (by decide +kernel)
theorem wi_690 : Cond.code yX10_readSign cX10_readSign 5 (some .int) ∈ zw := zw_in (List.mem_of_getElem? (i := 690) (by decide +kernel)) (by decide +kernel)
theorem wi_687 : Cond.methodLink RX10 56 yX10_readSign ∈ zw := zw_in (List.mem_of_getElem? (i := 687) (by decide +kernel)) (by decide +kernel)
theorem wi_689 : Cond.instanceMethod yX10_readSign ∈ zw := zw_in (List.mem_of_getElem? (i := 689) (by decide +kernel)) (by decide +kernel)
theorem wi_2 : Cond.selects RX10 yX10_readSign yX10_readSign ∈ zw := zw_in (List.mem_of_getElem? (i := 2) (by decide +kernel)) (by decide +kernel)
theorem wi_676 : Cond.code yX10_readWord cX10_readWord 11 (some .int) ∈ zw := zw_in (List.mem_of_getElem? (i := 676) (by decide +kernel)) (by decide +kernel)
theorem wi_673 : Cond.methodLink RX10 52 yX10_readWord ∈ zw := zw_in (List.mem_of_getElem? (i := 673) (by decide +kernel)) (by decide +kernel)
theorem wi_675 : Cond.instanceMethod yX10_readWord ∈ zw := zw_in (List.mem_of_getElem? (i := 675) (by decide +kernel)) (by decide +kernel)
theorem wi_1 : Cond.selects RX10 yX10_readWord yX10_readWord ∈ zw := zw_in (List.mem_of_getElem? (i := 1) (by decide +kernel)) (by decide +kernel)
theorem dX10_read_0 : decode cX10_read 0 = .ok (.iconst 0, 1) := by decide +kernel
theorem dX10_read_1 : decode cX10_read 1 = .ok (.iload_n 2, 1) := by decide +kernel
theorem dX10_read_2 : decode cX10_read 2 = .ok (.sipush 2000, 3) := by decide +kernel
theorem dX10_read_5 : decode cX10_read 5 = .ok (.invokestatic 39, 3) := by decide +kernel
theorem dX10_read_8 : decode cX10_read 8 = .ok (.invokestatic 45, 3) := by decide +kernel
theorem dX10_read_11 : decode cX10_read 11 = .ok (.istore_n 3, 1) := by decide +kernel
theorem dX10_read_12 : decode cX10_read 12 = .ok (.iconst 0, 1) := by decide +kernel
theorem dX10_read_13 : decode cX10_read 13 = .ok (.istore 4, 2) := by decide +kernel
theorem dX10_read_15 : decode cX10_read 15 = .ok (.aload_n 0, 1) := by decide +kernel
theorem dX10_read_16 : decode cX10_read 16 = .ok (.iconst 0, 1) := by decide +kernel
theorem dX10_read_17 : decode cX10_read 17 = .ok (.putfield 22, 3) := by decide +kernel
theorem dX10_read_20 : decode cX10_read 20 = .ok (.iconst 0, 1) := by decide +kernel
theorem dX10_read_21 : decode cX10_read 21 = .ok (.istore 5, 2) := by decide +kernel
theorem dX10_read_23 : decode cX10_read 23 = .ok (.iload 5, 2) := by decide +kernel
theorem dX10_read_25 : decode cX10_read 25 = .ok (.iload_n 3, 1) := by decide +kernel
theorem dX10_read_26 : decode cX10_read 26 = .ok (.if_icmp .ge 95, 3) := by decide +kernel
theorem dX10_read_29 : decode cX10_read 29 = .ok (.iload 4, 2) := by decide +kernel
theorem dX10_read_31 : decode cX10_read 31 = .ok (.iload_n 3, 1) := by decide +kernel
theorem dX10_read_32 : decode cX10_read 32 = .ok (.if_icmp .ge 89, 3) := by decide +kernel
theorem dX10_read_35 : decode cX10_read 35 = .ok (.aload_n 1, 1) := by decide +kernel
theorem dX10_read_36 : decode cX10_read 36 = .ok (.iload 4, 2) := by decide +kernel
theorem dX10_read_38 : decode cX10_read 38 = .ok (.baload, 1) := by decide +kernel
theorem dX10_read_39 : decode cX10_read 39 = .ok (.sipush 255, 3) := by decide +kernel
theorem dX10_read_42 : decode cX10_read 42 = .ok (.iand, 1) := by decide +kernel
theorem dX10_read_43 : decode cX10_read 43 = .ok (.istore 6, 2) := by decide +kernel
theorem dX10_read_45 : decode cX10_read 45 = .ok (.iload 6, 2) := by decide +kernel
theorem dX10_read_47 : decode cX10_read 47 = .ok (.bipush 32, 2) := by decide +kernel
theorem dX10_read_49 : decode cX10_read 49 = .ok (.if_icmp .eq 10, 3) := by decide +kernel
theorem dX10_read_52 : decode cX10_read 52 = .ok (.iload 6, 2) := by decide +kernel
theorem dX10_read_54 : decode cX10_read 54 = .ok (.bipush 10, 2) := by decide +kernel
theorem dX10_read_56 : decode cX10_read 56 = .ok (.if_icmp .ne 9, 3) := by decide +kernel
theorem dX10_read_59 : decode cX10_read 59 = .ok (.iinc 4 1, 3) := by decide +kernel
theorem dX10_read_62 : decode cX10_read 62 = .ok (.goto 53, 3) := by decide +kernel
theorem dX10_read_65 : decode cX10_read 65 = .ok (.aload_n 0, 1) := by decide +kernel
theorem dX10_read_66 : decode cX10_read 66 = .ok (.getfield 15, 3) := by decide +kernel
theorem dX10_read_69 : decode cX10_read 69 = .ok (.aload_n 0, 1) := by decide +kernel
theorem dX10_read_70 : decode cX10_read 70 = .ok (.getfield 22, 3) := by decide +kernel
theorem dX10_read_73 : decode cX10_read 73 = .ok (.iload 4, 2) := by decide +kernel
theorem dX10_read_75 : decode cX10_read 75 = .ok (.iastore, 1) := by decide +kernel
theorem dX10_read_76 : decode cX10_read 76 = .ok (.iload 6, 2) := by decide +kernel
theorem dX10_read_78 : decode cX10_read 78 = .ok (.invokestatic 48, 3) := by decide +kernel
theorem dX10_read_81 : decode cX10_read 81 = .ok (.ifCond .eq 14, 3) := by decide +kernel
theorem dX10_read_84 : decode cX10_read 84 = .ok (.aload_n 0, 1) := by decide +kernel
theorem dX10_read_85 : decode cX10_read 85 = .ok (.aload_n 1, 1) := by decide +kernel
theorem dX10_read_86 : decode cX10_read 86 = .ok (.iload 4, 2) := by decide +kernel
theorem dX10_read_88 : decode cX10_read 88 = .ok (.iload_n 3, 1) := by decide +kernel
theorem dX10_read_89 : decode cX10_read 89 = .ok (.invokevirtual 52, 3) := by decide +kernel
theorem dX10_read_92 : decode cX10_read 92 = .ok (.goto 11, 3) := by decide +kernel
theorem dX10_read_95 : decode cX10_read 95 = .ok (.aload_n 0, 1) := by decide +kernel
theorem dX10_read_96 : decode cX10_read 96 = .ok (.aload_n 1, 1) := by decide +kernel
theorem dX10_read_97 : decode cX10_read 97 = .ok (.iload 4, 2) := by decide +kernel
theorem dX10_read_99 : decode cX10_read 99 = .ok (.iload_n 3, 1) := by decide +kernel
theorem dX10_read_100 : decode cX10_read 100 = .ok (.invokevirtual 56, 3) := by decide +kernel
theorem dX10_read_103 : decode cX10_read 103 = .ok (.istore 4, 2) := by decide +kernel
theorem dX10_read_105 : decode cX10_read 105 = .ok (.aload_n 0, 1) := by decide +kernel
theorem dX10_read_106 : decode cX10_read 106 = .ok (.dup, 1) := by decide +kernel
theorem dX10_read_107 : decode cX10_read 107 = .ok (.getfield 22, 3) := by decide +kernel
theorem dX10_read_110 : decode cX10_read 110 = .ok (.iconst 1, 1) := by decide +kernel
theorem dX10_read_111 : decode cX10_read 111 = .ok (.iadd, 1) := by decide +kernel
theorem dX10_read_112 : decode cX10_read 112 = .ok (.putfield 22, 3) := by decide +kernel
theorem dX10_read_115 : decode cX10_read 115 = .ok (.iinc 5 1, 3) := by decide +kernel
theorem dX10_read_118 : decode cX10_read 118 = .ok (.goto (-95), 3) := by decide +kernel
theorem dX10_read_121 : decode cX10_read 121 = .ok (.aload_n 0, 1) := by decide +kernel
theorem dX10_read_122 : decode cX10_read 122 = .ok (.getfield 9, 3) := by decide +kernel
theorem dX10_read_125 : decode cX10_read 125 = .ok (.aload_n 0, 1) := by decide +kernel
theorem dX10_read_126 : decode cX10_read 126 = .ok (.getfield 22, 3) := by decide +kernel
theorem dX10_read_129 : decode cX10_read 129 = .ok (.sipush 256, 3) := by decide +kernel
theorem dX10_read_132 : decode cX10_read 132 = .ok (.iastore, 1) := by decide +kernel
theorem dX10_read_133 : decode cX10_read 133 = .ok (.aload_n 0, 1) := by decide +kernel
theorem dX10_read_134 : decode cX10_read 134 = .ok (.getfield 15, 3) := by decide +kernel
theorem dX10_read_137 : decode cX10_read 137 = .ok (.aload_n 0, 1) := by decide +kernel
theorem dX10_read_138 : decode cX10_read 138 = .ok (.getfield 22, 3) := by decide +kernel
theorem dX10_read_141 : decode cX10_read 141 = .ok (.iload_n 3, 1) := by decide +kernel
theorem dX10_read_142 : decode cX10_read 142 = .ok (.iastore, 1) := by decide +kernel
theorem dX10_read_143 : decode cX10_read 143 = .ok (.aload_n 0, 1) := by decide +kernel
theorem dX10_read_144 : decode cX10_read 144 = .ok (.getfield 18, 3) := by decide +kernel
theorem dX10_read_147 : decode cX10_read 147 = .ok (.aload_n 0, 1) := by decide +kernel
theorem dX10_read_148 : decode cX10_read 148 = .ok (.getfield 22, 3) := by decide +kernel
theorem dX10_read_151 : decode cX10_read 151 = .ok (.lconst 0, 1) := by decide +kernel
theorem dX10_read_152 : decode cX10_read 152 = .ok (.lastore, 1) := by decide +kernel
theorem dX10_read_153 : decode cX10_read 153 = .ok (.aload_n 0, 1) := by decide +kernel
theorem dX10_read_154 : decode cX10_read 154 = .ok (.iconst (-1), 1) := by decide +kernel
theorem dX10_read_155 : decode cX10_read 155 = .ok (.putfield 26, 3) := by decide +kernel
theorem dX10_read_158 : decode cX10_read 158 = .ok (.aload_n 0, 1) := by decide +kernel
theorem dX10_read_159 : decode cX10_read 159 = .ok (.invokevirtual 59, 3) := by decide +kernel
theorem dX10_read_162 : decode cX10_read 162 = .ok (.return_, 1) := by decide +kernel
theorem dX10_readSign_0 : decode cX10_readSign 0 = .ok (.aload_n 1, 1) := by decide +kernel
theorem dX10_readSign_1 : decode cX10_readSign 1 = .ok (.iload_n 2, 1) := by decide +kernel
theorem dX10_readSign_2 : decode cX10_readSign 2 = .ok (.baload, 1) := by decide +kernel
theorem dX10_readSign_3 : decode cX10_readSign 3 = .ok (.sipush 255, 3) := by decide +kernel
theorem dX10_readSign_6 : decode cX10_readSign 6 = .ok (.iand, 1) := by decide +kernel
theorem dX10_readSign_7 : decode cX10_readSign 7 = .ok (.istore 4, 2) := by decide +kernel
theorem dX10_readSign_9 : decode cX10_readSign 9 = .ok (.aload_n 0, 1) := by decide +kernel
theorem dX10_readSign_10 : decode cX10_readSign 10 = .ok (.getfield 18, 3) := by decide +kernel
theorem dX10_readSign_13 : decode cX10_readSign 13 = .ok (.aload_n 0, 1) := by decide +kernel
theorem dX10_readSign_14 : decode cX10_readSign 14 = .ok (.getfield 22, 3) := by decide +kernel
theorem dX10_readSign_17 : decode cX10_readSign 17 = .ok (.lconst 0, 1) := by decide +kernel
theorem dX10_readSign_18 : decode cX10_readSign 18 = .ok (.lastore, 1) := by decide +kernel
theorem dX10_readSign_19 : decode cX10_readSign 19 = .ok (.iload 4, 2) := by decide +kernel
theorem dX10_readSign_21 : decode cX10_readSign 21 = .ok (.bipush 45, 2) := by decide +kernel
theorem dX10_readSign_23 : decode cX10_readSign 23 = .ok (.if_icmp .ne 36, 3) := by decide +kernel
theorem dX10_readSign_26 : decode cX10_readSign 26 = .ok (.iload_n 2, 1) := by decide +kernel
theorem dX10_readSign_27 : decode cX10_readSign 27 = .ok (.iconst 1, 1) := by decide +kernel
theorem dX10_readSign_28 : decode cX10_readSign 28 = .ok (.iadd, 1) := by decide +kernel
theorem dX10_readSign_29 : decode cX10_readSign 29 = .ok (.iload_n 3, 1) := by decide +kernel
theorem dX10_readSign_30 : decode cX10_readSign 30 = .ok (.if_icmp .ge 29, 3) := by decide +kernel
theorem dX10_readSign_33 : decode cX10_readSign 33 = .ok (.aload_n 1, 1) := by decide +kernel
theorem dX10_readSign_34 : decode cX10_readSign 34 = .ok (.iload_n 2, 1) := by decide +kernel
theorem dX10_readSign_35 : decode cX10_readSign 35 = .ok (.iconst 1, 1) := by decide +kernel
theorem dX10_readSign_36 : decode cX10_readSign 36 = .ok (.iadd, 1) := by decide +kernel
theorem dX10_readSign_37 : decode cX10_readSign 37 = .ok (.baload, 1) := by decide +kernel
theorem dX10_readSign_38 : decode cX10_readSign 38 = .ok (.bipush 62, 2) := by decide +kernel
theorem dX10_readSign_40 : decode cX10_readSign 40 = .ok (.if_icmp .ne 19, 3) := by decide +kernel
theorem dX10_readSign_43 : decode cX10_readSign 43 = .ok (.aload_n 0, 1) := by decide +kernel
theorem dX10_readSign_44 : decode cX10_readSign 44 = .ok (.getfield 9, 3) := by decide +kernel
theorem dX10_readSign_47 : decode cX10_readSign 47 = .ok (.aload_n 0, 1) := by decide +kernel
theorem dX10_readSign_48 : decode cX10_readSign 48 = .ok (.getfield 22, 3) := by decide +kernel
theorem dX10_readSign_51 : decode cX10_readSign 51 = .ok (.sipush 261, 3) := by decide +kernel
theorem dX10_readSign_54 : decode cX10_readSign 54 = .ok (.iastore, 1) := by decide +kernel
theorem dX10_readSign_55 : decode cX10_readSign 55 = .ok (.iload_n 2, 1) := by decide +kernel
theorem dX10_readSign_56 : decode cX10_readSign 56 = .ok (.iconst 2, 1) := by decide +kernel
theorem dX10_readSign_57 : decode cX10_readSign 57 = .ok (.iadd, 1) := by decide +kernel
theorem dX10_readSign_58 : decode cX10_readSign 58 = .ok (.ireturn, 1) := by decide +kernel
theorem dX10_readSign_59 : decode cX10_readSign 59 = .ok (.aload_n 0, 1) := by decide +kernel
theorem dX10_readSign_60 : decode cX10_readSign 60 = .ok (.getfield 9, 3) := by decide +kernel
theorem dX10_readSign_63 : decode cX10_readSign 63 = .ok (.aload_n 0, 1) := by decide +kernel
theorem dX10_readSign_64 : decode cX10_readSign 64 = .ok (.getfield 22, 3) := by decide +kernel
theorem dX10_readSign_67 : decode cX10_readSign 67 = .ok (.ldc 89, 2) := by decide +kernel
theorem dX10_readSign_69 : decode cX10_readSign 69 = .ok (.iload 4, 2) := by decide +kernel
theorem dX10_readSign_71 : decode cX10_readSign 71 = .ok (.i2c, 1) := by decide +kernel
theorem dX10_readSign_72 : decode cX10_readSign 72 = .ok (.invokevirtual 91, 3) := by decide +kernel
theorem dX10_readSign_75 : decode cX10_readSign 75 = .ok (.ifCond .lt 8, 3) := by decide +kernel
theorem dX10_readSign_78 : decode cX10_readSign 78 = .ok (.iload 4, 2) := by decide +kernel
theorem dX10_readSign_80 : decode cX10_readSign 80 = .ok (.goto 6, 3) := by decide +kernel
theorem dX10_readSign_83 : decode cX10_readSign 83 = .ok (.sipush 257, 3) := by decide +kernel
theorem dX10_readSign_86 : decode cX10_readSign 86 = .ok (.iastore, 1) := by decide +kernel
theorem dX10_readSign_87 : decode cX10_readSign 87 = .ok (.iload_n 2, 1) := by decide +kernel
theorem dX10_readSign_88 : decode cX10_readSign 88 = .ok (.iconst 1, 1) := by decide +kernel
theorem dX10_readSign_89 : decode cX10_readSign 89 = .ok (.iadd, 1) := by decide +kernel
theorem dX10_readSign_90 : decode cX10_readSign 90 = .ok (.ireturn, 1) := by decide +kernel
set_option maxHeartbeats 4000000 in
set_option maxRecDepth 100000 in
theorem c_X10_readSign (l : Launch) (dC : Nat → ClassId) (dI : Nat → Nat → Nat) (aK aV : Nat → Nat) (h0 : Nat) (ts : Nat) (tp : Nat) (tw : Nat) (t1 : ClassId) (t2 : ClassId) (t3 : ClassId) (z : Int32) (pa : Int32) (so : Int32) (pl : Int32) (wd : Int64) (gs : Nat → Int32) (gp : Nat → Int32) (gw : Nat → Int64) (bt : Nat) (bk : ClassId) (gt : Nat → Int32) (fr : Int32) (en : Int32) (sz : Nat) (hz0 : 0 ≤ z.toInt) (hz1 : z.toInt ≤ 2000) (hf0 : 0 ≤ fr.toInt) (hf1 : fr.toInt < en.toInt) (he : en.toInt ≤ 2000) : Met l yX10_readSign (Cond.code yX10_readSign cX10_readSign 5 (some .int) :: zw) ({ frames := 16, cells := 0, slots := 0, locals := 600 }) (va_Pc [.ref h0, .ref bt, .int fr, .int en] (zP dC dI aK aV sz [(t1, .int), (t2, .int), (t3, .long), (bk, .byte)] [(h0, .inr (10, [.ref ts, .ref tp, .ref tw, .int z, .int pa, .int so, .int pl, .long wd])), (ts, .inl (t1, 2001, .inl gs)), (tp, .inl (t2, 2001, .inl gp)), (tw, .inl (t3, 2001, .inr (.inl gw))), (bt, .inl (bk, 2000, .inl gt))])) (va_Qi (fun (r : Int32) (u : (Nat → Int32) × (Nat → Int64)) => match u with | (gs2, gw2) => (fr.toInt ≤ r.toInt) ∧ (r.toInt ≤ en.toInt)) (fun u => match u with | (gs2, gw2) => zQ dC dI (va_A [(h0, .inr (10, [.ref ts, .ref tp, .ref tw, .int z, .int pa, .int so, .int pl, .long wd])), (ts, .inl (t1, 2001, .inl gs)), (tp, .inl (t2, 2001, .inl gp)), (tw, .inl (t3, 2001, .inr (.inl gw))), (bt, .inl (bk, 2000, .inl gt))] sz) [(t1, .int), (t2, .int), (t3, .long), (bk, .byte)] [(h0, .inr (10, [.ref ts, .ref tp, .ref tw, .int z, .int pa, .int so, .int pl, .long wd])), (ts, .inl (t1, 2001, .inl gs2)), (tp, .inl (t2, 2001, .inl gp)), (tw, .inl (t3, 2001, .inr (.inl gw2))), (bt, .inl (bk, 2000, .inl gt))]) (va_A [(h0, .inr (10, [.ref ts, .ref tp, .ref tw, .int z, .int pa, .int so, .int pl, .long wd])), (ts, .inl (t1, 2001, .inl gs)), (tp, .inl (t2, 2001, .inl gp)), (tw, .inl (t3, 2001, .inr (.inl gw))), (bt, .inl (bk, 2000, .inl gt))] sz)) 0 0 (va_A [(h0, .inr (10, [.ref ts, .ref tp, .ref tw, .int z, .int pa, .int so, .int pl, .long wd])), (ts, .inl (t1, 2001, .inl gs)), (tp, .inl (t2, 2001, .inl gp)), (tw, .inl (t3, 2001, .inr (.inl gw))), (bt, .inl (bk, 2000, .inl gt))] sz) := by
  refine Met.ofW (cc := cX10_readSign) (maxL := 5) (ret := (some .int)) (by decide) rfl ?_
  intro p e s m args below meth c s₁ B hml hv
  obtain ⟨rfl, hsz, hP, hK, hD0, hN, hT⟩ := hv
  have hx := B.exec
  have hb := B.bytes
  have hr := B.returns
  have hts := atoms_spec (ws := Cond.code yX10_readSign cX10_readSign 5 (some .int) :: zw) B.pre
  have hA : ∀ w ∈ zw, w.before _ s = true := fun w h => hts w (List.mem_cons_of_mem _ h)
  have hown : s.vm.findClass RX10 = some m.cls := findClass_of_methodNamed B.named
  have hlocks := B.notSynchronized
  subst hsz
  have hD := hD0.self (sz := s.heap.size)
  generalize hAe : va_A [(h0, .inr (10, [.ref ts, .ref tp, .ref tw, .int z, .int pa, .int so, .int pl, .long wd])), (ts, .inl (t1, 2001, .inl gs)), (tp, .inl (t2, 2001, .inl gp)), (tw, .inl (t3, 2001, .inr (.inl gw))), (bt, .inl (bk, 2000, .inl gt))] s.heap.size = A at hD hT ⊢
  have hAA : ∀ q : Nat, s.heap.size ≤ q → A q := fun q h => by rw [← hAe]; exact Or.inr h
  have hS : va_S A s.heap s.heap [] := va_S.rf
  have hl := lv_entry ([.ref h0, .ref bt, .int fr, .int en]) (n := 5) (Nat.le_of_ble_eq_true rfl)
  rw [lg_entry_eq]
  generalize (lg_sl ([.ref h0, .ref bt, .int fr, .int en]) ++ List.replicate (5 - (lg_sl ([.ref h0, .ref bt, .int fr, .int en])).length) Slot.unset).toArray = ls at hl ⊢
  have hl : lv_has ls 5 [(0, .ref h0), (1, .ref bt), (2, .int fr), (3, .int en)] := hl
  refine lv_aload_n hx hb dX10_readSign_0 rfl (lv_at hl 1 rfl) ?_
  refine lv_iload_n hx hb dX10_readSign_1 rfl (lv_at hl 2 rfl) ?_
  refine va_bald hx hb hK hP 4 3 rfl rfl (vp_in_iff.mpr ⟨by omega, by omega⟩) dX10_readSign_2 ?_
  refine lv_topi (fun x_1 ex_1 => ?_)
  refine lv_sipush (v := 255) hx hb dX10_readSign_3 (by decide) ?_
  refine lv_iand hx hb dX10_readSign_6 ?_
  refine lv_topi (fun x_2 ex_2 => ?_)
  refine lv_istore (lv' := [(4, .int x_2), (0, .ref h0), (1, .ref bt), (2, .int fr), (3, .int en)]) hx hb dX10_readSign_7 hl (by decide) rfl (fun ls hl => ?_)
  refine lv_aload_n hx hb dX10_readSign_9 rfl (lv_at hl 1 rfl) ?_
  refine va_get (D := (dC, dI)) (ci := 10) (v := .ref tw) (C := RX10) (T := TX10) (N := 8) hx hb hA zin_X10 hown hK hP 0 rfl rfl 2 (by decide) (hA _ wi_348) (fun _ h9 => h9) rfl dX10_readSign_10 ?_
  refine lv_aload_n hx hb dX10_readSign_13 rfl (lv_at hl 1 rfl) ?_
  refine va_get (D := (dC, dI)) (ci := 10) (v := .int z) (C := RX10) (T := TX10) (N := 8) hx hb hA zin_X10 hown hK hP 0 rfl rfl 3 (by decide) (hA _ wi_349) (fun _ h9 => h9) rfl dX10_readSign_14 ?_
  refine lv_lconst (v := 0) hx hb dX10_readSign_17 (by decide) ?_
  refine va_last hx hb hK hP hD hS 3 2 rfl rfl (vp_in_iff.mpr ⟨by omega, by omega⟩) dX10_readSign_18 (fun H locs hP hD hS => ?_)
  obtain ⟨f_3, ef_3⟩ : ∃ gz9 : Nat → Int64, gz9 = vp_updL gw (Int32.toNatClampNeg z) 0 := ⟨_, rfl⟩
  rw [← ef_3] at hP hD
  have hP : va_P (dC, dI) vwCl [(h0, .inr (10, [.ref ts, .ref tp, .ref tw, .int z, .int pa, .int so, .int pl, .long wd])), (ts, .inl (t1, 2001, .inl gs)), (tp, .inl (t2, 2001, .inl gp)), (tw, .inl (t3, 2001, .inr (.inl f_3))), (bt, .inl (bk, 2000, .inl gt))] H := hP
  have hD : va_D A [(h0, .inr (10, [.ref ts, .ref tp, .ref tw, .int z, .int pa, .int so, .int pl, .long wd])), (ts, .inl (t1, 2001, .inl gs)), (tp, .inl (t2, 2001, .inl gp)), (tw, .inl (t3, 2001, .inr (.inl f_3))), (bt, .inl (bk, 2000, .inl gt))] := hD
  refine lv_iload hx hb dX10_readSign_19 (lv_at hl 0 rfl) ?_
  refine lv_bipush (v := 45) hx hb dX10_readSign_21 (by decide) ?_
  refine lv_icmp_ne (tgt := 59) hx hb dX10_readSign_23 (by decide) (fun c_4 => ?_) (fun c_4 => ?_)
  · have ic_4 : x_2.toInt ≠ 45 := zi_ne c_4
    refine lv_aload_n hx hb dX10_readSign_59 rfl (lv_at hl 1 rfl) ?_
    refine va_get (D := (dC, dI)) (ci := 10) (v := .ref ts) (C := RX10) (T := TX10) (N := 8) hx hb hA zin_X10 hown hK hP 0 rfl rfl 0 (by decide) (hA _ wi_346) (fun _ h9 => h9) rfl dX10_readSign_60 ?_
    refine lv_aload_n hx hb dX10_readSign_63 rfl (lv_at hl 1 rfl) ?_
    refine va_get (D := (dC, dI)) (ci := 10) (v := .int z) (C := RX10) (T := TX10) (N := 8) hx hb hA zin_X10 hown hK hP 0 rfl rfl 3 (by decide) (hA _ wi_349) (fun _ h9 => h9) rfl dX10_readSign_64 ?_
    refine va_ldcS (tx := "(),=+-*<{}|;_") (q := aK 0) hx hb hown (hT.2.2.2.2.1 0 (by decide)) dX10_readSign_67 ?_
    refine lv_iload hx hb dX10_readSign_69 (lv_at hl 0 rfl) ?_
    refine lv_i2c hx hb dX10_readSign_71 rfl ?_
    refine lv_topi (fun x_5 ex_5 => ?_)
    have hPc := hP.sub (ws' := []) [] rfl
    have hDc := hD.sub (ws' := []) [] (by decide) rfl
    have hKc := hK.sub (tys' := []) [] rfl
    have hFc := va_free (wc := []) hD hS hAA [] rfl
    refine va_calli (va_runV (As := [.int x_5]) (rest := [.int z, .ref ts]) ⟨hx, hb, hml, hown, hA⟩ (c_J0_indexOf_0f7a4 l dC dI aK aV 0 x_5 H.size (by omega)) (cwV 1 hA (zw_V wi_692 wi_693 wi_694 wi_149 (zw_good wi_695)) rfl rfl rfl (by decide +kernel) ⟨(Nat.le_of_ble_eq_true rfl), (Nat.le_of_ble_eq_true rfl)⟩) ⟨zP_blind, vk_recv hT.2.2.2.1 (by decide) hS, zz_pre hKc hPc hDc hN hT hS hFc⟩ rfl rfl hl.1 rfl (lv_room (Nat.le_of_ble_eq_true rfl)) dX10_readSign_72 ⟨(Nat.le_of_ble_eq_true rfl), (Nat.le_of_ble_eq_true rfl)⟩) hS (fun q _ h => hFc q h) hFc (fun r_6 u t H1 locs ht hvm hw hB hz1 hk1 hS => ?_)
    obtain ⟨hP1, hK1, hD1⟩ := hB
    rw [ht] at hP1
    have hK1 := va_K.moved hvm.symm hK1
    obtain ⟨hP, hD⟩ := va_join (wr := [(h0, .inr (10, [.ref ts, .ref tp, .ref tw, .int z, .int pa, .int so, .int pl, .long wd])), (ts, .inl (t1, 2001, .inl gs)), (tp, .inl (t2, 2001, .inl gp)), (tw, .inl (t3, 2001, .inr (.inl f_3))), (bt, .inl (bk, 2000, .inl gt))]) (w1 := []) hP hD [] [0, 1, 2, 3, 4] rfl rfl (by decide) (by decide) hk1 hFc hP1 hD1
    have hK := (hK.sub (tys' := [(t1, .int), (t2, .int), (t3, .long), (bk, .byte)]) [0, 1, 2, 3] rfl).app hK1
    generalize H1 = H at hP hS ⊢
    have hP : va_P (dC, dI) vwCl [(h0, .inr (10, [.ref ts, .ref tp, .ref tw, .int z, .int pa, .int so, .int pl, .long wd])), (ts, .inl (t1, 2001, .inl gs)), (tp, .inl (t2, 2001, .inl gp)), (tw, .inl (t3, 2001, .inr (.inl f_3))), (bt, .inl (bk, 2000, .inl gt))] H := hP
    have hD : va_D A [(h0, .inr (10, [.ref ts, .ref tp, .ref tw, .int z, .int pa, .int so, .int pl, .long wd])), (ts, .inl (t1, 2001, .inl gs)), (tp, .inl (t2, 2001, .inl gp)), (tw, .inl (t3, 2001, .inr (.inl f_3))), (bt, .inl (bk, 2000, .inl gt))] := hD
    have hK : va_K (dC, dI) vwCl [(t1, .int), (t2, .int), (t3, .long), (bk, .byte)] s := hK
    have hw_r_6 := hw
    try dsimp only at hw_r_6
    have hq_7 := hw
    refine lv_if_lt (tgt := 83) hx hb dX10_readSign_75 (by decide) (fun c_8 => ?_) (fun c_8 => ?_)
    · have ic_8 : r_6.toInt < 0 := zi_lt c_8
      refine lv_sipush (v := 257) hx hb dX10_readSign_83 (by decide) ?_
      refine va_iast hx hb hK hP hD hS 1 0 rfl rfl (vp_in_iff.mpr ⟨by omega, by omega⟩) dX10_readSign_86 (fun H locs hP hD hS => ?_)
      obtain ⟨f_9, ef_9⟩ : ∃ gz9 : Nat → Int32, gz9 = upd gs (Int32.toNatClampNeg z) 257 := ⟨_, rfl⟩
      rw [← ef_9] at hP hD
      have hP : va_P (dC, dI) vwCl [(h0, .inr (10, [.ref ts, .ref tp, .ref tw, .int z, .int pa, .int so, .int pl, .long wd])), (ts, .inl (t1, 2001, .inl f_9)), (tp, .inl (t2, 2001, .inl gp)), (tw, .inl (t3, 2001, .inr (.inl f_3))), (bt, .inl (bk, 2000, .inl gt))] H := hP
      have hD : va_D A [(h0, .inr (10, [.ref ts, .ref tp, .ref tw, .int z, .int pa, .int so, .int pl, .long wd])), (ts, .inl (t1, 2001, .inl f_9)), (tp, .inl (t2, 2001, .inl gp)), (tw, .inl (t3, 2001, .inr (.inl f_3))), (bt, .inl (bk, 2000, .inl gt))] := hD
      refine lv_iload_n hx hb dX10_readSign_87 rfl (lv_at hl 3 rfl) ?_
      refine lv_iconst (v := 1) hx hb dX10_readSign_88 (by decide) ?_
      refine lv_iadd hx hb dX10_readSign_89 ?_
      refine lv_topi (fun x_10 ex_10 => ?_)
      have ix_10 : x_10.toInt = fr.toInt + 1 := by rw [ex_10]; exact zi_addc (by decide) (by omega) (by omega)
      have hP9 := hP.sub (ws' := [(h0, .inr (10, [.ref ts, .ref tp, .ref tw, .int z, .int pa, .int so, .int pl, .long wd])), (ts, .inl (t1, 2001, .inl f_9)), (tp, .inl (t2, 2001, .inl gp)), (tw, .inl (t3, 2001, .inr (.inl f_3))), (bt, .inl (bk, 2000, .inl gt))]) [0, 1, 2, 3, 4] rfl
      have hD9 := hD.sub (ws' := [(h0, .inr (10, [.ref ts, .ref tp, .ref tw, .int z, .int pa, .int so, .int pl, .long wd])), (ts, .inl (t1, 2001, .inl f_9)), (tp, .inl (t2, 2001, .inl gp)), (tw, .inl (t3, 2001, .inr (.inl f_3))), (bt, .inl (bk, 2000, .inl gt))]) [0, 1, 2, 3, 4] (by decide) rfl
      have hK9 := hK.sub (tys' := [(t1, .int), (t2, .int), (t3, .long), (bk, .byte)]) [0, 1, 2, 3] rfl
      exact W.iret (v := x_10) hx hb hr (fun t ht hW => ⟨⟨x_10, (f_9, f_3), rfl, ⟨by omega, by omega⟩, by rw [ht]; exact hP9, va_K.moved hW.alike hK9, hD9⟩, hS.F ht⟩) hS.2.2 dX10_readSign_90
    · have ic_8 : 0 ≤ r_6.toInt := zi_nlt c_8
      refine lv_iload hx hb dX10_readSign_78 (lv_at hl 0 rfl) ?_
      refine lv_goto (tgt := 86) hx hb dX10_readSign_80 (by decide) ?_
      refine va_iast hx hb hK hP hD hS 1 0 rfl rfl (vp_in_iff.mpr ⟨by omega, by omega⟩) dX10_readSign_86 (fun H locs hP hD hS => ?_)
      obtain ⟨f_11, ef_11⟩ : ∃ gz9 : Nat → Int32, gz9 = upd gs (Int32.toNatClampNeg z) x_2 := ⟨_, rfl⟩
      rw [← ef_11] at hP hD
      have hP : va_P (dC, dI) vwCl [(h0, .inr (10, [.ref ts, .ref tp, .ref tw, .int z, .int pa, .int so, .int pl, .long wd])), (ts, .inl (t1, 2001, .inl f_11)), (tp, .inl (t2, 2001, .inl gp)), (tw, .inl (t3, 2001, .inr (.inl f_3))), (bt, .inl (bk, 2000, .inl gt))] H := hP
      have hD : va_D A [(h0, .inr (10, [.ref ts, .ref tp, .ref tw, .int z, .int pa, .int so, .int pl, .long wd])), (ts, .inl (t1, 2001, .inl f_11)), (tp, .inl (t2, 2001, .inl gp)), (tw, .inl (t3, 2001, .inr (.inl f_3))), (bt, .inl (bk, 2000, .inl gt))] := hD
      refine lv_iload_n hx hb dX10_readSign_87 rfl (lv_at hl 3 rfl) ?_
      refine lv_iconst (v := 1) hx hb dX10_readSign_88 (by decide) ?_
      refine lv_iadd hx hb dX10_readSign_89 ?_
      refine lv_topi (fun x_12 ex_12 => ?_)
      have ix_12 : x_12.toInt = fr.toInt + 1 := by rw [ex_12]; exact zi_addc (by decide) (by omega) (by omega)
      have hP9 := hP.sub (ws' := [(h0, .inr (10, [.ref ts, .ref tp, .ref tw, .int z, .int pa, .int so, .int pl, .long wd])), (ts, .inl (t1, 2001, .inl f_11)), (tp, .inl (t2, 2001, .inl gp)), (tw, .inl (t3, 2001, .inr (.inl f_3))), (bt, .inl (bk, 2000, .inl gt))]) [0, 1, 2, 3, 4] rfl
      have hD9 := hD.sub (ws' := [(h0, .inr (10, [.ref ts, .ref tp, .ref tw, .int z, .int pa, .int so, .int pl, .long wd])), (ts, .inl (t1, 2001, .inl f_11)), (tp, .inl (t2, 2001, .inl gp)), (tw, .inl (t3, 2001, .inr (.inl f_3))), (bt, .inl (bk, 2000, .inl gt))]) [0, 1, 2, 3, 4] (by decide) rfl
      have hK9 := hK.sub (tys' := [(t1, .int), (t2, .int), (t3, .long), (bk, .byte)]) [0, 1, 2, 3] rfl
      exact W.iret (v := x_12) hx hb hr (fun t ht hW => ⟨⟨x_12, (f_11, f_3), rfl, ⟨by omega, by omega⟩, by rw [ht]; exact hP9, va_K.moved hW.alike hK9, hD9⟩, hS.F ht⟩) hS.2.2 dX10_readSign_90
  · have ic_4 : x_2.toInt = 45 := zi_eq c_4
    refine lv_iload_n hx hb dX10_readSign_26 rfl (lv_at hl 3 rfl) ?_
    refine lv_iconst (v := 1) hx hb dX10_readSign_27 (by decide) ?_
    refine lv_iadd hx hb dX10_readSign_28 ?_
    refine lv_topi (fun x_13 ex_13 => ?_)
    have ix_13 : x_13.toInt = fr.toInt + 1 := by rw [ex_13]; exact zi_addc (by decide) (by omega) (by omega)
    refine lv_iload_n hx hb dX10_readSign_29 rfl (lv_at hl 4 rfl) ?_
    refine lv_icmp_ge (tgt := 59) hx hb dX10_readSign_30 (by decide) (fun c_14 => ?_) (fun c_14 => ?_)
    · have ic_14 : en.toInt ≤ x_13.toInt := zi_le c_14
      refine lv_aload_n hx hb dX10_readSign_59 rfl (lv_at hl 1 rfl) ?_
      refine va_get (D := (dC, dI)) (ci := 10) (v := .ref ts) (C := RX10) (T := TX10) (N := 8) hx hb hA zin_X10 hown hK hP 0 rfl rfl 0 (by decide) (hA _ wi_346) (fun _ h9 => h9) rfl dX10_readSign_60 ?_
      refine lv_aload_n hx hb dX10_readSign_63 rfl (lv_at hl 1 rfl) ?_
      refine va_get (D := (dC, dI)) (ci := 10) (v := .int z) (C := RX10) (T := TX10) (N := 8) hx hb hA zin_X10 hown hK hP 0 rfl rfl 3 (by decide) (hA _ wi_349) (fun _ h9 => h9) rfl dX10_readSign_64 ?_
      refine va_ldcS (tx := "(),=+-*<{}|;_") (q := aK 0) hx hb hown (hT.2.2.2.2.1 0 (by decide)) dX10_readSign_67 ?_
      refine lv_iload hx hb dX10_readSign_69 (lv_at hl 0 rfl) ?_
      refine lv_i2c hx hb dX10_readSign_71 rfl ?_
      refine lv_topi (fun x_15 ex_15 => ?_)
      have hPc := hP.sub (ws' := []) [] rfl
      have hDc := hD.sub (ws' := []) [] (by decide) rfl
      have hKc := hK.sub (tys' := []) [] rfl
      have hFc := va_free (wc := []) hD hS hAA [] rfl
      refine va_calli (va_runV (As := [.int x_15]) (rest := [.int z, .ref ts]) ⟨hx, hb, hml, hown, hA⟩ (c_J0_indexOf_0f7a4 l dC dI aK aV 0 x_15 H.size (by omega)) (cwV 1 hA (zw_V wi_692 wi_693 wi_694 wi_149 (zw_good wi_695)) rfl rfl rfl (by decide +kernel) ⟨(Nat.le_of_ble_eq_true rfl), (Nat.le_of_ble_eq_true rfl)⟩) ⟨zP_blind, vk_recv hT.2.2.2.1 (by decide) hS, zz_pre hKc hPc hDc hN hT hS hFc⟩ rfl rfl hl.1 rfl (lv_room (Nat.le_of_ble_eq_true rfl)) dX10_readSign_72 ⟨(Nat.le_of_ble_eq_true rfl), (Nat.le_of_ble_eq_true rfl)⟩) hS (fun q _ h => hFc q h) hFc (fun r_16 u t H1 locs ht hvm hw hB hz1 hk1 hS => ?_)
      obtain ⟨hP1, hK1, hD1⟩ := hB
      rw [ht] at hP1
      have hK1 := va_K.moved hvm.symm hK1
      obtain ⟨hP, hD⟩ := va_join (wr := [(h0, .inr (10, [.ref ts, .ref tp, .ref tw, .int z, .int pa, .int so, .int pl, .long wd])), (ts, .inl (t1, 2001, .inl gs)), (tp, .inl (t2, 2001, .inl gp)), (tw, .inl (t3, 2001, .inr (.inl f_3))), (bt, .inl (bk, 2000, .inl gt))]) (w1 := []) hP hD [] [0, 1, 2, 3, 4] rfl rfl (by decide) (by decide) hk1 hFc hP1 hD1
      have hK := (hK.sub (tys' := [(t1, .int), (t2, .int), (t3, .long), (bk, .byte)]) [0, 1, 2, 3] rfl).app hK1
      generalize H1 = H at hP hS ⊢
      have hP : va_P (dC, dI) vwCl [(h0, .inr (10, [.ref ts, .ref tp, .ref tw, .int z, .int pa, .int so, .int pl, .long wd])), (ts, .inl (t1, 2001, .inl gs)), (tp, .inl (t2, 2001, .inl gp)), (tw, .inl (t3, 2001, .inr (.inl f_3))), (bt, .inl (bk, 2000, .inl gt))] H := hP
      have hD : va_D A [(h0, .inr (10, [.ref ts, .ref tp, .ref tw, .int z, .int pa, .int so, .int pl, .long wd])), (ts, .inl (t1, 2001, .inl gs)), (tp, .inl (t2, 2001, .inl gp)), (tw, .inl (t3, 2001, .inr (.inl f_3))), (bt, .inl (bk, 2000, .inl gt))] := hD
      have hK : va_K (dC, dI) vwCl [(t1, .int), (t2, .int), (t3, .long), (bk, .byte)] s := hK
      have hw_r_16 := hw
      try dsimp only at hw_r_16
      have hq_17 := hw
      refine lv_if_lt (tgt := 83) hx hb dX10_readSign_75 (by decide) (fun c_18 => ?_) (fun c_18 => ?_)
      · have ic_18 : r_16.toInt < 0 := zi_lt c_18
        refine lv_sipush (v := 257) hx hb dX10_readSign_83 (by decide) ?_
        refine va_iast hx hb hK hP hD hS 1 0 rfl rfl (vp_in_iff.mpr ⟨by omega, by omega⟩) dX10_readSign_86 (fun H locs hP hD hS => ?_)
        obtain ⟨f_19, ef_19⟩ : ∃ gz9 : Nat → Int32, gz9 = upd gs (Int32.toNatClampNeg z) 257 := ⟨_, rfl⟩
        rw [← ef_19] at hP hD
        have hP : va_P (dC, dI) vwCl [(h0, .inr (10, [.ref ts, .ref tp, .ref tw, .int z, .int pa, .int so, .int pl, .long wd])), (ts, .inl (t1, 2001, .inl f_19)), (tp, .inl (t2, 2001, .inl gp)), (tw, .inl (t3, 2001, .inr (.inl f_3))), (bt, .inl (bk, 2000, .inl gt))] H := hP
        have hD : va_D A [(h0, .inr (10, [.ref ts, .ref tp, .ref tw, .int z, .int pa, .int so, .int pl, .long wd])), (ts, .inl (t1, 2001, .inl f_19)), (tp, .inl (t2, 2001, .inl gp)), (tw, .inl (t3, 2001, .inr (.inl f_3))), (bt, .inl (bk, 2000, .inl gt))] := hD
        refine lv_iload_n hx hb dX10_readSign_87 rfl (lv_at hl 3 rfl) ?_
        refine lv_iconst (v := 1) hx hb dX10_readSign_88 (by decide) ?_
        refine lv_iadd hx hb dX10_readSign_89 ?_
        refine lv_topi (fun x_20 ex_20 => ?_)
        have ix_20 : x_20.toInt = fr.toInt + 1 := by rw [ex_20]; exact zi_addc (by decide) (by omega) (by omega)
        have hP9 := hP.sub (ws' := [(h0, .inr (10, [.ref ts, .ref tp, .ref tw, .int z, .int pa, .int so, .int pl, .long wd])), (ts, .inl (t1, 2001, .inl f_19)), (tp, .inl (t2, 2001, .inl gp)), (tw, .inl (t3, 2001, .inr (.inl f_3))), (bt, .inl (bk, 2000, .inl gt))]) [0, 1, 2, 3, 4] rfl
        have hD9 := hD.sub (ws' := [(h0, .inr (10, [.ref ts, .ref tp, .ref tw, .int z, .int pa, .int so, .int pl, .long wd])), (ts, .inl (t1, 2001, .inl f_19)), (tp, .inl (t2, 2001, .inl gp)), (tw, .inl (t3, 2001, .inr (.inl f_3))), (bt, .inl (bk, 2000, .inl gt))]) [0, 1, 2, 3, 4] (by decide) rfl
        have hK9 := hK.sub (tys' := [(t1, .int), (t2, .int), (t3, .long), (bk, .byte)]) [0, 1, 2, 3] rfl
        exact W.iret (v := x_20) hx hb hr (fun t ht hW => ⟨⟨x_20, (f_19, f_3), rfl, ⟨by omega, by omega⟩, by rw [ht]; exact hP9, va_K.moved hW.alike hK9, hD9⟩, hS.F ht⟩) hS.2.2 dX10_readSign_90
      · have ic_18 : 0 ≤ r_16.toInt := zi_nlt c_18
        refine lv_iload hx hb dX10_readSign_78 (lv_at hl 0 rfl) ?_
        refine lv_goto (tgt := 86) hx hb dX10_readSign_80 (by decide) ?_
        refine va_iast hx hb hK hP hD hS 1 0 rfl rfl (vp_in_iff.mpr ⟨by omega, by omega⟩) dX10_readSign_86 (fun H locs hP hD hS => ?_)
        obtain ⟨f_21, ef_21⟩ : ∃ gz9 : Nat → Int32, gz9 = upd gs (Int32.toNatClampNeg z) x_2 := ⟨_, rfl⟩
        rw [← ef_21] at hP hD
        have hP : va_P (dC, dI) vwCl [(h0, .inr (10, [.ref ts, .ref tp, .ref tw, .int z, .int pa, .int so, .int pl, .long wd])), (ts, .inl (t1, 2001, .inl f_21)), (tp, .inl (t2, 2001, .inl gp)), (tw, .inl (t3, 2001, .inr (.inl f_3))), (bt, .inl (bk, 2000, .inl gt))] H := hP
        have hD : va_D A [(h0, .inr (10, [.ref ts, .ref tp, .ref tw, .int z, .int pa, .int so, .int pl, .long wd])), (ts, .inl (t1, 2001, .inl f_21)), (tp, .inl (t2, 2001, .inl gp)), (tw, .inl (t3, 2001, .inr (.inl f_3))), (bt, .inl (bk, 2000, .inl gt))] := hD
        refine lv_iload_n hx hb dX10_readSign_87 rfl (lv_at hl 3 rfl) ?_
        refine lv_iconst (v := 1) hx hb dX10_readSign_88 (by decide) ?_
        refine lv_iadd hx hb dX10_readSign_89 ?_
        refine lv_topi (fun x_22 ex_22 => ?_)
        have ix_22 : x_22.toInt = fr.toInt + 1 := by rw [ex_22]; exact zi_addc (by decide) (by omega) (by omega)
        have hP9 := hP.sub (ws' := [(h0, .inr (10, [.ref ts, .ref tp, .ref tw, .int z, .int pa, .int so, .int pl, .long wd])), (ts, .inl (t1, 2001, .inl f_21)), (tp, .inl (t2, 2001, .inl gp)), (tw, .inl (t3, 2001, .inr (.inl f_3))), (bt, .inl (bk, 2000, .inl gt))]) [0, 1, 2, 3, 4] rfl
        have hD9 := hD.sub (ws' := [(h0, .inr (10, [.ref ts, .ref tp, .ref tw, .int z, .int pa, .int so, .int pl, .long wd])), (ts, .inl (t1, 2001, .inl f_21)), (tp, .inl (t2, 2001, .inl gp)), (tw, .inl (t3, 2001, .inr (.inl f_3))), (bt, .inl (bk, 2000, .inl gt))]) [0, 1, 2, 3, 4] (by decide) rfl
        have hK9 := hK.sub (tys' := [(t1, .int), (t2, .int), (t3, .long), (bk, .byte)]) [0, 1, 2, 3] rfl
        exact W.iret (v := x_22) hx hb hr (fun t ht hW => ⟨⟨x_22, (f_21, f_3), rfl, ⟨by omega, by omega⟩, by rw [ht]; exact hP9, va_K.moved hW.alike hK9, hD9⟩, hS.F ht⟩) hS.2.2 dX10_readSign_90
    · have ic_14 : x_13.toInt < en.toInt := zi_nle c_14
      refine lv_aload_n hx hb dX10_readSign_33 rfl (lv_at hl 2 rfl) ?_
      refine lv_iload_n hx hb dX10_readSign_34 rfl (lv_at hl 3 rfl) ?_
      refine lv_iconst (v := 1) hx hb dX10_readSign_35 (by decide) ?_
      refine lv_iadd hx hb dX10_readSign_36 ?_
      refine lv_topi (fun x_23 ex_23 => ?_)
      have ix_23 : x_23.toInt = fr.toInt + 1 := by rw [ex_23]; exact zi_addc (by decide) (by omega) (by omega)
      refine va_bald hx hb hK hP 4 3 rfl rfl (vp_in_iff.mpr ⟨by omega, by omega⟩) dX10_readSign_37 ?_
      refine lv_topi (fun x_24 ex_24 => ?_)
      refine lv_bipush (v := 62) hx hb dX10_readSign_38 (by decide) ?_
      refine lv_icmp_ne (tgt := 59) hx hb dX10_readSign_40 (by decide) (fun c_25 => ?_) (fun c_25 => ?_)
      · have ic_25 : x_24.toInt ≠ 62 := zi_ne c_25
        refine lv_aload_n hx hb dX10_readSign_59 rfl (lv_at hl 1 rfl) ?_
        refine va_get (D := (dC, dI)) (ci := 10) (v := .ref ts) (C := RX10) (T := TX10) (N := 8) hx hb hA zin_X10 hown hK hP 0 rfl rfl 0 (by decide) (hA _ wi_346) (fun _ h9 => h9) rfl dX10_readSign_60 ?_
        refine lv_aload_n hx hb dX10_readSign_63 rfl (lv_at hl 1 rfl) ?_
        refine va_get (D := (dC, dI)) (ci := 10) (v := .int z) (C := RX10) (T := TX10) (N := 8) hx hb hA zin_X10 hown hK hP 0 rfl rfl 3 (by decide) (hA _ wi_349) (fun _ h9 => h9) rfl dX10_readSign_64 ?_
        refine va_ldcS (tx := "(),=+-*<{}|;_") (q := aK 0) hx hb hown (hT.2.2.2.2.1 0 (by decide)) dX10_readSign_67 ?_
        refine lv_iload hx hb dX10_readSign_69 (lv_at hl 0 rfl) ?_
        refine lv_i2c hx hb dX10_readSign_71 rfl ?_
        refine lv_topi (fun x_26 ex_26 => ?_)
        have hPc := hP.sub (ws' := []) [] rfl
        have hDc := hD.sub (ws' := []) [] (by decide) rfl
        have hKc := hK.sub (tys' := []) [] rfl
        have hFc := va_free (wc := []) hD hS hAA [] rfl
        refine va_calli (va_runV (As := [.int x_26]) (rest := [.int z, .ref ts]) ⟨hx, hb, hml, hown, hA⟩ (c_J0_indexOf_0f7a4 l dC dI aK aV 0 x_26 H.size (by omega)) (cwV 1 hA (zw_V wi_692 wi_693 wi_694 wi_149 (zw_good wi_695)) rfl rfl rfl (by decide +kernel) ⟨(Nat.le_of_ble_eq_true rfl), (Nat.le_of_ble_eq_true rfl)⟩) ⟨zP_blind, vk_recv hT.2.2.2.1 (by decide) hS, zz_pre hKc hPc hDc hN hT hS hFc⟩ rfl rfl hl.1 rfl (lv_room (Nat.le_of_ble_eq_true rfl)) dX10_readSign_72 ⟨(Nat.le_of_ble_eq_true rfl), (Nat.le_of_ble_eq_true rfl)⟩) hS (fun q _ h => hFc q h) hFc (fun r_27 u t H1 locs ht hvm hw hB hz1 hk1 hS => ?_)
        obtain ⟨hP1, hK1, hD1⟩ := hB
        rw [ht] at hP1
        have hK1 := va_K.moved hvm.symm hK1
        obtain ⟨hP, hD⟩ := va_join (wr := [(h0, .inr (10, [.ref ts, .ref tp, .ref tw, .int z, .int pa, .int so, .int pl, .long wd])), (ts, .inl (t1, 2001, .inl gs)), (tp, .inl (t2, 2001, .inl gp)), (tw, .inl (t3, 2001, .inr (.inl f_3))), (bt, .inl (bk, 2000, .inl gt))]) (w1 := []) hP hD [] [0, 1, 2, 3, 4] rfl rfl (by decide) (by decide) hk1 hFc hP1 hD1
        have hK := (hK.sub (tys' := [(t1, .int), (t2, .int), (t3, .long), (bk, .byte)]) [0, 1, 2, 3] rfl).app hK1
        generalize H1 = H at hP hS ⊢
        have hP : va_P (dC, dI) vwCl [(h0, .inr (10, [.ref ts, .ref tp, .ref tw, .int z, .int pa, .int so, .int pl, .long wd])), (ts, .inl (t1, 2001, .inl gs)), (tp, .inl (t2, 2001, .inl gp)), (tw, .inl (t3, 2001, .inr (.inl f_3))), (bt, .inl (bk, 2000, .inl gt))] H := hP
        have hD : va_D A [(h0, .inr (10, [.ref ts, .ref tp, .ref tw, .int z, .int pa, .int so, .int pl, .long wd])), (ts, .inl (t1, 2001, .inl gs)), (tp, .inl (t2, 2001, .inl gp)), (tw, .inl (t3, 2001, .inr (.inl f_3))), (bt, .inl (bk, 2000, .inl gt))] := hD
        have hK : va_K (dC, dI) vwCl [(t1, .int), (t2, .int), (t3, .long), (bk, .byte)] s := hK
        have hw_r_27 := hw
        try dsimp only at hw_r_27
        have hq_28 := hw
        refine lv_if_lt (tgt := 83) hx hb dX10_readSign_75 (by decide) (fun c_29 => ?_) (fun c_29 => ?_)
        · have ic_29 : r_27.toInt < 0 := zi_lt c_29
          refine lv_sipush (v := 257) hx hb dX10_readSign_83 (by decide) ?_
          refine va_iast hx hb hK hP hD hS 1 0 rfl rfl (vp_in_iff.mpr ⟨by omega, by omega⟩) dX10_readSign_86 (fun H locs hP hD hS => ?_)
          obtain ⟨f_30, ef_30⟩ : ∃ gz9 : Nat → Int32, gz9 = upd gs (Int32.toNatClampNeg z) 257 := ⟨_, rfl⟩
          rw [← ef_30] at hP hD
          have hP : va_P (dC, dI) vwCl [(h0, .inr (10, [.ref ts, .ref tp, .ref tw, .int z, .int pa, .int so, .int pl, .long wd])), (ts, .inl (t1, 2001, .inl f_30)), (tp, .inl (t2, 2001, .inl gp)), (tw, .inl (t3, 2001, .inr (.inl f_3))), (bt, .inl (bk, 2000, .inl gt))] H := hP
          have hD : va_D A [(h0, .inr (10, [.ref ts, .ref tp, .ref tw, .int z, .int pa, .int so, .int pl, .long wd])), (ts, .inl (t1, 2001, .inl f_30)), (tp, .inl (t2, 2001, .inl gp)), (tw, .inl (t3, 2001, .inr (.inl f_3))), (bt, .inl (bk, 2000, .inl gt))] := hD
          refine lv_iload_n hx hb dX10_readSign_87 rfl (lv_at hl 3 rfl) ?_
          refine lv_iconst (v := 1) hx hb dX10_readSign_88 (by decide) ?_
          refine lv_iadd hx hb dX10_readSign_89 ?_
          refine lv_topi (fun x_31 ex_31 => ?_)
          have ix_31 : x_31.toInt = fr.toInt + 1 := by rw [ex_31]; exact zi_addc (by decide) (by omega) (by omega)
          have hP9 := hP.sub (ws' := [(h0, .inr (10, [.ref ts, .ref tp, .ref tw, .int z, .int pa, .int so, .int pl, .long wd])), (ts, .inl (t1, 2001, .inl f_30)), (tp, .inl (t2, 2001, .inl gp)), (tw, .inl (t3, 2001, .inr (.inl f_3))), (bt, .inl (bk, 2000, .inl gt))]) [0, 1, 2, 3, 4] rfl
          have hD9 := hD.sub (ws' := [(h0, .inr (10, [.ref ts, .ref tp, .ref tw, .int z, .int pa, .int so, .int pl, .long wd])), (ts, .inl (t1, 2001, .inl f_30)), (tp, .inl (t2, 2001, .inl gp)), (tw, .inl (t3, 2001, .inr (.inl f_3))), (bt, .inl (bk, 2000, .inl gt))]) [0, 1, 2, 3, 4] (by decide) rfl
          have hK9 := hK.sub (tys' := [(t1, .int), (t2, .int), (t3, .long), (bk, .byte)]) [0, 1, 2, 3] rfl
          exact W.iret (v := x_31) hx hb hr (fun t ht hW => ⟨⟨x_31, (f_30, f_3), rfl, ⟨by omega, by omega⟩, by rw [ht]; exact hP9, va_K.moved hW.alike hK9, hD9⟩, hS.F ht⟩) hS.2.2 dX10_readSign_90
        · have ic_29 : 0 ≤ r_27.toInt := zi_nlt c_29
          refine lv_iload hx hb dX10_readSign_78 (lv_at hl 0 rfl) ?_
          refine lv_goto (tgt := 86) hx hb dX10_readSign_80 (by decide) ?_
          refine va_iast hx hb hK hP hD hS 1 0 rfl rfl (vp_in_iff.mpr ⟨by omega, by omega⟩) dX10_readSign_86 (fun H locs hP hD hS => ?_)
          obtain ⟨f_32, ef_32⟩ : ∃ gz9 : Nat → Int32, gz9 = upd gs (Int32.toNatClampNeg z) x_2 := ⟨_, rfl⟩
          rw [← ef_32] at hP hD
          have hP : va_P (dC, dI) vwCl [(h0, .inr (10, [.ref ts, .ref tp, .ref tw, .int z, .int pa, .int so, .int pl, .long wd])), (ts, .inl (t1, 2001, .inl f_32)), (tp, .inl (t2, 2001, .inl gp)), (tw, .inl (t3, 2001, .inr (.inl f_3))), (bt, .inl (bk, 2000, .inl gt))] H := hP
          have hD : va_D A [(h0, .inr (10, [.ref ts, .ref tp, .ref tw, .int z, .int pa, .int so, .int pl, .long wd])), (ts, .inl (t1, 2001, .inl f_32)), (tp, .inl (t2, 2001, .inl gp)), (tw, .inl (t3, 2001, .inr (.inl f_3))), (bt, .inl (bk, 2000, .inl gt))] := hD
          refine lv_iload_n hx hb dX10_readSign_87 rfl (lv_at hl 3 rfl) ?_
          refine lv_iconst (v := 1) hx hb dX10_readSign_88 (by decide) ?_
          refine lv_iadd hx hb dX10_readSign_89 ?_
          refine lv_topi (fun x_33 ex_33 => ?_)
          have ix_33 : x_33.toInt = fr.toInt + 1 := by rw [ex_33]; exact zi_addc (by decide) (by omega) (by omega)
          have hP9 := hP.sub (ws' := [(h0, .inr (10, [.ref ts, .ref tp, .ref tw, .int z, .int pa, .int so, .int pl, .long wd])), (ts, .inl (t1, 2001, .inl f_32)), (tp, .inl (t2, 2001, .inl gp)), (tw, .inl (t3, 2001, .inr (.inl f_3))), (bt, .inl (bk, 2000, .inl gt))]) [0, 1, 2, 3, 4] rfl
          have hD9 := hD.sub (ws' := [(h0, .inr (10, [.ref ts, .ref tp, .ref tw, .int z, .int pa, .int so, .int pl, .long wd])), (ts, .inl (t1, 2001, .inl f_32)), (tp, .inl (t2, 2001, .inl gp)), (tw, .inl (t3, 2001, .inr (.inl f_3))), (bt, .inl (bk, 2000, .inl gt))]) [0, 1, 2, 3, 4] (by decide) rfl
          have hK9 := hK.sub (tys' := [(t1, .int), (t2, .int), (t3, .long), (bk, .byte)]) [0, 1, 2, 3] rfl
          exact W.iret (v := x_33) hx hb hr (fun t ht hW => ⟨⟨x_33, (f_32, f_3), rfl, ⟨by omega, by omega⟩, by rw [ht]; exact hP9, va_K.moved hW.alike hK9, hD9⟩, hS.F ht⟩) hS.2.2 dX10_readSign_90
      · have ic_25 : x_24.toInt = 62 := zi_eq c_25
        refine lv_aload_n hx hb dX10_readSign_43 rfl (lv_at hl 1 rfl) ?_
        refine va_get (D := (dC, dI)) (ci := 10) (v := .ref ts) (C := RX10) (T := TX10) (N := 8) hx hb hA zin_X10 hown hK hP 0 rfl rfl 0 (by decide) (hA _ wi_346) (fun _ h9 => h9) rfl dX10_readSign_44 ?_
        refine lv_aload_n hx hb dX10_readSign_47 rfl (lv_at hl 1 rfl) ?_
        refine va_get (D := (dC, dI)) (ci := 10) (v := .int z) (C := RX10) (T := TX10) (N := 8) hx hb hA zin_X10 hown hK hP 0 rfl rfl 3 (by decide) (hA _ wi_349) (fun _ h9 => h9) rfl dX10_readSign_48 ?_
        refine lv_sipush (v := 261) hx hb dX10_readSign_51 (by decide) ?_
        refine va_iast hx hb hK hP hD hS 1 0 rfl rfl (vp_in_iff.mpr ⟨by omega, by omega⟩) dX10_readSign_54 (fun H locs hP hD hS => ?_)
        obtain ⟨f_34, ef_34⟩ : ∃ gz9 : Nat → Int32, gz9 = upd gs (Int32.toNatClampNeg z) 261 := ⟨_, rfl⟩
        rw [← ef_34] at hP hD
        have hP : va_P (dC, dI) vwCl [(h0, .inr (10, [.ref ts, .ref tp, .ref tw, .int z, .int pa, .int so, .int pl, .long wd])), (ts, .inl (t1, 2001, .inl f_34)), (tp, .inl (t2, 2001, .inl gp)), (tw, .inl (t3, 2001, .inr (.inl f_3))), (bt, .inl (bk, 2000, .inl gt))] H := hP
        have hD : va_D A [(h0, .inr (10, [.ref ts, .ref tp, .ref tw, .int z, .int pa, .int so, .int pl, .long wd])), (ts, .inl (t1, 2001, .inl f_34)), (tp, .inl (t2, 2001, .inl gp)), (tw, .inl (t3, 2001, .inr (.inl f_3))), (bt, .inl (bk, 2000, .inl gt))] := hD
        refine lv_iload_n hx hb dX10_readSign_55 rfl (lv_at hl 3 rfl) ?_
        refine lv_iconst (v := 2) hx hb dX10_readSign_56 (by decide) ?_
        refine lv_iadd hx hb dX10_readSign_57 ?_
        refine lv_topi (fun x_35 ex_35 => ?_)
        have ix_35 : x_35.toInt = fr.toInt + 2 := by rw [ex_35]; exact zi_addc (by decide) (by omega) (by omega)
        have hP9 := hP.sub (ws' := [(h0, .inr (10, [.ref ts, .ref tp, .ref tw, .int z, .int pa, .int so, .int pl, .long wd])), (ts, .inl (t1, 2001, .inl f_34)), (tp, .inl (t2, 2001, .inl gp)), (tw, .inl (t3, 2001, .inr (.inl f_3))), (bt, .inl (bk, 2000, .inl gt))]) [0, 1, 2, 3, 4] rfl
        have hD9 := hD.sub (ws' := [(h0, .inr (10, [.ref ts, .ref tp, .ref tw, .int z, .int pa, .int so, .int pl, .long wd])), (ts, .inl (t1, 2001, .inl f_34)), (tp, .inl (t2, 2001, .inl gp)), (tw, .inl (t3, 2001, .inr (.inl f_3))), (bt, .inl (bk, 2000, .inl gt))]) [0, 1, 2, 3, 4] (by decide) rfl
        have hK9 := hK.sub (tys' := [(t1, .int), (t2, .int), (t3, .long), (bk, .byte)]) [0, 1, 2, 3] rfl
        exact W.iret (v := x_35) hx hb hr (fun t ht hW => ⟨⟨x_35, (f_34, f_3), rfl, ⟨by omega, by omega⟩, by rw [ht]; exact hP9, va_K.moved hW.alike hK9, hD9⟩, hS.F ht⟩) hS.2.2 dX10_readSign_58
set_option maxHeartbeats 4000000 in
set_option maxRecDepth 100000 in
theorem c_X10_read (l : Launch) (dC : Nat → ClassId) (dI : Nat → Nat → Nat) (aK aV : Nat → Nat) (h0 : Nat) (ts : Nat) (tp : Nat) (tw : Nat) (t1 : ClassId) (t2 : ClassId) (t3 : ClassId) (z : Int32) (pa : Int32) (so : Int32) (pl : Int32) (wd : Int64) (gs : Nat → Int32) (gp : Nat → Int32) (gw : Nat → Int64) (bt : Nat) (bk : ClassId) (gt : Nat → Int32) (nn : Int32) (sz : Nat)  : Met l yX10_read (Cond.code yX10_read cX10_read 7 none :: zw) ({ frames := 18, cells := 0, slots := 0, locals := 700 }) (va_Pc [.ref h0, .ref bt, .int nn] (zP dC dI aK aV sz [(t1, .int), (t2, .int), (t3, .long), (bk, .byte)] [(h0, .inr (10, [.ref ts, .ref tp, .ref tw, .int z, .int pa, .int so, .int pl, .long wd])), (ts, .inl (t1, 2001, .inl gs)), (tp, .inl (t2, 2001, .inl gp)), (tw, .inl (t3, 2001, .inr (.inl gw))), (bt, .inl (bk, 2000, .inl gt))])) (va_Qv (fun u : Int32 × Int32 × Int32 × Int32 × Int64 × (Nat → Int32) × (Nat → Int32) × (Nat → Int64) => match u with | (z2, pa2, so2, pl2, wd2, gs2, gp2, gw2) => (0 ≤ z2.toInt) ∧ (z2.toInt ≤ 2000) ∧ (0 ≤ pa2.toInt) ∧ (pa2.toInt ≤ z2.toInt) ∧ (so2.toInt = 256 ∨ pa2.toInt < z2.toInt) ∧ (gs2 (Int32.toNatClampNeg z2) = 256)) (fun u => match u with | (z2, pa2, so2, pl2, wd2, gs2, gp2, gw2) => zQ dC dI (va_A [(h0, .inr (10, [.ref ts, .ref tp, .ref tw, .int z, .int pa, .int so, .int pl, .long wd])), (ts, .inl (t1, 2001, .inl gs)), (tp, .inl (t2, 2001, .inl gp)), (tw, .inl (t3, 2001, .inr (.inl gw))), (bt, .inl (bk, 2000, .inl gt))] sz) [(t1, .int), (t2, .int), (t3, .long), (bk, .byte)] [(h0, .inr (10, [.ref ts, .ref tp, .ref tw, .int z2, .int pa2, .int so2, .int pl2, .long wd2])), (ts, .inl (t1, 2001, .inl gs2)), (tp, .inl (t2, 2001, .inl gp2)), (tw, .inl (t3, 2001, .inr (.inl gw2))), (bt, .inl (bk, 2000, .inl gt))]) (va_A [(h0, .inr (10, [.ref ts, .ref tp, .ref tw, .int z, .int pa, .int so, .int pl, .long wd])), (ts, .inl (t1, 2001, .inl gs)), (tp, .inl (t2, 2001, .inl gp)), (tw, .inl (t3, 2001, .inr (.inl gw))), (bt, .inl (bk, 2000, .inl gt))] sz)) 0 0 (va_A [(h0, .inr (10, [.ref ts, .ref tp, .ref tw, .int z, .int pa, .int so, .int pl, .long wd])), (ts, .inl (t1, 2001, .inl gs)), (tp, .inl (t2, 2001, .inl gp)), (tw, .inl (t3, 2001, .inr (.inl gw))), (bt, .inl (bk, 2000, .inl gt))] sz) := by
  refine Met.ofW (cc := cX10_read) (maxL := 7) (ret := none) (by decide) rfl ?_
  intro p e s m args below meth c s₁ B hml hv
  obtain ⟨rfl, hsz, hP, hK, hD0, hN, hT⟩ := hv
  have hx := B.exec
  have hb := B.bytes
  have hr := B.returns
  have hts := atoms_spec (ws := Cond.code yX10_read cX10_read 7 none :: zw) B.pre
  have hA : ∀ w ∈ zw, w.before _ s = true := fun w h => hts w (List.mem_cons_of_mem _ h)
  have hown : s.vm.findClass RX10 = some m.cls := findClass_of_methodNamed B.named
  have hlocks := B.notSynchronized
  subst hsz
  have hD := hD0.self (sz := s.heap.size)
  generalize hAe : va_A [(h0, .inr (10, [.ref ts, .ref tp, .ref tw, .int z, .int pa, .int so, .int pl, .long wd])), (ts, .inl (t1, 2001, .inl gs)), (tp, .inl (t2, 2001, .inl gp)), (tw, .inl (t3, 2001, .inr (.inl gw))), (bt, .inl (bk, 2000, .inl gt))] s.heap.size = A at hD hT ⊢
  have hAA : ∀ q : Nat, s.heap.size ≤ q → A q := fun q h => by rw [← hAe]; exact Or.inr h
  have hS : va_S A s.heap s.heap [] := va_S.rf
  have hl := lv_entry ([.ref h0, .ref bt, .int nn]) (n := 7) (Nat.le_of_ble_eq_true rfl)
  rw [lg_entry_eq]
  generalize (lg_sl ([.ref h0, .ref bt, .int nn]) ++ List.replicate (7 - (lg_sl ([.ref h0, .ref bt, .int nn])).length) Slot.unset).toArray = ls at hl ⊢
  have hl : lv_has ls 7 [(0, .ref h0), (1, .ref bt), (2, .int nn)] := hl
  refine lv_iconst (v := 0) hx hb dX10_read_0 (by decide) ?_
  refine lv_iload_n hx hb dX10_read_1 rfl (lv_at hl 2 rfl) ?_
  refine lv_sipush (v := 2000) hx hb dX10_read_2 (by decide) ?_
  refine va_mmin hx hb (by rw [hml]; exact hl.1.symm) hown (hA _ wi_657) (hA _ wi_658) (hA _ wi_141) (hA _ wi_659) (Nat.le_of_ble_eq_true rfl) (Nat.le_of_ble_eq_true rfl) (Nat.le_of_ble_eq_true rfl) (Nat.le_of_ble_eq_true rfl) dX10_read_5 ?_
  refine lv_topi (fun x_1 ex_1 => ?_)
  have ix_1 : x_1.toInt ≤ nn.toInt ∧ x_1.toInt ≤ 2000 ∧ (x_1.toInt = nn.toInt ∨ x_1.toInt = 2000) := zi_min ex_1 rfl (by decide)
  refine va_mmax hx hb (by rw [hml]; exact hl.1.symm) hown (hA _ wi_660) (hA _ wi_431) (hA _ wi_141) (hA _ wi_432) (Nat.le_of_ble_eq_true rfl) (Nat.le_of_ble_eq_true rfl) (Nat.le_of_ble_eq_true rfl) (Nat.le_of_ble_eq_true rfl) dX10_read_8 ?_
  refine lv_topi (fun x_2 ex_2 => ?_)
  have ix_2 : x_2.toInt ≥ 0 ∧ x_2.toInt ≥ x_1.toInt ∧ (x_2.toInt = 0 ∨ x_2.toInt = x_1.toInt) := zi_max ex_2 (by decide) rfl
  refine lv_istore_n (lv' := [(3, .int x_2), (0, .ref h0), (1, .ref bt), (2, .int nn)]) hx hb dX10_read_11 rfl hl (by decide) rfl (fun ls hl => ?_)
  refine lv_iconst (v := 0) hx hb dX10_read_12 (by decide) ?_
  refine lv_istore (lv' := [(4, .int 0), (3, .int x_2), (0, .ref h0), (1, .ref bt), (2, .int nn)]) hx hb dX10_read_13 hl (by decide) rfl (fun ls hl => ?_)
  refine lv_aload_n hx hb dX10_read_15 rfl (lv_at hl 2 rfl) ?_
  refine lv_iconst (v := 0) hx hb dX10_read_16 (by decide) ?_
  refine va_put (D := (dC, dI)) (ci := 10) (v := .int 0) (ty := .int) (C := RX10) (T := TX10) (N := 8) hx hb hA zin_X10 tyX10 tyX10_ok nmX10 hown hK hP hD hS 0 rfl rfl 3 (by decide) (hA _ wi_349) (fun _ h9 => h9) rfl (by decide +kernel) rfl rfl (Nat.le_of_ble_eq_true rfl) dX10_read_17 (fun H locs hP hD hS => ?_)
  have hP : va_P (dC, dI) vwCl [(h0, .inr (10, [.ref ts, .ref tp, .ref tw, .int 0, .int pa, .int so, .int pl, .long wd])), (ts, .inl (t1, 2001, .inl gs)), (tp, .inl (t2, 2001, .inl gp)), (tw, .inl (t3, 2001, .inr (.inl gw))), (bt, .inl (bk, 2000, .inl gt))] H := hP
  have hD : va_D A [(h0, .inr (10, [.ref ts, .ref tp, .ref tw, .int 0, .int pa, .int so, .int pl, .long wd])), (ts, .inl (t1, 2001, .inl gs)), (tp, .inl (t2, 2001, .inl gp)), (tw, .inl (t3, 2001, .inr (.inl gw))), (bt, .inl (bk, 2000, .inl gt))] := hD
  refine lv_iconst (v := 0) hx hb dX10_read_20 (by decide) ?_
  refine lv_istore (lv' := [(5, .int 0), (4, .int 0), (3, .int x_2), (0, .ref h0), (1, .ref bt), (2, .int nn)]) hx hb dX10_read_21 hl (by decide) rfl (fun ls hl => ?_)
  have loop_23 : ∀ (n9 : Nat) (fr : Int32) (i : Int32) (lz : Int32) (ls_ : Nat → Int32) (lp : Nat → Int32) (lw : Nat → Int64) (H : Heap) (locs : List Loc) (ls : Array Slot), (2000 - i.toInt + 1).toNat ≤ n9 → 0 ≤ fr.toInt → fr.toInt ≤ 2000 → 0 ≤ i.toInt → i.toInt ≤ 2000 → 0 ≤ lz.toInt → lz.toInt ≤ i.toInt → va_P (dC, dI) vwCl [(h0, .inr (10, [.ref ts, .ref tp, .ref tw, .int lz, .int pa, .int so, .int pl, .long wd])), (ts, .inl (t1, 2001, .inl ls_)), (tp, .inl (t2, 2001, .inl lp)), (tw, .inl (t3, 2001, .inr (.inl lw))), (bt, .inl (bk, 2000, .inl gt))] H → va_D A [(h0, .inr (10, [.ref ts, .ref tp, .ref tw, .int lz, .int pa, .int so, .int pl, .long wd])), (ts, .inl (t1, 2001, .inl ls_)), (tp, .inl (t2, 2001, .inl lp)), (tw, .inl (t3, 2001, .inr (.inl lw))), (bt, .inl (bk, 2000, .inl gt))] → va_S A s.heap H locs → lv_has ls 7 [(5, .int i), (4, .int fr), (3, .int x_2), (0, .ref h0), (1, .ref bt), (2, .int nn)] → W p l e (headSpec (Cond.code yX10_read cX10_read 7 none :: zw) ({ frames := 18, cells := 0, slots := 0, locals := 700 })).room s m #[.ref h0, .ref bt, .int nn] below meth c H locs 0 0 (MQ below (va_Qv (fun u : Int32 × Int32 × Int32 × Int32 × Int64 × (Nat → Int32) × (Nat → Int32) × (Nat → Int64) => match u with | (z2, pa2, so2, pl2, wd2, gs2, gp2, gw2) => (0 ≤ z2.toInt) ∧ (z2.toInt ≤ 2000) ∧ (0 ≤ pa2.toInt) ∧ (pa2.toInt ≤ z2.toInt) ∧ (so2.toInt = 256 ∨ pa2.toInt < z2.toInt) ∧ (gs2 (Int32.toNatClampNeg z2) = 256)) (fun u => match u with | (z2, pa2, so2, pl2, wd2, gs2, gp2, gw2) => zQ dC dI A [(t1, .int), (t2, .int), (t3, .long), (bk, .byte)] [(h0, .inr (10, [.ref ts, .ref tp, .ref tw, .int z2, .int pa2, .int so2, .int pl2, .long wd2])), (ts, .inl (t1, 2001, .inl gs2)), (tp, .inl (t2, 2001, .inl gp2)), (tw, .inl (t3, 2001, .inr (.inl gw2))), (bt, .inl (bk, 2000, .inl gt))]) A) #[.ref h0, .ref bt, .int nn] s 0 0 A) (F0 m 23 ls []) := by
    intro n9
    induction n9 with
    | zero => intro fr i lz ls_ lp lw H locs ls hm hf0 hf1 hi0 hi1 hz0 hz1; exfalso; omega
    | succ n9 ih =>
      intro fr i lz ls_ lp lw H locs ls hm hf0 hf1 hi0 hi1 hz0 hz1 hP hD hS hl
      refine lv_iload hx hb dX10_read_23 (lv_at hl 0 rfl) ?_
      refine lv_iload_n hx hb dX10_read_25 rfl (lv_at hl 2 rfl) ?_
      refine lv_icmp_ge (tgt := 121) hx hb dX10_read_26 (by decide) (fun c_3 => ?_) (fun c_3 => ?_)
      · have ic_3 : x_2.toInt ≤ i.toInt := zi_le c_3
        refine lv_aload_n hx hb dX10_read_121 rfl (lv_at hl 3 rfl) ?_
        refine va_get (D := (dC, dI)) (ci := 10) (v := .ref ts) (C := RX10) (T := TX10) (N := 8) hx hb hA zin_X10 hown hK hP 0 rfl rfl 0 (by decide) (hA _ wi_346) (fun _ h9 => h9) rfl dX10_read_122 ?_
        refine lv_aload_n hx hb dX10_read_125 rfl (lv_at hl 3 rfl) ?_
        refine va_get (D := (dC, dI)) (ci := 10) (v := .int lz) (C := RX10) (T := TX10) (N := 8) hx hb hA zin_X10 hown hK hP 0 rfl rfl 3 (by decide) (hA _ wi_349) (fun _ h9 => h9) rfl dX10_read_126 ?_
        refine lv_sipush (v := 256) hx hb dX10_read_129 (by decide) ?_
        refine va_iast hx hb hK hP hD hS 1 0 rfl rfl (vp_in_iff.mpr ⟨by omega, by omega⟩) dX10_read_132 (fun H locs hP hD hS => ?_)
        obtain ⟨f_4, ef_4⟩ : ∃ gz9 : Nat → Int32, gz9 = upd ls_ (Int32.toNatClampNeg lz) 256 := ⟨_, rfl⟩
        rw [← ef_4] at hP hD
        have hP : va_P (dC, dI) vwCl [(h0, .inr (10, [.ref ts, .ref tp, .ref tw, .int lz, .int pa, .int so, .int pl, .long wd])), (ts, .inl (t1, 2001, .inl f_4)), (tp, .inl (t2, 2001, .inl lp)), (tw, .inl (t3, 2001, .inr (.inl lw))), (bt, .inl (bk, 2000, .inl gt))] H := hP
        have hD : va_D A [(h0, .inr (10, [.ref ts, .ref tp, .ref tw, .int lz, .int pa, .int so, .int pl, .long wd])), (ts, .inl (t1, 2001, .inl f_4)), (tp, .inl (t2, 2001, .inl lp)), (tw, .inl (t3, 2001, .inr (.inl lw))), (bt, .inl (bk, 2000, .inl gt))] := hD
        have hgz_5 : f_4 (Int32.toNatClampNeg lz) = 256 := by rw [ef_4]; exact pk_us
        refine lv_aload_n hx hb dX10_read_133 rfl (lv_at hl 3 rfl) ?_
        refine va_get (D := (dC, dI)) (ci := 10) (v := .ref tp) (C := RX10) (T := TX10) (N := 8) hx hb hA zin_X10 hown hK hP 0 rfl rfl 1 (by decide) (hA _ wi_347) (fun _ h9 => h9) rfl dX10_read_134 ?_
        refine lv_aload_n hx hb dX10_read_137 rfl (lv_at hl 3 rfl) ?_
        refine va_get (D := (dC, dI)) (ci := 10) (v := .int lz) (C := RX10) (T := TX10) (N := 8) hx hb hA zin_X10 hown hK hP 0 rfl rfl 3 (by decide) (hA _ wi_349) (fun _ h9 => h9) rfl dX10_read_138 ?_
        refine lv_iload_n hx hb dX10_read_141 rfl (lv_at hl 2 rfl) ?_
        refine va_iast hx hb hK hP hD hS 2 1 rfl rfl (vp_in_iff.mpr ⟨by omega, by omega⟩) dX10_read_142 (fun H locs hP hD hS => ?_)
        obtain ⟨f_6, ef_6⟩ : ∃ gz9 : Nat → Int32, gz9 = upd lp (Int32.toNatClampNeg lz) x_2 := ⟨_, rfl⟩
        rw [← ef_6] at hP hD
        have hP : va_P (dC, dI) vwCl [(h0, .inr (10, [.ref ts, .ref tp, .ref tw, .int lz, .int pa, .int so, .int pl, .long wd])), (ts, .inl (t1, 2001, .inl f_4)), (tp, .inl (t2, 2001, .inl f_6)), (tw, .inl (t3, 2001, .inr (.inl lw))), (bt, .inl (bk, 2000, .inl gt))] H := hP
        have hD : va_D A [(h0, .inr (10, [.ref ts, .ref tp, .ref tw, .int lz, .int pa, .int so, .int pl, .long wd])), (ts, .inl (t1, 2001, .inl f_4)), (tp, .inl (t2, 2001, .inl f_6)), (tw, .inl (t3, 2001, .inr (.inl lw))), (bt, .inl (bk, 2000, .inl gt))] := hD
        refine lv_aload_n hx hb dX10_read_143 rfl (lv_at hl 3 rfl) ?_
        refine va_get (D := (dC, dI)) (ci := 10) (v := .ref tw) (C := RX10) (T := TX10) (N := 8) hx hb hA zin_X10 hown hK hP 0 rfl rfl 2 (by decide) (hA _ wi_348) (fun _ h9 => h9) rfl dX10_read_144 ?_
        refine lv_aload_n hx hb dX10_read_147 rfl (lv_at hl 3 rfl) ?_
        refine va_get (D := (dC, dI)) (ci := 10) (v := .int lz) (C := RX10) (T := TX10) (N := 8) hx hb hA zin_X10 hown hK hP 0 rfl rfl 3 (by decide) (hA _ wi_349) (fun _ h9 => h9) rfl dX10_read_148 ?_
        refine lv_lconst (v := 0) hx hb dX10_read_151 (by decide) ?_
        refine va_last hx hb hK hP hD hS 3 2 rfl rfl (vp_in_iff.mpr ⟨by omega, by omega⟩) dX10_read_152 (fun H locs hP hD hS => ?_)
        obtain ⟨f_7, ef_7⟩ : ∃ gz9 : Nat → Int64, gz9 = vp_updL lw (Int32.toNatClampNeg lz) 0 := ⟨_, rfl⟩
        rw [← ef_7] at hP hD
        have hP : va_P (dC, dI) vwCl [(h0, .inr (10, [.ref ts, .ref tp, .ref tw, .int lz, .int pa, .int so, .int pl, .long wd])), (ts, .inl (t1, 2001, .inl f_4)), (tp, .inl (t2, 2001, .inl f_6)), (tw, .inl (t3, 2001, .inr (.inl f_7))), (bt, .inl (bk, 2000, .inl gt))] H := hP
        have hD : va_D A [(h0, .inr (10, [.ref ts, .ref tp, .ref tw, .int lz, .int pa, .int so, .int pl, .long wd])), (ts, .inl (t1, 2001, .inl f_4)), (tp, .inl (t2, 2001, .inl f_6)), (tw, .inl (t3, 2001, .inr (.inl f_7))), (bt, .inl (bk, 2000, .inl gt))] := hD
        refine lv_aload_n hx hb dX10_read_153 rfl (lv_at hl 3 rfl) ?_
        refine lv_iconst (v := (-1)) hx hb dX10_read_154 (by decide) ?_
        refine va_put (D := (dC, dI)) (ci := 10) (v := .int (-1)) (ty := .int) (C := RX10) (T := TX10) (N := 8) hx hb hA zin_X10 tyX10 tyX10_ok nmX10 hown hK hP hD hS 0 rfl rfl 4 (by decide) (hA _ wi_350) (fun _ h9 => h9) rfl (by decide +kernel) rfl rfl (Nat.le_of_ble_eq_true rfl) dX10_read_155 (fun H locs hP hD hS => ?_)
        have hP : va_P (dC, dI) vwCl [(h0, .inr (10, [.ref ts, .ref tp, .ref tw, .int lz, .int (-1), .int so, .int pl, .long wd])), (ts, .inl (t1, 2001, .inl f_4)), (tp, .inl (t2, 2001, .inl f_6)), (tw, .inl (t3, 2001, .inr (.inl f_7))), (bt, .inl (bk, 2000, .inl gt))] H := hP
        have hD : va_D A [(h0, .inr (10, [.ref ts, .ref tp, .ref tw, .int lz, .int (-1), .int so, .int pl, .long wd])), (ts, .inl (t1, 2001, .inl f_4)), (tp, .inl (t2, 2001, .inl f_6)), (tw, .inl (t3, 2001, .inr (.inl f_7))), (bt, .inl (bk, 2000, .inl gt))] := hD
        refine lv_aload_n hx hb dX10_read_158 rfl (lv_at hl 3 rfl) ?_
        have hPc := hP.sub (ws' := [(h0, .inr (10, [.ref ts, .ref tp, .ref tw, .int lz, .int (-1), .int so, .int pl, .long wd])), (ts, .inl (t1, 2001, .inl f_4)), (tp, .inl (t2, 2001, .inl f_6)), (tw, .inl (t3, 2001, .inr (.inl f_7)))]) [0, 1, 2, 3] rfl
        have hDc := hD.sub (ws' := [(h0, .inr (10, [.ref ts, .ref tp, .ref tw, .int lz, .int (-1), .int so, .int pl, .long wd])), (ts, .inl (t1, 2001, .inl f_4)), (tp, .inl (t2, 2001, .inl f_6)), (tw, .inl (t3, 2001, .inr (.inl f_7)))]) [0, 1, 2, 3] (by decide) rfl
        have hKc := hK.sub (tys' := [(t1, .int), (t2, .int), (t3, .long)]) [0, 1, 2] rfl
        have hFc := va_free (wc := [(h0, .inr (10, [.ref ts, .ref tp, .ref tw, .int lz, .int (-1), .int so, .int pl, .long wd])), (ts, .inl (t1, 2001, .inl f_4)), (tp, .inl (t2, 2001, .inl f_6)), (tw, .inl (t3, 2001, .inr (.inl f_7)))]) hD hS hAA [0, 1, 2, 3] rfl
        refine va_callv (va_runV (As := []) (rest := []) ⟨hx, hb, hml, hown, hA⟩ (c_X10_advance l dC dI aK aV h0 ts tp tw t1 t2 t3 lz (-1) so pl wd f_4 f_6 f_7 H.size (by omega) (by omega) (by have h9_0 : Int32.toInt (-1) = (-1) := (by decide); omega) (by have h9_0 : Int32.toInt (-1) = (-1) := (by decide); omega) hgz_5) (cwV 0 hA (zw_V wi_774 wi_775 wi_776 wi_137 (zw_good wi_777)) rfl rfl rfl (by decide +kernel) ⟨(Nat.le_of_ble_eq_true rfl), (Nat.le_of_ble_eq_true rfl)⟩) ⟨zP_blind, va_recv hKc hPc (ci := 10) (q0 := 0) rfl rfl, zz_pre hKc hPc hDc hN hT hS hFc⟩ rfl rfl hl.1 rfl (lv_room (Nat.le_of_ble_eq_true rfl)) dX10_read_159 ⟨(Nat.le_of_ble_eq_true rfl), (Nat.le_of_ble_eq_true rfl)⟩) hS (fun q _ h => hFc q h) hFc (fun u t H1 locs ht hvm hw hB hz1 hk1 hS => ?_)
        obtain ⟨pa_9, so_10, pl_11, wd_12⟩ := u
        obtain ⟨hP1, hK1, hD1⟩ := hB
        rw [ht] at hP1
        have hK1 := va_K.moved hvm.symm hK1
        obtain ⟨hP, hD⟩ := va_join (wr := [(bt, .inl (bk, 2000, .inl gt))]) (w1 := [(h0, .inr (10, [.ref ts, .ref tp, .ref tw, .int lz, .int pa_9, .int so_10, .int pl_11, .long wd_12])), (ts, .inl (t1, 2001, .inl f_4)), (tp, .inl (t2, 2001, .inl f_6)), (tw, .inl (t3, 2001, .inr (.inl f_7)))]) hP hD [0, 1, 2, 3] [4] rfl rfl (by decide) (by decide) hk1 hFc hP1 hD1
        have hK := (hK.sub (tys' := [(bk, .byte)]) [3] rfl).app hK1
        generalize H1 = H at hP hS ⊢
        have hP : va_P (dC, dI) vwCl [(bt, .inl (bk, 2000, .inl gt)), (h0, .inr (10, [.ref ts, .ref tp, .ref tw, .int lz, .int pa_9, .int so_10, .int pl_11, .long wd_12])), (ts, .inl (t1, 2001, .inl f_4)), (tp, .inl (t2, 2001, .inl f_6)), (tw, .inl (t3, 2001, .inr (.inl f_7)))] H := hP
        have hD : va_D A [(bt, .inl (bk, 2000, .inl gt)), (h0, .inr (10, [.ref ts, .ref tp, .ref tw, .int lz, .int pa_9, .int so_10, .int pl_11, .long wd_12])), (ts, .inl (t1, 2001, .inl f_4)), (tp, .inl (t2, 2001, .inl f_6)), (tw, .inl (t3, 2001, .inr (.inl f_7)))] := hD
        have hK : va_K (dC, dI) vwCl [(bk, .byte), (t1, .int), (t2, .int), (t3, .long)] s := hK
        obtain ⟨hq_13, hq_14, hq_15, hq_16, hq_17⟩ := hw
        have hP9 := hP.sub (ws' := [(h0, .inr (10, [.ref ts, .ref tp, .ref tw, .int lz, .int pa_9, .int so_10, .int pl_11, .long wd_12])), (ts, .inl (t1, 2001, .inl f_4)), (tp, .inl (t2, 2001, .inl f_6)), (tw, .inl (t3, 2001, .inr (.inl f_7))), (bt, .inl (bk, 2000, .inl gt))]) [1, 2, 3, 4, 0] rfl
        have hD9 := hD.sub (ws' := [(h0, .inr (10, [.ref ts, .ref tp, .ref tw, .int lz, .int pa_9, .int so_10, .int pl_11, .long wd_12])), (ts, .inl (t1, 2001, .inl f_4)), (tp, .inl (t2, 2001, .inl f_6)), (tw, .inl (t3, 2001, .inr (.inl f_7))), (bt, .inl (bk, 2000, .inl gt))]) [1, 2, 3, 4, 0] (by decide) rfl
        have hK9 := hK.sub (tys' := [(t1, .int), (t2, .int), (t3, .long), (bk, .byte)]) [1, 2, 3, 0] rfl
        exact W.vret hx hb hr (fun t ht hW => ⟨⟨(lz, pa_9, so_10, pl_11, wd_12, f_4, f_6, f_7), rfl, ⟨by omega, by omega, by omega, by omega, by omega, hgz_5⟩, by rw [ht]; exact hP9, va_K.moved hW.alike hK9, hD9⟩, hS.F ht⟩) hS.2.2 dX10_read_162
      · have ic_3 : i.toInt < x_2.toInt := zi_nle c_3
        refine lv_iload hx hb dX10_read_29 (lv_at hl 1 rfl) ?_
        refine lv_iload_n hx hb dX10_read_31 rfl (lv_at hl 2 rfl) ?_
        refine lv_icmp_ge (tgt := 121) hx hb dX10_read_32 (by decide) (fun c_18 => ?_) (fun c_18 => ?_)
        · have ic_18 : x_2.toInt ≤ fr.toInt := zi_le c_18
          refine lv_aload_n hx hb dX10_read_121 rfl (lv_at hl 3 rfl) ?_
          refine va_get (D := (dC, dI)) (ci := 10) (v := .ref ts) (C := RX10) (T := TX10) (N := 8) hx hb hA zin_X10 hown hK hP 0 rfl rfl 0 (by decide) (hA _ wi_346) (fun _ h9 => h9) rfl dX10_read_122 ?_
          refine lv_aload_n hx hb dX10_read_125 rfl (lv_at hl 3 rfl) ?_
          refine va_get (D := (dC, dI)) (ci := 10) (v := .int lz) (C := RX10) (T := TX10) (N := 8) hx hb hA zin_X10 hown hK hP 0 rfl rfl 3 (by decide) (hA _ wi_349) (fun _ h9 => h9) rfl dX10_read_126 ?_
          refine lv_sipush (v := 256) hx hb dX10_read_129 (by decide) ?_
          refine va_iast hx hb hK hP hD hS 1 0 rfl rfl (vp_in_iff.mpr ⟨by omega, by omega⟩) dX10_read_132 (fun H locs hP hD hS => ?_)
          obtain ⟨f_19, ef_19⟩ : ∃ gz9 : Nat → Int32, gz9 = upd ls_ (Int32.toNatClampNeg lz) 256 := ⟨_, rfl⟩
          rw [← ef_19] at hP hD
          have hP : va_P (dC, dI) vwCl [(h0, .inr (10, [.ref ts, .ref tp, .ref tw, .int lz, .int pa, .int so, .int pl, .long wd])), (ts, .inl (t1, 2001, .inl f_19)), (tp, .inl (t2, 2001, .inl lp)), (tw, .inl (t3, 2001, .inr (.inl lw))), (bt, .inl (bk, 2000, .inl gt))] H := hP
          have hD : va_D A [(h0, .inr (10, [.ref ts, .ref tp, .ref tw, .int lz, .int pa, .int so, .int pl, .long wd])), (ts, .inl (t1, 2001, .inl f_19)), (tp, .inl (t2, 2001, .inl lp)), (tw, .inl (t3, 2001, .inr (.inl lw))), (bt, .inl (bk, 2000, .inl gt))] := hD
          have hgz_20 : f_19 (Int32.toNatClampNeg lz) = 256 := by rw [ef_19]; exact pk_us
          refine lv_aload_n hx hb dX10_read_133 rfl (lv_at hl 3 rfl) ?_
          refine va_get (D := (dC, dI)) (ci := 10) (v := .ref tp) (C := RX10) (T := TX10) (N := 8) hx hb hA zin_X10 hown hK hP 0 rfl rfl 1 (by decide) (hA _ wi_347) (fun _ h9 => h9) rfl dX10_read_134 ?_
          refine lv_aload_n hx hb dX10_read_137 rfl (lv_at hl 3 rfl) ?_
          refine va_get (D := (dC, dI)) (ci := 10) (v := .int lz) (C := RX10) (T := TX10) (N := 8) hx hb hA zin_X10 hown hK hP 0 rfl rfl 3 (by decide) (hA _ wi_349) (fun _ h9 => h9) rfl dX10_read_138 ?_
          refine lv_iload_n hx hb dX10_read_141 rfl (lv_at hl 2 rfl) ?_
          refine va_iast hx hb hK hP hD hS 2 1 rfl rfl (vp_in_iff.mpr ⟨by omega, by omega⟩) dX10_read_142 (fun H locs hP hD hS => ?_)
          obtain ⟨f_21, ef_21⟩ : ∃ gz9 : Nat → Int32, gz9 = upd lp (Int32.toNatClampNeg lz) x_2 := ⟨_, rfl⟩
          rw [← ef_21] at hP hD
          have hP : va_P (dC, dI) vwCl [(h0, .inr (10, [.ref ts, .ref tp, .ref tw, .int lz, .int pa, .int so, .int pl, .long wd])), (ts, .inl (t1, 2001, .inl f_19)), (tp, .inl (t2, 2001, .inl f_21)), (tw, .inl (t3, 2001, .inr (.inl lw))), (bt, .inl (bk, 2000, .inl gt))] H := hP
          have hD : va_D A [(h0, .inr (10, [.ref ts, .ref tp, .ref tw, .int lz, .int pa, .int so, .int pl, .long wd])), (ts, .inl (t1, 2001, .inl f_19)), (tp, .inl (t2, 2001, .inl f_21)), (tw, .inl (t3, 2001, .inr (.inl lw))), (bt, .inl (bk, 2000, .inl gt))] := hD
          refine lv_aload_n hx hb dX10_read_143 rfl (lv_at hl 3 rfl) ?_
          refine va_get (D := (dC, dI)) (ci := 10) (v := .ref tw) (C := RX10) (T := TX10) (N := 8) hx hb hA zin_X10 hown hK hP 0 rfl rfl 2 (by decide) (hA _ wi_348) (fun _ h9 => h9) rfl dX10_read_144 ?_
          refine lv_aload_n hx hb dX10_read_147 rfl (lv_at hl 3 rfl) ?_
          refine va_get (D := (dC, dI)) (ci := 10) (v := .int lz) (C := RX10) (T := TX10) (N := 8) hx hb hA zin_X10 hown hK hP 0 rfl rfl 3 (by decide) (hA _ wi_349) (fun _ h9 => h9) rfl dX10_read_148 ?_
          refine lv_lconst (v := 0) hx hb dX10_read_151 (by decide) ?_
          refine va_last hx hb hK hP hD hS 3 2 rfl rfl (vp_in_iff.mpr ⟨by omega, by omega⟩) dX10_read_152 (fun H locs hP hD hS => ?_)
          obtain ⟨f_22, ef_22⟩ : ∃ gz9 : Nat → Int64, gz9 = vp_updL lw (Int32.toNatClampNeg lz) 0 := ⟨_, rfl⟩
          rw [← ef_22] at hP hD
          have hP : va_P (dC, dI) vwCl [(h0, .inr (10, [.ref ts, .ref tp, .ref tw, .int lz, .int pa, .int so, .int pl, .long wd])), (ts, .inl (t1, 2001, .inl f_19)), (tp, .inl (t2, 2001, .inl f_21)), (tw, .inl (t3, 2001, .inr (.inl f_22))), (bt, .inl (bk, 2000, .inl gt))] H := hP
          have hD : va_D A [(h0, .inr (10, [.ref ts, .ref tp, .ref tw, .int lz, .int pa, .int so, .int pl, .long wd])), (ts, .inl (t1, 2001, .inl f_19)), (tp, .inl (t2, 2001, .inl f_21)), (tw, .inl (t3, 2001, .inr (.inl f_22))), (bt, .inl (bk, 2000, .inl gt))] := hD
          refine lv_aload_n hx hb dX10_read_153 rfl (lv_at hl 3 rfl) ?_
          refine lv_iconst (v := (-1)) hx hb dX10_read_154 (by decide) ?_
          refine va_put (D := (dC, dI)) (ci := 10) (v := .int (-1)) (ty := .int) (C := RX10) (T := TX10) (N := 8) hx hb hA zin_X10 tyX10 tyX10_ok nmX10 hown hK hP hD hS 0 rfl rfl 4 (by decide) (hA _ wi_350) (fun _ h9 => h9) rfl (by decide +kernel) rfl rfl (Nat.le_of_ble_eq_true rfl) dX10_read_155 (fun H locs hP hD hS => ?_)
          have hP : va_P (dC, dI) vwCl [(h0, .inr (10, [.ref ts, .ref tp, .ref tw, .int lz, .int (-1), .int so, .int pl, .long wd])), (ts, .inl (t1, 2001, .inl f_19)), (tp, .inl (t2, 2001, .inl f_21)), (tw, .inl (t3, 2001, .inr (.inl f_22))), (bt, .inl (bk, 2000, .inl gt))] H := hP
          have hD : va_D A [(h0, .inr (10, [.ref ts, .ref tp, .ref tw, .int lz, .int (-1), .int so, .int pl, .long wd])), (ts, .inl (t1, 2001, .inl f_19)), (tp, .inl (t2, 2001, .inl f_21)), (tw, .inl (t3, 2001, .inr (.inl f_22))), (bt, .inl (bk, 2000, .inl gt))] := hD
          refine lv_aload_n hx hb dX10_read_158 rfl (lv_at hl 3 rfl) ?_
          have hPc := hP.sub (ws' := [(h0, .inr (10, [.ref ts, .ref tp, .ref tw, .int lz, .int (-1), .int so, .int pl, .long wd])), (ts, .inl (t1, 2001, .inl f_19)), (tp, .inl (t2, 2001, .inl f_21)), (tw, .inl (t3, 2001, .inr (.inl f_22)))]) [0, 1, 2, 3] rfl
          have hDc := hD.sub (ws' := [(h0, .inr (10, [.ref ts, .ref tp, .ref tw, .int lz, .int (-1), .int so, .int pl, .long wd])), (ts, .inl (t1, 2001, .inl f_19)), (tp, .inl (t2, 2001, .inl f_21)), (tw, .inl (t3, 2001, .inr (.inl f_22)))]) [0, 1, 2, 3] (by decide) rfl
          have hKc := hK.sub (tys' := [(t1, .int), (t2, .int), (t3, .long)]) [0, 1, 2] rfl
          have hFc := va_free (wc := [(h0, .inr (10, [.ref ts, .ref tp, .ref tw, .int lz, .int (-1), .int so, .int pl, .long wd])), (ts, .inl (t1, 2001, .inl f_19)), (tp, .inl (t2, 2001, .inl f_21)), (tw, .inl (t3, 2001, .inr (.inl f_22)))]) hD hS hAA [0, 1, 2, 3] rfl
          refine va_callv (va_runV (As := []) (rest := []) ⟨hx, hb, hml, hown, hA⟩ (c_X10_advance l dC dI aK aV h0 ts tp tw t1 t2 t3 lz (-1) so pl wd f_19 f_21 f_22 H.size (by omega) (by omega) (by have h9_0 : Int32.toInt (-1) = (-1) := (by decide); omega) (by have h9_0 : Int32.toInt (-1) = (-1) := (by decide); omega) hgz_20) (cwV 0 hA (zw_V wi_774 wi_775 wi_776 wi_137 (zw_good wi_777)) rfl rfl rfl (by decide +kernel) ⟨(Nat.le_of_ble_eq_true rfl), (Nat.le_of_ble_eq_true rfl)⟩) ⟨zP_blind, va_recv hKc hPc (ci := 10) (q0 := 0) rfl rfl, zz_pre hKc hPc hDc hN hT hS hFc⟩ rfl rfl hl.1 rfl (lv_room (Nat.le_of_ble_eq_true rfl)) dX10_read_159 ⟨(Nat.le_of_ble_eq_true rfl), (Nat.le_of_ble_eq_true rfl)⟩) hS (fun q _ h => hFc q h) hFc (fun u t H1 locs ht hvm hw hB hz1 hk1 hS => ?_)
          obtain ⟨pa_24, so_25, pl_26, wd_27⟩ := u
          obtain ⟨hP1, hK1, hD1⟩ := hB
          rw [ht] at hP1
          have hK1 := va_K.moved hvm.symm hK1
          obtain ⟨hP, hD⟩ := va_join (wr := [(bt, .inl (bk, 2000, .inl gt))]) (w1 := [(h0, .inr (10, [.ref ts, .ref tp, .ref tw, .int lz, .int pa_24, .int so_25, .int pl_26, .long wd_27])), (ts, .inl (t1, 2001, .inl f_19)), (tp, .inl (t2, 2001, .inl f_21)), (tw, .inl (t3, 2001, .inr (.inl f_22)))]) hP hD [0, 1, 2, 3] [4] rfl rfl (by decide) (by decide) hk1 hFc hP1 hD1
          have hK := (hK.sub (tys' := [(bk, .byte)]) [3] rfl).app hK1
          generalize H1 = H at hP hS ⊢
          have hP : va_P (dC, dI) vwCl [(bt, .inl (bk, 2000, .inl gt)), (h0, .inr (10, [.ref ts, .ref tp, .ref tw, .int lz, .int pa_24, .int so_25, .int pl_26, .long wd_27])), (ts, .inl (t1, 2001, .inl f_19)), (tp, .inl (t2, 2001, .inl f_21)), (tw, .inl (t3, 2001, .inr (.inl f_22)))] H := hP
          have hD : va_D A [(bt, .inl (bk, 2000, .inl gt)), (h0, .inr (10, [.ref ts, .ref tp, .ref tw, .int lz, .int pa_24, .int so_25, .int pl_26, .long wd_27])), (ts, .inl (t1, 2001, .inl f_19)), (tp, .inl (t2, 2001, .inl f_21)), (tw, .inl (t3, 2001, .inr (.inl f_22)))] := hD
          have hK : va_K (dC, dI) vwCl [(bk, .byte), (t1, .int), (t2, .int), (t3, .long)] s := hK
          obtain ⟨hq_28, hq_29, hq_30, hq_31, hq_32⟩ := hw
          have hP9 := hP.sub (ws' := [(h0, .inr (10, [.ref ts, .ref tp, .ref tw, .int lz, .int pa_24, .int so_25, .int pl_26, .long wd_27])), (ts, .inl (t1, 2001, .inl f_19)), (tp, .inl (t2, 2001, .inl f_21)), (tw, .inl (t3, 2001, .inr (.inl f_22))), (bt, .inl (bk, 2000, .inl gt))]) [1, 2, 3, 4, 0] rfl
          have hD9 := hD.sub (ws' := [(h0, .inr (10, [.ref ts, .ref tp, .ref tw, .int lz, .int pa_24, .int so_25, .int pl_26, .long wd_27])), (ts, .inl (t1, 2001, .inl f_19)), (tp, .inl (t2, 2001, .inl f_21)), (tw, .inl (t3, 2001, .inr (.inl f_22))), (bt, .inl (bk, 2000, .inl gt))]) [1, 2, 3, 4, 0] (by decide) rfl
          have hK9 := hK.sub (tys' := [(t1, .int), (t2, .int), (t3, .long), (bk, .byte)]) [1, 2, 3, 0] rfl
          exact W.vret hx hb hr (fun t ht hW => ⟨⟨(lz, pa_24, so_25, pl_26, wd_27, f_19, f_21, f_22), rfl, ⟨by omega, by omega, by omega, by omega, by omega, hgz_20⟩, by rw [ht]; exact hP9, va_K.moved hW.alike hK9, hD9⟩, hS.F ht⟩) hS.2.2 dX10_read_162
        · have ic_18 : fr.toInt < x_2.toInt := zi_nle c_18
          refine lv_aload_n hx hb dX10_read_35 rfl (lv_at hl 4 rfl) ?_
          refine lv_iload hx hb dX10_read_36 (lv_at hl 1 rfl) ?_
          refine va_bald hx hb hK hP 4 3 rfl rfl (vp_in_iff.mpr ⟨by omega, by omega⟩) dX10_read_38 ?_
          refine lv_topi (fun x_33 ex_33 => ?_)
          refine lv_sipush (v := 255) hx hb dX10_read_39 (by decide) ?_
          refine lv_iand hx hb dX10_read_42 ?_
          refine lv_topi (fun x_34 ex_34 => ?_)
          refine lv_istore (lv' := [(6, .int x_34), (5, .int i), (4, .int fr), (3, .int x_2), (0, .ref h0), (1, .ref bt), (2, .int nn)]) hx hb dX10_read_43 hl (by decide) rfl (fun ls hl => ?_)
          refine lv_iload hx hb dX10_read_45 (lv_at hl 0 rfl) ?_
          refine lv_bipush (v := 32) hx hb dX10_read_47 (by decide) ?_
          refine lv_icmp_eq (tgt := 59) hx hb dX10_read_49 (by decide) (fun c_35 => ?_) (fun c_35 => ?_)
          · have ic_35 : x_34.toInt = 32 := zi_eq c_35
            obtain ⟨x_36, ex_36⟩ : ∃ y : Int32, y = fr + Int32.ofInt 1 := ⟨_, rfl⟩
            refine lv_iinc (v := x_36) (lv' := [(4, .int x_36), (6, .int x_34), (5, .int i), (3, .int x_2), (0, .ref h0), (1, .ref bt), (2, .int nn)]) hx hb dX10_read_59 hl (k := 2) rfl (by rw [ex_36]) (by decide) rfl (fun ls hl => ?_)
            have ix_36 : x_36.toInt = fr.toInt + 1 := by rw [ex_36]; exact zi_addc (by decide) (by omega) (by omega)
            refine lv_goto (tgt := 115) hx hb dX10_read_62 (by decide) ?_
            obtain ⟨x_37, ex_37⟩ : ∃ y : Int32, y = i + Int32.ofInt 1 := ⟨_, rfl⟩
            refine lv_iinc (v := x_37) (lv' := [(5, .int x_37), (4, .int x_36), (6, .int x_34), (3, .int x_2), (0, .ref h0), (1, .ref bt), (2, .int nn)]) hx hb dX10_read_115 hl (k := 2) rfl (by rw [ex_37]) (by decide) rfl (fun ls hl => ?_)
            have ix_37 : x_37.toInt = i.toInt + 1 := by rw [ex_37]; exact zi_addc (by decide) (by omega) (by omega)
            refine lv_goto (tgt := 23) hx hb dX10_read_118 (by decide) ?_
            exact ih x_36 x_37 lz ls_ lp lw _ _ _ (by omega) (by omega) (by omega) (by omega) (by omega) (by omega) (by omega) (hP.sub [0, 1, 2, 3, 4] rfl) (hD.sub [0, 1, 2, 3, 4] (by decide) rfl) hS (lv_sub hl [0, 1, 3, 4, 5, 6] rfl)
          · have ic_35 : x_34.toInt ≠ 32 := zi_ne c_35
            refine lv_iload hx hb dX10_read_52 (lv_at hl 0 rfl) ?_
            refine lv_bipush (v := 10) hx hb dX10_read_54 (by decide) ?_
            refine lv_icmp_ne (tgt := 65) hx hb dX10_read_56 (by decide) (fun c_38 => ?_) (fun c_38 => ?_)
            · have ic_38 : x_34.toInt ≠ 10 := zi_ne c_38
              refine lv_aload_n hx hb dX10_read_65 rfl (lv_at hl 4 rfl) ?_
              refine va_get (D := (dC, dI)) (ci := 10) (v := .ref tp) (C := RX10) (T := TX10) (N := 8) hx hb hA zin_X10 hown hK hP 0 rfl rfl 1 (by decide) (hA _ wi_347) (fun _ h9 => h9) rfl dX10_read_66 ?_
              refine lv_aload_n hx hb dX10_read_69 rfl (lv_at hl 4 rfl) ?_
              refine va_get (D := (dC, dI)) (ci := 10) (v := .int lz) (C := RX10) (T := TX10) (N := 8) hx hb hA zin_X10 hown hK hP 0 rfl rfl 3 (by decide) (hA _ wi_349) (fun _ h9 => h9) rfl dX10_read_70 ?_
              refine lv_iload hx hb dX10_read_73 (lv_at hl 2 rfl) ?_
              refine va_iast hx hb hK hP hD hS 2 1 rfl rfl (vp_in_iff.mpr ⟨by omega, by omega⟩) dX10_read_75 (fun H locs hP hD hS => ?_)
              obtain ⟨f_39, ef_39⟩ : ∃ gz9 : Nat → Int32, gz9 = upd lp (Int32.toNatClampNeg lz) fr := ⟨_, rfl⟩
              rw [← ef_39] at hP hD
              have hP : va_P (dC, dI) vwCl [(h0, .inr (10, [.ref ts, .ref tp, .ref tw, .int lz, .int pa, .int so, .int pl, .long wd])), (ts, .inl (t1, 2001, .inl ls_)), (tp, .inl (t2, 2001, .inl f_39)), (tw, .inl (t3, 2001, .inr (.inl lw))), (bt, .inl (bk, 2000, .inl gt))] H := hP
              have hD : va_D A [(h0, .inr (10, [.ref ts, .ref tp, .ref tw, .int lz, .int pa, .int so, .int pl, .long wd])), (ts, .inl (t1, 2001, .inl ls_)), (tp, .inl (t2, 2001, .inl f_39)), (tw, .inl (t3, 2001, .inr (.inl lw))), (bt, .inl (bk, 2000, .inl gt))] := hD
              refine lv_iload hx hb dX10_read_76 (lv_at hl 0 rfl) ?_
              have hPc := hP.sub (ws' := []) [] rfl
              have hDc := hD.sub (ws' := []) [] (by decide) rfl
              have hKc := hK.sub (tys' := []) [] rfl
              have hFc := va_free (wc := []) hD hS hAA [] rfl
              refine va_calli (va_runS (As := [.int x_34]) (rest := []) ⟨hx, hb, hml, hown, hA⟩ (c_X10_isWordByte l dC dI aK aV x_34 H.size) (va_cwS 1 hA (zw_S wi_661 wi_662 wi_137 (zw_good wi_663)) rfl rfl rfl (by decide +kernel) ⟨(Nat.le_of_ble_eq_true rfl), (Nat.le_of_ble_eq_true rfl)⟩) ⟨zP_blind, zz_pre hKc hPc hDc hN hT hS hFc⟩ rfl rfl hl.1 rfl (lv_room (Nat.le_of_ble_eq_true rfl)) dX10_read_78 ⟨(Nat.le_of_ble_eq_true rfl), (Nat.le_of_ble_eq_true rfl)⟩) hS (fun q _ h => hFc q h) hFc (fun r_40 u t H1 locs ht hvm hw hB hz1 hk1 hS => ?_)
              obtain ⟨hP1, hK1, hD1⟩ := hB
              rw [ht] at hP1
              have hK1 := va_K.moved hvm.symm hK1
              obtain ⟨hP, hD⟩ := va_join (wr := [(h0, .inr (10, [.ref ts, .ref tp, .ref tw, .int lz, .int pa, .int so, .int pl, .long wd])), (ts, .inl (t1, 2001, .inl ls_)), (tp, .inl (t2, 2001, .inl f_39)), (tw, .inl (t3, 2001, .inr (.inl lw))), (bt, .inl (bk, 2000, .inl gt))]) (w1 := []) hP hD [] [0, 1, 2, 3, 4] rfl rfl (by decide) (by decide) hk1 hFc hP1 hD1
              have hK := (hK.sub (tys' := [(t1, .int), (t2, .int), (t3, .long), (bk, .byte)]) [0, 1, 2, 3] rfl).app hK1
              generalize H1 = H at hP hS ⊢
              have hP : va_P (dC, dI) vwCl [(h0, .inr (10, [.ref ts, .ref tp, .ref tw, .int lz, .int pa, .int so, .int pl, .long wd])), (ts, .inl (t1, 2001, .inl ls_)), (tp, .inl (t2, 2001, .inl f_39)), (tw, .inl (t3, 2001, .inr (.inl lw))), (bt, .inl (bk, 2000, .inl gt))] H := hP
              have hD : va_D A [(h0, .inr (10, [.ref ts, .ref tp, .ref tw, .int lz, .int pa, .int so, .int pl, .long wd])), (ts, .inl (t1, 2001, .inl ls_)), (tp, .inl (t2, 2001, .inl f_39)), (tw, .inl (t3, 2001, .inr (.inl lw))), (bt, .inl (bk, 2000, .inl gt))] := hD
              have hK : va_K (dC, dI) vwCl [(t1, .int), (t2, .int), (t3, .long), (bk, .byte)] s := hK
              have hw_r_40 := hw
              try dsimp only at hw_r_40
              refine lv_if_eq (tgt := 95) hx hb dX10_read_81 (by decide) (fun c_41 => ?_) (fun c_41 => ?_)
              · have ic_41 : r_40.toInt = 0 := zi_eq c_41
                refine lv_aload_n hx hb dX10_read_95 rfl (lv_at hl 4 rfl) ?_
                refine lv_aload_n hx hb dX10_read_96 rfl (lv_at hl 5 rfl) ?_
                refine lv_iload hx hb dX10_read_97 (lv_at hl 2 rfl) ?_
                refine lv_iload_n hx hb dX10_read_99 rfl (lv_at hl 3 rfl) ?_
                have hPc := hP.sub (ws' := [(h0, .inr (10, [.ref ts, .ref tp, .ref tw, .int lz, .int pa, .int so, .int pl, .long wd])), (ts, .inl (t1, 2001, .inl ls_)), (tp, .inl (t2, 2001, .inl f_39)), (tw, .inl (t3, 2001, .inr (.inl lw))), (bt, .inl (bk, 2000, .inl gt))]) [0, 1, 2, 3, 4] rfl
                have hDc := hD.sub (ws' := [(h0, .inr (10, [.ref ts, .ref tp, .ref tw, .int lz, .int pa, .int so, .int pl, .long wd])), (ts, .inl (t1, 2001, .inl ls_)), (tp, .inl (t2, 2001, .inl f_39)), (tw, .inl (t3, 2001, .inr (.inl lw))), (bt, .inl (bk, 2000, .inl gt))]) [0, 1, 2, 3, 4] (by decide) rfl
                have hKc := hK.sub (tys' := [(t1, .int), (t2, .int), (t3, .long), (bk, .byte)]) [0, 1, 2, 3] rfl
                have hFc := va_free (wc := [(h0, .inr (10, [.ref ts, .ref tp, .ref tw, .int lz, .int pa, .int so, .int pl, .long wd])), (ts, .inl (t1, 2001, .inl ls_)), (tp, .inl (t2, 2001, .inl f_39)), (tw, .inl (t3, 2001, .inr (.inl lw))), (bt, .inl (bk, 2000, .inl gt))]) hD hS hAA [0, 1, 2, 3, 4] rfl
                refine va_calli (va_runV (As := [.ref bt, .int fr, .int x_2]) (rest := []) ⟨hx, hb, hml, hown, hA⟩ (c_X10_readSign l dC dI aK aV h0 ts tp tw t1 t2 t3 lz pa so pl wd ls_ f_39 lw bt bk gt fr x_2 H.size (by omega) (by omega) (by omega) (by omega) (by omega)) (cwV 3 hA (zw_V wi_687 wi_689 wi_2 wi_137 (zw_good wi_690)) rfl rfl rfl (by decide +kernel) ⟨(Nat.le_of_ble_eq_true rfl), (Nat.le_of_ble_eq_true rfl)⟩) ⟨zP_blind, va_recv hKc hPc (ci := 10) (q0 := 0) rfl rfl, zz_pre hKc hPc hDc hN hT hS hFc⟩ rfl rfl hl.1 rfl (lv_room (Nat.le_of_ble_eq_true rfl)) dX10_read_100 ⟨(Nat.le_of_ble_eq_true rfl), (Nat.le_of_ble_eq_true rfl)⟩) hS (fun q _ h => hFc q h) hFc (fun r_42 u t H1 locs ht hvm hw hB hz1 hk1 hS => ?_)
                obtain ⟨gs_43, gw_44⟩ := u
                obtain ⟨hP1, hK1, hD1⟩ := hB
                rw [ht] at hP1
                have hK1 := va_K.moved hvm.symm hK1
                obtain ⟨hP, hD⟩ := va_join (wr := []) (w1 := [(h0, .inr (10, [.ref ts, .ref tp, .ref tw, .int lz, .int pa, .int so, .int pl, .long wd])), (ts, .inl (t1, 2001, .inl gs_43)), (tp, .inl (t2, 2001, .inl f_39)), (tw, .inl (t3, 2001, .inr (.inl gw_44))), (bt, .inl (bk, 2000, .inl gt))]) hP hD [0, 1, 2, 3, 4] [] rfl rfl (by decide) (by decide) hk1 hFc hP1 hD1
                have hK := (hK.sub (tys' := []) [] rfl).app hK1
                generalize H1 = H at hP hS ⊢
                have hP : va_P (dC, dI) vwCl [(h0, .inr (10, [.ref ts, .ref tp, .ref tw, .int lz, .int pa, .int so, .int pl, .long wd])), (ts, .inl (t1, 2001, .inl gs_43)), (tp, .inl (t2, 2001, .inl f_39)), (tw, .inl (t3, 2001, .inr (.inl gw_44))), (bt, .inl (bk, 2000, .inl gt))] H := hP
                have hD : va_D A [(h0, .inr (10, [.ref ts, .ref tp, .ref tw, .int lz, .int pa, .int so, .int pl, .long wd])), (ts, .inl (t1, 2001, .inl gs_43)), (tp, .inl (t2, 2001, .inl f_39)), (tw, .inl (t3, 2001, .inr (.inl gw_44))), (bt, .inl (bk, 2000, .inl gt))] := hD
                have hK : va_K (dC, dI) vwCl [(t1, .int), (t2, .int), (t3, .long), (bk, .byte)] s := hK
                have hw_r_42 := hw
                try dsimp only at hw_r_42
                obtain ⟨hq_45, hq_46⟩ := hw
                refine lv_istore (lv' := [(4, .int r_42), (6, .int x_34), (5, .int i), (3, .int x_2), (0, .ref h0), (1, .ref bt), (2, .int nn)]) hx hb dX10_read_103 hl (by decide) rfl (fun ls hl => ?_)
                refine lv_aload_n hx hb dX10_read_105 rfl (lv_at hl 4 rfl) ?_
                refine lv_dup hx hb dX10_read_106 rfl ?_
                refine va_get (D := (dC, dI)) (ci := 10) (v := .int lz) (C := RX10) (T := TX10) (N := 8) hx hb hA zin_X10 hown hK hP 0 rfl rfl 3 (by decide) (hA _ wi_349) (fun _ h9 => h9) rfl dX10_read_107 ?_
                refine lv_iconst (v := 1) hx hb dX10_read_110 (by decide) ?_
                refine lv_iadd hx hb dX10_read_111 ?_
                refine lv_topi (fun x_47 ex_47 => ?_)
                have ix_47 : x_47.toInt = lz.toInt + 1 := by rw [ex_47]; exact zi_addc (by decide) (by omega) (by omega)
                refine va_put (D := (dC, dI)) (ci := 10) (v := .int x_47) (ty := .int) (C := RX10) (T := TX10) (N := 8) hx hb hA zin_X10 tyX10 tyX10_ok nmX10 hown hK hP hD hS 0 rfl rfl 3 (by decide) (hA _ wi_349) (fun _ h9 => h9) rfl (by decide +kernel) rfl rfl (Nat.le_of_ble_eq_true rfl) dX10_read_112 (fun H locs hP hD hS => ?_)
                have hP : va_P (dC, dI) vwCl [(h0, .inr (10, [.ref ts, .ref tp, .ref tw, .int x_47, .int pa, .int so, .int pl, .long wd])), (ts, .inl (t1, 2001, .inl gs_43)), (tp, .inl (t2, 2001, .inl f_39)), (tw, .inl (t3, 2001, .inr (.inl gw_44))), (bt, .inl (bk, 2000, .inl gt))] H := hP
                have hD : va_D A [(h0, .inr (10, [.ref ts, .ref tp, .ref tw, .int x_47, .int pa, .int so, .int pl, .long wd])), (ts, .inl (t1, 2001, .inl gs_43)), (tp, .inl (t2, 2001, .inl f_39)), (tw, .inl (t3, 2001, .inr (.inl gw_44))), (bt, .inl (bk, 2000, .inl gt))] := hD
                obtain ⟨x_48, ex_48⟩ : ∃ y : Int32, y = i + Int32.ofInt 1 := ⟨_, rfl⟩
                refine lv_iinc (v := x_48) (lv' := [(5, .int x_48), (4, .int r_42), (6, .int x_34), (3, .int x_2), (0, .ref h0), (1, .ref bt), (2, .int nn)]) hx hb dX10_read_115 hl (k := 2) rfl (by rw [ex_48]) (by decide) rfl (fun ls hl => ?_)
                have ix_48 : x_48.toInt = i.toInt + 1 := by rw [ex_48]; exact zi_addc (by decide) (by omega) (by omega)
                refine lv_goto (tgt := 23) hx hb dX10_read_118 (by decide) ?_
                exact ih r_42 x_48 x_47 gs_43 f_39 gw_44 _ _ _ (by omega) (by omega) (by omega) (by omega) (by omega) (by omega) (by omega) (hP.sub [0, 1, 2, 3, 4] rfl) (hD.sub [0, 1, 2, 3, 4] (by decide) rfl) hS (lv_sub hl [0, 1, 3, 4, 5, 6] rfl)
              · have ic_41 : r_40.toInt ≠ 0 := zi_ne c_41
                refine lv_aload_n hx hb dX10_read_84 rfl (lv_at hl 4 rfl) ?_
                refine lv_aload_n hx hb dX10_read_85 rfl (lv_at hl 5 rfl) ?_
                refine lv_iload hx hb dX10_read_86 (lv_at hl 2 rfl) ?_
                refine lv_iload_n hx hb dX10_read_88 rfl (lv_at hl 3 rfl) ?_
                have hPc := hP.sub (ws' := [(h0, .inr (10, [.ref ts, .ref tp, .ref tw, .int lz, .int pa, .int so, .int pl, .long wd])), (ts, .inl (t1, 2001, .inl ls_)), (tp, .inl (t2, 2001, .inl f_39)), (tw, .inl (t3, 2001, .inr (.inl lw))), (bt, .inl (bk, 2000, .inl gt))]) [0, 1, 2, 3, 4] rfl
                have hDc := hD.sub (ws' := [(h0, .inr (10, [.ref ts, .ref tp, .ref tw, .int lz, .int pa, .int so, .int pl, .long wd])), (ts, .inl (t1, 2001, .inl ls_)), (tp, .inl (t2, 2001, .inl f_39)), (tw, .inl (t3, 2001, .inr (.inl lw))), (bt, .inl (bk, 2000, .inl gt))]) [0, 1, 2, 3, 4] (by decide) rfl
                have hKc := hK.sub (tys' := [(t1, .int), (t2, .int), (t3, .long), (bk, .byte)]) [0, 1, 2, 3] rfl
                have hFc := va_free (wc := [(h0, .inr (10, [.ref ts, .ref tp, .ref tw, .int lz, .int pa, .int so, .int pl, .long wd])), (ts, .inl (t1, 2001, .inl ls_)), (tp, .inl (t2, 2001, .inl f_39)), (tw, .inl (t3, 2001, .inr (.inl lw))), (bt, .inl (bk, 2000, .inl gt))]) hD hS hAA [0, 1, 2, 3, 4] rfl
                refine va_calli (va_runV (As := [.ref bt, .int fr, .int x_2]) (rest := []) ⟨hx, hb, hml, hown, hA⟩ (c_X10_readWord l dC dI aK aV h0 ts tp tw t1 t2 t3 lz pa so pl wd ls_ f_39 lw bt bk gt fr x_2 H.size (by omega) (by omega) (by omega) (by omega) (by omega)) (cwV 3 hA (zw_V wi_673 wi_675 wi_1 wi_137 (zw_good wi_676)) rfl rfl rfl (by decide +kernel) ⟨(Nat.le_of_ble_eq_true rfl), (Nat.le_of_ble_eq_true rfl)⟩) ⟨zP_blind, va_recv hKc hPc (ci := 10) (q0 := 0) rfl rfl, zz_pre hKc hPc hDc hN hT hS hFc⟩ rfl rfl hl.1 rfl (lv_room (Nat.le_of_ble_eq_true rfl)) dX10_read_89 ⟨(Nat.le_of_ble_eq_true rfl), (Nat.le_of_ble_eq_true rfl)⟩) hS (fun q _ h => hFc q h) hFc (fun r_49 u t H1 locs ht hvm hw hB hz1 hk1 hS => ?_)
                obtain ⟨gs_50, gw_51⟩ := u
                obtain ⟨hP1, hK1, hD1⟩ := hB
                rw [ht] at hP1
                have hK1 := va_K.moved hvm.symm hK1
                obtain ⟨hP, hD⟩ := va_join (wr := []) (w1 := [(h0, .inr (10, [.ref ts, .ref tp, .ref tw, .int lz, .int pa, .int so, .int pl, .long wd])), (ts, .inl (t1, 2001, .inl gs_50)), (tp, .inl (t2, 2001, .inl f_39)), (tw, .inl (t3, 2001, .inr (.inl gw_51))), (bt, .inl (bk, 2000, .inl gt))]) hP hD [0, 1, 2, 3, 4] [] rfl rfl (by decide) (by decide) hk1 hFc hP1 hD1
                have hK := (hK.sub (tys' := []) [] rfl).app hK1
                generalize H1 = H at hP hS ⊢
                have hP : va_P (dC, dI) vwCl [(h0, .inr (10, [.ref ts, .ref tp, .ref tw, .int lz, .int pa, .int so, .int pl, .long wd])), (ts, .inl (t1, 2001, .inl gs_50)), (tp, .inl (t2, 2001, .inl f_39)), (tw, .inl (t3, 2001, .inr (.inl gw_51))), (bt, .inl (bk, 2000, .inl gt))] H := hP
                have hD : va_D A [(h0, .inr (10, [.ref ts, .ref tp, .ref tw, .int lz, .int pa, .int so, .int pl, .long wd])), (ts, .inl (t1, 2001, .inl gs_50)), (tp, .inl (t2, 2001, .inl f_39)), (tw, .inl (t3, 2001, .inr (.inl gw_51))), (bt, .inl (bk, 2000, .inl gt))] := hD
                have hK : va_K (dC, dI) vwCl [(t1, .int), (t2, .int), (t3, .long), (bk, .byte)] s := hK
                have hw_r_49 := hw
                try dsimp only at hw_r_49
                obtain ⟨hq_52, hq_53⟩ := hw
                refine lv_goto (tgt := 103) hx hb dX10_read_92 (by decide) ?_
                refine lv_istore (lv' := [(4, .int r_49), (6, .int x_34), (5, .int i), (3, .int x_2), (0, .ref h0), (1, .ref bt), (2, .int nn)]) hx hb dX10_read_103 hl (by decide) rfl (fun ls hl => ?_)
                refine lv_aload_n hx hb dX10_read_105 rfl (lv_at hl 4 rfl) ?_
                refine lv_dup hx hb dX10_read_106 rfl ?_
                refine va_get (D := (dC, dI)) (ci := 10) (v := .int lz) (C := RX10) (T := TX10) (N := 8) hx hb hA zin_X10 hown hK hP 0 rfl rfl 3 (by decide) (hA _ wi_349) (fun _ h9 => h9) rfl dX10_read_107 ?_
                refine lv_iconst (v := 1) hx hb dX10_read_110 (by decide) ?_
                refine lv_iadd hx hb dX10_read_111 ?_
                refine lv_topi (fun x_54 ex_54 => ?_)
                have ix_54 : x_54.toInt = lz.toInt + 1 := by rw [ex_54]; exact zi_addc (by decide) (by omega) (by omega)
                refine va_put (D := (dC, dI)) (ci := 10) (v := .int x_54) (ty := .int) (C := RX10) (T := TX10) (N := 8) hx hb hA zin_X10 tyX10 tyX10_ok nmX10 hown hK hP hD hS 0 rfl rfl 3 (by decide) (hA _ wi_349) (fun _ h9 => h9) rfl (by decide +kernel) rfl rfl (Nat.le_of_ble_eq_true rfl) dX10_read_112 (fun H locs hP hD hS => ?_)
                have hP : va_P (dC, dI) vwCl [(h0, .inr (10, [.ref ts, .ref tp, .ref tw, .int x_54, .int pa, .int so, .int pl, .long wd])), (ts, .inl (t1, 2001, .inl gs_50)), (tp, .inl (t2, 2001, .inl f_39)), (tw, .inl (t3, 2001, .inr (.inl gw_51))), (bt, .inl (bk, 2000, .inl gt))] H := hP
                have hD : va_D A [(h0, .inr (10, [.ref ts, .ref tp, .ref tw, .int x_54, .int pa, .int so, .int pl, .long wd])), (ts, .inl (t1, 2001, .inl gs_50)), (tp, .inl (t2, 2001, .inl f_39)), (tw, .inl (t3, 2001, .inr (.inl gw_51))), (bt, .inl (bk, 2000, .inl gt))] := hD
                obtain ⟨x_55, ex_55⟩ : ∃ y : Int32, y = i + Int32.ofInt 1 := ⟨_, rfl⟩
                refine lv_iinc (v := x_55) (lv' := [(5, .int x_55), (4, .int r_49), (6, .int x_34), (3, .int x_2), (0, .ref h0), (1, .ref bt), (2, .int nn)]) hx hb dX10_read_115 hl (k := 2) rfl (by rw [ex_55]) (by decide) rfl (fun ls hl => ?_)
                have ix_55 : x_55.toInt = i.toInt + 1 := by rw [ex_55]; exact zi_addc (by decide) (by omega) (by omega)
                refine lv_goto (tgt := 23) hx hb dX10_read_118 (by decide) ?_
                exact ih r_49 x_55 x_54 gs_50 f_39 gw_51 _ _ _ (by omega) (by omega) (by omega) (by omega) (by omega) (by omega) (by omega) (hP.sub [0, 1, 2, 3, 4] rfl) (hD.sub [0, 1, 2, 3, 4] (by decide) rfl) hS (lv_sub hl [0, 1, 3, 4, 5, 6] rfl)
            · have ic_38 : x_34.toInt = 10 := zi_eq c_38
              obtain ⟨x_56, ex_56⟩ : ∃ y : Int32, y = fr + Int32.ofInt 1 := ⟨_, rfl⟩
              refine lv_iinc (v := x_56) (lv' := [(4, .int x_56), (6, .int x_34), (5, .int i), (3, .int x_2), (0, .ref h0), (1, .ref bt), (2, .int nn)]) hx hb dX10_read_59 hl (k := 2) rfl (by rw [ex_56]) (by decide) rfl (fun ls hl => ?_)
              have ix_56 : x_56.toInt = fr.toInt + 1 := by rw [ex_56]; exact zi_addc (by decide) (by omega) (by omega)
              refine lv_goto (tgt := 115) hx hb dX10_read_62 (by decide) ?_
              obtain ⟨x_57, ex_57⟩ : ∃ y : Int32, y = i + Int32.ofInt 1 := ⟨_, rfl⟩
              refine lv_iinc (v := x_57) (lv' := [(5, .int x_57), (4, .int x_56), (6, .int x_34), (3, .int x_2), (0, .ref h0), (1, .ref bt), (2, .int nn)]) hx hb dX10_read_115 hl (k := 2) rfl (by rw [ex_57]) (by decide) rfl (fun ls hl => ?_)
              have ix_57 : x_57.toInt = i.toInt + 1 := by rw [ex_57]; exact zi_addc (by decide) (by omega) (by omega)
              refine lv_goto (tgt := 23) hx hb dX10_read_118 (by decide) ?_
              exact ih x_56 x_57 lz ls_ lp lw _ _ _ (by omega) (by omega) (by omega) (by omega) (by omega) (by omega) (by omega) (hP.sub [0, 1, 2, 3, 4] rfl) (hD.sub [0, 1, 2, 3, 4] (by decide) rfl) hS (lv_sub hl [0, 1, 3, 4, 5, 6] rfl)
  exact loop_23 _ 0 0 0 gs gp gw _ _ _ (Nat.le_refl _) (by have h9_0 : Int32.toInt 0 = 0 := (by decide); omega) (by have h9_0 : Int32.toInt 0 = 0 := (by decide); omega) (by have h9_0 : Int32.toInt 0 = 0 := (by decide); omega) (by have h9_0 : Int32.toInt 0 = 0 := (by decide); omega) (by have h9_0 : Int32.toInt 0 = 0 := (by decide); omega) (by have h9_0 : Int32.toInt 0 = 0 := (by decide); omega) (hP.sub [0, 1, 2, 3, 4] rfl) (hD.sub [0, 1, 2, 3, 4] (by decide) rfl) hS (lv_sub hl [0, 1, 2, 3, 4, 5] rfl)
