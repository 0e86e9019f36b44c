theorem wi_679 : Cond.code yX10_sortOfSmall cX10_sortOfSmall 2 (some .int) ∈ zw := zw_in (List.mem_of_getElem? (i := 679) (by decide +kernel)) (by decide +kernel)
theorem wi_677 : Cond.methodLink RX10 68 yX10_sortOfSmall ∈ zw := zw_in (List.mem_of_getElem? (i := 677) (by decide +kernel)) (by decide +kernel)
theorem wi_678 : Cond.static yX10_sortOfSmall ∈ zw := zw_in (List.mem_of_getElem? (i := 678) (by decide +kernel)) (by decide +kernel)
theorem wi_663 : Cond.code yX10_isWordByte cX10_isWordByte 1 (some .boolean) ∈ zw := zw_in (List.mem_of_getElem? (i := 663) (by decide +kernel)) (by decide +kernel)
theorem wi_661 : Cond.methodLink RX10 48 yX10_isWordByte ∈ zw := zw_in (List.mem_of_getElem? (i := 661) (by decide +kernel)) (by decide +kernel)
theorem wi_662 : Cond.static yX10_isWordByte ∈ zw := zw_in (List.mem_of_getElem? (i := 662) (by decide +kernel)) (by decide +kernel)
theorem dX10_readWord_0 : decode cX10_readWord 0 = .ok (.iload_n 2, 1) := by decide +kernel
theorem dX10_readWord_1 : decode cX10_readWord 1 = .ok (.istore 4, 2) := by decide +kernel
theorem dX10_readWord_3 : decode cX10_readWord 3 = .ok (.iconst 0, 1) := by decide +kernel
theorem dX10_readWord_4 : decode cX10_readWord 4 = .ok (.istore 5, 2) := by decide +kernel
theorem dX10_readWord_6 : decode cX10_readWord 6 = .ok (.iconst 0, 1) := by decide +kernel
theorem dX10_readWord_7 : decode cX10_readWord 7 = .ok (.istore 6, 2) := by decide +kernel
theorem dX10_readWord_9 : decode cX10_readWord 9 = .ok (.iconst 0, 1) := by decide +kernel
theorem dX10_readWord_10 : decode cX10_readWord 10 = .ok (.istore 7, 2) := by decide +kernel
theorem dX10_readWord_12 : decode cX10_readWord 12 = .ok (.lconst 0, 1) := by decide +kernel
theorem dX10_readWord_13 : decode cX10_readWord 13 = .ok (.lstore 8, 2) := by decide +kernel
theorem dX10_readWord_15 : decode cX10_readWord 15 = .ok (.iload 4, 2) := by decide +kernel
theorem dX10_readWord_17 : decode cX10_readWord 17 = .ok (.iload_n 3, 1) := by decide +kernel
theorem dX10_readWord_18 : decode cX10_readWord 18 = .ok (.if_icmp .ge 76, 3) := by decide +kernel
theorem dX10_readWord_21 : decode cX10_readWord 21 = .ok (.aload_n 1, 1) := by decide +kernel
theorem dX10_readWord_22 : decode cX10_readWord 22 = .ok (.iload 4, 2) := by decide +kernel
theorem dX10_readWord_24 : decode cX10_readWord 24 = .ok (.baload, 1) := by decide +kernel
theorem dX10_readWord_25 : decode cX10_readWord 25 = .ok (.invokestatic 48, 3) := by decide +kernel
theorem dX10_readWord_28 : decode cX10_readWord 28 = .ok (.ifCond .eq 66, 3) := by decide +kernel
theorem dX10_readWord_31 : decode cX10_readWord 31 = .ok (.aload_n 1, 1) := by decide +kernel
theorem dX10_readWord_32 : decode cX10_readWord 32 = .ok (.iload 4, 2) := by decide +kernel
theorem dX10_readWord_34 : decode cX10_readWord 34 = .ok (.baload, 1) := by decide +kernel
theorem dX10_readWord_35 : decode cX10_readWord 35 = .ok (.invokestatic 62, 3) := by decide +kernel
theorem dX10_readWord_38 : decode cX10_readWord 38 = .ok (.ifCond .eq 9, 3) := by decide +kernel
theorem dX10_readWord_41 : decode cX10_readWord 41 = .ok (.iinc 5 1, 3) := by decide +kernel
theorem dX10_readWord_44 : decode cX10_readWord 44 = .ok (.goto 31, 3) := by decide +kernel
theorem dX10_readWord_47 : decode cX10_readWord 47 = .ok (.aload_n 1, 1) := by decide +kernel
theorem dX10_readWord_48 : decode cX10_readWord 48 = .ok (.iload 4, 2) := by decide +kernel
theorem dX10_readWord_50 : decode cX10_readWord 50 = .ok (.baload, 1) := by decide +kernel
theorem dX10_readWord_51 : decode cX10_readWord 51 = .ok (.invokestatic 65, 3) := by decide +kernel
theorem dX10_readWord_54 : decode cX10_readWord 54 = .ok (.ifCond .eq 21, 3) := by decide +kernel
theorem dX10_readWord_57 : decode cX10_readWord 57 = .ok (.iinc 6 1, 3) := by decide +kernel
theorem dX10_readWord_60 : decode cX10_readWord 60 = .ok (.iload 7, 2) := by decide +kernel
theorem dX10_readWord_62 : decode cX10_readWord 62 = .ok (.bipush 10, 2) := by decide +kernel
theorem dX10_readWord_64 : decode cX10_readWord 64 = .ok (.imul, 1) := by decide +kernel
theorem dX10_readWord_65 : decode cX10_readWord 65 = .ok (.aload_n 1, 1) := by decide +kernel
theorem dX10_readWord_66 : decode cX10_readWord 66 = .ok (.iload 4, 2) := by decide +kernel
theorem dX10_readWord_68 : decode cX10_readWord 68 = .ok (.baload, 1) := by decide +kernel
theorem dX10_readWord_69 : decode cX10_readWord 69 = .ok (.bipush 48, 2) := by decide +kernel
theorem dX10_readWord_71 : decode cX10_readWord 71 = .ok (.isub, 1) := by decide +kernel
theorem dX10_readWord_72 : decode cX10_readWord 72 = .ok (.iadd, 1) := by decide +kernel
theorem dX10_readWord_73 : decode cX10_readWord 73 = .ok (.istore 7, 2) := by decide +kernel
theorem dX10_readWord_75 : decode cX10_readWord 75 = .ok (.lload 8, 2) := by decide +kernel
theorem dX10_readWord_77 : decode cX10_readWord 77 = .ok (.bipush 8, 2) := by decide +kernel
theorem dX10_readWord_79 : decode cX10_readWord 79 = .ok (.lshl, 1) := by decide +kernel
theorem dX10_readWord_80 : decode cX10_readWord 80 = .ok (.aload_n 1, 1) := by decide +kernel
theorem dX10_readWord_81 : decode cX10_readWord 81 = .ok (.iload 4, 2) := by decide +kernel
theorem dX10_readWord_83 : decode cX10_readWord 83 = .ok (.baload, 1) := by decide +kernel
theorem dX10_readWord_84 : decode cX10_readWord 84 = .ok (.i2l, 1) := by decide +kernel
theorem dX10_readWord_85 : decode cX10_readWord 85 = .ok (.lor, 1) := by decide +kernel
theorem dX10_readWord_86 : decode cX10_readWord 86 = .ok (.lstore 8, 2) := by decide +kernel
theorem dX10_readWord_88 : decode cX10_readWord 88 = .ok (.iinc 4 1, 3) := by decide +kernel
theorem dX10_readWord_91 : decode cX10_readWord 91 = .ok (.goto (-76), 3) := by decide +kernel
theorem dX10_readWord_94 : decode cX10_readWord 94 = .ok (.iload 4, 2) := by decide +kernel
theorem dX10_readWord_96 : decode cX10_readWord 96 = .ok (.iload_n 2, 1) := by decide +kernel
theorem dX10_readWord_97 : decode cX10_readWord 97 = .ok (.isub, 1) := by decide +kernel
theorem dX10_readWord_98 : decode cX10_readWord 98 = .ok (.istore 10, 2) := by decide +kernel
theorem dX10_readWord_100 : decode cX10_readWord 100 = .ok (.iload 6, 2) := by decide +kernel
theorem dX10_readWord_102 : decode cX10_readWord 102 = .ok (.iload 10, 2) := by decide +kernel
theorem dX10_readWord_104 : decode cX10_readWord 104 = .ok (.if_icmp .ne 31, 3) := by decide +kernel
theorem dX10_readWord_107 : decode cX10_readWord 107 = .ok (.aload_n 0, 1) := by decide +kernel
theorem dX10_readWord_108 : decode cX10_readWord 108 = .ok (.getfield 9, 3) := by decide +kernel
theorem dX10_readWord_111 : decode cX10_readWord 111 = .ok (.aload_n 0, 1) := by decide +kernel
theorem dX10_readWord_112 : decode cX10_readWord 112 = .ok (.getfield 22, 3) := by decide +kernel
theorem dX10_readWord_115 : decode cX10_readWord 115 = .ok (.iload 10, 2) := by decide +kernel
theorem dX10_readWord_117 : decode cX10_readWord 117 = .ok (.bipush 9, 2) := by decide +kernel
theorem dX10_readWord_119 : decode cX10_readWord 119 = .ok (.if_icmp .gt 9, 3) := by decide +kernel
theorem dX10_readWord_122 : decode cX10_readWord 122 = .ok (.sipush 260, 3) := by decide +kernel
theorem dX10_readWord_125 : decode cX10_readWord 125 = .ok (.goto 6, 3) := by decide +kernel
theorem dX10_readWord_128 : decode cX10_readWord 128 = .ok (.sipush 257, 3) := by decide +kernel
theorem dX10_readWord_131 : decode cX10_readWord 131 = .ok (.iastore, 1) := by decide +kernel
theorem dX10_readWord_132 : decode cX10_readWord 132 = .ok (.goto 85, 3) := by decide +kernel
theorem dX10_readWord_135 : decode cX10_readWord 135 = .ok (.iload 10, 2) := by decide +kernel
theorem dX10_readWord_137 : decode cX10_readWord 137 = .ok (.bipush 8, 2) := by decide +kernel
theorem dX10_readWord_139 : decode cX10_readWord 139 = .ok (.if_icmp .le 18, 3) := by decide +kernel
theorem dX10_readWord_142 : decode cX10_readWord 142 = .ok (.aload_n 0, 1) := by decide +kernel
theorem dX10_readWord_143 : decode cX10_readWord 143 = .ok (.getfield 9, 3) := by decide +kernel
theorem dX10_readWord_146 : decode cX10_readWord 146 = .ok (.aload_n 0, 1) := by decide +kernel
theorem dX10_readWord_147 : decode cX10_readWord 147 = .ok (.getfield 22, 3) := by decide +kernel
theorem dX10_readWord_150 : decode cX10_readWord 150 = .ok (.sipush 257, 3) := by decide +kernel
theorem dX10_readWord_153 : decode cX10_readWord 153 = .ok (.iastore, 1) := by decide +kernel
theorem dX10_readWord_154 : decode cX10_readWord 154 = .ok (.goto 63, 3) := by decide +kernel
theorem dX10_readWord_157 : decode cX10_readWord 157 = .ok (.iload 5, 2) := by decide +kernel
theorem dX10_readWord_159 : decode cX10_readWord 159 = .ok (.iload 10, 2) := by decide +kernel
theorem dX10_readWord_161 : decode cX10_readWord 161 = .ok (.if_icmp .ne 20, 3) := by decide +kernel
theorem dX10_readWord_164 : decode cX10_readWord 164 = .ok (.aload_n 0, 1) := by decide +kernel
theorem dX10_readWord_165 : decode cX10_readWord 165 = .ok (.getfield 9, 3) := by decide +kernel
theorem dX10_readWord_168 : decode cX10_readWord 168 = .ok (.aload_n 0, 1) := by decide +kernel
theorem dX10_readWord_169 : decode cX10_readWord 169 = .ok (.getfield 22, 3) := by decide +kernel
theorem dX10_readWord_172 : decode cX10_readWord 172 = .ok (.lload 8, 2) := by decide +kernel
theorem dX10_readWord_174 : decode cX10_readWord 174 = .ok (.invokestatic 68, 3) := by decide +kernel
theorem dX10_readWord_177 : decode cX10_readWord 177 = .ok (.iastore, 1) := by decide +kernel
theorem dX10_readWord_178 : decode cX10_readWord 178 = .ok (.goto 39, 3) := by decide +kernel
theorem dX10_readWord_181 : decode cX10_readWord 181 = .ok (.aload_n 0, 1) := by decide +kernel
theorem dX10_readWord_182 : decode cX10_readWord 182 = .ok (.getfield 9, 3) := by decide +kernel
theorem dX10_readWord_185 : decode cX10_readWord 185 = .ok (.aload_n 0, 1) := by decide +kernel
theorem dX10_readWord_186 : decode cX10_readWord 186 = .ok (.getfield 22, 3) := by decide +kernel
theorem dX10_readWord_189 : decode cX10_readWord 189 = .ok (.iload 5, 2) := by decide +kernel
theorem dX10_readWord_191 : decode cX10_readWord 191 = .ok (.iload 10, 2) := by decide +kernel
theorem dX10_readWord_193 : decode cX10_readWord 193 = .ok (.iconst 1, 1) := by decide +kernel
theorem dX10_readWord_194 : decode cX10_readWord 194 = .ok (.isub, 1) := by decide +kernel
theorem dX10_readWord_195 : decode cX10_readWord 195 = .ok (.if_icmp .ne 18, 3) := by decide +kernel
theorem dX10_readWord_198 : decode cX10_readWord 198 = .ok (.aload_n 1, 1) := by decide +kernel
theorem dX10_readWord_199 : decode cX10_readWord 199 = .ok (.iload_n 2, 1) := by decide +kernel
theorem dX10_readWord_200 : decode cX10_readWord 200 = .ok (.baload, 1) := by decide +kernel
theorem dX10_readWord_201 : decode cX10_readWord 201 = .ok (.invokestatic 72, 3) := by decide +kernel
theorem dX10_readWord_204 : decode cX10_readWord 204 = .ok (.ifCond .eq 9, 3) := by decide +kernel
theorem dX10_readWord_207 : decode cX10_readWord 207 = .ok (.sipush 259, 3) := by decide +kernel
theorem dX10_readWord_210 : decode cX10_readWord 210 = .ok (.goto 6, 3) := by decide +kernel
theorem dX10_readWord_213 : decode cX10_readWord 213 = .ok (.sipush 257, 3) := by decide +kernel
theorem dX10_readWord_216 : decode cX10_readWord 216 = .ok (.iastore, 1) := by decide +kernel
theorem dX10_readWord_217 : decode cX10_readWord 217 = .ok (.aload_n 0, 1) := by decide +kernel
theorem dX10_readWord_218 : decode cX10_readWord 218 = .ok (.getfield 18, 3) := by decide +kernel
theorem dX10_readWord_221 : decode cX10_readWord 221 = .ok (.aload_n 0, 1) := by decide +kernel
theorem dX10_readWord_222 : decode cX10_readWord 222 = .ok (.getfield 22, 3) := by decide +kernel
theorem dX10_readWord_225 : decode cX10_readWord 225 = .ok (.iload 6, 2) := by decide +kernel
theorem dX10_readWord_227 : decode cX10_readWord 227 = .ok (.iload 10, 2) := by decide +kernel
theorem dX10_readWord_229 : decode cX10_readWord 229 = .ok (.if_icmp .ne 9, 3) := by decide +kernel
theorem dX10_readWord_232 : decode cX10_readWord 232 = .ok (.iload 7, 2) := by decide +kernel
theorem dX10_readWord_234 : decode cX10_readWord 234 = .ok (.i2l, 1) := by decide +kernel
theorem dX10_readWord_235 : decode cX10_readWord 235 = .ok (.goto 5, 3) := by decide +kernel
theorem dX10_readWord_238 : decode cX10_readWord 238 = .ok (.lload 8, 2) := by decide +kernel
theorem dX10_readWord_240 : decode cX10_readWord 240 = .ok (.lastore, 1) := by decide +kernel
theorem dX10_readWord_241 : decode cX10_readWord 241 = .ok (.iload 4, 2) := by decide +kernel
theorem dX10_readWord_243 : decode cX10_readWord 243 = .ok (.ireturn, 1) := by decide +kernel
set_option maxHeartbeats 4000000 in
set_option maxRecDepth 100000 in
theorem c_X10_readWord (l : Launch) (dC : Nat → ClassId) (dI : Nat → Nat → Nat) (aK aV : Nat → Nat) (h0 : Nat) (ts : Nat) (tp : Nat) (tw : Nat) (t1 : ClassId) (t2 : ClassId) (t3 : ClassId) (z : Int32) (pa : Int32) (so : Int32) (pl : Int32) (wd : Int64) (gs : Nat → Int32) (gp : Nat → Int32) (gw : Nat → Int64) (bt : Nat) (bk : ClassId) (gt : Nat → Int32) (fr : Int32) (en : Int32) (sz : Nat) (hz0 : 0 ≤ z.toInt) (hz1 : z.toInt ≤ 2000) (hf0 : 0 ≤ fr.toInt) (hf1 : fr.toInt < en.toInt) (he : en.toInt ≤ 2000) : Met l yX10_readWord (Cond.code yX10_readWord cX10_readWord 11 (some .int) :: zw) ({ frames := 12, cells := 0, slots := 0, locals := 400 }) (va_Pc [.ref h0, .ref bt, .int fr, .int en] (zP dC dI aK aV sz [(t1, .int), (t2, .int), (t3, .long), (bk, .byte)] [(h0, .inr (10, [.ref ts, .ref tp, .ref tw, .int z, .int pa, .int so, .int pl, .long wd])), (ts, .inl (t1, 2001, .inl gs)), (tp, .inl (t2, 2001, .inl gp)), (tw, .inl (t3, 2001, .inr (.inl gw))), (bt, .inl (bk, 2000, .inl gt))])) (va_Qi (fun (r : Int32) (u : (Nat → Int32) × (Nat → Int64)) => match u with | (gs2, gw2) => (fr.toInt ≤ r.toInt) ∧ (r.toInt ≤ en.toInt)) (fun u => match u with | (gs2, gw2) => zQ dC dI (va_A [(h0, .inr (10, [.ref ts, .ref tp, .ref tw, .int z, .int pa, .int so, .int pl, .long wd])), (ts, .inl (t1, 2001, .inl gs)), (tp, .inl (t2, 2001, .inl gp)), (tw, .inl (t3, 2001, .inr (.inl gw))), (bt, .inl (bk, 2000, .inl gt))] sz) [(t1, .int), (t2, .int), (t3, .long), (bk, .byte)] [(h0, .inr (10, [.ref ts, .ref tp, .ref tw, .int z, .int pa, .int so, .int pl, .long wd])), (ts, .inl (t1, 2001, .inl gs2)), (tp, .inl (t2, 2001, .inl gp)), (tw, .inl (t3, 2001, .inr (.inl gw2))), (bt, .inl (bk, 2000, .inl gt))]) (va_A [(h0, .inr (10, [.ref ts, .ref tp, .ref tw, .int z, .int pa, .int so, .int pl, .long wd])), (ts, .inl (t1, 2001, .inl gs)), (tp, .inl (t2, 2001, .inl gp)), (tw, .inl (t3, 2001, .inr (.inl gw))), (bt, .inl (bk, 2000, .inl gt))] sz)) 0 0 (va_A [(h0, .inr (10, [.ref ts, .ref tp, .ref tw, .int z, .int pa, .int so, .int pl, .long wd])), (ts, .inl (t1, 2001, .inl gs)), (tp, .inl (t2, 2001, .inl gp)), (tw, .inl (t3, 2001, .inr (.inl gw))), (bt, .inl (bk, 2000, .inl gt))] sz) := by
  refine Met.ofW (cc := cX10_readWord) (maxL := 11) (ret := (some .int)) (by decide) rfl ?_
  intro p e s m args below meth c s₁ B hml hv
  obtain ⟨rfl, hsz, hP, hK, hD0, hN, hT⟩ := hv
  have hx := B.exec
  have hb := B.bytes
  have hr := B.returns
  have hts := atoms_spec (ws := Cond.code yX10_readWord cX10_readWord 11 (some .int) :: zw) B.pre
  have hA : ∀ w ∈ zw, w.before _ s = true := fun w h => hts w (List.mem_cons_of_mem _ h)
  have hown : s.vm.findClass RX10 = some m.cls := findClass_of_methodNamed B.named
  have hlocks := B.notSynchronized
  subst hsz
  have hD := hD0.self (sz := s.heap.size)
  generalize hAe : va_A [(h0, .inr (10, [.ref ts, .ref tp, .ref tw, .int z, .int pa, .int so, .int pl, .long wd])), (ts, .inl (t1, 2001, .inl gs)), (tp, .inl (t2, 2001, .inl gp)), (tw, .inl (t3, 2001, .inr (.inl gw))), (bt, .inl (bk, 2000, .inl gt))] s.heap.size = A at hD hT ⊢
  have hAA : ∀ q : Nat, s.heap.size ≤ q → A q := fun q h => by rw [← hAe]; exact Or.inr h
  have hS : va_S A s.heap s.heap [] := va_S.rf
  have hl := lv_entry ([.ref h0, .ref bt, .int fr, .int en]) (n := 11) (Nat.le_of_ble_eq_true rfl)
  rw [lg_entry_eq]
  generalize (lg_sl ([.ref h0, .ref bt, .int fr, .int en]) ++ List.replicate (11 - (lg_sl ([.ref h0, .ref bt, .int fr, .int en])).length) Slot.unset).toArray = ls at hl ⊢
  have hl : lv_has ls 11 [(0, .ref h0), (1, .ref bt), (2, .int fr), (3, .int en)] := hl
  refine lv_iload_n hx hb dX10_readWord_0 rfl (lv_at hl 2 rfl) ?_
  refine lv_istore (lv' := [(4, .int fr), (0, .ref h0), (1, .ref bt), (2, .int fr), (3, .int en)]) hx hb dX10_readWord_1 hl (by decide) rfl (fun ls hl => ?_)
  refine lv_iconst (v := 0) hx hb dX10_readWord_3 (by decide) ?_
  refine lv_istore (lv' := [(5, .int 0), (4, .int fr), (0, .ref h0), (1, .ref bt), (2, .int fr), (3, .int en)]) hx hb dX10_readWord_4 hl (by decide) rfl (fun ls hl => ?_)
  refine lv_iconst (v := 0) hx hb dX10_readWord_6 (by decide) ?_
  refine lv_istore (lv' := [(6, .int 0), (5, .int 0), (4, .int fr), (0, .ref h0), (1, .ref bt), (2, .int fr), (3, .int en)]) hx hb dX10_readWord_7 hl (by decide) rfl (fun ls hl => ?_)
  refine lv_iconst (v := 0) hx hb dX10_readWord_9 (by decide) ?_
  refine lv_istore (lv' := [(7, .int 0), (6, .int 0), (5, .int 0), (4, .int fr), (0, .ref h0), (1, .ref bt), (2, .int fr), (3, .int en)]) hx hb dX10_readWord_10 hl (by decide) rfl (fun ls hl => ?_)
  refine lv_lconst (v := 0) hx hb dX10_readWord_12 (by decide) ?_
  refine lv_lstore (lv' := [(8, .long 0), (7, .int 0), (6, .int 0), (5, .int 0), (4, .int fr), (0, .ref h0), (1, .ref bt), (2, .int fr), (3, .int en)]) hx hb dX10_readWord_13 hl (by decide) rfl (fun ls hl => ?_)
  have loop_15 : ∀ (n9 : Nat) (to : Int32) (sm : Int32) (di : Int32) (nu : Int32) (by_ : Int64) (H : Heap) (locs : List Loc) (ls : Array Slot), (en.toInt - to.toInt + 1).toNat ≤ n9 → fr.toInt ≤ to.toInt → to.toInt ≤ en.toInt → 0 ≤ sm.toInt → sm.toInt ≤ to.toInt → 0 ≤ di.toInt → di.toInt ≤ to.toInt → va_P (dC, dI) vwCl [(h0, .inr (10, [.ref ts, .ref tp, .ref tw, .int z, .int pa, .int so, .int pl, .long wd])), (ts, .inl (t1, 2001, .inl gs)), (tp, .inl (t2, 2001, .inl gp)), (tw, .inl (t3, 2001, .inr (.inl gw))), (bt, .inl (bk, 2000, .inl gt))] H → va_D A [(h0, .inr (10, [.ref ts, .ref tp, .ref tw, .int z, .int pa, .int so, .int pl, .long wd])), (ts, .inl (t1, 2001, .inl gs)), (tp, .inl (t2, 2001, .inl gp)), (tw, .inl (t3, 2001, .inr (.inl gw))), (bt, .inl (bk, 2000, .inl gt))] → va_S A s.heap H locs → lv_has ls 11 [(8, .long by_), (7, .int nu), (6, .int di), (5, .int sm), (4, .int to), (0, .ref h0), (1, .ref bt), (2, .int fr), (3, .int en)] → W p l e (headSpec (Cond.code yX10_readWord cX10_readWord 11 (some .int) :: zw) ({ frames := 12, cells := 0, slots := 0, locals := 400 })).room s m #[.ref h0, .ref bt, .int fr, .int en] below meth c H locs 0 0 (MQ below (va_Qi (fun (r : Int32) (u : (Nat → Int32) × (Nat → Int64)) => match u with | (gs2, gw2) => (fr.toInt ≤ r.toInt) ∧ (r.toInt ≤ en.toInt)) (fun u => match u with | (gs2, gw2) => zQ dC dI A [(t1, .int), (t2, .int), (t3, .long), (bk, .byte)] [(h0, .inr (10, [.ref ts, .ref tp, .ref tw, .int z, .int pa, .int so, .int pl, .long wd])), (ts, .inl (t1, 2001, .inl gs2)), (tp, .inl (t2, 2001, .inl gp)), (tw, .inl (t3, 2001, .inr (.inl gw2))), (bt, .inl (bk, 2000, .inl gt))]) A) #[.ref h0, .ref bt, .int fr, .int en] s 0 0 A) (F0 m 15 ls []) := by
    intro n9
    induction n9 with
    | zero => intro to sm di nu by_ H locs ls hm ht0 ht1 hs0 hs1 hd0 hd1; exfalso; omega
    | succ n9 ih =>
      intro to sm di nu by_ H locs ls hm ht0 ht1 hs0 hs1 hd0 hd1 hP hD hS hl
      refine lv_iload hx hb dX10_readWord_15 (lv_at hl 4 rfl) ?_
      refine lv_iload_n hx hb dX10_readWord_17 rfl (lv_at hl 8 rfl) ?_
      refine lv_icmp_ge (tgt := 94) hx hb dX10_readWord_18 (by decide) (fun c_1 => ?_) (fun c_1 => ?_)
      · have ic_1 : en.toInt ≤ to.toInt := zi_le c_1
        refine lv_iload hx hb dX10_readWord_94 (lv_at hl 4 rfl) ?_
        refine lv_iload_n hx hb dX10_readWord_96 rfl (lv_at hl 7 rfl) ?_
        refine lv_isub hx hb dX10_readWord_97 ?_
        refine lv_topi (fun x_2 ex_2 => ?_)
        have ix_2 : x_2.toInt = to.toInt - fr.toInt := by rw [ex_2]; exact zi_subc rfl (by omega) (by omega)
        refine lv_istore (lv' := [(10, .int x_2), (8, .long by_), (7, .int nu), (6, .int di), (5, .int sm), (4, .int to), (0, .ref h0), (1, .ref bt), (2, .int fr), (3, .int en)]) hx hb dX10_readWord_98 hl (by decide) rfl (fun ls hl => ?_)
        refine lv_iload hx hb dX10_readWord_100 (lv_at hl 3 rfl) ?_
        refine lv_iload hx hb dX10_readWord_102 (lv_at hl 0 rfl) ?_
        refine lv_icmp_ne (tgt := 135) hx hb dX10_readWord_104 (by decide) (fun c_3 => ?_) (fun c_3 => ?_)
        · have ic_3 : di.toInt ≠ x_2.toInt := zi_ne c_3
          refine lv_iload hx hb dX10_readWord_135 (lv_at hl 0 rfl) ?_
          refine lv_bipush (v := 8) hx hb dX10_readWord_137 (by decide) ?_
          refine lv_icmp_le (tgt := 157) hx hb dX10_readWord_139 (by decide) (fun c_4 => ?_) (fun c_4 => ?_)
          · have ic_4 : x_2.toInt ≤ 8 := zi_le c_4
            refine lv_iload hx hb dX10_readWord_157 (lv_at hl 4 rfl) ?_
            refine lv_iload hx hb dX10_readWord_159 (lv_at hl 0 rfl) ?_
            refine lv_icmp_ne (tgt := 181) hx hb dX10_readWord_161 (by decide) (fun c_5 => ?_) (fun c_5 => ?_)
            · have ic_5 : sm.toInt ≠ x_2.toInt := zi_ne c_5
              refine lv_aload_n hx hb dX10_readWord_181 rfl (lv_at hl 6 rfl) ?_
              refine va_get (D := (dC, dI)) (ci := 10) (v := .ref ts) (C := RX10) (T := TX10) (N := 8) hx hb hA zin_X10 hown hK hP 0 rfl rfl 0 (by decide) (hA _ wi_346) (fun _ h9 => h9) rfl dX10_readWord_182 ?_
              refine lv_aload_n hx hb dX10_readWord_185 rfl (lv_at hl 6 rfl) ?_
              refine va_get (D := (dC, dI)) (ci := 10) (v := .int z) (C := RX10) (T := TX10) (N := 8) hx hb hA zin_X10 hown hK hP 0 rfl rfl 3 (by decide) (hA _ wi_349) (fun _ h9 => h9) rfl dX10_readWord_186 ?_
              refine lv_iload hx hb dX10_readWord_189 (lv_at hl 4 rfl) ?_
              refine lv_iload hx hb dX10_readWord_191 (lv_at hl 0 rfl) ?_
              refine lv_iconst (v := 1) hx hb dX10_readWord_193 (by decide) ?_
              refine lv_isub hx hb dX10_readWord_194 ?_
              refine lv_topi (fun x_6 ex_6 => ?_)
              have ix_6 : x_6.toInt = x_2.toInt - 1 := by rw [ex_6]; exact zi_subc (by decide) (by omega) (by omega)
              refine lv_icmp_ne (tgt := 213) hx hb dX10_readWord_195 (by decide) (fun c_7 => ?_) (fun c_7 => ?_)
              · have ic_7 : sm.toInt ≠ x_6.toInt := zi_ne c_7
                refine lv_sipush (v := 257) hx hb dX10_readWord_213 (by decide) ?_
                refine va_iast hx hb hK hP hD hS 1 0 rfl rfl (vp_in_iff.mpr ⟨by omega, by omega⟩) dX10_readWord_216 (fun H locs hP hD hS => ?_)
                obtain ⟨f_8, ef_8⟩ : ∃ gz9 : Nat → Int32, gz9 = upd gs (Int32.toNatClampNeg z) 257 := ⟨_, rfl⟩
                rw [← ef_8] at hP hD
                have hP : va_P (dC, dI) vwCl [(h0, .inr (10, [.ref ts, .ref tp, .ref tw, .int z, .int pa, .int so, .int pl, .long wd])), (ts, .inl (t1, 2001, .inl f_8)), (tp, .inl (t2, 2001, .inl gp)), (tw, .inl (t3, 2001, .inr (.inl gw))), (bt, .inl (bk, 2000, .inl gt))] H := hP
                have hD : va_D A [(h0, .inr (10, [.ref ts, .ref tp, .ref tw, .int z, .int pa, .int so, .int pl, .long wd])), (ts, .inl (t1, 2001, .inl f_8)), (tp, .inl (t2, 2001, .inl gp)), (tw, .inl (t3, 2001, .inr (.inl gw))), (bt, .inl (bk, 2000, .inl gt))] := hD
                refine lv_aload_n hx hb dX10_readWord_217 rfl (lv_at hl 6 rfl) ?_
                refine va_get (D := (dC, dI)) (ci := 10) (v := .ref tw) (C := RX10) (T := TX10) (N := 8) hx hb hA zin_X10 hown hK hP 0 rfl rfl 2 (by decide) (hA _ wi_348) (fun _ h9 => h9) rfl dX10_readWord_218 ?_
                refine lv_aload_n hx hb dX10_readWord_221 rfl (lv_at hl 6 rfl) ?_
                refine va_get (D := (dC, dI)) (ci := 10) (v := .int z) (C := RX10) (T := TX10) (N := 8) hx hb hA zin_X10 hown hK hP 0 rfl rfl 3 (by decide) (hA _ wi_349) (fun _ h9 => h9) rfl dX10_readWord_222 ?_
                refine lv_iload hx hb dX10_readWord_225 (lv_at hl 3 rfl) ?_
                refine lv_iload hx hb dX10_readWord_227 (lv_at hl 0 rfl) ?_
                refine lv_icmp_ne (tgt := 238) hx hb dX10_readWord_229 (by decide) (fun c_9 => ?_) (fun c_9 => ?_)
                · have ic_9 : di.toInt ≠ x_2.toInt := zi_ne c_9
                  refine lv_lload hx hb dX10_readWord_238 (lv_at hl 1 rfl) ?_
                  refine va_last hx hb hK hP hD hS 3 2 rfl rfl (vp_in_iff.mpr ⟨by omega, by omega⟩) dX10_readWord_240 (fun H locs hP hD hS => ?_)
                  obtain ⟨f_10, ef_10⟩ : ∃ gz9 : Nat → Int64, gz9 = vp_updL gw (Int32.toNatClampNeg z) by_ := ⟨_, rfl⟩
                  rw [← ef_10] at hP hD
                  have hP : va_P (dC, dI) vwCl [(h0, .inr (10, [.ref ts, .ref tp, .ref tw, .int z, .int pa, .int so, .int pl, .long wd])), (ts, .inl (t1, 2001, .inl f_8)), (tp, .inl (t2, 2001, .inl gp)), (tw, .inl (t3, 2001, .inr (.inl f_10))), (bt, .inl (bk, 2000, .inl gt))] H := hP
                  have hD : va_D A [(h0, .inr (10, [.ref ts, .ref tp, .ref tw, .int z, .int pa, .int so, .int pl, .long wd])), (ts, .inl (t1, 2001, .inl f_8)), (tp, .inl (t2, 2001, .inl gp)), (tw, .inl (t3, 2001, .inr (.inl f_10))), (bt, .inl (bk, 2000, .inl gt))] := hD
                  refine lv_iload hx hb dX10_readWord_241 (lv_at hl 5 rfl) ?_
                  have hP9 := hP.sub (ws' := [(h0, .inr (10, [.ref ts, .ref tp, .ref tw, .int z, .int pa, .int so, .int pl, .long wd])), (ts, .inl (t1, 2001, .inl f_8)), (tp, .inl (t2, 2001, .inl gp)), (tw, .inl (t3, 2001, .inr (.inl f_10))), (bt, .inl (bk, 2000, .inl gt))]) [0, 1, 2, 3, 4] rfl
                  have hD9 := hD.sub (ws' := [(h0, .inr (10, [.ref ts, .ref tp, .ref tw, .int z, .int pa, .int so, .int pl, .long wd])), (ts, .inl (t1, 2001, .inl f_8)), (tp, .inl (t2, 2001, .inl gp)), (tw, .inl (t3, 2001, .inr (.inl f_10))), (bt, .inl (bk, 2000, .inl gt))]) [0, 1, 2, 3, 4] (by decide) rfl
                  have hK9 := hK.sub (tys' := [(t1, .int), (t2, .int), (t3, .long), (bk, .byte)]) [0, 1, 2, 3] rfl
                  exact W.iret (v := to) hx hb hr (fun t ht hW => ⟨⟨to, (f_8, f_10), rfl, ⟨by omega, by omega⟩, by rw [ht]; exact hP9, va_K.moved hW.alike hK9, hD9⟩, hS.F ht⟩) hS.2.2 dX10_readWord_243
                · have ic_9 : di.toInt = x_2.toInt := zi_eq c_9
                  refine lv_iload hx hb dX10_readWord_232 (lv_at hl 2 rfl) ?_
                  obtain ⟨x_11, ex_11⟩ : ∃ z : Int64, z = Int32.toInt64 nu := ⟨_, rfl⟩
                  refine lv_i2l (v := x_11) hx hb dX10_readWord_234 ex_11.symm ?_
                  refine lv_goto (tgt := 240) hx hb dX10_readWord_235 (by decide) ?_
                  refine va_last hx hb hK hP hD hS 3 2 rfl rfl (vp_in_iff.mpr ⟨by omega, by omega⟩) dX10_readWord_240 (fun H locs hP hD hS => ?_)
                  obtain ⟨f_12, ef_12⟩ : ∃ gz9 : Nat → Int64, gz9 = vp_updL gw (Int32.toNatClampNeg z) x_11 := ⟨_, rfl⟩
                  rw [← ef_12] at hP hD
                  have hP : va_P (dC, dI) vwCl [(h0, .inr (10, [.ref ts, .ref tp, .ref tw, .int z, .int pa, .int so, .int pl, .long wd])), (ts, .inl (t1, 2001, .inl f_8)), (tp, .inl (t2, 2001, .inl gp)), (tw, .inl (t3, 2001, .inr (.inl f_12))), (bt, .inl (bk, 2000, .inl gt))] H := hP
                  have hD : va_D A [(h0, .inr (10, [.ref ts, .ref tp, .ref tw, .int z, .int pa, .int so, .int pl, .long wd])), (ts, .inl (t1, 2001, .inl f_8)), (tp, .inl (t2, 2001, .inl gp)), (tw, .inl (t3, 2001, .inr (.inl f_12))), (bt, .inl (bk, 2000, .inl gt))] := hD
                  refine lv_iload hx hb dX10_readWord_241 (lv_at hl 5 rfl) ?_
                  have hP9 := hP.sub (ws' := [(h0, .inr (10, [.ref ts, .ref tp, .ref tw, .int z, .int pa, .int so, .int pl, .long wd])), (ts, .inl (t1, 2001, .inl f_8)), (tp, .inl (t2, 2001, .inl gp)), (tw, .inl (t3, 2001, .inr (.inl f_12))), (bt, .inl (bk, 2000, .inl gt))]) [0, 1, 2, 3, 4] rfl
                  have hD9 := hD.sub (ws' := [(h0, .inr (10, [.ref ts, .ref tp, .ref tw, .int z, .int pa, .int so, .int pl, .long wd])), (ts, .inl (t1, 2001, .inl f_8)), (tp, .inl (t2, 2001, .inl gp)), (tw, .inl (t3, 2001, .inr (.inl f_12))), (bt, .inl (bk, 2000, .inl gt))]) [0, 1, 2, 3, 4] (by decide) rfl
                  have hK9 := hK.sub (tys' := [(t1, .int), (t2, .int), (t3, .long), (bk, .byte)]) [0, 1, 2, 3] rfl
                  exact W.iret (v := to) hx hb hr (fun t ht hW => ⟨⟨to, (f_8, f_12), rfl, ⟨by omega, by omega⟩, by rw [ht]; exact hP9, va_K.moved hW.alike hK9, hD9⟩, hS.F ht⟩) hS.2.2 dX10_readWord_243
              · have ic_7 : sm.toInt = x_6.toInt := zi_eq c_7
                refine lv_aload_n hx hb dX10_readWord_198 rfl (lv_at hl 7 rfl) ?_
                refine lv_iload_n hx hb dX10_readWord_199 rfl (lv_at hl 8 rfl) ?_
                refine va_bald hx hb hK hP 4 3 rfl rfl (vp_in_iff.mpr ⟨by omega, by omega⟩) dX10_readWord_200 ?_
                refine lv_topi (fun x_13 ex_13 => ?_)
                have hPc := hP.sub (ws' := []) [] rfl
                have hDc := hD.sub (ws' := []) [] (by decide) rfl
                have hKc := hK.sub (tys' := []) [] rfl
                have hFc := va_free (wc := []) hD hS hAA [] rfl
                refine va_calli (va_runS (As := [.int x_13]) (rest := [.int z, .ref ts]) ⟨hx, hb, hml, hown, hA⟩ (c_X10_isGreat l dC dI aK aV x_13 H.size) (va_cwS 1 hA (zw_S wi_667 wi_668 wi_137 (zw_good wi_669)) rfl rfl rfl (by decide +kernel) ⟨(Nat.le_of_ble_eq_true rfl), (Nat.le_of_ble_eq_true rfl)⟩) ⟨zP_blind, zz_pre hKc hPc hDc hN hT hS hFc⟩ rfl rfl hl.1 rfl (lv_room (Nat.le_of_ble_eq_true rfl)) dX10_readWord_201 ⟨(Nat.le_of_ble_eq_true rfl), (Nat.le_of_ble_eq_true rfl)⟩) hS (fun q _ h => hFc q h) hFc (fun r_14 u t H1 locs ht hvm hw hB hz1 hk1 hS => ?_)
                obtain ⟨hP1, hK1, hD1⟩ := hB
                rw [ht] at hP1
                have hK1 := va_K.moved hvm.symm hK1
                obtain ⟨hP, hD⟩ := va_join (wr := [(h0, .inr (10, [.ref ts, .ref tp, .ref tw, .int z, .int pa, .int so, .int pl, .long wd])), (ts, .inl (t1, 2001, .inl gs)), (tp, .inl (t2, 2001, .inl gp)), (tw, .inl (t3, 2001, .inr (.inl gw))), (bt, .inl (bk, 2000, .inl gt))]) (w1 := []) hP hD [] [0, 1, 2, 3, 4] rfl rfl (by decide) (by decide) hk1 hFc hP1 hD1
                have hK := (hK.sub (tys' := [(t1, .int), (t2, .int), (t3, .long), (bk, .byte)]) [0, 1, 2, 3] rfl).app hK1
                generalize H1 = H at hP hS ⊢
                have hP : va_P (dC, dI) vwCl [(h0, .inr (10, [.ref ts, .ref tp, .ref tw, .int z, .int pa, .int so, .int pl, .long wd])), (ts, .inl (t1, 2001, .inl gs)), (tp, .inl (t2, 2001, .inl gp)), (tw, .inl (t3, 2001, .inr (.inl gw))), (bt, .inl (bk, 2000, .inl gt))] H := hP
                have hD : va_D A [(h0, .inr (10, [.ref ts, .ref tp, .ref tw, .int z, .int pa, .int so, .int pl, .long wd])), (ts, .inl (t1, 2001, .inl gs)), (tp, .inl (t2, 2001, .inl gp)), (tw, .inl (t3, 2001, .inr (.inl gw))), (bt, .inl (bk, 2000, .inl gt))] := hD
                have hK : va_K (dC, dI) vwCl [(t1, .int), (t2, .int), (t3, .long), (bk, .byte)] s := hK
                have hw_r_14 := hw
                try dsimp only at hw_r_14
                refine lv_if_eq (tgt := 213) hx hb dX10_readWord_204 (by decide) (fun c_15 => ?_) (fun c_15 => ?_)
                · have ic_15 : r_14.toInt = 0 := zi_eq c_15
                  refine lv_sipush (v := 257) hx hb dX10_readWord_213 (by decide) ?_
                  refine va_iast hx hb hK hP hD hS 1 0 rfl rfl (vp_in_iff.mpr ⟨by omega, by omega⟩) dX10_readWord_216 (fun H locs hP hD hS => ?_)
                  obtain ⟨f_16, ef_16⟩ : ∃ gz9 : Nat → Int32, gz9 = upd gs (Int32.toNatClampNeg z) 257 := ⟨_, rfl⟩
                  rw [← ef_16] at hP hD
                  have hP : va_P (dC, dI) vwCl [(h0, .inr (10, [.ref ts, .ref tp, .ref tw, .int z, .int pa, .int so, .int pl, .long wd])), (ts, .inl (t1, 2001, .inl f_16)), (tp, .inl (t2, 2001, .inl gp)), (tw, .inl (t3, 2001, .inr (.inl gw))), (bt, .inl (bk, 2000, .inl gt))] H := hP
                  have hD : va_D A [(h0, .inr (10, [.ref ts, .ref tp, .ref tw, .int z, .int pa, .int so, .int pl, .long wd])), (ts, .inl (t1, 2001, .inl f_16)), (tp, .inl (t2, 2001, .inl gp)), (tw, .inl (t3, 2001, .inr (.inl gw))), (bt, .inl (bk, 2000, .inl gt))] := hD
                  refine lv_aload_n hx hb dX10_readWord_217 rfl (lv_at hl 6 rfl) ?_
                  refine va_get (D := (dC, dI)) (ci := 10) (v := .ref tw) (C := RX10) (T := TX10) (N := 8) hx hb hA zin_X10 hown hK hP 0 rfl rfl 2 (by decide) (hA _ wi_348) (fun _ h9 => h9) rfl dX10_readWord_218 ?_
                  refine lv_aload_n hx hb dX10_readWord_221 rfl (lv_at hl 6 rfl) ?_
                  refine va_get (D := (dC, dI)) (ci := 10) (v := .int z) (C := RX10) (T := TX10) (N := 8) hx hb hA zin_X10 hown hK hP 0 rfl rfl 3 (by decide) (hA _ wi_349) (fun _ h9 => h9) rfl dX10_readWord_222 ?_
                  refine lv_iload hx hb dX10_readWord_225 (lv_at hl 3 rfl) ?_
                  refine lv_iload hx hb dX10_readWord_227 (lv_at hl 0 rfl) ?_
                  refine lv_icmp_ne (tgt := 238) hx hb dX10_readWord_229 (by decide) (fun c_17 => ?_) (fun c_17 => ?_)
                  · have ic_17 : di.toInt ≠ x_2.toInt := zi_ne c_17
                    refine lv_lload hx hb dX10_readWord_238 (lv_at hl 1 rfl) ?_
                    refine va_last hx hb hK hP hD hS 3 2 rfl rfl (vp_in_iff.mpr ⟨by omega, by omega⟩) dX10_readWord_240 (fun H locs hP hD hS => ?_)
                    obtain ⟨f_18, ef_18⟩ : ∃ gz9 : Nat → Int64, gz9 = vp_updL gw (Int32.toNatClampNeg z) by_ := ⟨_, rfl⟩
                    rw [← ef_18] at hP hD
                    have hP : va_P (dC, dI) vwCl [(h0, .inr (10, [.ref ts, .ref tp, .ref tw, .int z, .int pa, .int so, .int pl, .long wd])), (ts, .inl (t1, 2001, .inl f_16)), (tp, .inl (t2, 2001, .inl gp)), (tw, .inl (t3, 2001, .inr (.inl f_18))), (bt, .inl (bk, 2000, .inl gt))] H := hP
                    have hD : va_D A [(h0, .inr (10, [.ref ts, .ref tp, .ref tw, .int z, .int pa, .int so, .int pl, .long wd])), (ts, .inl (t1, 2001, .inl f_16)), (tp, .inl (t2, 2001, .inl gp)), (tw, .inl (t3, 2001, .inr (.inl f_18))), (bt, .inl (bk, 2000, .inl gt))] := hD
                    refine lv_iload hx hb dX10_readWord_241 (lv_at hl 5 rfl) ?_
                    have hP9 := hP.sub (ws' := [(h0, .inr (10, [.ref ts, .ref tp, .ref tw, .int z, .int pa, .int so, .int pl, .long wd])), (ts, .inl (t1, 2001, .inl f_16)), (tp, .inl (t2, 2001, .inl gp)), (tw, .inl (t3, 2001, .inr (.inl f_18))), (bt, .inl (bk, 2000, .inl gt))]) [0, 1, 2, 3, 4] rfl
                    have hD9 := hD.sub (ws' := [(h0, .inr (10, [.ref ts, .ref tp, .ref tw, .int z, .int pa, .int so, .int pl, .long wd])), (ts, .inl (t1, 2001, .inl f_16)), (tp, .inl (t2, 2001, .inl gp)), (tw, .inl (t3, 2001, .inr (.inl f_18))), (bt, .inl (bk, 2000, .inl gt))]) [0, 1, 2, 3, 4] (by decide) rfl
                    have hK9 := hK.sub (tys' := [(t1, .int), (t2, .int), (t3, .long), (bk, .byte)]) [0, 1, 2, 3] rfl
                    exact W.iret (v := to) hx hb hr (fun t ht hW => ⟨⟨to, (f_16, f_18), rfl, ⟨by omega, by omega⟩, by rw [ht]; exact hP9, va_K.moved hW.alike hK9, hD9⟩, hS.F ht⟩) hS.2.2 dX10_readWord_243
                  · have ic_17 : di.toInt = x_2.toInt := zi_eq c_17
                    refine lv_iload hx hb dX10_readWord_232 (lv_at hl 2 rfl) ?_
                    obtain ⟨x_19, ex_19⟩ : ∃ z : Int64, z = Int32.toInt64 nu := ⟨_, rfl⟩
                    refine lv_i2l (v := x_19) hx hb dX10_readWord_234 ex_19.symm ?_
                    refine lv_goto (tgt := 240) hx hb dX10_readWord_235 (by decide) ?_
                    refine va_last hx hb hK hP hD hS 3 2 rfl rfl (vp_in_iff.mpr ⟨by omega, by omega⟩) dX10_readWord_240 (fun H locs hP hD hS => ?_)
                    obtain ⟨f_20, ef_20⟩ : ∃ gz9 : Nat → Int64, gz9 = vp_updL gw (Int32.toNatClampNeg z) x_19 := ⟨_, rfl⟩
                    rw [← ef_20] at hP hD
                    have hP : va_P (dC, dI) vwCl [(h0, .inr (10, [.ref ts, .ref tp, .ref tw, .int z, .int pa, .int so, .int pl, .long wd])), (ts, .inl (t1, 2001, .inl f_16)), (tp, .inl (t2, 2001, .inl gp)), (tw, .inl (t3, 2001, .inr (.inl f_20))), (bt, .inl (bk, 2000, .inl gt))] H := hP
                    have hD : va_D A [(h0, .inr (10, [.ref ts, .ref tp, .ref tw, .int z, .int pa, .int so, .int pl, .long wd])), (ts, .inl (t1, 2001, .inl f_16)), (tp, .inl (t2, 2001, .inl gp)), (tw, .inl (t3, 2001, .inr (.inl f_20))), (bt, .inl (bk, 2000, .inl gt))] := hD
                    refine lv_iload hx hb dX10_readWord_241 (lv_at hl 5 rfl) ?_
                    have hP9 := hP.sub (ws' := [(h0, .inr (10, [.ref ts, .ref tp, .ref tw, .int z, .int pa, .int so, .int pl, .long wd])), (ts, .inl (t1, 2001, .inl f_16)), (tp, .inl (t2, 2001, .inl gp)), (tw, .inl (t3, 2001, .inr (.inl f_20))), (bt, .inl (bk, 2000, .inl gt))]) [0, 1, 2, 3, 4] rfl
                    have hD9 := hD.sub (ws' := [(h0, .inr (10, [.ref ts, .ref tp, .ref tw, .int z, .int pa, .int so, .int pl, .long wd])), (ts, .inl (t1, 2001, .inl f_16)), (tp, .inl (t2, 2001, .inl gp)), (tw, .inl (t3, 2001, .inr (.inl f_20))), (bt, .inl (bk, 2000, .inl gt))]) [0, 1, 2, 3, 4] (by decide) rfl
                    have hK9 := hK.sub (tys' := [(t1, .int), (t2, .int), (t3, .long), (bk, .byte)]) [0, 1, 2, 3] rfl
                    exact W.iret (v := to) hx hb hr (fun t ht hW => ⟨⟨to, (f_16, f_20), rfl, ⟨by omega, by omega⟩, by rw [ht]; exact hP9, va_K.moved hW.alike hK9, hD9⟩, hS.F ht⟩) hS.2.2 dX10_readWord_243
                · have ic_15 : r_14.toInt ≠ 0 := zi_ne c_15
                  refine lv_sipush (v := 259) hx hb dX10_readWord_207 (by decide) ?_
                  refine lv_goto (tgt := 216) hx hb dX10_readWord_210 (by decide) ?_
                  refine va_iast hx hb hK hP hD hS 1 0 rfl rfl (vp_in_iff.mpr ⟨by omega, by omega⟩) dX10_readWord_216 (fun H locs hP hD hS => ?_)
                  obtain ⟨f_21, ef_21⟩ : ∃ gz9 : Nat → Int32, gz9 = upd gs (Int32.toNatClampNeg z) 259 := ⟨_, rfl⟩
                  rw [← ef_21] at hP hD
                  have hP : va_P (dC, dI) vwCl [(h0, .inr (10, [.ref ts, .ref tp, .ref tw, .int z, .int pa, .int so, .int pl, .long wd])), (ts, .inl (t1, 2001, .inl f_21)), (tp, .inl (t2, 2001, .inl gp)), (tw, .inl (t3, 2001, .inr (.inl gw))), (bt, .inl (bk, 2000, .inl gt))] H := hP
                  have hD : va_D A [(h0, .inr (10, [.ref ts, .ref tp, .ref tw, .int z, .int pa, .int so, .int pl, .long wd])), (ts, .inl (t1, 2001, .inl f_21)), (tp, .inl (t2, 2001, .inl gp)), (tw, .inl (t3, 2001, .inr (.inl gw))), (bt, .inl (bk, 2000, .inl gt))] := hD
                  refine lv_aload_n hx hb dX10_readWord_217 rfl (lv_at hl 6 rfl) ?_
                  refine va_get (D := (dC, dI)) (ci := 10) (v := .ref tw) (C := RX10) (T := TX10) (N := 8) hx hb hA zin_X10 hown hK hP 0 rfl rfl 2 (by decide) (hA _ wi_348) (fun _ h9 => h9) rfl dX10_readWord_218 ?_
                  refine lv_aload_n hx hb dX10_readWord_221 rfl (lv_at hl 6 rfl) ?_
                  refine va_get (D := (dC, dI)) (ci := 10) (v := .int z) (C := RX10) (T := TX10) (N := 8) hx hb hA zin_X10 hown hK hP 0 rfl rfl 3 (by decide) (hA _ wi_349) (fun _ h9 => h9) rfl dX10_readWord_222 ?_
                  refine lv_iload hx hb dX10_readWord_225 (lv_at hl 3 rfl) ?_
                  refine lv_iload hx hb dX10_readWord_227 (lv_at hl 0 rfl) ?_
                  refine lv_icmp_ne (tgt := 238) hx hb dX10_readWord_229 (by decide) (fun c_22 => ?_) (fun c_22 => ?_)
                  · have ic_22 : di.toInt ≠ x_2.toInt := zi_ne c_22
                    refine lv_lload hx hb dX10_readWord_238 (lv_at hl 1 rfl) ?_
                    refine va_last hx hb hK hP hD hS 3 2 rfl rfl (vp_in_iff.mpr ⟨by omega, by omega⟩) dX10_readWord_240 (fun H locs hP hD hS => ?_)
                    obtain ⟨f_23, ef_23⟩ : ∃ gz9 : Nat → Int64, gz9 = vp_updL gw (Int32.toNatClampNeg z) by_ := ⟨_, rfl⟩
                    rw [← ef_23] at hP hD
                    have hP : va_P (dC, dI) vwCl [(h0, .inr (10, [.ref ts, .ref tp, .ref tw, .int z, .int pa, .int so, .int pl, .long wd])), (ts, .inl (t1, 2001, .inl f_21)), (tp, .inl (t2, 2001, .inl gp)), (tw, .inl (t3, 2001, .inr (.inl f_23))), (bt, .inl (bk, 2000, .inl gt))] H := hP
                    have hD : va_D A [(h0, .inr (10, [.ref ts, .ref tp, .ref tw, .int z, .int pa, .int so, .int pl, .long wd])), (ts, .inl (t1, 2001, .inl f_21)), (tp, .inl (t2, 2001, .inl gp)), (tw, .inl (t3, 2001, .inr (.inl f_23))), (bt, .inl (bk, 2000, .inl gt))] := hD
                    refine lv_iload hx hb dX10_readWord_241 (lv_at hl 5 rfl) ?_
                    have hP9 := hP.sub (ws' := [(h0, .inr (10, [.ref ts, .ref tp, .ref tw, .int z, .int pa, .int so, .int pl, .long wd])), (ts, .inl (t1, 2001, .inl f_21)), (tp, .inl (t2, 2001, .inl gp)), (tw, .inl (t3, 2001, .inr (.inl f_23))), (bt, .inl (bk, 2000, .inl gt))]) [0, 1, 2, 3, 4] rfl
                    have hD9 := hD.sub (ws' := [(h0, .inr (10, [.ref ts, .ref tp, .ref tw, .int z, .int pa, .int so, .int pl, .long wd])), (ts, .inl (t1, 2001, .inl f_21)), (tp, .inl (t2, 2001, .inl gp)), (tw, .inl (t3, 2001, .inr (.inl f_23))), (bt, .inl (bk, 2000, .inl gt))]) [0, 1, 2, 3, 4] (by decide) rfl
                    have hK9 := hK.sub (tys' := [(t1, .int), (t2, .int), (t3, .long), (bk, .byte)]) [0, 1, 2, 3] rfl
                    exact W.iret (v := to) hx hb hr (fun t ht hW => ⟨⟨to, (f_21, f_23), rfl, ⟨by omega, by omega⟩, by rw [ht]; exact hP9, va_K.moved hW.alike hK9, hD9⟩, hS.F ht⟩) hS.2.2 dX10_readWord_243
                  · have ic_22 : di.toInt = x_2.toInt := zi_eq c_22
                    refine lv_iload hx hb dX10_readWord_232 (lv_at hl 2 rfl) ?_
                    obtain ⟨x_24, ex_24⟩ : ∃ z : Int64, z = Int32.toInt64 nu := ⟨_, rfl⟩
                    refine lv_i2l (v := x_24) hx hb dX10_readWord_234 ex_24.symm ?_
                    refine lv_goto (tgt := 240) hx hb dX10_readWord_235 (by decide) ?_
                    refine va_last hx hb hK hP hD hS 3 2 rfl rfl (vp_in_iff.mpr ⟨by omega, by omega⟩) dX10_readWord_240 (fun H locs hP hD hS => ?_)
                    obtain ⟨f_25, ef_25⟩ : ∃ gz9 : Nat → Int64, gz9 = vp_updL gw (Int32.toNatClampNeg z) x_24 := ⟨_, rfl⟩
                    rw [← ef_25] at hP hD
                    have hP : va_P (dC, dI) vwCl [(h0, .inr (10, [.ref ts, .ref tp, .ref tw, .int z, .int pa, .int so, .int pl, .long wd])), (ts, .inl (t1, 2001, .inl f_21)), (tp, .inl (t2, 2001, .inl gp)), (tw, .inl (t3, 2001, .inr (.inl f_25))), (bt, .inl (bk, 2000, .inl gt))] H := hP
                    have hD : va_D A [(h0, .inr (10, [.ref ts, .ref tp, .ref tw, .int z, .int pa, .int so, .int pl, .long wd])), (ts, .inl (t1, 2001, .inl f_21)), (tp, .inl (t2, 2001, .inl gp)), (tw, .inl (t3, 2001, .inr (.inl f_25))), (bt, .inl (bk, 2000, .inl gt))] := hD
                    refine lv_iload hx hb dX10_readWord_241 (lv_at hl 5 rfl) ?_
                    have hP9 := hP.sub (ws' := [(h0, .inr (10, [.ref ts, .ref tp, .ref tw, .int z, .int pa, .int so, .int pl, .long wd])), (ts, .inl (t1, 2001, .inl f_21)), (tp, .inl (t2, 2001, .inl gp)), (tw, .inl (t3, 2001, .inr (.inl f_25))), (bt, .inl (bk, 2000, .inl gt))]) [0, 1, 2, 3, 4] rfl
                    have hD9 := hD.sub (ws' := [(h0, .inr (10, [.ref ts, .ref tp, .ref tw, .int z, .int pa, .int so, .int pl, .long wd])), (ts, .inl (t1, 2001, .inl f_21)), (tp, .inl (t2, 2001, .inl gp)), (tw, .inl (t3, 2001, .inr (.inl f_25))), (bt, .inl (bk, 2000, .inl gt))]) [0, 1, 2, 3, 4] (by decide) rfl
                    have hK9 := hK.sub (tys' := [(t1, .int), (t2, .int), (t3, .long), (bk, .byte)]) [0, 1, 2, 3] rfl
                    exact W.iret (v := to) hx hb hr (fun t ht hW => ⟨⟨to, (f_21, f_25), rfl, ⟨by omega, by omega⟩, by rw [ht]; exact hP9, va_K.moved hW.alike hK9, hD9⟩, hS.F ht⟩) hS.2.2 dX10_readWord_243
            · have ic_5 : sm.toInt = x_2.toInt := zi_eq c_5
              refine lv_aload_n hx hb dX10_readWord_164 rfl (lv_at hl 6 rfl) ?_
              refine va_get (D := (dC, dI)) (ci := 10) (v := .ref ts) (C := RX10) (T := TX10) (N := 8) hx hb hA zin_X10 hown hK hP 0 rfl rfl 0 (by decide) (hA _ wi_346) (fun _ h9 => h9) rfl dX10_readWord_165 ?_
              refine lv_aload_n hx hb dX10_readWord_168 rfl (lv_at hl 6 rfl) ?_
              refine va_get (D := (dC, dI)) (ci := 10) (v := .int z) (C := RX10) (T := TX10) (N := 8) hx hb hA zin_X10 hown hK hP 0 rfl rfl 3 (by decide) (hA _ wi_349) (fun _ h9 => h9) rfl dX10_readWord_169 ?_
              refine lv_lload hx hb dX10_readWord_172 (lv_at hl 1 rfl) ?_
              have hPc := hP.sub (ws' := []) [] rfl
              have hDc := hD.sub (ws' := []) [] (by decide) rfl
              have hKc := hK.sub (tys' := []) [] rfl
              have hFc := va_free (wc := []) hD hS hAA [] rfl
              refine va_calli (va_runS (As := [.long by_]) (rest := [.int z, .ref ts]) ⟨hx, hb, hml, hown, hA⟩ (c_X10_sortOfSmall l dC dI aK aV by_ H.size) (va_cwS 1 hA (zw_S wi_677 wi_678 wi_137 (zw_good wi_679)) rfl rfl rfl (by decide +kernel) ⟨(Nat.le_of_ble_eq_true rfl), (Nat.le_of_ble_eq_true rfl)⟩) ⟨zP_blind, zz_pre hKc hPc hDc hN hT hS hFc⟩ rfl rfl hl.1 rfl (lv_room (Nat.le_of_ble_eq_true rfl)) dX10_readWord_174 ⟨(Nat.le_of_ble_eq_true rfl), (Nat.le_of_ble_eq_true rfl)⟩) hS (fun q _ h => hFc q h) hFc (fun r_26 u t H1 locs ht hvm hw hB hz1 hk1 hS => ?_)
              obtain ⟨hP1, hK1, hD1⟩ := hB
              rw [ht] at hP1
              have hK1 := va_K.moved hvm.symm hK1
              obtain ⟨hP, hD⟩ := va_join (wr := [(h0, .inr (10, [.ref ts, .ref tp, .ref tw, .int z, .int pa, .int so, .int pl, .long wd])), (ts, .inl (t1, 2001, .inl gs)), (tp, .inl (t2, 2001, .inl gp)), (tw, .inl (t3, 2001, .inr (.inl gw))), (bt, .inl (bk, 2000, .inl gt))]) (w1 := []) hP hD [] [0, 1, 2, 3, 4] rfl rfl (by decide) (by decide) hk1 hFc hP1 hD1
              have hK := (hK.sub (tys' := [(t1, .int), (t2, .int), (t3, .long), (bk, .byte)]) [0, 1, 2, 3] rfl).app hK1
              generalize H1 = H at hP hS ⊢
              have hP : va_P (dC, dI) vwCl [(h0, .inr (10, [.ref ts, .ref tp, .ref tw, .int z, .int pa, .int so, .int pl, .long wd])), (ts, .inl (t1, 2001, .inl gs)), (tp, .inl (t2, 2001, .inl gp)), (tw, .inl (t3, 2001, .inr (.inl gw))), (bt, .inl (bk, 2000, .inl gt))] H := hP
              have hD : va_D A [(h0, .inr (10, [.ref ts, .ref tp, .ref tw, .int z, .int pa, .int so, .int pl, .long wd])), (ts, .inl (t1, 2001, .inl gs)), (tp, .inl (t2, 2001, .inl gp)), (tw, .inl (t3, 2001, .inr (.inl gw))), (bt, .inl (bk, 2000, .inl gt))] := hD
              have hK : va_K (dC, dI) vwCl [(t1, .int), (t2, .int), (t3, .long), (bk, .byte)] s := hK
              have hw_r_26 := hw
              try dsimp only at hw_r_26
              refine va_iast hx hb hK hP hD hS 1 0 rfl rfl (vp_in_iff.mpr ⟨by omega, by omega⟩) dX10_readWord_177 (fun H locs hP hD hS => ?_)
              obtain ⟨f_27, ef_27⟩ : ∃ gz9 : Nat → Int32, gz9 = upd gs (Int32.toNatClampNeg z) r_26 := ⟨_, rfl⟩
              rw [← ef_27] at hP hD
              have hP : va_P (dC, dI) vwCl [(h0, .inr (10, [.ref ts, .ref tp, .ref tw, .int z, .int pa, .int so, .int pl, .long wd])), (ts, .inl (t1, 2001, .inl f_27)), (tp, .inl (t2, 2001, .inl gp)), (tw, .inl (t3, 2001, .inr (.inl gw))), (bt, .inl (bk, 2000, .inl gt))] H := hP
              have hD : va_D A [(h0, .inr (10, [.ref ts, .ref tp, .ref tw, .int z, .int pa, .int so, .int pl, .long wd])), (ts, .inl (t1, 2001, .inl f_27)), (tp, .inl (t2, 2001, .inl gp)), (tw, .inl (t3, 2001, .inr (.inl gw))), (bt, .inl (bk, 2000, .inl gt))] := hD
              refine lv_goto (tgt := 217) hx hb dX10_readWord_178 (by decide) ?_
              refine lv_aload_n hx hb dX10_readWord_217 rfl (lv_at hl 6 rfl) ?_
              refine va_get (D := (dC, dI)) (ci := 10) (v := .ref tw) (C := RX10) (T := TX10) (N := 8) hx hb hA zin_X10 hown hK hP 0 rfl rfl 2 (by decide) (hA _ wi_348) (fun _ h9 => h9) rfl dX10_readWord_218 ?_
              refine lv_aload_n hx hb dX10_readWord_221 rfl (lv_at hl 6 rfl) ?_
              refine va_get (D := (dC, dI)) (ci := 10) (v := .int z) (C := RX10) (T := TX10) (N := 8) hx hb hA zin_X10 hown hK hP 0 rfl rfl 3 (by decide) (hA _ wi_349) (fun _ h9 => h9) rfl dX10_readWord_222 ?_
              refine lv_iload hx hb dX10_readWord_225 (lv_at hl 3 rfl) ?_
              refine lv_iload hx hb dX10_readWord_227 (lv_at hl 0 rfl) ?_
              refine lv_icmp_ne (tgt := 238) hx hb dX10_readWord_229 (by decide) (fun c_28 => ?_) (fun c_28 => ?_)
              · have ic_28 : di.toInt ≠ x_2.toInt := zi_ne c_28
                refine lv_lload hx hb dX10_readWord_238 (lv_at hl 1 rfl) ?_
                refine va_last hx hb hK hP hD hS 3 2 rfl rfl (vp_in_iff.mpr ⟨by omega, by omega⟩) dX10_readWord_240 (fun H locs hP hD hS => ?_)
                obtain ⟨f_29, ef_29⟩ : ∃ gz9 : Nat → Int64, gz9 = vp_updL gw (Int32.toNatClampNeg z) by_ := ⟨_, rfl⟩
                rw [← ef_29] at hP hD
                have hP : va_P (dC, dI) vwCl [(h0, .inr (10, [.ref ts, .ref tp, .ref tw, .int z, .int pa, .int so, .int pl, .long wd])), (ts, .inl (t1, 2001, .inl f_27)), (tp, .inl (t2, 2001, .inl gp)), (tw, .inl (t3, 2001, .inr (.inl f_29))), (bt, .inl (bk, 2000, .inl gt))] H := hP
                have hD : va_D A [(h0, .inr (10, [.ref ts, .ref tp, .ref tw, .int z, .int pa, .int so, .int pl, .long wd])), (ts, .inl (t1, 2001, .inl f_27)), (tp, .inl (t2, 2001, .inl gp)), (tw, .inl (t3, 2001, .inr (.inl f_29))), (bt, .inl (bk, 2000, .inl gt))] := hD
                refine lv_iload hx hb dX10_readWord_241 (lv_at hl 5 rfl) ?_
                have hP9 := hP.sub (ws' := [(h0, .inr (10, [.ref ts, .ref tp, .ref tw, .int z, .int pa, .int so, .int pl, .long wd])), (ts, .inl (t1, 2001, .inl f_27)), (tp, .inl (t2, 2001, .inl gp)), (tw, .inl (t3, 2001, .inr (.inl f_29))), (bt, .inl (bk, 2000, .inl gt))]) [0, 1, 2, 3, 4] rfl
                have hD9 := hD.sub (ws' := [(h0, .inr (10, [.ref ts, .ref tp, .ref tw, .int z, .int pa, .int so, .int pl, .long wd])), (ts, .inl (t1, 2001, .inl f_27)), (tp, .inl (t2, 2001, .inl gp)), (tw, .inl (t3, 2001, .inr (.inl f_29))), (bt, .inl (bk, 2000, .inl gt))]) [0, 1, 2, 3, 4] (by decide) rfl
                have hK9 := hK.sub (tys' := [(t1, .int), (t2, .int), (t3, .long), (bk, .byte)]) [0, 1, 2, 3] rfl
                exact W.iret (v := to) hx hb hr (fun t ht hW => ⟨⟨to, (f_27, f_29), rfl, ⟨by omega, by omega⟩, by rw [ht]; exact hP9, va_K.moved hW.alike hK9, hD9⟩, hS.F ht⟩) hS.2.2 dX10_readWord_243
              · have ic_28 : di.toInt = x_2.toInt := zi_eq c_28
                refine lv_iload hx hb dX10_readWord_232 (lv_at hl 2 rfl) ?_
                obtain ⟨x_30, ex_30⟩ : ∃ z : Int64, z = Int32.toInt64 nu := ⟨_, rfl⟩
                refine lv_i2l (v := x_30) hx hb dX10_readWord_234 ex_30.symm ?_
                refine lv_goto (tgt := 240) hx hb dX10_readWord_235 (by decide) ?_
                refine va_last hx hb hK hP hD hS 3 2 rfl rfl (vp_in_iff.mpr ⟨by omega, by omega⟩) dX10_readWord_240 (fun H locs hP hD hS => ?_)
                obtain ⟨f_31, ef_31⟩ : ∃ gz9 : Nat → Int64, gz9 = vp_updL gw (Int32.toNatClampNeg z) x_30 := ⟨_, rfl⟩
                rw [← ef_31] at hP hD
                have hP : va_P (dC, dI) vwCl [(h0, .inr (10, [.ref ts, .ref tp, .ref tw, .int z, .int pa, .int so, .int pl, .long wd])), (ts, .inl (t1, 2001, .inl f_27)), (tp, .inl (t2, 2001, .inl gp)), (tw, .inl (t3, 2001, .inr (.inl f_31))), (bt, .inl (bk, 2000, .inl gt))] H := hP
                have hD : va_D A [(h0, .inr (10, [.ref ts, .ref tp, .ref tw, .int z, .int pa, .int so, .int pl, .long wd])), (ts, .inl (t1, 2001, .inl f_27)), (tp, .inl (t2, 2001, .inl gp)), (tw, .inl (t3, 2001, .inr (.inl f_31))), (bt, .inl (bk, 2000, .inl gt))] := hD
                refine lv_iload hx hb dX10_readWord_241 (lv_at hl 5 rfl) ?_
                have hP9 := hP.sub (ws' := [(h0, .inr (10, [.ref ts, .ref tp, .ref tw, .int z, .int pa, .int so, .int pl, .long wd])), (ts, .inl (t1, 2001, .inl f_27)), (tp, .inl (t2, 2001, .inl gp)), (tw, .inl (t3, 2001, .inr (.inl f_31))), (bt, .inl (bk, 2000, .inl gt))]) [0, 1, 2, 3, 4] rfl
                have hD9 := hD.sub (ws' := [(h0, .inr (10, [.ref ts, .ref tp, .ref tw, .int z, .int pa, .int so, .int pl, .long wd])), (ts, .inl (t1, 2001, .inl f_27)), (tp, .inl (t2, 2001, .inl gp)), (tw, .inl (t3, 2001, .inr (.inl f_31))), (bt, .inl (bk, 2000, .inl gt))]) [0, 1, 2, 3, 4] (by decide) rfl
                have hK9 := hK.sub (tys' := [(t1, .int), (t2, .int), (t3, .long), (bk, .byte)]) [0, 1, 2, 3] rfl
                exact W.iret (v := to) hx hb hr (fun t ht hW => ⟨⟨to, (f_27, f_31), rfl, ⟨by omega, by omega⟩, by rw [ht]; exact hP9, va_K.moved hW.alike hK9, hD9⟩, hS.F ht⟩) hS.2.2 dX10_readWord_243
          · have ic_4 : 8 < x_2.toInt := zi_nle c_4
            refine lv_aload_n hx hb dX10_readWord_142 rfl (lv_at hl 6 rfl) ?_
            refine va_get (D := (dC, dI)) (ci := 10) (v := .ref ts) (C := RX10) (T := TX10) (N := 8) hx hb hA zin_X10 hown hK hP 0 rfl rfl 0 (by decide) (hA _ wi_346) (fun _ h9 => h9) rfl dX10_readWord_143 ?_
            refine lv_aload_n hx hb dX10_readWord_146 rfl (lv_at hl 6 rfl) ?_
            refine va_get (D := (dC, dI)) (ci := 10) (v := .int z) (C := RX10) (T := TX10) (N := 8) hx hb hA zin_X10 hown hK hP 0 rfl rfl 3 (by decide) (hA _ wi_349) (fun _ h9 => h9) rfl dX10_readWord_147 ?_
            refine lv_sipush (v := 257) hx hb dX10_readWord_150 (by decide) ?_
            refine va_iast hx hb hK hP hD hS 1 0 rfl rfl (vp_in_iff.mpr ⟨by omega, by omega⟩) dX10_readWord_153 (fun H locs hP hD hS => ?_)
            obtain ⟨f_32, ef_32⟩ : ∃ gz9 : Nat → Int32, gz9 = upd gs (Int32.toNatClampNeg z) 257 := ⟨_, rfl⟩
            rw [← ef_32] at hP hD
            have hP : va_P (dC, dI) vwCl [(h0, .inr (10, [.ref ts, .ref tp, .ref tw, .int z, .int pa, .int so, .int pl, .long wd])), (ts, .inl (t1, 2001, .inl f_32)), (tp, .inl (t2, 2001, .inl gp)), (tw, .inl (t3, 2001, .inr (.inl gw))), (bt, .inl (bk, 2000, .inl gt))] H := hP
            have hD : va_D A [(h0, .inr (10, [.ref ts, .ref tp, .ref tw, .int z, .int pa, .int so, .int pl, .long wd])), (ts, .inl (t1, 2001, .inl f_32)), (tp, .inl (t2, 2001, .inl gp)), (tw, .inl (t3, 2001, .inr (.inl gw))), (bt, .inl (bk, 2000, .inl gt))] := hD
            refine lv_goto (tgt := 217) hx hb dX10_readWord_154 (by decide) ?_
            refine lv_aload_n hx hb dX10_readWord_217 rfl (lv_at hl 6 rfl) ?_
            refine va_get (D := (dC, dI)) (ci := 10) (v := .ref tw) (C := RX10) (T := TX10) (N := 8) hx hb hA zin_X10 hown hK hP 0 rfl rfl 2 (by decide) (hA _ wi_348) (fun _ h9 => h9) rfl dX10_readWord_218 ?_
            refine lv_aload_n hx hb dX10_readWord_221 rfl (lv_at hl 6 rfl) ?_
            refine va_get (D := (dC, dI)) (ci := 10) (v := .int z) (C := RX10) (T := TX10) (N := 8) hx hb hA zin_X10 hown hK hP 0 rfl rfl 3 (by decide) (hA _ wi_349) (fun _ h9 => h9) rfl dX10_readWord_222 ?_
            refine lv_iload hx hb dX10_readWord_225 (lv_at hl 3 rfl) ?_
            refine lv_iload hx hb dX10_readWord_227 (lv_at hl 0 rfl) ?_
            refine lv_icmp_ne (tgt := 238) hx hb dX10_readWord_229 (by decide) (fun c_33 => ?_) (fun c_33 => ?_)
            · have ic_33 : di.toInt ≠ x_2.toInt := zi_ne c_33
              refine lv_lload hx hb dX10_readWord_238 (lv_at hl 1 rfl) ?_
              refine va_last hx hb hK hP hD hS 3 2 rfl rfl (vp_in_iff.mpr ⟨by omega, by omega⟩) dX10_readWord_240 (fun H locs hP hD hS => ?_)
              obtain ⟨f_34, ef_34⟩ : ∃ gz9 : Nat → Int64, gz9 = vp_updL gw (Int32.toNatClampNeg z) by_ := ⟨_, rfl⟩
              rw [← ef_34] at hP hD
              have hP : va_P (dC, dI) vwCl [(h0, .inr (10, [.ref ts, .ref tp, .ref tw, .int z, .int pa, .int so, .int pl, .long wd])), (ts, .inl (t1, 2001, .inl f_32)), (tp, .inl (t2, 2001, .inl gp)), (tw, .inl (t3, 2001, .inr (.inl f_34))), (bt, .inl (bk, 2000, .inl gt))] H := hP
              have hD : va_D A [(h0, .inr (10, [.ref ts, .ref tp, .ref tw, .int z, .int pa, .int so, .int pl, .long wd])), (ts, .inl (t1, 2001, .inl f_32)), (tp, .inl (t2, 2001, .inl gp)), (tw, .inl (t3, 2001, .inr (.inl f_34))), (bt, .inl (bk, 2000, .inl gt))] := hD
              refine lv_iload hx hb dX10_readWord_241 (lv_at hl 5 rfl) ?_
              have hP9 := hP.sub (ws' := [(h0, .inr (10, [.ref ts, .ref tp, .ref tw, .int z, .int pa, .int so, .int pl, .long wd])), (ts, .inl (t1, 2001, .inl f_32)), (tp, .inl (t2, 2001, .inl gp)), (tw, .inl (t3, 2001, .inr (.inl f_34))), (bt, .inl (bk, 2000, .inl gt))]) [0, 1, 2, 3, 4] rfl
              have hD9 := hD.sub (ws' := [(h0, .inr (10, [.ref ts, .ref tp, .ref tw, .int z, .int pa, .int so, .int pl, .long wd])), (ts, .inl (t1, 2001, .inl f_32)), (tp, .inl (t2, 2001, .inl gp)), (tw, .inl (t3, 2001, .inr (.inl f_34))), (bt, .inl (bk, 2000, .inl gt))]) [0, 1, 2, 3, 4] (by decide) rfl
              have hK9 := hK.sub (tys' := [(t1, .int), (t2, .int), (t3, .long), (bk, .byte)]) [0, 1, 2, 3] rfl
              exact W.iret (v := to) hx hb hr (fun t ht hW => ⟨⟨to, (f_32, f_34), rfl, ⟨by omega, by omega⟩, by rw [ht]; exact hP9, va_K.moved hW.alike hK9, hD9⟩, hS.F ht⟩) hS.2.2 dX10_readWord_243
            · have ic_33 : di.toInt = x_2.toInt := zi_eq c_33
              refine lv_iload hx hb dX10_readWord_232 (lv_at hl 2 rfl) ?_
              obtain ⟨x_35, ex_35⟩ : ∃ z : Int64, z = Int32.toInt64 nu := ⟨_, rfl⟩
              refine lv_i2l (v := x_35) hx hb dX10_readWord_234 ex_35.symm ?_
              refine lv_goto (tgt := 240) hx hb dX10_readWord_235 (by decide) ?_
              refine va_last hx hb hK hP hD hS 3 2 rfl rfl (vp_in_iff.mpr ⟨by omega, by omega⟩) dX10_readWord_240 (fun H locs hP hD hS => ?_)
              obtain ⟨f_36, ef_36⟩ : ∃ gz9 : Nat → Int64, gz9 = vp_updL gw (Int32.toNatClampNeg z) x_35 := ⟨_, rfl⟩
              rw [← ef_36] at hP hD
              have hP : va_P (dC, dI) vwCl [(h0, .inr (10, [.ref ts, .ref tp, .ref tw, .int z, .int pa, .int so, .int pl, .long wd])), (ts, .inl (t1, 2001, .inl f_32)), (tp, .inl (t2, 2001, .inl gp)), (tw, .inl (t3, 2001, .inr (.inl f_36))), (bt, .inl (bk, 2000, .inl gt))] H := hP
              have hD : va_D A [(h0, .inr (10, [.ref ts, .ref tp, .ref tw, .int z, .int pa, .int so, .int pl, .long wd])), (ts, .inl (t1, 2001, .inl f_32)), (tp, .inl (t2, 2001, .inl gp)), (tw, .inl (t3, 2001, .inr (.inl f_36))), (bt, .inl (bk, 2000, .inl gt))] := hD
              refine lv_iload hx hb dX10_readWord_241 (lv_at hl 5 rfl) ?_
              have hP9 := hP.sub (ws' := [(h0, .inr (10, [.ref ts, .ref tp, .ref tw, .int z, .int pa, .int so, .int pl, .long wd])), (ts, .inl (t1, 2001, .inl f_32)), (tp, .inl (t2, 2001, .inl gp)), (tw, .inl (t3, 2001, .inr (.inl f_36))), (bt, .inl (bk, 2000, .inl gt))]) [0, 1, 2, 3, 4] rfl
              have hD9 := hD.sub (ws' := [(h0, .inr (10, [.ref ts, .ref tp, .ref tw, .int z, .int pa, .int so, .int pl, .long wd])), (ts, .inl (t1, 2001, .inl f_32)), (tp, .inl (t2, 2001, .inl gp)), (tw, .inl (t3, 2001, .inr (.inl f_36))), (bt, .inl (bk, 2000, .inl gt))]) [0, 1, 2, 3, 4] (by decide) rfl
              have hK9 := hK.sub (tys' := [(t1, .int), (t2, .int), (t3, .long), (bk, .byte)]) [0, 1, 2, 3] rfl
              exact W.iret (v := to) hx hb hr (fun t ht hW => ⟨⟨to, (f_32, f_36), rfl, ⟨by omega, by omega⟩, by rw [ht]; exact hP9, va_K.moved hW.alike hK9, hD9⟩, hS.F ht⟩) hS.2.2 dX10_readWord_243
        · have ic_3 : di.toInt = x_2.toInt := zi_eq c_3
          refine lv_aload_n hx hb dX10_readWord_107 rfl (lv_at hl 6 rfl) ?_
          refine va_get (D := (dC, dI)) (ci := 10) (v := .ref ts) (C := RX10) (T := TX10) (N := 8) hx hb hA zin_X10 hown hK hP 0 rfl rfl 0 (by decide) (hA _ wi_346) (fun _ h9 => h9) rfl dX10_readWord_108 ?_
          refine lv_aload_n hx hb dX10_readWord_111 rfl (lv_at hl 6 rfl) ?_
          refine va_get (D := (dC, dI)) (ci := 10) (v := .int z) (C := RX10) (T := TX10) (N := 8) hx hb hA zin_X10 hown hK hP 0 rfl rfl 3 (by decide) (hA _ wi_349) (fun _ h9 => h9) rfl dX10_readWord_112 ?_
          refine lv_iload hx hb dX10_readWord_115 (lv_at hl 0 rfl) ?_
          refine lv_bipush (v := 9) hx hb dX10_readWord_117 (by decide) ?_
          refine lv_icmp_gt (tgt := 128) hx hb dX10_readWord_119 (by decide) (fun c_37 => ?_) (fun c_37 => ?_)
          · have ic_37 : 9 < x_2.toInt := zi_lt c_37
            refine lv_sipush (v := 257) hx hb dX10_readWord_128 (by decide) ?_
            refine va_iast hx hb hK hP hD hS 1 0 rfl rfl (vp_in_iff.mpr ⟨by omega, by omega⟩) dX10_readWord_131 (fun H locs hP hD hS => ?_)
            obtain ⟨f_38, ef_38⟩ : ∃ gz9 : Nat → Int32, gz9 = upd gs (Int32.toNatClampNeg z) 257 := ⟨_, rfl⟩
            rw [← ef_38] at hP hD
            have hP : va_P (dC, dI) vwCl [(h0, .inr (10, [.ref ts, .ref tp, .ref tw, .int z, .int pa, .int so, .int pl, .long wd])), (ts, .inl (t1, 2001, .inl f_38)), (tp, .inl (t2, 2001, .inl gp)), (tw, .inl (t3, 2001, .inr (.inl gw))), (bt, .inl (bk, 2000, .inl gt))] H := hP
            have hD : va_D A [(h0, .inr (10, [.ref ts, .ref tp, .ref tw, .int z, .int pa, .int so, .int pl, .long wd])), (ts, .inl (t1, 2001, .inl f_38)), (tp, .inl (t2, 2001, .inl gp)), (tw, .inl (t3, 2001, .inr (.inl gw))), (bt, .inl (bk, 2000, .inl gt))] := hD
            refine lv_goto (tgt := 217) hx hb dX10_readWord_132 (by decide) ?_
            refine lv_aload_n hx hb dX10_readWord_217 rfl (lv_at hl 6 rfl) ?_
            refine va_get (D := (dC, dI)) (ci := 10) (v := .ref tw) (C := RX10) (T := TX10) (N := 8) hx hb hA zin_X10 hown hK hP 0 rfl rfl 2 (by decide) (hA _ wi_348) (fun _ h9 => h9) rfl dX10_readWord_218 ?_
            refine lv_aload_n hx hb dX10_readWord_221 rfl (lv_at hl 6 rfl) ?_
            refine va_get (D := (dC, dI)) (ci := 10) (v := .int z) (C := RX10) (T := TX10) (N := 8) hx hb hA zin_X10 hown hK hP 0 rfl rfl 3 (by decide) (hA _ wi_349) (fun _ h9 => h9) rfl dX10_readWord_222 ?_
            refine lv_iload hx hb dX10_readWord_225 (lv_at hl 3 rfl) ?_
            refine lv_iload hx hb dX10_readWord_227 (lv_at hl 0 rfl) ?_
            refine lv_icmp_ne (tgt := 238) hx hb dX10_readWord_229 (by decide) (fun c_39 => ?_) (fun c_39 => ?_)
            · have ic_39 : di.toInt ≠ x_2.toInt := zi_ne c_39
              refine lv_lload hx hb dX10_readWord_238 (lv_at hl 1 rfl) ?_
              refine va_last hx hb hK hP hD hS 3 2 rfl rfl (vp_in_iff.mpr ⟨by omega, by omega⟩) dX10_readWord_240 (fun H locs hP hD hS => ?_)
              obtain ⟨f_40, ef_40⟩ : ∃ gz9 : Nat → Int64, gz9 = vp_updL gw (Int32.toNatClampNeg z) by_ := ⟨_, rfl⟩
              rw [← ef_40] at hP hD
              have hP : va_P (dC, dI) vwCl [(h0, .inr (10, [.ref ts, .ref tp, .ref tw, .int z, .int pa, .int so, .int pl, .long wd])), (ts, .inl (t1, 2001, .inl f_38)), (tp, .inl (t2, 2001, .inl gp)), (tw, .inl (t3, 2001, .inr (.inl f_40))), (bt, .inl (bk, 2000, .inl gt))] H := hP
              have hD : va_D A [(h0, .inr (10, [.ref ts, .ref tp, .ref tw, .int z, .int pa, .int so, .int pl, .long wd])), (ts, .inl (t1, 2001, .inl f_38)), (tp, .inl (t2, 2001, .inl gp)), (tw, .inl (t3, 2001, .inr (.inl f_40))), (bt, .inl (bk, 2000, .inl gt))] := hD
              refine lv_iload hx hb dX10_readWord_241 (lv_at hl 5 rfl) ?_
              have hP9 := hP.sub (ws' := [(h0, .inr (10, [.ref ts, .ref tp, .ref tw, .int z, .int pa, .int so, .int pl, .long wd])), (ts, .inl (t1, 2001, .inl f_38)), (tp, .inl (t2, 2001, .inl gp)), (tw, .inl (t3, 2001, .inr (.inl f_40))), (bt, .inl (bk, 2000, .inl gt))]) [0, 1, 2, 3, 4] rfl
              have hD9 := hD.sub (ws' := [(h0, .inr (10, [.ref ts, .ref tp, .ref tw, .int z, .int pa, .int so, .int pl, .long wd])), (ts, .inl (t1, 2001, .inl f_38)), (tp, .inl (t2, 2001, .inl gp)), (tw, .inl (t3, 2001, .inr (.inl f_40))), (bt, .inl (bk, 2000, .inl gt))]) [0, 1, 2, 3, 4] (by decide) rfl
              have hK9 := hK.sub (tys' := [(t1, .int), (t2, .int), (t3, .long), (bk, .byte)]) [0, 1, 2, 3] rfl
              exact W.iret (v := to) hx hb hr (fun t ht hW => ⟨⟨to, (f_38, f_40), rfl, ⟨by omega, by omega⟩, by rw [ht]; exact hP9, va_K.moved hW.alike hK9, hD9⟩, hS.F ht⟩) hS.2.2 dX10_readWord_243
            · have ic_39 : di.toInt = x_2.toInt := zi_eq c_39
              refine lv_iload hx hb dX10_readWord_232 (lv_at hl 2 rfl) ?_
              obtain ⟨x_41, ex_41⟩ : ∃ z : Int64, z = Int32.toInt64 nu := ⟨_, rfl⟩
              refine lv_i2l (v := x_41) hx hb dX10_readWord_234 ex_41.symm ?_
              refine lv_goto (tgt := 240) hx hb dX10_readWord_235 (by decide) ?_
              refine va_last hx hb hK hP hD hS 3 2 rfl rfl (vp_in_iff.mpr ⟨by omega, by omega⟩) dX10_readWord_240 (fun H locs hP hD hS => ?_)
              obtain ⟨f_42, ef_42⟩ : ∃ gz9 : Nat → Int64, gz9 = vp_updL gw (Int32.toNatClampNeg z) x_41 := ⟨_, rfl⟩
              rw [← ef_42] at hP hD
              have hP : va_P (dC, dI) vwCl [(h0, .inr (10, [.ref ts, .ref tp, .ref tw, .int z, .int pa, .int so, .int pl, .long wd])), (ts, .inl (t1, 2001, .inl f_38)), (tp, .inl (t2, 2001, .inl gp)), (tw, .inl (t3, 2001, .inr (.inl f_42))), (bt, .inl (bk, 2000, .inl gt))] H := hP
              have hD : va_D A [(h0, .inr (10, [.ref ts, .ref tp, .ref tw, .int z, .int pa, .int so, .int pl, .long wd])), (ts, .inl (t1, 2001, .inl f_38)), (tp, .inl (t2, 2001, .inl gp)), (tw, .inl (t3, 2001, .inr (.inl f_42))), (bt, .inl (bk, 2000, .inl gt))] := hD
              refine lv_iload hx hb dX10_readWord_241 (lv_at hl 5 rfl) ?_
              have hP9 := hP.sub (ws' := [(h0, .inr (10, [.ref ts, .ref tp, .ref tw, .int z, .int pa, .int so, .int pl, .long wd])), (ts, .inl (t1, 2001, .inl f_38)), (tp, .inl (t2, 2001, .inl gp)), (tw, .inl (t3, 2001, .inr (.inl f_42))), (bt, .inl (bk, 2000, .inl gt))]) [0, 1, 2, 3, 4] rfl
              have hD9 := hD.sub (ws' := [(h0, .inr (10, [.ref ts, .ref tp, .ref tw, .int z, .int pa, .int so, .int pl, .long wd])), (ts, .inl (t1, 2001, .inl f_38)), (tp, .inl (t2, 2001, .inl gp)), (tw, .inl (t3, 2001, .inr (.inl f_42))), (bt, .inl (bk, 2000, .inl gt))]) [0, 1, 2, 3, 4] (by decide) rfl
              have hK9 := hK.sub (tys' := [(t1, .int), (t2, .int), (t3, .long), (bk, .byte)]) [0, 1, 2, 3] rfl
              exact W.iret (v := to) hx hb hr (fun t ht hW => ⟨⟨to, (f_38, f_42), rfl, ⟨by omega, by omega⟩, by rw [ht]; exact hP9, va_K.moved hW.alike hK9, hD9⟩, hS.F ht⟩) hS.2.2 dX10_readWord_243
          · have ic_37 : x_2.toInt ≤ 9 := zi_nlt c_37
            refine lv_sipush (v := 260) hx hb dX10_readWord_122 (by decide) ?_
            refine lv_goto (tgt := 131) hx hb dX10_readWord_125 (by decide) ?_
            refine va_iast hx hb hK hP hD hS 1 0 rfl rfl (vp_in_iff.mpr ⟨by omega, by omega⟩) dX10_readWord_131 (fun H locs hP hD hS => ?_)
            obtain ⟨f_43, ef_43⟩ : ∃ gz9 : Nat → Int32, gz9 = upd gs (Int32.toNatClampNeg z) 260 := ⟨_, rfl⟩
            rw [← ef_43] at hP hD
            have hP : va_P (dC, dI) vwCl [(h0, .inr (10, [.ref ts, .ref tp, .ref tw, .int z, .int pa, .int so, .int pl, .long wd])), (ts, .inl (t1, 2001, .inl f_43)), (tp, .inl (t2, 2001, .inl gp)), (tw, .inl (t3, 2001, .inr (.inl gw))), (bt, .inl (bk, 2000, .inl gt))] H := hP
            have hD : va_D A [(h0, .inr (10, [.ref ts, .ref tp, .ref tw, .int z, .int pa, .int so, .int pl, .long wd])), (ts, .inl (t1, 2001, .inl f_43)), (tp, .inl (t2, 2001, .inl gp)), (tw, .inl (t3, 2001, .inr (.inl gw))), (bt, .inl (bk, 2000, .inl gt))] := hD
            refine lv_goto (tgt := 217) hx hb dX10_readWord_132 (by decide) ?_
            refine lv_aload_n hx hb dX10_readWord_217 rfl (lv_at hl 6 rfl) ?_
            refine va_get (D := (dC, dI)) (ci := 10) (v := .ref tw) (C := RX10) (T := TX10) (N := 8) hx hb hA zin_X10 hown hK hP 0 rfl rfl 2 (by decide) (hA _ wi_348) (fun _ h9 => h9) rfl dX10_readWord_218 ?_
            refine lv_aload_n hx hb dX10_readWord_221 rfl (lv_at hl 6 rfl) ?_
            refine va_get (D := (dC, dI)) (ci := 10) (v := .int z) (C := RX10) (T := TX10) (N := 8) hx hb hA zin_X10 hown hK hP 0 rfl rfl 3 (by decide) (hA _ wi_349) (fun _ h9 => h9) rfl dX10_readWord_222 ?_
            refine lv_iload hx hb dX10_readWord_225 (lv_at hl 3 rfl) ?_
            refine lv_iload hx hb dX10_readWord_227 (lv_at hl 0 rfl) ?_
            refine lv_icmp_ne (tgt := 238) hx hb dX10_readWord_229 (by decide) (fun c_44 => ?_) (fun c_44 => ?_)
            · have ic_44 : di.toInt ≠ x_2.toInt := zi_ne c_44
              refine lv_lload hx hb dX10_readWord_238 (lv_at hl 1 rfl) ?_
              refine va_last hx hb hK hP hD hS 3 2 rfl rfl (vp_in_iff.mpr ⟨by omega, by omega⟩) dX10_readWord_240 (fun H locs hP hD hS => ?_)
              obtain ⟨f_45, ef_45⟩ : ∃ gz9 : Nat → Int64, gz9 = vp_updL gw (Int32.toNatClampNeg z) by_ := ⟨_, rfl⟩
              rw [← ef_45] at hP hD
              have hP : va_P (dC, dI) vwCl [(h0, .inr (10, [.ref ts, .ref tp, .ref tw, .int z, .int pa, .int so, .int pl, .long wd])), (ts, .inl (t1, 2001, .inl f_43)), (tp, .inl (t2, 2001, .inl gp)), (tw, .inl (t3, 2001, .inr (.inl f_45))), (bt, .inl (bk, 2000, .inl gt))] H := hP
              have hD : va_D A [(h0, .inr (10, [.ref ts, .ref tp, .ref tw, .int z, .int pa, .int so, .int pl, .long wd])), (ts, .inl (t1, 2001, .inl f_43)), (tp, .inl (t2, 2001, .inl gp)), (tw, .inl (t3, 2001, .inr (.inl f_45))), (bt, .inl (bk, 2000, .inl gt))] := hD
              refine lv_iload hx hb dX10_readWord_241 (lv_at hl 5 rfl) ?_
              have hP9 := hP.sub (ws' := [(h0, .inr (10, [.ref ts, .ref tp, .ref tw, .int z, .int pa, .int so, .int pl, .long wd])), (ts, .inl (t1, 2001, .inl f_43)), (tp, .inl (t2, 2001, .inl gp)), (tw, .inl (t3, 2001, .inr (.inl f_45))), (bt, .inl (bk, 2000, .inl gt))]) [0, 1, 2, 3, 4] rfl
              have hD9 := hD.sub (ws' := [(h0, .inr (10, [.ref ts, .ref tp, .ref tw, .int z, .int pa, .int so, .int pl, .long wd])), (ts, .inl (t1, 2001, .inl f_43)), (tp, .inl (t2, 2001, .inl gp)), (tw, .inl (t3, 2001, .inr (.inl f_45))), (bt, .inl (bk, 2000, .inl gt))]) [0, 1, 2, 3, 4] (by decide) rfl
              have hK9 := hK.sub (tys' := [(t1, .int), (t2, .int), (t3, .long), (bk, .byte)]) [0, 1, 2, 3] rfl
              exact W.iret (v := to) hx hb hr (fun t ht hW => ⟨⟨to, (f_43, f_45), rfl, ⟨by omega, by omega⟩, by rw [ht]; exact hP9, va_K.moved hW.alike hK9, hD9⟩, hS.F ht⟩) hS.2.2 dX10_readWord_243
            · have ic_44 : di.toInt = x_2.toInt := zi_eq c_44
              refine lv_iload hx hb dX10_readWord_232 (lv_at hl 2 rfl) ?_
              obtain ⟨x_46, ex_46⟩ : ∃ z : Int64, z = Int32.toInt64 nu := ⟨_, rfl⟩
              refine lv_i2l (v := x_46) hx hb dX10_readWord_234 ex_46.symm ?_
              refine lv_goto (tgt := 240) hx hb dX10_readWord_235 (by decide) ?_
              refine va_last hx hb hK hP hD hS 3 2 rfl rfl (vp_in_iff.mpr ⟨by omega, by omega⟩) dX10_readWord_240 (fun H locs hP hD hS => ?_)
              obtain ⟨f_47, ef_47⟩ : ∃ gz9 : Nat → Int64, gz9 = vp_updL gw (Int32.toNatClampNeg z) x_46 := ⟨_, rfl⟩
              rw [← ef_47] at hP hD
              have hP : va_P (dC, dI) vwCl [(h0, .inr (10, [.ref ts, .ref tp, .ref tw, .int z, .int pa, .int so, .int pl, .long wd])), (ts, .inl (t1, 2001, .inl f_43)), (tp, .inl (t2, 2001, .inl gp)), (tw, .inl (t3, 2001, .inr (.inl f_47))), (bt, .inl (bk, 2000, .inl gt))] H := hP
              have hD : va_D A [(h0, .inr (10, [.ref ts, .ref tp, .ref tw, .int z, .int pa, .int so, .int pl, .long wd])), (ts, .inl (t1, 2001, .inl f_43)), (tp, .inl (t2, 2001, .inl gp)), (tw, .inl (t3, 2001, .inr (.inl f_47))), (bt, .inl (bk, 2000, .inl gt))] := hD
              refine lv_iload hx hb dX10_readWord_241 (lv_at hl 5 rfl) ?_
              have hP9 := hP.sub (ws' := [(h0, .inr (10, [.ref ts, .ref tp, .ref tw, .int z, .int pa, .int so, .int pl, .long wd])), (ts, .inl (t1, 2001, .inl f_43)), (tp, .inl (t2, 2001, .inl gp)), (tw, .inl (t3, 2001, .inr (.inl f_47))), (bt, .inl (bk, 2000, .inl gt))]) [0, 1, 2, 3, 4] rfl
              have hD9 := hD.sub (ws' := [(h0, .inr (10, [.ref ts, .ref tp, .ref tw, .int z, .int pa, .int so, .int pl, .long wd])), (ts, .inl (t1, 2001, .inl f_43)), (tp, .inl (t2, 2001, .inl gp)), (tw, .inl (t3, 2001, .inr (.inl f_47))), (bt, .inl (bk, 2000, .inl gt))]) [0, 1, 2, 3, 4] (by decide) rfl
              have hK9 := hK.sub (tys' := [(t1, .int), (t2, .int), (t3, .long), (bk, .byte)]) [0, 1, 2, 3] rfl
              exact W.iret (v := to) hx hb hr (fun t ht hW => ⟨⟨to, (f_43, f_47), rfl, ⟨by omega, by omega⟩, by rw [ht]; exact hP9, va_K.moved hW.alike hK9, hD9⟩, hS.F ht⟩) hS.2.2 dX10_readWord_243
      · have ic_1 : to.toInt < en.toInt := zi_nle c_1
        refine lv_aload_n hx hb dX10_readWord_21 rfl (lv_at hl 6 rfl) ?_
        refine lv_iload hx hb dX10_readWord_22 (lv_at hl 4 rfl) ?_
        refine va_bald hx hb hK hP 4 3 rfl rfl (vp_in_iff.mpr ⟨by omega, by omega⟩) dX10_readWord_24 ?_
        refine lv_topi (fun x_48 ex_48 => ?_)
        have hPc := hP.sub (ws' := []) [] rfl
        have hDc := hD.sub (ws' := []) [] (by decide) rfl
        have hKc := hK.sub (tys' := []) [] rfl
        have hFc := va_free (wc := []) hD hS hAA [] rfl
        refine va_calli (va_runS (As := [.int x_48]) (rest := []) ⟨hx, hb, hml, hown, hA⟩ (c_X10_isWordByte l dC dI aK aV x_48 H.size) (va_cwS 1 hA (zw_S wi_661 wi_662 wi_137 (zw_good wi_663)) rfl rfl rfl (by decide +kernel) ⟨(Nat.le_of_ble_eq_true rfl), (Nat.le_of_ble_eq_true rfl)⟩) ⟨zP_blind, zz_pre hKc hPc hDc hN hT hS hFc⟩ rfl rfl hl.1 rfl (lv_room (Nat.le_of_ble_eq_true rfl)) dX10_readWord_25 ⟨(Nat.le_of_ble_eq_true rfl), (Nat.le_of_ble_eq_true rfl)⟩) hS (fun q _ h => hFc q h) hFc (fun r_49 u t H1 locs ht hvm hw hB hz1 hk1 hS => ?_)
        obtain ⟨hP1, hK1, hD1⟩ := hB
        rw [ht] at hP1
        have hK1 := va_K.moved hvm.symm hK1
        obtain ⟨hP, hD⟩ := va_join (wr := [(h0, .inr (10, [.ref ts, .ref tp, .ref tw, .int z, .int pa, .int so, .int pl, .long wd])), (ts, .inl (t1, 2001, .inl gs)), (tp, .inl (t2, 2001, .inl gp)), (tw, .inl (t3, 2001, .inr (.inl gw))), (bt, .inl (bk, 2000, .inl gt))]) (w1 := []) hP hD [] [0, 1, 2, 3, 4] rfl rfl (by decide) (by decide) hk1 hFc hP1 hD1
        have hK := (hK.sub (tys' := [(t1, .int), (t2, .int), (t3, .long), (bk, .byte)]) [0, 1, 2, 3] rfl).app hK1
        generalize H1 = H at hP hS ⊢
        have hP : va_P (dC, dI) vwCl [(h0, .inr (10, [.ref ts, .ref tp, .ref tw, .int z, .int pa, .int so, .int pl, .long wd])), (ts, .inl (t1, 2001, .inl gs)), (tp, .inl (t2, 2001, .inl gp)), (tw, .inl (t3, 2001, .inr (.inl gw))), (bt, .inl (bk, 2000, .inl gt))] H := hP
        have hD : va_D A [(h0, .inr (10, [.ref ts, .ref tp, .ref tw, .int z, .int pa, .int so, .int pl, .long wd])), (ts, .inl (t1, 2001, .inl gs)), (tp, .inl (t2, 2001, .inl gp)), (tw, .inl (t3, 2001, .inr (.inl gw))), (bt, .inl (bk, 2000, .inl gt))] := hD
        have hK : va_K (dC, dI) vwCl [(t1, .int), (t2, .int), (t3, .long), (bk, .byte)] s := hK
        have hw_r_49 := hw
        try dsimp only at hw_r_49
        refine lv_if_eq (tgt := 94) hx hb dX10_readWord_28 (by decide) (fun c_50 => ?_) (fun c_50 => ?_)
        · have ic_50 : r_49.toInt = 0 := zi_eq c_50
          refine lv_iload hx hb dX10_readWord_94 (lv_at hl 4 rfl) ?_
          refine lv_iload_n hx hb dX10_readWord_96 rfl (lv_at hl 7 rfl) ?_
          refine lv_isub hx hb dX10_readWord_97 ?_
          refine lv_topi (fun x_51 ex_51 => ?_)
          have ix_51 : x_51.toInt = to.toInt - fr.toInt := by rw [ex_51]; exact zi_subc rfl (by omega) (by omega)
          refine lv_istore (lv' := [(10, .int x_51), (8, .long by_), (7, .int nu), (6, .int di), (5, .int sm), (4, .int to), (0, .ref h0), (1, .ref bt), (2, .int fr), (3, .int en)]) hx hb dX10_readWord_98 hl (by decide) rfl (fun ls hl => ?_)
          refine lv_iload hx hb dX10_readWord_100 (lv_at hl 3 rfl) ?_
          refine lv_iload hx hb dX10_readWord_102 (lv_at hl 0 rfl) ?_
          refine lv_icmp_ne (tgt := 135) hx hb dX10_readWord_104 (by decide) (fun c_52 => ?_) (fun c_52 => ?_)
          · have ic_52 : di.toInt ≠ x_51.toInt := zi_ne c_52
            refine lv_iload hx hb dX10_readWord_135 (lv_at hl 0 rfl) ?_
            refine lv_bipush (v := 8) hx hb dX10_readWord_137 (by decide) ?_
            refine lv_icmp_le (tgt := 157) hx hb dX10_readWord_139 (by decide) (fun c_53 => ?_) (fun c_53 => ?_)
            · have ic_53 : x_51.toInt ≤ 8 := zi_le c_53
              refine lv_iload hx hb dX10_readWord_157 (lv_at hl 4 rfl) ?_
              refine lv_iload hx hb dX10_readWord_159 (lv_at hl 0 rfl) ?_
              refine lv_icmp_ne (tgt := 181) hx hb dX10_readWord_161 (by decide) (fun c_54 => ?_) (fun c_54 => ?_)
              · have ic_54 : sm.toInt ≠ x_51.toInt := zi_ne c_54
                refine lv_aload_n hx hb dX10_readWord_181 rfl (lv_at hl 6 rfl) ?_
                refine va_get (D := (dC, dI)) (ci := 10) (v := .ref ts) (C := RX10) (T := TX10) (N := 8) hx hb hA zin_X10 hown hK hP 0 rfl rfl 0 (by decide) (hA _ wi_346) (fun _ h9 => h9) rfl dX10_readWord_182 ?_
                refine lv_aload_n hx hb dX10_readWord_185 rfl (lv_at hl 6 rfl) ?_
                refine va_get (D := (dC, dI)) (ci := 10) (v := .int z) (C := RX10) (T := TX10) (N := 8) hx hb hA zin_X10 hown hK hP 0 rfl rfl 3 (by decide) (hA _ wi_349) (fun _ h9 => h9) rfl dX10_readWord_186 ?_
                refine lv_iload hx hb dX10_readWord_189 (lv_at hl 4 rfl) ?_
                refine lv_iload hx hb dX10_readWord_191 (lv_at hl 0 rfl) ?_
                refine lv_iconst (v := 1) hx hb dX10_readWord_193 (by decide) ?_
                refine lv_isub hx hb dX10_readWord_194 ?_
                refine lv_topi (fun x_55 ex_55 => ?_)
                have ix_55 : x_55.toInt = x_51.toInt - 1 := by rw [ex_55]; exact zi_subc (by decide) (by omega) (by omega)
                refine lv_icmp_ne (tgt := 213) hx hb dX10_readWord_195 (by decide) (fun c_56 => ?_) (fun c_56 => ?_)
                · have ic_56 : sm.toInt ≠ x_55.toInt := zi_ne c_56
                  refine lv_sipush (v := 257) hx hb dX10_readWord_213 (by decide) ?_
                  refine va_iast hx hb hK hP hD hS 1 0 rfl rfl (vp_in_iff.mpr ⟨by omega, by omega⟩) dX10_readWord_216 (fun H locs hP hD hS => ?_)
                  obtain ⟨f_57, ef_57⟩ : ∃ gz9 : Nat → Int32, gz9 = upd gs (Int32.toNatClampNeg z) 257 := ⟨_, rfl⟩
                  rw [← ef_57] at hP hD
                  have hP : va_P (dC, dI) vwCl [(h0, .inr (10, [.ref ts, .ref tp, .ref tw, .int z, .int pa, .int so, .int pl, .long wd])), (ts, .inl (t1, 2001, .inl f_57)), (tp, .inl (t2, 2001, .inl gp)), (tw, .inl (t3, 2001, .inr (.inl gw))), (bt, .inl (bk, 2000, .inl gt))] H := hP
                  have hD : va_D A [(h0, .inr (10, [.ref ts, .ref tp, .ref tw, .int z, .int pa, .int so, .int pl, .long wd])), (ts, .inl (t1, 2001, .inl f_57)), (tp, .inl (t2, 2001, .inl gp)), (tw, .inl (t3, 2001, .inr (.inl gw))), (bt, .inl (bk, 2000, .inl gt))] := hD
                  refine lv_aload_n hx hb dX10_readWord_217 rfl (lv_at hl 6 rfl) ?_
                  refine va_get (D := (dC, dI)) (ci := 10) (v := .ref tw) (C := RX10) (T := TX10) (N := 8) hx hb hA zin_X10 hown hK hP 0 rfl rfl 2 (by decide) (hA _ wi_348) (fun _ h9 => h9) rfl dX10_readWord_218 ?_
                  refine lv_aload_n hx hb dX10_readWord_221 rfl (lv_at hl 6 rfl) ?_
                  refine va_get (D := (dC, dI)) (ci := 10) (v := .int z) (C := RX10) (T := TX10) (N := 8) hx hb hA zin_X10 hown hK hP 0 rfl rfl 3 (by decide) (hA _ wi_349) (fun _ h9 => h9) rfl dX10_readWord_222 ?_
                  refine lv_iload hx hb dX10_readWord_225 (lv_at hl 3 rfl) ?_
                  refine lv_iload hx hb dX10_readWord_227 (lv_at hl 0 rfl) ?_
                  refine lv_icmp_ne (tgt := 238) hx hb dX10_readWord_229 (by decide) (fun c_58 => ?_) (fun c_58 => ?_)
                  · have ic_58 : di.toInt ≠ x_51.toInt := zi_ne c_58
                    refine lv_lload hx hb dX10_readWord_238 (lv_at hl 1 rfl) ?_
                    refine va_last hx hb hK hP hD hS 3 2 rfl rfl (vp_in_iff.mpr ⟨by omega, by omega⟩) dX10_readWord_240 (fun H locs hP hD hS => ?_)
                    obtain ⟨f_59, ef_59⟩ : ∃ gz9 : Nat → Int64, gz9 = vp_updL gw (Int32.toNatClampNeg z) by_ := ⟨_, rfl⟩
                    rw [← ef_59] at hP hD
                    have hP : va_P (dC, dI) vwCl [(h0, .inr (10, [.ref ts, .ref tp, .ref tw, .int z, .int pa, .int so, .int pl, .long wd])), (ts, .inl (t1, 2001, .inl f_57)), (tp, .inl (t2, 2001, .inl gp)), (tw, .inl (t3, 2001, .inr (.inl f_59))), (bt, .inl (bk, 2000, .inl gt))] H := hP
                    have hD : va_D A [(h0, .inr (10, [.ref ts, .ref tp, .ref tw, .int z, .int pa, .int so, .int pl, .long wd])), (ts, .inl (t1, 2001, .inl f_57)), (tp, .inl (t2, 2001, .inl gp)), (tw, .inl (t3, 2001, .inr (.inl f_59))), (bt, .inl (bk, 2000, .inl gt))] := hD
                    refine lv_iload hx hb dX10_readWord_241 (lv_at hl 5 rfl) ?_
                    have hP9 := hP.sub (ws' := [(h0, .inr (10, [.ref ts, .ref tp, .ref tw, .int z, .int pa, .int so, .int pl, .long wd])), (ts, .inl (t1, 2001, .inl f_57)), (tp, .inl (t2, 2001, .inl gp)), (tw, .inl (t3, 2001, .inr (.inl f_59))), (bt, .inl (bk, 2000, .inl gt))]) [0, 1, 2, 3, 4] rfl
                    have hD9 := hD.sub (ws' := [(h0, .inr (10, [.ref ts, .ref tp, .ref tw, .int z, .int pa, .int so, .int pl, .long wd])), (ts, .inl (t1, 2001, .inl f_57)), (tp, .inl (t2, 2001, .inl gp)), (tw, .inl (t3, 2001, .inr (.inl f_59))), (bt, .inl (bk, 2000, .inl gt))]) [0, 1, 2, 3, 4] (by decide) rfl
                    have hK9 := hK.sub (tys' := [(t1, .int), (t2, .int), (t3, .long), (bk, .byte)]) [0, 1, 2, 3] rfl
                    exact W.iret (v := to) hx hb hr (fun t ht hW => ⟨⟨to, (f_57, f_59), rfl, ⟨by omega, by omega⟩, by rw [ht]; exact hP9, va_K.moved hW.alike hK9, hD9⟩, hS.F ht⟩) hS.2.2 dX10_readWord_243
                  · have ic_58 : di.toInt = x_51.toInt := zi_eq c_58
                    refine lv_iload hx hb dX10_readWord_232 (lv_at hl 2 rfl) ?_
                    obtain ⟨x_60, ex_60⟩ : ∃ z : Int64, z = Int32.toInt64 nu := ⟨_, rfl⟩
                    refine lv_i2l (v := x_60) hx hb dX10_readWord_234 ex_60.symm ?_
                    refine lv_goto (tgt := 240) hx hb dX10_readWord_235 (by decide) ?_
                    refine va_last hx hb hK hP hD hS 3 2 rfl rfl (vp_in_iff.mpr ⟨by omega, by omega⟩) dX10_readWord_240 (fun H locs hP hD hS => ?_)
                    obtain ⟨f_61, ef_61⟩ : ∃ gz9 : Nat → Int64, gz9 = vp_updL gw (Int32.toNatClampNeg z) x_60 := ⟨_, rfl⟩
                    rw [← ef_61] at hP hD
                    have hP : va_P (dC, dI) vwCl [(h0, .inr (10, [.ref ts, .ref tp, .ref tw, .int z, .int pa, .int so, .int pl, .long wd])), (ts, .inl (t1, 2001, .inl f_57)), (tp, .inl (t2, 2001, .inl gp)), (tw, .inl (t3, 2001, .inr (.inl f_61))), (bt, .inl (bk, 2000, .inl gt))] H := hP
                    have hD : va_D A [(h0, .inr (10, [.ref ts, .ref tp, .ref tw, .int z, .int pa, .int so, .int pl, .long wd])), (ts, .inl (t1, 2001, .inl f_57)), (tp, .inl (t2, 2001, .inl gp)), (tw, .inl (t3, 2001, .inr (.inl f_61))), (bt, .inl (bk, 2000, .inl gt))] := hD
                    refine lv_iload hx hb dX10_readWord_241 (lv_at hl 5 rfl) ?_
                    have hP9 := hP.sub (ws' := [(h0, .inr (10, [.ref ts, .ref tp, .ref tw, .int z, .int pa, .int so, .int pl, .long wd])), (ts, .inl (t1, 2001, .inl f_57)), (tp, .inl (t2, 2001, .inl gp)), (tw, .inl (t3, 2001, .inr (.inl f_61))), (bt, .inl (bk, 2000, .inl gt))]) [0, 1, 2, 3, 4] rfl
                    have hD9 := hD.sub (ws' := [(h0, .inr (10, [.ref ts, .ref tp, .ref tw, .int z, .int pa, .int so, .int pl, .long wd])), (ts, .inl (t1, 2001, .inl f_57)), (tp, .inl (t2, 2001, .inl gp)), (tw, .inl (t3, 2001, .inr (.inl f_61))), (bt, .inl (bk, 2000, .inl gt))]) [0, 1, 2, 3, 4] (by decide) rfl
                    have hK9 := hK.sub (tys' := [(t1, .int), (t2, .int), (t3, .long), (bk, .byte)]) [0, 1, 2, 3] rfl
                    exact W.iret (v := to) hx hb hr (fun t ht hW => ⟨⟨to, (f_57, f_61), rfl, ⟨by omega, by omega⟩, by rw [ht]; exact hP9, va_K.moved hW.alike hK9, hD9⟩, hS.F ht⟩) hS.2.2 dX10_readWord_243
                · have ic_56 : sm.toInt = x_55.toInt := zi_eq c_56
                  refine lv_aload_n hx hb dX10_readWord_198 rfl (lv_at hl 7 rfl) ?_
                  refine lv_iload_n hx hb dX10_readWord_199 rfl (lv_at hl 8 rfl) ?_
                  refine va_bald hx hb hK hP 4 3 rfl rfl (vp_in_iff.mpr ⟨by omega, by omega⟩) dX10_readWord_200 ?_
                  refine lv_topi (fun x_62 ex_62 => ?_)
                  have hPc := hP.sub (ws' := []) [] rfl
                  have hDc := hD.sub (ws' := []) [] (by decide) rfl
                  have hKc := hK.sub (tys' := []) [] rfl
                  have hFc := va_free (wc := []) hD hS hAA [] rfl
                  refine va_calli (va_runS (As := [.int x_62]) (rest := [.int z, .ref ts]) ⟨hx, hb, hml, hown, hA⟩ (c_X10_isGreat l dC dI aK aV x_62 H.size) (va_cwS 1 hA (zw_S wi_667 wi_668 wi_137 (zw_good wi_669)) rfl rfl rfl (by decide +kernel) ⟨(Nat.le_of_ble_eq_true rfl), (Nat.le_of_ble_eq_true rfl)⟩) ⟨zP_blind, zz_pre hKc hPc hDc hN hT hS hFc⟩ rfl rfl hl.1 rfl (lv_room (Nat.le_of_ble_eq_true rfl)) dX10_readWord_201 ⟨(Nat.le_of_ble_eq_true rfl), (Nat.le_of_ble_eq_true rfl)⟩) hS (fun q _ h => hFc q h) hFc (fun r_63 u t H1 locs ht hvm hw hB hz1 hk1 hS => ?_)
                  obtain ⟨hP1, hK1, hD1⟩ := hB
                  rw [ht] at hP1
                  have hK1 := va_K.moved hvm.symm hK1
                  obtain ⟨hP, hD⟩ := va_join (wr := [(h0, .inr (10, [.ref ts, .ref tp, .ref tw, .int z, .int pa, .int so, .int pl, .long wd])), (ts, .inl (t1, 2001, .inl gs)), (tp, .inl (t2, 2001, .inl gp)), (tw, .inl (t3, 2001, .inr (.inl gw))), (bt, .inl (bk, 2000, .inl gt))]) (w1 := []) hP hD [] [0, 1, 2, 3, 4] rfl rfl (by decide) (by decide) hk1 hFc hP1 hD1
                  have hK := (hK.sub (tys' := [(t1, .int), (t2, .int), (t3, .long), (bk, .byte)]) [0, 1, 2, 3] rfl).app hK1
                  generalize H1 = H at hP hS ⊢
                  have hP : va_P (dC, dI) vwCl [(h0, .inr (10, [.ref ts, .ref tp, .ref tw, .int z, .int pa, .int so, .int pl, .long wd])), (ts, .inl (t1, 2001, .inl gs)), (tp, .inl (t2, 2001, .inl gp)), (tw, .inl (t3, 2001, .inr (.inl gw))), (bt, .inl (bk, 2000, .inl gt))] H := hP
                  have hD : va_D A [(h0, .inr (10, [.ref ts, .ref tp, .ref tw, .int z, .int pa, .int so, .int pl, .long wd])), (ts, .inl (t1, 2001, .inl gs)), (tp, .inl (t2, 2001, .inl gp)), (tw, .inl (t3, 2001, .inr (.inl gw))), (bt, .inl (bk, 2000, .inl gt))] := hD
                  have hK : va_K (dC, dI) vwCl [(t1, .int), (t2, .int), (t3, .long), (bk, .byte)] s := hK
                  have hw_r_63 := hw
                  try dsimp only at hw_r_63
                  refine lv_if_eq (tgt := 213) hx hb dX10_readWord_204 (by decide) (fun c_64 => ?_) (fun c_64 => ?_)
                  · have ic_64 : r_63.toInt = 0 := zi_eq c_64
                    refine lv_sipush (v := 257) hx hb dX10_readWord_213 (by decide) ?_
                    refine va_iast hx hb hK hP hD hS 1 0 rfl rfl (vp_in_iff.mpr ⟨by omega, by omega⟩) dX10_readWord_216 (fun H locs hP hD hS => ?_)
                    obtain ⟨f_65, ef_65⟩ : ∃ gz9 : Nat → Int32, gz9 = upd gs (Int32.toNatClampNeg z) 257 := ⟨_, rfl⟩
                    rw [← ef_65] at hP hD
                    have hP : va_P (dC, dI) vwCl [(h0, .inr (10, [.ref ts, .ref tp, .ref tw, .int z, .int pa, .int so, .int pl, .long wd])), (ts, .inl (t1, 2001, .inl f_65)), (tp, .inl (t2, 2001, .inl gp)), (tw, .inl (t3, 2001, .inr (.inl gw))), (bt, .inl (bk, 2000, .inl gt))] H := hP
                    have hD : va_D A [(h0, .inr (10, [.ref ts, .ref tp, .ref tw, .int z, .int pa, .int so, .int pl, .long wd])), (ts, .inl (t1, 2001, .inl f_65)), (tp, .inl (t2, 2001, .inl gp)), (tw, .inl (t3, 2001, .inr (.inl gw))), (bt, .inl (bk, 2000, .inl gt))] := hD
                    refine lv_aload_n hx hb dX10_readWord_217 rfl (lv_at hl 6 rfl) ?_
                    refine va_get (D := (dC, dI)) (ci := 10) (v := .ref tw) (C := RX10) (T := TX10) (N := 8) hx hb hA zin_X10 hown hK hP 0 rfl rfl 2 (by decide) (hA _ wi_348) (fun _ h9 => h9) rfl dX10_readWord_218 ?_
                    refine lv_aload_n hx hb dX10_readWord_221 rfl (lv_at hl 6 rfl) ?_
                    refine va_get (D := (dC, dI)) (ci := 10) (v := .int z) (C := RX10) (T := TX10) (N := 8) hx hb hA zin_X10 hown hK hP 0 rfl rfl 3 (by decide) (hA _ wi_349) (fun _ h9 => h9) rfl dX10_readWord_222 ?_
                    refine lv_iload hx hb dX10_readWord_225 (lv_at hl 3 rfl) ?_
                    refine lv_iload hx hb dX10_readWord_227 (lv_at hl 0 rfl) ?_
                    refine lv_icmp_ne (tgt := 238) hx hb dX10_readWord_229 (by decide) (fun c_66 => ?_) (fun c_66 => ?_)
                    · have ic_66 : di.toInt ≠ x_51.toInt := zi_ne c_66
                      refine lv_lload hx hb dX10_readWord_238 (lv_at hl 1 rfl) ?_
                      refine va_last hx hb hK hP hD hS 3 2 rfl rfl (vp_in_iff.mpr ⟨by omega, by omega⟩) dX10_readWord_240 (fun H locs hP hD hS => ?_)
                      obtain ⟨f_67, ef_67⟩ : ∃ gz9 : Nat → Int64, gz9 = vp_updL gw (Int32.toNatClampNeg z) by_ := ⟨_, rfl⟩
                      rw [← ef_67] at hP hD
                      have hP : va_P (dC, dI) vwCl [(h0, .inr (10, [.ref ts, .ref tp, .ref tw, .int z, .int pa, .int so, .int pl, .long wd])), (ts, .inl (t1, 2001, .inl f_65)), (tp, .inl (t2, 2001, .inl gp)), (tw, .inl (t3, 2001, .inr (.inl f_67))), (bt, .inl (bk, 2000, .inl gt))] H := hP
                      have hD : va_D A [(h0, .inr (10, [.ref ts, .ref tp, .ref tw, .int z, .int pa, .int so, .int pl, .long wd])), (ts, .inl (t1, 2001, .inl f_65)), (tp, .inl (t2, 2001, .inl gp)), (tw, .inl (t3, 2001, .inr (.inl f_67))), (bt, .inl (bk, 2000, .inl gt))] := hD
                      refine lv_iload hx hb dX10_readWord_241 (lv_at hl 5 rfl) ?_
                      have hP9 := hP.sub (ws' := [(h0, .inr (10, [.ref ts, .ref tp, .ref tw, .int z, .int pa, .int so, .int pl, .long wd])), (ts, .inl (t1, 2001, .inl f_65)), (tp, .inl (t2, 2001, .inl gp)), (tw, .inl (t3, 2001, .inr (.inl f_67))), (bt, .inl (bk, 2000, .inl gt))]) [0, 1, 2, 3, 4] rfl
                      have hD9 := hD.sub (ws' := [(h0, .inr (10, [.ref ts, .ref tp, .ref tw, .int z, .int pa, .int so, .int pl, .long wd])), (ts, .inl (t1, 2001, .inl f_65)), (tp, .inl (t2, 2001, .inl gp)), (tw, .inl (t3, 2001, .inr (.inl f_67))), (bt, .inl (bk, 2000, .inl gt))]) [0, 1, 2, 3, 4] (by decide) rfl
                      have hK9 := hK.sub (tys' := [(t1, .int), (t2, .int), (t3, .long), (bk, .byte)]) [0, 1, 2, 3] rfl
                      exact W.iret (v := to) hx hb hr (fun t ht hW => ⟨⟨to, (f_65, f_67), rfl, ⟨by omega, by omega⟩, by rw [ht]; exact hP9, va_K.moved hW.alike hK9, hD9⟩, hS.F ht⟩) hS.2.2 dX10_readWord_243
                    · have ic_66 : di.toInt = x_51.toInt := zi_eq c_66
                      refine lv_iload hx hb dX10_readWord_232 (lv_at hl 2 rfl) ?_
                      obtain ⟨x_68, ex_68⟩ : ∃ z : Int64, z = Int32.toInt64 nu := ⟨_, rfl⟩
                      refine lv_i2l (v := x_68) hx hb dX10_readWord_234 ex_68.symm ?_
                      refine lv_goto (tgt := 240) hx hb dX10_readWord_235 (by decide) ?_
                      refine va_last hx hb hK hP hD hS 3 2 rfl rfl (vp_in_iff.mpr ⟨by omega, by omega⟩) dX10_readWord_240 (fun H locs hP hD hS => ?_)
                      obtain ⟨f_69, ef_69⟩ : ∃ gz9 : Nat → Int64, gz9 = vp_updL gw (Int32.toNatClampNeg z) x_68 := ⟨_, rfl⟩
                      rw [← ef_69] at hP hD
                      have hP : va_P (dC, dI) vwCl [(h0, .inr (10, [.ref ts, .ref tp, .ref tw, .int z, .int pa, .int so, .int pl, .long wd])), (ts, .inl (t1, 2001, .inl f_65)), (tp, .inl (t2, 2001, .inl gp)), (tw, .inl (t3, 2001, .inr (.inl f_69))), (bt, .inl (bk, 2000, .inl gt))] H := hP
                      have hD : va_D A [(h0, .inr (10, [.ref ts, .ref tp, .ref tw, .int z, .int pa, .int so, .int pl, .long wd])), (ts, .inl (t1, 2001, .inl f_65)), (tp, .inl (t2, 2001, .inl gp)), (tw, .inl (t3, 2001, .inr (.inl f_69))), (bt, .inl (bk, 2000, .inl gt))] := hD
                      refine lv_iload hx hb dX10_readWord_241 (lv_at hl 5 rfl) ?_
                      have hP9 := hP.sub (ws' := [(h0, .inr (10, [.ref ts, .ref tp, .ref tw, .int z, .int pa, .int so, .int pl, .long wd])), (ts, .inl (t1, 2001, .inl f_65)), (tp, .inl (t2, 2001, .inl gp)), (tw, .inl (t3, 2001, .inr (.inl f_69))), (bt, .inl (bk, 2000, .inl gt))]) [0, 1, 2, 3, 4] rfl
                      have hD9 := hD.sub (ws' := [(h0, .inr (10, [.ref ts, .ref tp, .ref tw, .int z, .int pa, .int so, .int pl, .long wd])), (ts, .inl (t1, 2001, .inl f_65)), (tp, .inl (t2, 2001, .inl gp)), (tw, .inl (t3, 2001, .inr (.inl f_69))), (bt, .inl (bk, 2000, .inl gt))]) [0, 1, 2, 3, 4] (by decide) rfl
                      have hK9 := hK.sub (tys' := [(t1, .int), (t2, .int), (t3, .long), (bk, .byte)]) [0, 1, 2, 3] rfl
                      exact W.iret (v := to) hx hb hr (fun t ht hW => ⟨⟨to, (f_65, f_69), rfl, ⟨by omega, by omega⟩, by rw [ht]; exact hP9, va_K.moved hW.alike hK9, hD9⟩, hS.F ht⟩) hS.2.2 dX10_readWord_243
                  · have ic_64 : r_63.toInt ≠ 0 := zi_ne c_64
                    refine lv_sipush (v := 259) hx hb dX10_readWord_207 (by decide) ?_
                    refine lv_goto (tgt := 216) hx hb dX10_readWord_210 (by decide) ?_
                    refine va_iast hx hb hK hP hD hS 1 0 rfl rfl (vp_in_iff.mpr ⟨by omega, by omega⟩) dX10_readWord_216 (fun H locs hP hD hS => ?_)
                    obtain ⟨f_70, ef_70⟩ : ∃ gz9 : Nat → Int32, gz9 = upd gs (Int32.toNatClampNeg z) 259 := ⟨_, rfl⟩
                    rw [← ef_70] at hP hD
                    have hP : va_P (dC, dI) vwCl [(h0, .inr (10, [.ref ts, .ref tp, .ref tw, .int z, .int pa, .int so, .int pl, .long wd])), (ts, .inl (t1, 2001, .inl f_70)), (tp, .inl (t2, 2001, .inl gp)), (tw, .inl (t3, 2001, .inr (.inl gw))), (bt, .inl (bk, 2000, .inl gt))] H := hP
                    have hD : va_D A [(h0, .inr (10, [.ref ts, .ref tp, .ref tw, .int z, .int pa, .int so, .int pl, .long wd])), (ts, .inl (t1, 2001, .inl f_70)), (tp, .inl (t2, 2001, .inl gp)), (tw, .inl (t3, 2001, .inr (.inl gw))), (bt, .inl (bk, 2000, .inl gt))] := hD
                    refine lv_aload_n hx hb dX10_readWord_217 rfl (lv_at hl 6 rfl) ?_
                    refine va_get (D := (dC, dI)) (ci := 10) (v := .ref tw) (C := RX10) (T := TX10) (N := 8) hx hb hA zin_X10 hown hK hP 0 rfl rfl 2 (by decide) (hA _ wi_348) (fun _ h9 => h9) rfl dX10_readWord_218 ?_
                    refine lv_aload_n hx hb dX10_readWord_221 rfl (lv_at hl 6 rfl) ?_
                    refine va_get (D := (dC, dI)) (ci := 10) (v := .int z) (C := RX10) (T := TX10) (N := 8) hx hb hA zin_X10 hown hK hP 0 rfl rfl 3 (by decide) (hA _ wi_349) (fun _ h9 => h9) rfl dX10_readWord_222 ?_
                    refine lv_iload hx hb dX10_readWord_225 (lv_at hl 3 rfl) ?_
                    refine lv_iload hx hb dX10_readWord_227 (lv_at hl 0 rfl) ?_
                    refine lv_icmp_ne (tgt := 238) hx hb dX10_readWord_229 (by decide) (fun c_71 => ?_) (fun c_71 => ?_)
                    · have ic_71 : di.toInt ≠ x_51.toInt := zi_ne c_71
                      refine lv_lload hx hb dX10_readWord_238 (lv_at hl 1 rfl) ?_
                      refine va_last hx hb hK hP hD hS 3 2 rfl rfl (vp_in_iff.mpr ⟨by omega, by omega⟩) dX10_readWord_240 (fun H locs hP hD hS => ?_)
                      obtain ⟨f_72, ef_72⟩ : ∃ gz9 : Nat → Int64, gz9 = vp_updL gw (Int32.toNatClampNeg z) by_ := ⟨_, rfl⟩
                      rw [← ef_72] at hP hD
                      have hP : va_P (dC, dI) vwCl [(h0, .inr (10, [.ref ts, .ref tp, .ref tw, .int z, .int pa, .int so, .int pl, .long wd])), (ts, .inl (t1, 2001, .inl f_70)), (tp, .inl (t2, 2001, .inl gp)), (tw, .inl (t3, 2001, .inr (.inl f_72))), (bt, .inl (bk, 2000, .inl gt))] H := hP
                      have hD : va_D A [(h0, .inr (10, [.ref ts, .ref tp, .ref tw, .int z, .int pa, .int so, .int pl, .long wd])), (ts, .inl (t1, 2001, .inl f_70)), (tp, .inl (t2, 2001, .inl gp)), (tw, .inl (t3, 2001, .inr (.inl f_72))), (bt, .inl (bk, 2000, .inl gt))] := hD
                      refine lv_iload hx hb dX10_readWord_241 (lv_at hl 5 rfl) ?_
                      have hP9 := hP.sub (ws' := [(h0, .inr (10, [.ref ts, .ref tp, .ref tw, .int z, .int pa, .int so, .int pl, .long wd])), (ts, .inl (t1, 2001, .inl f_70)), (tp, .inl (t2, 2001, .inl gp)), (tw, .inl (t3, 2001, .inr (.inl f_72))), (bt, .inl (bk, 2000, .inl gt))]) [0, 1, 2, 3, 4] rfl
                      have hD9 := hD.sub (ws' := [(h0, .inr (10, [.ref ts, .ref tp, .ref tw, .int z, .int pa, .int so, .int pl, .long wd])), (ts, .inl (t1, 2001, .inl f_70)), (tp, .inl (t2, 2001, .inl gp)), (tw, .inl (t3, 2001, .inr (.inl f_72))), (bt, .inl (bk, 2000, .inl gt))]) [0, 1, 2, 3, 4] (by decide) rfl
                      have hK9 := hK.sub (tys' := [(t1, .int), (t2, .int), (t3, .long), (bk, .byte)]) [0, 1, 2, 3] rfl
                      exact W.iret (v := to) hx hb hr (fun t ht hW => ⟨⟨to, (f_70, f_72), rfl, ⟨by omega, by omega⟩, by rw [ht]; exact hP9, va_K.moved hW.alike hK9, hD9⟩, hS.F ht⟩) hS.2.2 dX10_readWord_243
                    · have ic_71 : di.toInt = x_51.toInt := zi_eq c_71
                      refine lv_iload hx hb dX10_readWord_232 (lv_at hl 2 rfl) ?_
                      obtain ⟨x_73, ex_73⟩ : ∃ z : Int64, z = Int32.toInt64 nu := ⟨_, rfl⟩
                      refine lv_i2l (v := x_73) hx hb dX10_readWord_234 ex_73.symm ?_
                      refine lv_goto (tgt := 240) hx hb dX10_readWord_235 (by decide) ?_
                      refine va_last hx hb hK hP hD hS 3 2 rfl rfl (vp_in_iff.mpr ⟨by omega, by omega⟩) dX10_readWord_240 (fun H locs hP hD hS => ?_)
                      obtain ⟨f_74, ef_74⟩ : ∃ gz9 : Nat → Int64, gz9 = vp_updL gw (Int32.toNatClampNeg z) x_73 := ⟨_, rfl⟩
                      rw [← ef_74] at hP hD
                      have hP : va_P (dC, dI) vwCl [(h0, .inr (10, [.ref ts, .ref tp, .ref tw, .int z, .int pa, .int so, .int pl, .long wd])), (ts, .inl (t1, 2001, .inl f_70)), (tp, .inl (t2, 2001, .inl gp)), (tw, .inl (t3, 2001, .inr (.inl f_74))), (bt, .inl (bk, 2000, .inl gt))] H := hP
                      have hD : va_D A [(h0, .inr (10, [.ref ts, .ref tp, .ref tw, .int z, .int pa, .int so, .int pl, .long wd])), (ts, .inl (t1, 2001, .inl f_70)), (tp, .inl (t2, 2001, .inl gp)), (tw, .inl (t3, 2001, .inr (.inl f_74))), (bt, .inl (bk, 2000, .inl gt))] := hD
                      refine lv_iload hx hb dX10_readWord_241 (lv_at hl 5 rfl) ?_
                      have hP9 := hP.sub (ws' := [(h0, .inr (10, [.ref ts, .ref tp, .ref tw, .int z, .int pa, .int so, .int pl, .long wd])), (ts, .inl (t1, 2001, .inl f_70)), (tp, .inl (t2, 2001, .inl gp)), (tw, .inl (t3, 2001, .inr (.inl f_74))), (bt, .inl (bk, 2000, .inl gt))]) [0, 1, 2, 3, 4] rfl
                      have hD9 := hD.sub (ws' := [(h0, .inr (10, [.ref ts, .ref tp, .ref tw, .int z, .int pa, .int so, .int pl, .long wd])), (ts, .inl (t1, 2001, .inl f_70)), (tp, .inl (t2, 2001, .inl gp)), (tw, .inl (t3, 2001, .inr (.inl f_74))), (bt, .inl (bk, 2000, .inl gt))]) [0, 1, 2, 3, 4] (by decide) rfl
                      have hK9 := hK.sub (tys' := [(t1, .int), (t2, .int), (t3, .long), (bk, .byte)]) [0, 1, 2, 3] rfl
                      exact W.iret (v := to) hx hb hr (fun t ht hW => ⟨⟨to, (f_70, f_74), rfl, ⟨by omega, by omega⟩, by rw [ht]; exact hP9, va_K.moved hW.alike hK9, hD9⟩, hS.F ht⟩) hS.2.2 dX10_readWord_243
              · have ic_54 : sm.toInt = x_51.toInt := zi_eq c_54
                refine lv_aload_n hx hb dX10_readWord_164 rfl (lv_at hl 6 rfl) ?_
                refine va_get (D := (dC, dI)) (ci := 10) (v := .ref ts) (C := RX10) (T := TX10) (N := 8) hx hb hA zin_X10 hown hK hP 0 rfl rfl 0 (by decide) (hA _ wi_346) (fun _ h9 => h9) rfl dX10_readWord_165 ?_
                refine lv_aload_n hx hb dX10_readWord_168 rfl (lv_at hl 6 rfl) ?_
                refine va_get (D := (dC, dI)) (ci := 10) (v := .int z) (C := RX10) (T := TX10) (N := 8) hx hb hA zin_X10 hown hK hP 0 rfl rfl 3 (by decide) (hA _ wi_349) (fun _ h9 => h9) rfl dX10_readWord_169 ?_
                refine lv_lload hx hb dX10_readWord_172 (lv_at hl 1 rfl) ?_
                have hPc := hP.sub (ws' := []) [] rfl
                have hDc := hD.sub (ws' := []) [] (by decide) rfl
                have hKc := hK.sub (tys' := []) [] rfl
                have hFc := va_free (wc := []) hD hS hAA [] rfl
                refine va_calli (va_runS (As := [.long by_]) (rest := [.int z, .ref ts]) ⟨hx, hb, hml, hown, hA⟩ (c_X10_sortOfSmall l dC dI aK aV by_ H.size) (va_cwS 1 hA (zw_S wi_677 wi_678 wi_137 (zw_good wi_679)) rfl rfl rfl (by decide +kernel) ⟨(Nat.le_of_ble_eq_true rfl), (Nat.le_of_ble_eq_true rfl)⟩) ⟨zP_blind, zz_pre hKc hPc hDc hN hT hS hFc⟩ rfl rfl hl.1 rfl (lv_room (Nat.le_of_ble_eq_true rfl)) dX10_readWord_174 ⟨(Nat.le_of_ble_eq_true rfl), (Nat.le_of_ble_eq_true rfl)⟩) hS (fun q _ h => hFc q h) hFc (fun r_75 u t H1 locs ht hvm hw hB hz1 hk1 hS => ?_)
                obtain ⟨hP1, hK1, hD1⟩ := hB
                rw [ht] at hP1
                have hK1 := va_K.moved hvm.symm hK1
                obtain ⟨hP, hD⟩ := va_join (wr := [(h0, .inr (10, [.ref ts, .ref tp, .ref tw, .int z, .int pa, .int so, .int pl, .long wd])), (ts, .inl (t1, 2001, .inl gs)), (tp, .inl (t2, 2001, .inl gp)), (tw, .inl (t3, 2001, .inr (.inl gw))), (bt, .inl (bk, 2000, .inl gt))]) (w1 := []) hP hD [] [0, 1, 2, 3, 4] rfl rfl (by decide) (by decide) hk1 hFc hP1 hD1
                have hK := (hK.sub (tys' := [(t1, .int), (t2, .int), (t3, .long), (bk, .byte)]) [0, 1, 2, 3] rfl).app hK1
                generalize H1 = H at hP hS ⊢
                have hP : va_P (dC, dI) vwCl [(h0, .inr (10, [.ref ts, .ref tp, .ref tw, .int z, .int pa, .int so, .int pl, .long wd])), (ts, .inl (t1, 2001, .inl gs)), (tp, .inl (t2, 2001, .inl gp)), (tw, .inl (t3, 2001, .inr (.inl gw))), (bt, .inl (bk, 2000, .inl gt))] H := hP
                have hD : va_D A [(h0, .inr (10, [.ref ts, .ref tp, .ref tw, .int z, .int pa, .int so, .int pl, .long wd])), (ts, .inl (t1, 2001, .inl gs)), (tp, .inl (t2, 2001, .inl gp)), (tw, .inl (t3, 2001, .inr (.inl gw))), (bt, .inl (bk, 2000, .inl gt))] := hD
                have hK : va_K (dC, dI) vwCl [(t1, .int), (t2, .int), (t3, .long), (bk, .byte)] s := hK
                have hw_r_75 := hw
                try dsimp only at hw_r_75
                refine va_iast hx hb hK hP hD hS 1 0 rfl rfl (vp_in_iff.mpr ⟨by omega, by omega⟩) dX10_readWord_177 (fun H locs hP hD hS => ?_)
                obtain ⟨f_76, ef_76⟩ : ∃ gz9 : Nat → Int32, gz9 = upd gs (Int32.toNatClampNeg z) r_75 := ⟨_, rfl⟩
                rw [← ef_76] at hP hD
                have hP : va_P (dC, dI) vwCl [(h0, .inr (10, [.ref ts, .ref tp, .ref tw, .int z, .int pa, .int so, .int pl, .long wd])), (ts, .inl (t1, 2001, .inl f_76)), (tp, .inl (t2, 2001, .inl gp)), (tw, .inl (t3, 2001, .inr (.inl gw))), (bt, .inl (bk, 2000, .inl gt))] H := hP
                have hD : va_D A [(h0, .inr (10, [.ref ts, .ref tp, .ref tw, .int z, .int pa, .int so, .int pl, .long wd])), (ts, .inl (t1, 2001, .inl f_76)), (tp, .inl (t2, 2001, .inl gp)), (tw, .inl (t3, 2001, .inr (.inl gw))), (bt, .inl (bk, 2000, .inl gt))] := hD
                refine lv_goto (tgt := 217) hx hb dX10_readWord_178 (by decide) ?_
                refine lv_aload_n hx hb dX10_readWord_217 rfl (lv_at hl 6 rfl) ?_
                refine va_get (D := (dC, dI)) (ci := 10) (v := .ref tw) (C := RX10) (T := TX10) (N := 8) hx hb hA zin_X10 hown hK hP 0 rfl rfl 2 (by decide) (hA _ wi_348) (fun _ h9 => h9) rfl dX10_readWord_218 ?_
                refine lv_aload_n hx hb dX10_readWord_221 rfl (lv_at hl 6 rfl) ?_
                refine va_get (D := (dC, dI)) (ci := 10) (v := .int z) (C := RX10) (T := TX10) (N := 8) hx hb hA zin_X10 hown hK hP 0 rfl rfl 3 (by decide) (hA _ wi_349) (fun _ h9 => h9) rfl dX10_readWord_222 ?_
                refine lv_iload hx hb dX10_readWord_225 (lv_at hl 3 rfl) ?_
                refine lv_iload hx hb dX10_readWord_227 (lv_at hl 0 rfl) ?_
                refine lv_icmp_ne (tgt := 238) hx hb dX10_readWord_229 (by decide) (fun c_77 => ?_) (fun c_77 => ?_)
                · have ic_77 : di.toInt ≠ x_51.toInt := zi_ne c_77
                  refine lv_lload hx hb dX10_readWord_238 (lv_at hl 1 rfl) ?_
                  refine va_last hx hb hK hP hD hS 3 2 rfl rfl (vp_in_iff.mpr ⟨by omega, by omega⟩) dX10_readWord_240 (fun H locs hP hD hS => ?_)
                  obtain ⟨f_78, ef_78⟩ : ∃ gz9 : Nat → Int64, gz9 = vp_updL gw (Int32.toNatClampNeg z) by_ := ⟨_, rfl⟩
                  rw [← ef_78] at hP hD
                  have hP : va_P (dC, dI) vwCl [(h0, .inr (10, [.ref ts, .ref tp, .ref tw, .int z, .int pa, .int so, .int pl, .long wd])), (ts, .inl (t1, 2001, .inl f_76)), (tp, .inl (t2, 2001, .inl gp)), (tw, .inl (t3, 2001, .inr (.inl f_78))), (bt, .inl (bk, 2000, .inl gt))] H := hP
                  have hD : va_D A [(h0, .inr (10, [.ref ts, .ref tp, .ref tw, .int z, .int pa, .int so, .int pl, .long wd])), (ts, .inl (t1, 2001, .inl f_76)), (tp, .inl (t2, 2001, .inl gp)), (tw, .inl (t3, 2001, .inr (.inl f_78))), (bt, .inl (bk, 2000, .inl gt))] := hD
                  refine lv_iload hx hb dX10_readWord_241 (lv_at hl 5 rfl) ?_
                  have hP9 := hP.sub (ws' := [(h0, .inr (10, [.ref ts, .ref tp, .ref tw, .int z, .int pa, .int so, .int pl, .long wd])), (ts, .inl (t1, 2001, .inl f_76)), (tp, .inl (t2, 2001, .inl gp)), (tw, .inl (t3, 2001, .inr (.inl f_78))), (bt, .inl (bk, 2000, .inl gt))]) [0, 1, 2, 3, 4] rfl
                  have hD9 := hD.sub (ws' := [(h0, .inr (10, [.ref ts, .ref tp, .ref tw, .int z, .int pa, .int so, .int pl, .long wd])), (ts, .inl (t1, 2001, .inl f_76)), (tp, .inl (t2, 2001, .inl gp)), (tw, .inl (t3, 2001, .inr (.inl f_78))), (bt, .inl (bk, 2000, .inl gt))]) [0, 1, 2, 3, 4] (by decide) rfl
                  have hK9 := hK.sub (tys' := [(t1, .int), (t2, .int), (t3, .long), (bk, .byte)]) [0, 1, 2, 3] rfl
                  exact W.iret (v := to) hx hb hr (fun t ht hW => ⟨⟨to, (f_76, f_78), rfl, ⟨by omega, by omega⟩, by rw [ht]; exact hP9, va_K.moved hW.alike hK9, hD9⟩, hS.F ht⟩) hS.2.2 dX10_readWord_243
                · have ic_77 : di.toInt = x_51.toInt := zi_eq c_77
                  refine lv_iload hx hb dX10_readWord_232 (lv_at hl 2 rfl) ?_
                  obtain ⟨x_79, ex_79⟩ : ∃ z : Int64, z = Int32.toInt64 nu := ⟨_, rfl⟩
                  refine lv_i2l (v := x_79) hx hb dX10_readWord_234 ex_79.symm ?_
                  refine lv_goto (tgt := 240) hx hb dX10_readWord_235 (by decide) ?_
                  refine va_last hx hb hK hP hD hS 3 2 rfl rfl (vp_in_iff.mpr ⟨by omega, by omega⟩) dX10_readWord_240 (fun H locs hP hD hS => ?_)
                  obtain ⟨f_80, ef_80⟩ : ∃ gz9 : Nat → Int64, gz9 = vp_updL gw (Int32.toNatClampNeg z) x_79 := ⟨_, rfl⟩
                  rw [← ef_80] at hP hD
                  have hP : va_P (dC, dI) vwCl [(h0, .inr (10, [.ref ts, .ref tp, .ref tw, .int z, .int pa, .int so, .int pl, .long wd])), (ts, .inl (t1, 2001, .inl f_76)), (tp, .inl (t2, 2001, .inl gp)), (tw, .inl (t3, 2001, .inr (.inl f_80))), (bt, .inl (bk, 2000, .inl gt))] H := hP
                  have hD : va_D A [(h0, .inr (10, [.ref ts, .ref tp, .ref tw, .int z, .int pa, .int so, .int pl, .long wd])), (ts, .inl (t1, 2001, .inl f_76)), (tp, .inl (t2, 2001, .inl gp)), (tw, .inl (t3, 2001, .inr (.inl f_80))), (bt, .inl (bk, 2000, .inl gt))] := hD
                  refine lv_iload hx hb dX10_readWord_241 (lv_at hl 5 rfl) ?_
                  have hP9 := hP.sub (ws' := [(h0, .inr (10, [.ref ts, .ref tp, .ref tw, .int z, .int pa, .int so, .int pl, .long wd])), (ts, .inl (t1, 2001, .inl f_76)), (tp, .inl (t2, 2001, .inl gp)), (tw, .inl (t3, 2001, .inr (.inl f_80))), (bt, .inl (bk, 2000, .inl gt))]) [0, 1, 2, 3, 4] rfl
                  have hD9 := hD.sub (ws' := [(h0, .inr (10, [.ref ts, .ref tp, .ref tw, .int z, .int pa, .int so, .int pl, .long wd])), (ts, .inl (t1, 2001, .inl f_76)), (tp, .inl (t2, 2001, .inl gp)), (tw, .inl (t3, 2001, .inr (.inl f_80))), (bt, .inl (bk, 2000, .inl gt))]) [0, 1, 2, 3, 4] (by decide) rfl
                  have hK9 := hK.sub (tys' := [(t1, .int), (t2, .int), (t3, .long), (bk, .byte)]) [0, 1, 2, 3] rfl
                  exact W.iret (v := to) hx hb hr (fun t ht hW => ⟨⟨to, (f_76, f_80), rfl, ⟨by omega, by omega⟩, by rw [ht]; exact hP9, va_K.moved hW.alike hK9, hD9⟩, hS.F ht⟩) hS.2.2 dX10_readWord_243
            · have ic_53 : 8 < x_51.toInt := zi_nle c_53
              refine lv_aload_n hx hb dX10_readWord_142 rfl (lv_at hl 6 rfl) ?_
              refine va_get (D := (dC, dI)) (ci := 10) (v := .ref ts) (C := RX10) (T := TX10) (N := 8) hx hb hA zin_X10 hown hK hP 0 rfl rfl 0 (by decide) (hA _ wi_346) (fun _ h9 => h9) rfl dX10_readWord_143 ?_
              refine lv_aload_n hx hb dX10_readWord_146 rfl (lv_at hl 6 rfl) ?_
              refine va_get (D := (dC, dI)) (ci := 10) (v := .int z) (C := RX10) (T := TX10) (N := 8) hx hb hA zin_X10 hown hK hP 0 rfl rfl 3 (by decide) (hA _ wi_349) (fun _ h9 => h9) rfl dX10_readWord_147 ?_
              refine lv_sipush (v := 257) hx hb dX10_readWord_150 (by decide) ?_
              refine va_iast hx hb hK hP hD hS 1 0 rfl rfl (vp_in_iff.mpr ⟨by omega, by omega⟩) dX10_readWord_153 (fun H locs hP hD hS => ?_)
              obtain ⟨f_81, ef_81⟩ : ∃ gz9 : Nat → Int32, gz9 = upd gs (Int32.toNatClampNeg z) 257 := ⟨_, rfl⟩
              rw [← ef_81] at hP hD
              have hP : va_P (dC, dI) vwCl [(h0, .inr (10, [.ref ts, .ref tp, .ref tw, .int z, .int pa, .int so, .int pl, .long wd])), (ts, .inl (t1, 2001, .inl f_81)), (tp, .inl (t2, 2001, .inl gp)), (tw, .inl (t3, 2001, .inr (.inl gw))), (bt, .inl (bk, 2000, .inl gt))] H := hP
              have hD : va_D A [(h0, .inr (10, [.ref ts, .ref tp, .ref tw, .int z, .int pa, .int so, .int pl, .long wd])), (ts, .inl (t1, 2001, .inl f_81)), (tp, .inl (t2, 2001, .inl gp)), (tw, .inl (t3, 2001, .inr (.inl gw))), (bt, .inl (bk, 2000, .inl gt))] := hD
              refine lv_goto (tgt := 217) hx hb dX10_readWord_154 (by decide) ?_
              refine lv_aload_n hx hb dX10_readWord_217 rfl (lv_at hl 6 rfl) ?_
              refine va_get (D := (dC, dI)) (ci := 10) (v := .ref tw) (C := RX10) (T := TX10) (N := 8) hx hb hA zin_X10 hown hK hP 0 rfl rfl 2 (by decide) (hA _ wi_348) (fun _ h9 => h9) rfl dX10_readWord_218 ?_
              refine lv_aload_n hx hb dX10_readWord_221 rfl (lv_at hl 6 rfl) ?_
              refine va_get (D := (dC, dI)) (ci := 10) (v := .int z) (C := RX10) (T := TX10) (N := 8) hx hb hA zin_X10 hown hK hP 0 rfl rfl 3 (by decide) (hA _ wi_349) (fun _ h9 => h9) rfl dX10_readWord_222 ?_
              refine lv_iload hx hb dX10_readWord_225 (lv_at hl 3 rfl) ?_
              refine lv_iload hx hb dX10_readWord_227 (lv_at hl 0 rfl) ?_
              refine lv_icmp_ne (tgt := 238) hx hb dX10_readWord_229 (by decide) (fun c_82 => ?_) (fun c_82 => ?_)
              · have ic_82 : di.toInt ≠ x_51.toInt := zi_ne c_82
                refine lv_lload hx hb dX10_readWord_238 (lv_at hl 1 rfl) ?_
                refine va_last hx hb hK hP hD hS 3 2 rfl rfl (vp_in_iff.mpr ⟨by omega, by omega⟩) dX10_readWord_240 (fun H locs hP hD hS => ?_)
                obtain ⟨f_83, ef_83⟩ : ∃ gz9 : Nat → Int64, gz9 = vp_updL gw (Int32.toNatClampNeg z) by_ := ⟨_, rfl⟩
                rw [← ef_83] at hP hD
                have hP : va_P (dC, dI) vwCl [(h0, .inr (10, [.ref ts, .ref tp, .ref tw, .int z, .int pa, .int so, .int pl, .long wd])), (ts, .inl (t1, 2001, .inl f_81)), (tp, .inl (t2, 2001, .inl gp)), (tw, .inl (t3, 2001, .inr (.inl f_83))), (bt, .inl (bk, 2000, .inl gt))] H := hP
                have hD : va_D A [(h0, .inr (10, [.ref ts, .ref tp, .ref tw, .int z, .int pa, .int so, .int pl, .long wd])), (ts, .inl (t1, 2001, .inl f_81)), (tp, .inl (t2, 2001, .inl gp)), (tw, .inl (t3, 2001, .inr (.inl f_83))), (bt, .inl (bk, 2000, .inl gt))] := hD
                refine lv_iload hx hb dX10_readWord_241 (lv_at hl 5 rfl) ?_
                have hP9 := hP.sub (ws' := [(h0, .inr (10, [.ref ts, .ref tp, .ref tw, .int z, .int pa, .int so, .int pl, .long wd])), (ts, .inl (t1, 2001, .inl f_81)), (tp, .inl (t2, 2001, .inl gp)), (tw, .inl (t3, 2001, .inr (.inl f_83))), (bt, .inl (bk, 2000, .inl gt))]) [0, 1, 2, 3, 4] rfl
                have hD9 := hD.sub (ws' := [(h0, .inr (10, [.ref ts, .ref tp, .ref tw, .int z, .int pa, .int so, .int pl, .long wd])), (ts, .inl (t1, 2001, .inl f_81)), (tp, .inl (t2, 2001, .inl gp)), (tw, .inl (t3, 2001, .inr (.inl f_83))), (bt, .inl (bk, 2000, .inl gt))]) [0, 1, 2, 3, 4] (by decide) rfl
                have hK9 := hK.sub (tys' := [(t1, .int), (t2, .int), (t3, .long), (bk, .byte)]) [0, 1, 2, 3] rfl
                exact W.iret (v := to) hx hb hr (fun t ht hW => ⟨⟨to, (f_81, f_83), rfl, ⟨by omega, by omega⟩, by rw [ht]; exact hP9, va_K.moved hW.alike hK9, hD9⟩, hS.F ht⟩) hS.2.2 dX10_readWord_243
              · have ic_82 : di.toInt = x_51.toInt := zi_eq c_82
                refine lv_iload hx hb dX10_readWord_232 (lv_at hl 2 rfl) ?_
                obtain ⟨x_84, ex_84⟩ : ∃ z : Int64, z = Int32.toInt64 nu := ⟨_, rfl⟩
                refine lv_i2l (v := x_84) hx hb dX10_readWord_234 ex_84.symm ?_
                refine lv_goto (tgt := 240) hx hb dX10_readWord_235 (by decide) ?_
                refine va_last hx hb hK hP hD hS 3 2 rfl rfl (vp_in_iff.mpr ⟨by omega, by omega⟩) dX10_readWord_240 (fun H locs hP hD hS => ?_)
                obtain ⟨f_85, ef_85⟩ : ∃ gz9 : Nat → Int64, gz9 = vp_updL gw (Int32.toNatClampNeg z) x_84 := ⟨_, rfl⟩
                rw [← ef_85] at hP hD
                have hP : va_P (dC, dI) vwCl [(h0, .inr (10, [.ref ts, .ref tp, .ref tw, .int z, .int pa, .int so, .int pl, .long wd])), (ts, .inl (t1, 2001, .inl f_81)), (tp, .inl (t2, 2001, .inl gp)), (tw, .inl (t3, 2001, .inr (.inl f_85))), (bt, .inl (bk, 2000, .inl gt))] H := hP
                have hD : va_D A [(h0, .inr (10, [.ref ts, .ref tp, .ref tw, .int z, .int pa, .int so, .int pl, .long wd])), (ts, .inl (t1, 2001, .inl f_81)), (tp, .inl (t2, 2001, .inl gp)), (tw, .inl (t3, 2001, .inr (.inl f_85))), (bt, .inl (bk, 2000, .inl gt))] := hD
                refine lv_iload hx hb dX10_readWord_241 (lv_at hl 5 rfl) ?_
                have hP9 := hP.sub (ws' := [(h0, .inr (10, [.ref ts, .ref tp, .ref tw, .int z, .int pa, .int so, .int pl, .long wd])), (ts, .inl (t1, 2001, .inl f_81)), (tp, .inl (t2, 2001, .inl gp)), (tw, .inl (t3, 2001, .inr (.inl f_85))), (bt, .inl (bk, 2000, .inl gt))]) [0, 1, 2, 3, 4] rfl
                have hD9 := hD.sub (ws' := [(h0, .inr (10, [.ref ts, .ref tp, .ref tw, .int z, .int pa, .int so, .int pl, .long wd])), (ts, .inl (t1, 2001, .inl f_81)), (tp, .inl (t2, 2001, .inl gp)), (tw, .inl (t3, 2001, .inr (.inl f_85))), (bt, .inl (bk, 2000, .inl gt))]) [0, 1, 2, 3, 4] (by decide) rfl
                have hK9 := hK.sub (tys' := [(t1, .int), (t2, .int), (t3, .long), (bk, .byte)]) [0, 1, 2, 3] rfl
                exact W.iret (v := to) hx hb hr (fun t ht hW => ⟨⟨to, (f_81, f_85), rfl, ⟨by omega, by omega⟩, by rw [ht]; exact hP9, va_K.moved hW.alike hK9, hD9⟩, hS.F ht⟩) hS.2.2 dX10_readWord_243
          · have ic_52 : di.toInt = x_51.toInt := zi_eq c_52
            refine lv_aload_n hx hb dX10_readWord_107 rfl (lv_at hl 6 rfl) ?_
            refine va_get (D := (dC, dI)) (ci := 10) (v := .ref ts) (C := RX10) (T := TX10) (N := 8) hx hb hA zin_X10 hown hK hP 0 rfl rfl 0 (by decide) (hA _ wi_346) (fun _ h9 => h9) rfl dX10_readWord_108 ?_
            refine lv_aload_n hx hb dX10_readWord_111 rfl (lv_at hl 6 rfl) ?_
            refine va_get (D := (dC, dI)) (ci := 10) (v := .int z) (C := RX10) (T := TX10) (N := 8) hx hb hA zin_X10 hown hK hP 0 rfl rfl 3 (by decide) (hA _ wi_349) (fun _ h9 => h9) rfl dX10_readWord_112 ?_
            refine lv_iload hx hb dX10_readWord_115 (lv_at hl 0 rfl) ?_
            refine lv_bipush (v := 9) hx hb dX10_readWord_117 (by decide) ?_
            refine lv_icmp_gt (tgt := 128) hx hb dX10_readWord_119 (by decide) (fun c_86 => ?_) (fun c_86 => ?_)
            · have ic_86 : 9 < x_51.toInt := zi_lt c_86
              refine lv_sipush (v := 257) hx hb dX10_readWord_128 (by decide) ?_
              refine va_iast hx hb hK hP hD hS 1 0 rfl rfl (vp_in_iff.mpr ⟨by omega, by omega⟩) dX10_readWord_131 (fun H locs hP hD hS => ?_)
              obtain ⟨f_87, ef_87⟩ : ∃ gz9 : Nat → Int32, gz9 = upd gs (Int32.toNatClampNeg z) 257 := ⟨_, rfl⟩
              rw [← ef_87] at hP hD
              have hP : va_P (dC, dI) vwCl [(h0, .inr (10, [.ref ts, .ref tp, .ref tw, .int z, .int pa, .int so, .int pl, .long wd])), (ts, .inl (t1, 2001, .inl f_87)), (tp, .inl (t2, 2001, .inl gp)), (tw, .inl (t3, 2001, .inr (.inl gw))), (bt, .inl (bk, 2000, .inl gt))] H := hP
              have hD : va_D A [(h0, .inr (10, [.ref ts, .ref tp, .ref tw, .int z, .int pa, .int so, .int pl, .long wd])), (ts, .inl (t1, 2001, .inl f_87)), (tp, .inl (t2, 2001, .inl gp)), (tw, .inl (t3, 2001, .inr (.inl gw))), (bt, .inl (bk, 2000, .inl gt))] := hD
              refine lv_goto (tgt := 217) hx hb dX10_readWord_132 (by decide) ?_
              refine lv_aload_n hx hb dX10_readWord_217 rfl (lv_at hl 6 rfl) ?_
              refine va_get (D := (dC, dI)) (ci := 10) (v := .ref tw) (C := RX10) (T := TX10) (N := 8) hx hb hA zin_X10 hown hK hP 0 rfl rfl 2 (by decide) (hA _ wi_348) (fun _ h9 => h9) rfl dX10_readWord_218 ?_
              refine lv_aload_n hx hb dX10_readWord_221 rfl (lv_at hl 6 rfl) ?_
              refine va_get (D := (dC, dI)) (ci := 10) (v := .int z) (C := RX10) (T := TX10) (N := 8) hx hb hA zin_X10 hown hK hP 0 rfl rfl 3 (by decide) (hA _ wi_349) (fun _ h9 => h9) rfl dX10_readWord_222 ?_
              refine lv_iload hx hb dX10_readWord_225 (lv_at hl 3 rfl) ?_
              refine lv_iload hx hb dX10_readWord_227 (lv_at hl 0 rfl) ?_
              refine lv_icmp_ne (tgt := 238) hx hb dX10_readWord_229 (by decide) (fun c_88 => ?_) (fun c_88 => ?_)
              · have ic_88 : di.toInt ≠ x_51.toInt := zi_ne c_88
                refine lv_lload hx hb dX10_readWord_238 (lv_at hl 1 rfl) ?_
                refine va_last hx hb hK hP hD hS 3 2 rfl rfl (vp_in_iff.mpr ⟨by omega, by omega⟩) dX10_readWord_240 (fun H locs hP hD hS => ?_)
                obtain ⟨f_89, ef_89⟩ : ∃ gz9 : Nat → Int64, gz9 = vp_updL gw (Int32.toNatClampNeg z) by_ := ⟨_, rfl⟩
                rw [← ef_89] at hP hD
                have hP : va_P (dC, dI) vwCl [(h0, .inr (10, [.ref ts, .ref tp, .ref tw, .int z, .int pa, .int so, .int pl, .long wd])), (ts, .inl (t1, 2001, .inl f_87)), (tp, .inl (t2, 2001, .inl gp)), (tw, .inl (t3, 2001, .inr (.inl f_89))), (bt, .inl (bk, 2000, .inl gt))] H := hP
                have hD : va_D A [(h0, .inr (10, [.ref ts, .ref tp, .ref tw, .int z, .int pa, .int so, .int pl, .long wd])), (ts, .inl (t1, 2001, .inl f_87)), (tp, .inl (t2, 2001, .inl gp)), (tw, .inl (t3, 2001, .inr (.inl f_89))), (bt, .inl (bk, 2000, .inl gt))] := hD
                refine lv_iload hx hb dX10_readWord_241 (lv_at hl 5 rfl) ?_
                have hP9 := hP.sub (ws' := [(h0, .inr (10, [.ref ts, .ref tp, .ref tw, .int z, .int pa, .int so, .int pl, .long wd])), (ts, .inl (t1, 2001, .inl f_87)), (tp, .inl (t2, 2001, .inl gp)), (tw, .inl (t3, 2001, .inr (.inl f_89))), (bt, .inl (bk, 2000, .inl gt))]) [0, 1, 2, 3, 4] rfl
                have hD9 := hD.sub (ws' := [(h0, .inr (10, [.ref ts, .ref tp, .ref tw, .int z, .int pa, .int so, .int pl, .long wd])), (ts, .inl (t1, 2001, .inl f_87)), (tp, .inl (t2, 2001, .inl gp)), (tw, .inl (t3, 2001, .inr (.inl f_89))), (bt, .inl (bk, 2000, .inl gt))]) [0, 1, 2, 3, 4] (by decide) rfl
                have hK9 := hK.sub (tys' := [(t1, .int), (t2, .int), (t3, .long), (bk, .byte)]) [0, 1, 2, 3] rfl
                exact W.iret (v := to) hx hb hr (fun t ht hW => ⟨⟨to, (f_87, f_89), rfl, ⟨by omega, by omega⟩, by rw [ht]; exact hP9, va_K.moved hW.alike hK9, hD9⟩, hS.F ht⟩) hS.2.2 dX10_readWord_243
              · have ic_88 : di.toInt = x_51.toInt := zi_eq c_88
                refine lv_iload hx hb dX10_readWord_232 (lv_at hl 2 rfl) ?_
                obtain ⟨x_90, ex_90⟩ : ∃ z : Int64, z = Int32.toInt64 nu := ⟨_, rfl⟩
                refine lv_i2l (v := x_90) hx hb dX10_readWord_234 ex_90.symm ?_
                refine lv_goto (tgt := 240) hx hb dX10_readWord_235 (by decide) ?_
                refine va_last hx hb hK hP hD hS 3 2 rfl rfl (vp_in_iff.mpr ⟨by omega, by omega⟩) dX10_readWord_240 (fun H locs hP hD hS => ?_)
                obtain ⟨f_91, ef_91⟩ : ∃ gz9 : Nat → Int64, gz9 = vp_updL gw (Int32.toNatClampNeg z) x_90 := ⟨_, rfl⟩
                rw [← ef_91] at hP hD
                have hP : va_P (dC, dI) vwCl [(h0, .inr (10, [.ref ts, .ref tp, .ref tw, .int z, .int pa, .int so, .int pl, .long wd])), (ts, .inl (t1, 2001, .inl f_87)), (tp, .inl (t2, 2001, .inl gp)), (tw, .inl (t3, 2001, .inr (.inl f_91))), (bt, .inl (bk, 2000, .inl gt))] H := hP
                have hD : va_D A [(h0, .inr (10, [.ref ts, .ref tp, .ref tw, .int z, .int pa, .int so, .int pl, .long wd])), (ts, .inl (t1, 2001, .inl f_87)), (tp, .inl (t2, 2001, .inl gp)), (tw, .inl (t3, 2001, .inr (.inl f_91))), (bt, .inl (bk, 2000, .inl gt))] := hD
                refine lv_iload hx hb dX10_readWord_241 (lv_at hl 5 rfl) ?_
                have hP9 := hP.sub (ws' := [(h0, .inr (10, [.ref ts, .ref tp, .ref tw, .int z, .int pa, .int so, .int pl, .long wd])), (ts, .inl (t1, 2001, .inl f_87)), (tp, .inl (t2, 2001, .inl gp)), (tw, .inl (t3, 2001, .inr (.inl f_91))), (bt, .inl (bk, 2000, .inl gt))]) [0, 1, 2, 3, 4] rfl
                have hD9 := hD.sub (ws' := [(h0, .inr (10, [.ref ts, .ref tp, .ref tw, .int z, .int pa, .int so, .int pl, .long wd])), (ts, .inl (t1, 2001, .inl f_87)), (tp, .inl (t2, 2001, .inl gp)), (tw, .inl (t3, 2001, .inr (.inl f_91))), (bt, .inl (bk, 2000, .inl gt))]) [0, 1, 2, 3, 4] (by decide) rfl
                have hK9 := hK.sub (tys' := [(t1, .int), (t2, .int), (t3, .long), (bk, .byte)]) [0, 1, 2, 3] rfl
                exact W.iret (v := to) hx hb hr (fun t ht hW => ⟨⟨to, (f_87, f_91), rfl, ⟨by omega, by omega⟩, by rw [ht]; exact hP9, va_K.moved hW.alike hK9, hD9⟩, hS.F ht⟩) hS.2.2 dX10_readWord_243
            · have ic_86 : x_51.toInt ≤ 9 := zi_nlt c_86
              refine lv_sipush (v := 260) hx hb dX10_readWord_122 (by decide) ?_
              refine lv_goto (tgt := 131) hx hb dX10_readWord_125 (by decide) ?_
              refine va_iast hx hb hK hP hD hS 1 0 rfl rfl (vp_in_iff.mpr ⟨by omega, by omega⟩) dX10_readWord_131 (fun H locs hP hD hS => ?_)
              obtain ⟨f_92, ef_92⟩ : ∃ gz9 : Nat → Int32, gz9 = upd gs (Int32.toNatClampNeg z) 260 := ⟨_, rfl⟩
              rw [← ef_92] at hP hD
              have hP : va_P (dC, dI) vwCl [(h0, .inr (10, [.ref ts, .ref tp, .ref tw, .int z, .int pa, .int so, .int pl, .long wd])), (ts, .inl (t1, 2001, .inl f_92)), (tp, .inl (t2, 2001, .inl gp)), (tw, .inl (t3, 2001, .inr (.inl gw))), (bt, .inl (bk, 2000, .inl gt))] H := hP
              have hD : va_D A [(h0, .inr (10, [.ref ts, .ref tp, .ref tw, .int z, .int pa, .int so, .int pl, .long wd])), (ts, .inl (t1, 2001, .inl f_92)), (tp, .inl (t2, 2001, .inl gp)), (tw, .inl (t3, 2001, .inr (.inl gw))), (bt, .inl (bk, 2000, .inl gt))] := hD
              refine lv_goto (tgt := 217) hx hb dX10_readWord_132 (by decide) ?_
              refine lv_aload_n hx hb dX10_readWord_217 rfl (lv_at hl 6 rfl) ?_
              refine va_get (D := (dC, dI)) (ci := 10) (v := .ref tw) (C := RX10) (T := TX10) (N := 8) hx hb hA zin_X10 hown hK hP 0 rfl rfl 2 (by decide) (hA _ wi_348) (fun _ h9 => h9) rfl dX10_readWord_218 ?_
              refine lv_aload_n hx hb dX10_readWord_221 rfl (lv_at hl 6 rfl) ?_
              refine va_get (D := (dC, dI)) (ci := 10) (v := .int z) (C := RX10) (T := TX10) (N := 8) hx hb hA zin_X10 hown hK hP 0 rfl rfl 3 (by decide) (hA _ wi_349) (fun _ h9 => h9) rfl dX10_readWord_222 ?_
              refine lv_iload hx hb dX10_readWord_225 (lv_at hl 3 rfl) ?_
              refine lv_iload hx hb dX10_readWord_227 (lv_at hl 0 rfl) ?_
              refine lv_icmp_ne (tgt := 238) hx hb dX10_readWord_229 (by decide) (fun c_93 => ?_) (fun c_93 => ?_)
              · have ic_93 : di.toInt ≠ x_51.toInt := zi_ne c_93
                refine lv_lload hx hb dX10_readWord_238 (lv_at hl 1 rfl) ?_
                refine va_last hx hb hK hP hD hS 3 2 rfl rfl (vp_in_iff.mpr ⟨by omega, by omega⟩) dX10_readWord_240 (fun H locs hP hD hS => ?_)
                obtain ⟨f_94, ef_94⟩ : ∃ gz9 : Nat → Int64, gz9 = vp_updL gw (Int32.toNatClampNeg z) by_ := ⟨_, rfl⟩
                rw [← ef_94] at hP hD
                have hP : va_P (dC, dI) vwCl [(h0, .inr (10, [.ref ts, .ref tp, .ref tw, .int z, .int pa, .int so, .int pl, .long wd])), (ts, .inl (t1, 2001, .inl f_92)), (tp, .inl (t2, 2001, .inl gp)), (tw, .inl (t3, 2001, .inr (.inl f_94))), (bt, .inl (bk, 2000, .inl gt))] H := hP
                have hD : va_D A [(h0, .inr (10, [.ref ts, .ref tp, .ref tw, .int z, .int pa, .int so, .int pl, .long wd])), (ts, .inl (t1, 2001, .inl f_92)), (tp, .inl (t2, 2001, .inl gp)), (tw, .inl (t3, 2001, .inr (.inl f_94))), (bt, .inl (bk, 2000, .inl gt))] := hD
                refine lv_iload hx hb dX10_readWord_241 (lv_at hl 5 rfl) ?_
                have hP9 := hP.sub (ws' := [(h0, .inr (10, [.ref ts, .ref tp, .ref tw, .int z, .int pa, .int so, .int pl, .long wd])), (ts, .inl (t1, 2001, .inl f_92)), (tp, .inl (t2, 2001, .inl gp)), (tw, .inl (t3, 2001, .inr (.inl f_94))), (bt, .inl (bk, 2000, .inl gt))]) [0, 1, 2, 3, 4] rfl
                have hD9 := hD.sub (ws' := [(h0, .inr (10, [.ref ts, .ref tp, .ref tw, .int z, .int pa, .int so, .int pl, .long wd])), (ts, .inl (t1, 2001, .inl f_92)), (tp, .inl (t2, 2001, .inl gp)), (tw, .inl (t3, 2001, .inr (.inl f_94))), (bt, .inl (bk, 2000, .inl gt))]) [0, 1, 2, 3, 4] (by decide) rfl
                have hK9 := hK.sub (tys' := [(t1, .int), (t2, .int), (t3, .long), (bk, .byte)]) [0, 1, 2, 3] rfl
                exact W.iret (v := to) hx hb hr (fun t ht hW => ⟨⟨to, (f_92, f_94), rfl, ⟨by omega, by omega⟩, by rw [ht]; exact hP9, va_K.moved hW.alike hK9, hD9⟩, hS.F ht⟩) hS.2.2 dX10_readWord_243
              · have ic_93 : di.toInt = x_51.toInt := zi_eq c_93
                refine lv_iload hx hb dX10_readWord_232 (lv_at hl 2 rfl) ?_
                obtain ⟨x_95, ex_95⟩ : ∃ z : Int64, z = Int32.toInt64 nu := ⟨_, rfl⟩
                refine lv_i2l (v := x_95) hx hb dX10_readWord_234 ex_95.symm ?_
                refine lv_goto (tgt := 240) hx hb dX10_readWord_235 (by decide) ?_
                refine va_last hx hb hK hP hD hS 3 2 rfl rfl (vp_in_iff.mpr ⟨by omega, by omega⟩) dX10_readWord_240 (fun H locs hP hD hS => ?_)
                obtain ⟨f_96, ef_96⟩ : ∃ gz9 : Nat → Int64, gz9 = vp_updL gw (Int32.toNatClampNeg z) x_95 := ⟨_, rfl⟩
                rw [← ef_96] at hP hD
                have hP : va_P (dC, dI) vwCl [(h0, .inr (10, [.ref ts, .ref tp, .ref tw, .int z, .int pa, .int so, .int pl, .long wd])), (ts, .inl (t1, 2001, .inl f_92)), (tp, .inl (t2, 2001, .inl gp)), (tw, .inl (t3, 2001, .inr (.inl f_96))), (bt, .inl (bk, 2000, .inl gt))] H := hP
                have hD : va_D A [(h0, .inr (10, [.ref ts, .ref tp, .ref tw, .int z, .int pa, .int so, .int pl, .long wd])), (ts, .inl (t1, 2001, .inl f_92)), (tp, .inl (t2, 2001, .inl gp)), (tw, .inl (t3, 2001, .inr (.inl f_96))), (bt, .inl (bk, 2000, .inl gt))] := hD
                refine lv_iload hx hb dX10_readWord_241 (lv_at hl 5 rfl) ?_
                have hP9 := hP.sub (ws' := [(h0, .inr (10, [.ref ts, .ref tp, .ref tw, .int z, .int pa, .int so, .int pl, .long wd])), (ts, .inl (t1, 2001, .inl f_92)), (tp, .inl (t2, 2001, .inl gp)), (tw, .inl (t3, 2001, .inr (.inl f_96))), (bt, .inl (bk, 2000, .inl gt))]) [0, 1, 2, 3, 4] rfl
                have hD9 := hD.sub (ws' := [(h0, .inr (10, [.ref ts, .ref tp, .ref tw, .int z, .int pa, .int so, .int pl, .long wd])), (ts, .inl (t1, 2001, .inl f_92)), (tp, .inl (t2, 2001, .inl gp)), (tw, .inl (t3, 2001, .inr (.inl f_96))), (bt, .inl (bk, 2000, .inl gt))]) [0, 1, 2, 3, 4] (by decide) rfl
                have hK9 := hK.sub (tys' := [(t1, .int), (t2, .int), (t3, .long), (bk, .byte)]) [0, 1, 2, 3] rfl
                exact W.iret (v := to) hx hb hr (fun t ht hW => ⟨⟨to, (f_92, f_96), rfl, ⟨by omega, by omega⟩, by rw [ht]; exact hP9, va_K.moved hW.alike hK9, hD9⟩, hS.F ht⟩) hS.2.2 dX10_readWord_243
        · have ic_50 : r_49.toInt ≠ 0 := zi_ne c_50
          refine lv_aload_n hx hb dX10_readWord_31 rfl (lv_at hl 6 rfl) ?_
          refine lv_iload hx hb dX10_readWord_32 (lv_at hl 4 rfl) ?_
          refine va_bald hx hb hK hP 4 3 rfl rfl (vp_in_iff.mpr ⟨by omega, by omega⟩) dX10_readWord_34 ?_
          refine lv_topi (fun x_97 ex_97 => ?_)
          have jx_97 : x_97.toInt = x_48.toInt := by rw [ex_97, ex_48]
          have hPc := hP.sub (ws' := []) [] rfl
          have hDc := hD.sub (ws' := []) [] (by decide) rfl
          have hKc := hK.sub (tys' := []) [] rfl
          have hFc := va_free (wc := []) hD hS hAA [] rfl
          refine va_calli (va_runS (As := [.int x_97]) (rest := []) ⟨hx, hb, hml, hown, hA⟩ (c_X10_isSmall l dC dI aK aV x_97 H.size) (va_cwS 1 hA (zw_S wi_664 wi_665 wi_137 (zw_good wi_666)) rfl rfl rfl (by decide +kernel) ⟨(Nat.le_of_ble_eq_true rfl), (Nat.le_of_ble_eq_true rfl)⟩) ⟨zP_blind, zz_pre hKc hPc hDc hN hT hS hFc⟩ rfl rfl hl.1 rfl (lv_room (Nat.le_of_ble_eq_true rfl)) dX10_readWord_35 ⟨(Nat.le_of_ble_eq_true rfl), (Nat.le_of_ble_eq_true rfl)⟩) hS (fun q _ h => hFc q h) hFc (fun r_98 u t H1 locs ht hvm hw hB hz1 hk1 hS => ?_)
          obtain ⟨hP1, hK1, hD1⟩ := hB
          rw [ht] at hP1
          have hK1 := va_K.moved hvm.symm hK1
          obtain ⟨hP, hD⟩ := va_join (wr := [(h0, .inr (10, [.ref ts, .ref tp, .ref tw, .int z, .int pa, .int so, .int pl, .long wd])), (ts, .inl (t1, 2001, .inl gs)), (tp, .inl (t2, 2001, .inl gp)), (tw, .inl (t3, 2001, .inr (.inl gw))), (bt, .inl (bk, 2000, .inl gt))]) (w1 := []) hP hD [] [0, 1, 2, 3, 4] rfl rfl (by decide) (by decide) hk1 hFc hP1 hD1
          have hK := (hK.sub (tys' := [(t1, .int), (t2, .int), (t3, .long), (bk, .byte)]) [0, 1, 2, 3] rfl).app hK1
          generalize H1 = H at hP hS ⊢
          have hP : va_P (dC, dI) vwCl [(h0, .inr (10, [.ref ts, .ref tp, .ref tw, .int z, .int pa, .int so, .int pl, .long wd])), (ts, .inl (t1, 2001, .inl gs)), (tp, .inl (t2, 2001, .inl gp)), (tw, .inl (t3, 2001, .inr (.inl gw))), (bt, .inl (bk, 2000, .inl gt))] H := hP
          have hD : va_D A [(h0, .inr (10, [.ref ts, .ref tp, .ref tw, .int z, .int pa, .int so, .int pl, .long wd])), (ts, .inl (t1, 2001, .inl gs)), (tp, .inl (t2, 2001, .inl gp)), (tw, .inl (t3, 2001, .inr (.inl gw))), (bt, .inl (bk, 2000, .inl gt))] := hD
          have hK : va_K (dC, dI) vwCl [(t1, .int), (t2, .int), (t3, .long), (bk, .byte)] s := hK
          have hw_r_98 := hw
          try dsimp only at hw_r_98
          refine lv_if_eq (tgt := 47) hx hb dX10_readWord_38 (by decide) (fun c_99 => ?_) (fun c_99 => ?_)
          · have ic_99 : r_98.toInt = 0 := zi_eq c_99
            refine lv_aload_n hx hb dX10_readWord_47 rfl (lv_at hl 6 rfl) ?_
            refine lv_iload hx hb dX10_readWord_48 (lv_at hl 4 rfl) ?_
            refine va_bald hx hb hK hP 4 3 rfl rfl (vp_in_iff.mpr ⟨by omega, by omega⟩) dX10_readWord_50 ?_
            refine lv_topi (fun x_100 ex_100 => ?_)
            have jx_100 : x_100.toInt = x_97.toInt := by rw [ex_100, ex_97]
            have hPc := hP.sub (ws' := []) [] rfl
            have hDc := hD.sub (ws' := []) [] (by decide) rfl
            have hKc := hK.sub (tys' := []) [] rfl
            have hFc := va_free (wc := []) hD hS hAA [] rfl
            refine va_calli (va_runS (As := [.int x_100]) (rest := []) ⟨hx, hb, hml, hown, hA⟩ (c_X10_isDigit l dC dI aK aV x_100 H.size) (va_cwS 1 hA (zw_S wi_670 wi_671 wi_137 (zw_good wi_672)) rfl rfl rfl (by decide +kernel) ⟨(Nat.le_of_ble_eq_true rfl), (Nat.le_of_ble_eq_true rfl)⟩) ⟨zP_blind, zz_pre hKc hPc hDc hN hT hS hFc⟩ rfl rfl hl.1 rfl (lv_room (Nat.le_of_ble_eq_true rfl)) dX10_readWord_51 ⟨(Nat.le_of_ble_eq_true rfl), (Nat.le_of_ble_eq_true rfl)⟩) hS (fun q _ h => hFc q h) hFc (fun r_101 u t H1 locs ht hvm hw hB hz1 hk1 hS => ?_)
            obtain ⟨hP1, hK1, hD1⟩ := hB
            rw [ht] at hP1
            have hK1 := va_K.moved hvm.symm hK1
            obtain ⟨hP, hD⟩ := va_join (wr := [(h0, .inr (10, [.ref ts, .ref tp, .ref tw, .int z, .int pa, .int so, .int pl, .long wd])), (ts, .inl (t1, 2001, .inl gs)), (tp, .inl (t2, 2001, .inl gp)), (tw, .inl (t3, 2001, .inr (.inl gw))), (bt, .inl (bk, 2000, .inl gt))]) (w1 := []) hP hD [] [0, 1, 2, 3, 4] rfl rfl (by decide) (by decide) hk1 hFc hP1 hD1
            have hK := (hK.sub (tys' := [(t1, .int), (t2, .int), (t3, .long), (bk, .byte)]) [0, 1, 2, 3] rfl).app hK1
            generalize H1 = H at hP hS ⊢
            have hP : va_P (dC, dI) vwCl [(h0, .inr (10, [.ref ts, .ref tp, .ref tw, .int z, .int pa, .int so, .int pl, .long wd])), (ts, .inl (t1, 2001, .inl gs)), (tp, .inl (t2, 2001, .inl gp)), (tw, .inl (t3, 2001, .inr (.inl gw))), (bt, .inl (bk, 2000, .inl gt))] H := hP
            have hD : va_D A [(h0, .inr (10, [.ref ts, .ref tp, .ref tw, .int z, .int pa, .int so, .int pl, .long wd])), (ts, .inl (t1, 2001, .inl gs)), (tp, .inl (t2, 2001, .inl gp)), (tw, .inl (t3, 2001, .inr (.inl gw))), (bt, .inl (bk, 2000, .inl gt))] := hD
            have hK : va_K (dC, dI) vwCl [(t1, .int), (t2, .int), (t3, .long), (bk, .byte)] s := hK
            have hw_r_101 := hw
            try dsimp only at hw_r_101
            refine lv_if_eq (tgt := 75) hx hb dX10_readWord_54 (by decide) (fun c_102 => ?_) (fun c_102 => ?_)
            · have ic_102 : r_101.toInt = 0 := zi_eq c_102
              refine lv_lload hx hb dX10_readWord_75 (lv_at hl 0 rfl) ?_
              refine lv_bipush (v := 8) hx hb dX10_readWord_77 (by decide) ?_
              refine lv_lshl hx hb dX10_readWord_79 rfl ?_
              refine lv_topl (fun x_103 ex_103 => ?_)
              refine lv_aload_n hx hb dX10_readWord_80 rfl (lv_at hl 6 rfl) ?_
              refine lv_iload hx hb dX10_readWord_81 (lv_at hl 4 rfl) ?_
              refine va_bald hx hb hK hP 4 3 rfl rfl (vp_in_iff.mpr ⟨by omega, by omega⟩) dX10_readWord_83 ?_
              refine lv_topi (fun x_104 ex_104 => ?_)
              have jx_104 : x_104.toInt = x_100.toInt := by rw [ex_104, ex_100]
              obtain ⟨x_105, ex_105⟩ : ∃ z : Int64, z = Int32.toInt64 x_104 := ⟨_, rfl⟩
              refine lv_i2l (v := x_105) hx hb dX10_readWord_84 ex_105.symm ?_
              refine lv_lor hx hb dX10_readWord_85 ?_
              refine lv_topl (fun x_106 ex_106 => ?_)
              refine lv_lstore (lv' := [(8, .long x_106), (7, .int nu), (6, .int di), (5, .int sm), (4, .int to), (0, .ref h0), (1, .ref bt), (2, .int fr), (3, .int en)]) hx hb dX10_readWord_86 hl (by decide) rfl (fun ls hl => ?_)
              obtain ⟨x_107, ex_107⟩ : ∃ y : Int32, y = to + Int32.ofInt 1 := ⟨_, rfl⟩
              refine lv_iinc (v := x_107) (lv' := [(4, .int x_107), (8, .long x_106), (7, .int nu), (6, .int di), (5, .int sm), (0, .ref h0), (1, .ref bt), (2, .int fr), (3, .int en)]) hx hb dX10_readWord_88 hl (k := 4) rfl (by rw [ex_107]) (by decide) rfl (fun ls hl => ?_)
              have ix_107 : x_107.toInt = to.toInt + 1 := by rw [ex_107]; exact zi_addc (by decide) (by omega) (by omega)
              refine lv_goto (tgt := 15) hx hb dX10_readWord_91 (by decide) ?_
              exact ih x_107 sm di nu x_106 _ _ _ (by omega) (by omega) (by omega) (by omega) (by omega) (by omega) (by omega) (hP.sub [0, 1, 2, 3, 4] rfl) (hD.sub [0, 1, 2, 3, 4] (by decide) rfl) hS (lv_sub hl [1, 2, 3, 4, 0, 5, 6, 7, 8] rfl)
            · have ic_102 : r_101.toInt ≠ 0 := zi_ne c_102
              obtain ⟨x_108, ex_108⟩ : ∃ y : Int32, y = di + Int32.ofInt 1 := ⟨_, rfl⟩
              refine lv_iinc (v := x_108) (lv' := [(6, .int x_108), (8, .long by_), (7, .int nu), (5, .int sm), (4, .int to), (0, .ref h0), (1, .ref bt), (2, .int fr), (3, .int en)]) hx hb dX10_readWord_57 hl (k := 2) rfl (by rw [ex_108]) (by decide) rfl (fun ls hl => ?_)
              have ix_108 : x_108.toInt = di.toInt + 1 := by rw [ex_108]; exact zi_addc (by decide) (by omega) (by omega)
              refine lv_iload hx hb dX10_readWord_60 (lv_at hl 2 rfl) ?_
              refine lv_bipush (v := 10) hx hb dX10_readWord_62 (by decide) ?_
              refine lv_imul hx hb dX10_readWord_64 ?_
              refine lv_topi (fun x_109 ex_109 => ?_)
              refine lv_aload_n hx hb dX10_readWord_65 rfl (lv_at hl 6 rfl) ?_
              refine lv_iload hx hb dX10_readWord_66 (lv_at hl 4 rfl) ?_
              refine va_bald hx hb hK hP 4 3 rfl rfl (vp_in_iff.mpr ⟨by omega, by omega⟩) dX10_readWord_68 ?_
              refine lv_topi (fun x_110 ex_110 => ?_)
              have jx_110 : x_110.toInt = x_100.toInt := by rw [ex_110, ex_100]
              refine lv_bipush (v := 48) hx hb dX10_readWord_69 (by decide) ?_
              refine lv_isub hx hb dX10_readWord_71 ?_
              refine lv_topi (fun x_111 ex_111 => ?_)
              refine lv_iadd hx hb dX10_readWord_72 ?_
              refine lv_topi (fun x_112 ex_112 => ?_)
              refine lv_istore (lv' := [(7, .int x_112), (6, .int x_108), (8, .long by_), (5, .int sm), (4, .int to), (0, .ref h0), (1, .ref bt), (2, .int fr), (3, .int en)]) hx hb dX10_readWord_73 hl (by decide) rfl (fun ls hl => ?_)
              refine lv_lload hx hb dX10_readWord_75 (lv_at hl 2 rfl) ?_
              refine lv_bipush (v := 8) hx hb dX10_readWord_77 (by decide) ?_
              refine lv_lshl hx hb dX10_readWord_79 rfl ?_
              refine lv_topl (fun x_113 ex_113 => ?_)
              refine lv_aload_n hx hb dX10_readWord_80 rfl (lv_at hl 6 rfl) ?_
              refine lv_iload hx hb dX10_readWord_81 (lv_at hl 4 rfl) ?_
              refine va_bald hx hb hK hP 4 3 rfl rfl (vp_in_iff.mpr ⟨by omega, by omega⟩) dX10_readWord_83 ?_
              refine lv_topi (fun x_114 ex_114 => ?_)
              have jx_114 : x_114.toInt = x_110.toInt := by rw [ex_114, ex_110]
              obtain ⟨x_115, ex_115⟩ : ∃ z : Int64, z = Int32.toInt64 x_114 := ⟨_, rfl⟩
              refine lv_i2l (v := x_115) hx hb dX10_readWord_84 ex_115.symm ?_
              refine lv_lor hx hb dX10_readWord_85 ?_
              refine lv_topl (fun x_116 ex_116 => ?_)
              refine lv_lstore (lv' := [(8, .long x_116), (7, .int x_112), (6, .int x_108), (5, .int sm), (4, .int to), (0, .ref h0), (1, .ref bt), (2, .int fr), (3, .int en)]) hx hb dX10_readWord_86 hl (by decide) rfl (fun ls hl => ?_)
              obtain ⟨x_117, ex_117⟩ : ∃ y : Int32, y = to + Int32.ofInt 1 := ⟨_, rfl⟩
              refine lv_iinc (v := x_117) (lv' := [(4, .int x_117), (8, .long x_116), (7, .int x_112), (6, .int x_108), (5, .int sm), (0, .ref h0), (1, .ref bt), (2, .int fr), (3, .int en)]) hx hb dX10_readWord_88 hl (k := 4) rfl (by rw [ex_117]) (by decide) rfl (fun ls hl => ?_)
              have ix_117 : x_117.toInt = to.toInt + 1 := by rw [ex_117]; exact zi_addc (by decide) (by omega) (by omega)
              refine lv_goto (tgt := 15) hx hb dX10_readWord_91 (by decide) ?_
              exact ih x_117 sm x_108 x_112 x_116 _ _ _ (by omega) (by omega) (by omega) (by omega) (by omega) (by omega) (by omega) (hP.sub [0, 1, 2, 3, 4] rfl) (hD.sub [0, 1, 2, 3, 4] (by decide) rfl) hS (lv_sub hl [1, 2, 3, 4, 0, 5, 6, 7, 8] rfl)
          · have ic_99 : r_98.toInt ≠ 0 := zi_ne c_99
            obtain ⟨x_118, ex_118⟩ : ∃ y : Int32, y = sm + Int32.ofInt 1 := ⟨_, rfl⟩
            refine lv_iinc (v := x_118) (lv' := [(5, .int x_118), (8, .long by_), (7, .int nu), (6, .int di), (4, .int to), (0, .ref h0), (1, .ref bt), (2, .int fr), (3, .int en)]) hx hb dX10_readWord_41 hl (k := 3) rfl (by rw [ex_118]) (by decide) rfl (fun ls hl => ?_)
            have ix_118 : x_118.toInt = sm.toInt + 1 := by rw [ex_118]; exact zi_addc (by decide) (by omega) (by omega)
            refine lv_goto (tgt := 75) hx hb dX10_readWord_44 (by decide) ?_
            refine lv_lload hx hb dX10_readWord_75 (lv_at hl 1 rfl) ?_
            refine lv_bipush (v := 8) hx hb dX10_readWord_77 (by decide) ?_
            refine lv_lshl hx hb dX10_readWord_79 rfl ?_
            refine lv_topl (fun x_119 ex_119 => ?_)
            refine lv_aload_n hx hb dX10_readWord_80 rfl (lv_at hl 6 rfl) ?_
            refine lv_iload hx hb dX10_readWord_81 (lv_at hl 4 rfl) ?_
            refine va_bald hx hb hK hP 4 3 rfl rfl (vp_in_iff.mpr ⟨by omega, by omega⟩) dX10_readWord_83 ?_
            refine lv_topi (fun x_120 ex_120 => ?_)
            have jx_120 : x_120.toInt = x_97.toInt := by rw [ex_120, ex_97]
            obtain ⟨x_121, ex_121⟩ : ∃ z : Int64, z = Int32.toInt64 x_120 := ⟨_, rfl⟩
            refine lv_i2l (v := x_121) hx hb dX10_readWord_84 ex_121.symm ?_
            refine lv_lor hx hb dX10_readWord_85 ?_
            refine lv_topl (fun x_122 ex_122 => ?_)
            refine lv_lstore (lv' := [(8, .long x_122), (5, .int x_118), (7, .int nu), (6, .int di), (4, .int to), (0, .ref h0), (1, .ref bt), (2, .int fr), (3, .int en)]) hx hb dX10_readWord_86 hl (by decide) rfl (fun ls hl => ?_)
            obtain ⟨x_123, ex_123⟩ : ∃ y : Int32, y = to + Int32.ofInt 1 := ⟨_, rfl⟩
            refine lv_iinc (v := x_123) (lv' := [(4, .int x_123), (8, .long x_122), (5, .int x_118), (7, .int nu), (6, .int di), (0, .ref h0), (1, .ref bt), (2, .int fr), (3, .int en)]) hx hb dX10_readWord_88 hl (k := 4) rfl (by rw [ex_123]) (by decide) rfl (fun ls hl => ?_)
            have ix_123 : x_123.toInt = to.toInt + 1 := by rw [ex_123]; exact zi_addc (by decide) (by omega) (by omega)
            refine lv_goto (tgt := 15) hx hb dX10_readWord_91 (by decide) ?_
            exact ih x_123 x_118 di nu x_122 _ _ _ (by omega) (by omega) (by omega) (by omega) (by omega) (by omega) (by omega) (hP.sub [0, 1, 2, 3, 4] rfl) (hD.sub [0, 1, 2, 3, 4] (by decide) rfl) hS (lv_sub hl [1, 3, 4, 2, 0, 5, 6, 7, 8] rfl)
  exact loop_15 _ fr 0 0 0 0 _ _ _ (Nat.le_refl _) (by have h9_0 : Int32.toInt 0 = 0 := (by decide); omega) (by have h9_0 : Int32.toInt 0 = 0 := (by decide); omega) (by have h9_0 : Int32.toInt 0 = 0 := (by decide); omega) (by have h9_0 : Int32.toInt 0 = 0 := (by decide); omega) (by have h9_0 : Int32.toInt 0 = 0 := (by decide); omega) (by have h9_0 : Int32.toInt 0 = 0 := (by decide); omega) (hP.sub [0, 1, 2, 3, 4] rfl) (hD.sub [0, 1, 2, 3, 4] (by decide) rfl) hS (lv_sub hl [0, 1, 2, 3, 4, 5, 6, 7, 8] rfl)
