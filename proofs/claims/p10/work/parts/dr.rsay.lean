section
theorem wi_1558 : Cond.fieldLink RX14 518 "ReuseHouseModel" "sides" "I" ∈ zw := zw_in (List.mem_of_getElem? (i := 1558) (by decide +kernel)) (by decide +kernel)
theorem wi_1556 : Cond.fieldLink RX14 99 "ReuseHouseModel" "side" "[B" ∈ zw := zw_in (List.mem_of_getElem? (i := 1556) (by decide +kernel)) (by decide +kernel)
theorem wi_2005 : Cond.code yX14_say cX14_say 2 none ∈ zw := zw_in (List.mem_of_getElem? (i := 2005) (by decide +kernel)) (by decide +kernel)
theorem wi_2002 : Cond.methodLink RX14 521 yX14_say ∈ zw := zw_in (List.mem_of_getElem? (i := 2002) (by decide +kernel)) (by decide +kernel)
theorem wi_2004 : Cond.instanceMethod yX14_say ∈ zw := zw_in (List.mem_of_getElem? (i := 2004) (by decide +kernel)) (by decide +kernel)
theorem wi_126 : Cond.selects RX14 yX14_say yX14_say ∈ zw := zw_in (List.mem_of_getElem? (i := 126) (by decide +kernel)) (by decide +kernel)
theorem dX14_say_0 : decode cX14_say 0 = .ok (.aload_n 0, 1) := by decide +kernel
theorem dX14_say_1 : decode cX14_say 1 = .ok (.getfield 518, 3) := by decide +kernel
theorem dX14_say_4 : decode cX14_say 4 = .ok (.sipush 4000, 3) := by decide +kernel
theorem dX14_say_7 : decode cX14_say 7 = .ok (.if_icmp .ne 10, 3) := by decide +kernel
theorem dX14_say_10 : decode cX14_say 10 = .ok (.aload_n 0, 1) := by decide +kernel
theorem dX14_say_11 : decode cX14_say 11 = .ok (.iconst 0, 1) := by decide +kernel
theorem dX14_say_12 : decode cX14_say 12 = .ok (.iconst 0, 1) := by decide +kernel
theorem dX14_say_13 : decode cX14_say 13 = .ok (.invokevirtual 181, 3) := by decide +kernel
theorem dX14_say_16 : decode cX14_say 16 = .ok (.athrow, 1) := by decide +kernel
theorem dX14_say_17 : decode cX14_say 17 = .ok (.aload_n 0, 1) := by decide +kernel
theorem dX14_say_18 : decode cX14_say 18 = .ok (.getfield 99, 3) := by decide +kernel
theorem dX14_say_21 : decode cX14_say 21 = .ok (.aload_n 0, 1) := by decide +kernel
theorem dX14_say_22 : decode cX14_say 22 = .ok (.getfield 518, 3) := by decide +kernel
theorem dX14_say_25 : decode cX14_say 25 = .ok (.iload_n 1, 1) := by decide +kernel
theorem dX14_say_26 : decode cX14_say 26 = .ok (.i2b, 1) := by decide +kernel
theorem dX14_say_27 : decode cX14_say 27 = .ok (.bastore, 1) := by decide +kernel
theorem dX14_say_28 : decode cX14_say 28 = .ok (.aload_n 0, 1) := by decide +kernel
theorem dX14_say_29 : decode cX14_say 29 = .ok (.dup, 1) := by decide +kernel
theorem dX14_say_30 : decode cX14_say 30 = .ok (.getfield 518, 3) := by decide +kernel
theorem dX14_say_33 : decode cX14_say 33 = .ok (.iconst 1, 1) := by decide +kernel
theorem dX14_say_34 : decode cX14_say 34 = .ok (.iadd, 1) := by decide +kernel
theorem dX14_say_35 : decode cX14_say 35 = .ok (.putfield 518, 3) := by decide +kernel
theorem dX14_say_38 : decode cX14_say 38 = .ok (.return_, 1) := by decide +kernel
theorem dX14_sayInt_0 : decode cX14_sayInt 0 = .ok (.iload_n 1, 1) := by decide +kernel
theorem dX14_sayInt_1 : decode cX14_sayInt 1 = .ok (.ifCond .ge 9, 3) := by decide +kernel
theorem dX14_sayInt_4 : decode cX14_sayInt 4 = .ok (.aload_n 0, 1) := by decide +kernel
theorem dX14_sayInt_5 : decode cX14_sayInt 5 = .ok (.bipush 45, 2) := by decide +kernel
theorem dX14_sayInt_7 : decode cX14_sayInt 7 = .ok (.invokevirtual 521, 3) := by decide +kernel
theorem dX14_sayInt_10 : decode cX14_sayInt 10 = .ok (.iconst 1, 1) := by decide +kernel
theorem dX14_sayInt_11 : decode cX14_sayInt 11 = .ok (.istore_n 2, 1) := by decide +kernel
theorem dX14_sayInt_12 : decode cX14_sayInt 12 = .ok (.iconst 1, 1) := by decide +kernel
theorem dX14_sayInt_13 : decode cX14_sayInt 13 = .ok (.istore_n 3, 1) := by decide +kernel
theorem dX14_sayInt_14 : decode cX14_sayInt 14 = .ok (.iload_n 3, 1) := by decide +kernel
theorem dX14_sayInt_15 : decode cX14_sayInt 15 = .ok (.bipush 10, 2) := by decide +kernel
theorem dX14_sayInt_17 : decode cX14_sayInt 17 = .ok (.if_icmp .ge 23, 3) := by decide +kernel
theorem dX14_sayInt_20 : decode cX14_sayInt 20 = .ok (.iload_n 1, 1) := by decide +kernel
theorem dX14_sayInt_21 : decode cX14_sayInt 21 = .ok (.iload_n 2, 1) := by decide +kernel
theorem dX14_sayInt_22 : decode cX14_sayInt 22 = .ok (.idiv, 1) := by decide +kernel
theorem dX14_sayInt_23 : decode cX14_sayInt 23 = .ok (.bipush 10, 2) := by decide +kernel
theorem dX14_sayInt_25 : decode cX14_sayInt 25 = .ok (.idiv, 1) := by decide +kernel
theorem dX14_sayInt_26 : decode cX14_sayInt 26 = .ok (.ifCond .eq 14, 3) := by decide +kernel
theorem dX14_sayInt_29 : decode cX14_sayInt 29 = .ok (.iload_n 2, 1) := by decide +kernel
theorem dX14_sayInt_30 : decode cX14_sayInt 30 = .ok (.bipush 10, 2) := by decide +kernel
theorem dX14_sayInt_32 : decode cX14_sayInt 32 = .ok (.imul, 1) := by decide +kernel
theorem dX14_sayInt_33 : decode cX14_sayInt 33 = .ok (.istore_n 2, 1) := by decide +kernel
theorem dX14_sayInt_34 : decode cX14_sayInt 34 = .ok (.iinc 3 1, 3) := by decide +kernel
theorem dX14_sayInt_37 : decode cX14_sayInt 37 = .ok (.goto (-23), 3) := by decide +kernel
theorem dX14_sayInt_40 : decode cX14_sayInt 40 = .ok (.iload_n 2, 1) := by decide +kernel
theorem dX14_sayInt_41 : decode cX14_sayInt 41 = .ok (.ifCond .le 39, 3) := by decide +kernel
theorem dX14_sayInt_44 : decode cX14_sayInt 44 = .ok (.iload_n 1, 1) := by decide +kernel
theorem dX14_sayInt_45 : decode cX14_sayInt 45 = .ok (.iload_n 2, 1) := by decide +kernel
theorem dX14_sayInt_46 : decode cX14_sayInt 46 = .ok (.idiv, 1) := by decide +kernel
theorem dX14_sayInt_47 : decode cX14_sayInt 47 = .ok (.bipush 10, 2) := by decide +kernel
theorem dX14_sayInt_49 : decode cX14_sayInt 49 = .ok (.irem, 1) := by decide +kernel
theorem dX14_sayInt_50 : decode cX14_sayInt 50 = .ok (.istore 4, 2) := by decide +kernel
theorem dX14_sayInt_52 : decode cX14_sayInt 52 = .ok (.aload_n 0, 1) := by decide +kernel
theorem dX14_sayInt_53 : decode cX14_sayInt 53 = .ok (.bipush 48, 2) := by decide +kernel
theorem dX14_sayInt_55 : decode cX14_sayInt 55 = .ok (.iload 4, 2) := by decide +kernel
theorem dX14_sayInt_57 : decode cX14_sayInt 57 = .ok (.ifCond .ge 9, 3) := by decide +kernel
theorem dX14_sayInt_60 : decode cX14_sayInt 60 = .ok (.iload 4, 2) := by decide +kernel
theorem dX14_sayInt_62 : decode cX14_sayInt 62 = .ok (.ineg, 1) := by decide +kernel
theorem dX14_sayInt_63 : decode cX14_sayInt 63 = .ok (.goto 5, 3) := by decide +kernel
theorem dX14_sayInt_66 : decode cX14_sayInt 66 = .ok (.iload 4, 2) := by decide +kernel
theorem dX14_sayInt_68 : decode cX14_sayInt 68 = .ok (.iadd, 1) := by decide +kernel
theorem dX14_sayInt_69 : decode cX14_sayInt 69 = .ok (.invokevirtual 521, 3) := by decide +kernel
theorem dX14_sayInt_72 : decode cX14_sayInt 72 = .ok (.iload_n 2, 1) := by decide +kernel
theorem dX14_sayInt_73 : decode cX14_sayInt 73 = .ok (.bipush 10, 2) := by decide +kernel
theorem dX14_sayInt_75 : decode cX14_sayInt 75 = .ok (.idiv, 1) := by decide +kernel
theorem dX14_sayInt_76 : decode cX14_sayInt 76 = .ok (.istore_n 2, 1) := by decide +kernel
theorem dX14_sayInt_77 : decode cX14_sayInt 77 = .ok (.goto (-37), 3) := by decide +kernel
theorem dX14_sayInt_80 : decode cX14_sayInt 80 = .ok (.return_, 1) := by decide +kernel
/-- ten to the n less one -/
def zten (n b : Int32) : Prop := n.toInt = 1 ∧ b.toInt = 1 ∨ n.toInt = 2 ∧ b.toInt = 10 ∨ n.toInt = 3 ∧ b.toInt = 100 ∨ n.toInt = 4 ∧ b.toInt = 1000 ∨ n.toInt = 5 ∧ b.toInt = 10000 ∨ n.toInt = 6 ∧ b.toInt = 100000 ∨ n.toInt = 7 ∧ b.toInt = 1000000 ∨ n.toInt = 8 ∧ b.toInt = 10000000 ∨ n.toInt = 9 ∧ b.toInt = 100000000 ∨ n.toInt = 10 ∧ b.toInt = 1000000000
theorem zten_1 : zten 1 1 := Or.inl ⟨by decide, by decide⟩
theorem zten_b {n b : Int32} (h : zten n b) (hn : n.toInt < 10) : b.toInt ≤ 100000000 := by
  rcases h with h | h | h | h | h | h | h | h | h | h <;> omega
theorem zten_s {n b n2 b2 : Int32} (h : zten n b) (hn : n.toInt < 10) (e1 : n2.toInt = n.toInt + 1) (e2 : b2.toInt = b.toInt * 10) : zten n2 b2 := by
  rcases h with h | h | h | h | h | h | h | h | h | h
  · exact Or.inr (Or.inl ⟨by omega, by omega⟩)
  · exact Or.inr (Or.inr (Or.inl ⟨by omega, by omega⟩))
  · exact Or.inr (Or.inr (Or.inr (Or.inl ⟨by omega, by omega⟩)))
  · exact Or.inr (Or.inr (Or.inr (Or.inr (Or.inl ⟨by omega, by omega⟩))))
  · exact Or.inr (Or.inr (Or.inr (Or.inr (Or.inr (Or.inl ⟨by omega, by omega⟩)))))
  · exact Or.inr (Or.inr (Or.inr (Or.inr (Or.inr (Or.inr (Or.inl ⟨by omega, by omega⟩))))))
  · exact Or.inr (Or.inr (Or.inr (Or.inr (Or.inr (Or.inr (Or.inr (Or.inl ⟨by omega, by omega⟩)))))))
  · exact Or.inr (Or.inr (Or.inr (Or.inr (Or.inr (Or.inr (Or.inr (Or.inr (Or.inl ⟨by omega, by omega⟩))))))))
  · exact Or.inr (Or.inr (Or.inr (Or.inr (Or.inr (Or.inr (Or.inr (Or.inr (Or.inr (⟨by omega, by omega⟩)))))))))
  · omega

end
section
theorem wi_2014 : Cond.constantLong RX14 524 (63) ∈ zw := zw_in (List.mem_of_getElem? (i := 2014) (by decide +kernel)) (by decide +kernel)
theorem dX14_sayKind_0 : decode cX14_sayKind 0 = .ok (.aload_n 0, 1) := by decide +kernel
theorem dX14_sayKind_1 : decode cX14_sayKind 1 = .ok (.getfield 23, 3) := by decide +kernel
theorem dX14_sayKind_4 : decode cX14_sayKind 4 = .ok (.getfield 242, 3) := by decide +kernel
theorem dX14_sayKind_7 : decode cX14_sayKind 7 = .ok (.iload_n 1, 1) := by decide +kernel
theorem dX14_sayKind_8 : decode cX14_sayKind 8 = .ok (.laload, 1) := by decide +kernel
theorem dX14_sayKind_9 : decode cX14_sayKind 9 = .ok (.lstore_n 2, 1) := by decide +kernel
theorem dX14_sayKind_10 : decode cX14_sayKind 10 = .ok (.iconst 0, 1) := by decide +kernel
theorem dX14_sayKind_11 : decode cX14_sayKind 11 = .ok (.istore 4, 2) := by decide +kernel
theorem dX14_sayKind_13 : decode cX14_sayKind 13 = .ok (.lload_n 2, 1) := by decide +kernel
theorem dX14_sayKind_14 : decode cX14_sayKind 14 = .ok (.bipush 6, 2) := by decide +kernel
theorem dX14_sayKind_16 : decode cX14_sayKind 16 = .ok (.iload 4, 2) := by decide +kernel
theorem dX14_sayKind_18 : decode cX14_sayKind 18 = .ok (.imul, 1) := by decide +kernel
theorem dX14_sayKind_19 : decode cX14_sayKind 19 = .ok (.lshr, 1) := by decide +kernel
theorem dX14_sayKind_20 : decode cX14_sayKind 20 = .ok (.lconst 0, 1) := by decide +kernel
theorem dX14_sayKind_21 : decode cX14_sayKind 21 = .ok (.lcmp, 1) := by decide +kernel
theorem dX14_sayKind_22 : decode cX14_sayKind 22 = .ok (.ifCond .eq 9, 3) := by decide +kernel
theorem dX14_sayKind_25 : decode cX14_sayKind 25 = .ok (.iinc 4 1, 3) := by decide +kernel
theorem dX14_sayKind_28 : decode cX14_sayKind 28 = .ok (.goto (-15), 3) := by decide +kernel
theorem dX14_sayKind_31 : decode cX14_sayKind 31 = .ok (.iload 4, 2) := by decide +kernel
theorem dX14_sayKind_33 : decode cX14_sayKind 33 = .ok (.iconst 1, 1) := by decide +kernel
theorem dX14_sayKind_34 : decode cX14_sayKind 34 = .ok (.isub, 1) := by decide +kernel
theorem dX14_sayKind_35 : decode cX14_sayKind 35 = .ok (.istore 5, 2) := by decide +kernel
theorem dX14_sayKind_37 : decode cX14_sayKind 37 = .ok (.iload 5, 2) := by decide +kernel
theorem dX14_sayKind_39 : decode cX14_sayKind 39 = .ok (.ifCond .lt 30, 3) := by decide +kernel
theorem dX14_sayKind_42 : decode cX14_sayKind 42 = .ok (.aload_n 0, 1) := by decide +kernel
theorem dX14_sayKind_43 : decode cX14_sayKind 43 = .ok (.lload_n 2, 1) := by decide +kernel
theorem dX14_sayKind_44 : decode cX14_sayKind 44 = .ok (.bipush 6, 2) := by decide +kernel
theorem dX14_sayKind_46 : decode cX14_sayKind 46 = .ok (.iload 5, 2) := by decide +kernel
theorem dX14_sayKind_48 : decode cX14_sayKind 48 = .ok (.imul, 1) := by decide +kernel
theorem dX14_sayKind_49 : decode cX14_sayKind 49 = .ok (.lshr, 1) := by decide +kernel
theorem dX14_sayKind_50 : decode cX14_sayKind 50 = .ok (.ldc2_w 524, 3) := by decide +kernel
theorem dX14_sayKind_53 : decode cX14_sayKind 53 = .ok (.land, 1) := by decide +kernel
theorem dX14_sayKind_54 : decode cX14_sayKind 54 = .ok (.l2i, 1) := by decide +kernel
theorem dX14_sayKind_55 : decode cX14_sayKind 55 = .ok (.bipush 65, 2) := by decide +kernel
theorem dX14_sayKind_57 : decode cX14_sayKind 57 = .ok (.iadd, 1) := by decide +kernel
theorem dX14_sayKind_58 : decode cX14_sayKind 58 = .ok (.iconst 1, 1) := by decide +kernel
theorem dX14_sayKind_59 : decode cX14_sayKind 59 = .ok (.isub, 1) := by decide +kernel
theorem dX14_sayKind_60 : decode cX14_sayKind 60 = .ok (.invokevirtual 521, 3) := by decide +kernel
theorem dX14_sayKind_63 : decode cX14_sayKind 63 = .ok (.iinc 5 (-1), 3) := by decide +kernel
theorem dX14_sayKind_66 : decode cX14_sayKind 66 = .ok (.goto (-29), 3) := by decide +kernel
theorem dX14_sayKind_69 : decode cX14_sayKind 69 = .ok (.return_, 1) := by decide +kernel

end
section
theorem wi_1522 : Cond.fieldLink RX14 383 "ReuseHouseModel" "given" "I" ∈ zw := zw_in (List.mem_of_getElem? (i := 1522) (by decide +kernel)) (by decide +kernel)
theorem wi_1521 : Cond.fieldLink RX14 386 "ReuseHouseModel" "freeCount" "I" ∈ zw := zw_in (List.mem_of_getElem? (i := 1521) (by decide +kernel)) (by decide +kernel)
theorem wi_1532 : Cond.fieldLink RX14 431 "ReuseHouseModel" "steps" "I" ∈ zw := zw_in (List.mem_of_getElem? (i := 1532) (by decide +kernel)) (by decide +kernel)
theorem wi_1533 : Cond.fieldLink RX14 487 "ReuseHouseModel" "made" "I" ∈ zw := zw_in (List.mem_of_getElem? (i := 1533) (by decide +kernel)) (by decide +kernel)
theorem wi_1534 : Cond.fieldLink RX14 484 "ReuseHouseModel" "reused" "I" ∈ zw := zw_in (List.mem_of_getElem? (i := 1534) (by decide +kernel)) (by decide +kernel)
theorem wi_1535 : Cond.fieldLink RX14 389 "ReuseHouseModel" "freed" "I" ∈ zw := zw_in (List.mem_of_getElem? (i := 1535) (by decide +kernel)) (by decide +kernel)
theorem wi_1536 : Cond.fieldLink RX14 490 "ReuseHouseModel" "most" "I" ∈ zw := zw_in (List.mem_of_getElem? (i := 1536) (by decide +kernel)) (by decide +kernel)
theorem wi_1537 : Cond.fieldLink RX14 398 "ReuseHouseModel" "doubled" "I" ∈ zw := zw_in (List.mem_of_getElem? (i := 1537) (by decide +kernel)) (by decide +kernel)
theorem wi_1984 : Cond.code yX14_held cX14_held 1 (some .int) ∈ zw := zw_in (List.mem_of_getElem? (i := 1984) (by decide +kernel)) (by decide +kernel)
theorem wi_1981 : Cond.methodLink RX14 493 yX14_held ∈ zw := zw_in (List.mem_of_getElem? (i := 1981) (by decide +kernel)) (by decide +kernel)
theorem wi_1983 : Cond.instanceMethod yX14_held ∈ zw := zw_in (List.mem_of_getElem? (i := 1983) (by decide +kernel)) (by decide +kernel)
theorem wi_123 : Cond.selects RX14 yX14_held yX14_held ∈ zw := zw_in (List.mem_of_getElem? (i := 123) (by decide +kernel)) (by decide +kernel)
theorem wi_1538 : Cond.fieldLink RX14 424 "ReuseHouseModel" "openMost" "I" ∈ zw := zw_in (List.mem_of_getElem? (i := 1538) (by decide +kernel)) (by decide +kernel)
theorem wi_1557 : Cond.fieldLink RX14 540 "ReuseHouseModel" "outs" "I" ∈ zw := zw_in (List.mem_of_getElem? (i := 1557) (by decide +kernel)) (by decide +kernel)
theorem wi_1555 : Cond.fieldLink RX14 96 "ReuseHouseModel" "out" "[B" ∈ zw := zw_in (List.mem_of_getElem? (i := 1555) (by decide +kernel)) (by decide +kernel)
theorem dX14_count_0 : decode cX14_count 0 = .ok (.aload_n 0, 1) := by decide +kernel
theorem dX14_count_1 : decode cX14_count 1 = .ok (.iconst 0, 1) := by decide +kernel
theorem dX14_count_2 : decode cX14_count 2 = .ok (.putfield 105, 3) := by decide +kernel
theorem dX14_count_5 : decode cX14_count 5 = .ok (.aload_n 0, 1) := by decide +kernel
theorem dX14_count_6 : decode cX14_count 6 = .ok (.getfield 363, 3) := by decide +kernel
theorem dX14_count_9 : decode cX14_count 9 = .ok (.ifCond .ne 5, 3) := by decide +kernel
theorem dX14_count_12 : decode cX14_count 12 = .ok (.iconst (-1), 1) := by decide +kernel
theorem dX14_count_13 : decode cX14_count 13 = .ok (.ireturn, 1) := by decide +kernel
theorem dX14_count_14 : decode cX14_count 14 = .ok (.iload_n 1, 1) := by decide +kernel
theorem dX14_count_15 : decode cX14_count 15 = .ok (.tableswitch 85 0 7 #[45, 50, 55, 60, 65, 70, 75, 80], 45) := by decide +kernel
theorem dX14_count_60 : decode cX14_count 60 = .ok (.aload_n 0, 1) := by decide +kernel
theorem dX14_count_61 : decode cX14_count 61 = .ok (.getfield 431, 3) := by decide +kernel
theorem dX14_count_64 : decode cX14_count 64 = .ok (.ireturn, 1) := by decide +kernel
theorem dX14_count_65 : decode cX14_count 65 = .ok (.aload_n 0, 1) := by decide +kernel
theorem dX14_count_66 : decode cX14_count 66 = .ok (.getfield 487, 3) := by decide +kernel
theorem dX14_count_69 : decode cX14_count 69 = .ok (.ireturn, 1) := by decide +kernel
theorem dX14_count_70 : decode cX14_count 70 = .ok (.aload_n 0, 1) := by decide +kernel
theorem dX14_count_71 : decode cX14_count 71 = .ok (.getfield 484, 3) := by decide +kernel
theorem dX14_count_74 : decode cX14_count 74 = .ok (.ireturn, 1) := by decide +kernel
theorem dX14_count_75 : decode cX14_count 75 = .ok (.aload_n 0, 1) := by decide +kernel
theorem dX14_count_76 : decode cX14_count 76 = .ok (.getfield 389, 3) := by decide +kernel
theorem dX14_count_79 : decode cX14_count 79 = .ok (.ireturn, 1) := by decide +kernel
theorem dX14_count_80 : decode cX14_count 80 = .ok (.aload_n 0, 1) := by decide +kernel
theorem dX14_count_81 : decode cX14_count 81 = .ok (.getfield 490, 3) := by decide +kernel
theorem dX14_count_84 : decode cX14_count 84 = .ok (.ireturn, 1) := by decide +kernel
theorem dX14_count_85 : decode cX14_count 85 = .ok (.aload_n 0, 1) := by decide +kernel
theorem dX14_count_86 : decode cX14_count 86 = .ok (.getfield 398, 3) := by decide +kernel
theorem dX14_count_89 : decode cX14_count 89 = .ok (.ireturn, 1) := by decide +kernel
theorem dX14_count_90 : decode cX14_count 90 = .ok (.aload_n 0, 1) := by decide +kernel
theorem dX14_count_91 : decode cX14_count 91 = .ok (.invokevirtual 493, 3) := by decide +kernel
theorem dX14_count_94 : decode cX14_count 94 = .ok (.ireturn, 1) := by decide +kernel
theorem dX14_count_95 : decode cX14_count 95 = .ok (.aload_n 0, 1) := by decide +kernel
theorem dX14_count_96 : decode cX14_count 96 = .ok (.getfield 424, 3) := by decide +kernel
theorem dX14_count_99 : decode cX14_count 99 = .ok (.ireturn, 1) := by decide +kernel
theorem dX14_count_100 : decode cX14_count 100 = .ok (.iconst (-1), 1) := by decide +kernel
theorem dX14_count_101 : decode cX14_count 101 = .ok (.ireturn, 1) := by decide +kernel
theorem dX14_held_0 : decode cX14_held 0 = .ok (.aload_n 0, 1) := by decide +kernel
theorem dX14_held_1 : decode cX14_held 1 = .ok (.getfield 383, 3) := by decide +kernel
theorem dX14_held_4 : decode cX14_held 4 = .ok (.aload_n 0, 1) := by decide +kernel
theorem dX14_held_5 : decode cX14_held 5 = .ok (.getfield 386, 3) := by decide +kernel
theorem dX14_held_8 : decode cX14_held 8 = .ok (.isub, 1) := by decide +kernel
theorem dX14_held_9 : decode cX14_held 9 = .ok (.ireturn, 1) := by decide +kernel
theorem dX14_out_0 : decode cX14_out 0 = .ok (.aload_n 0, 1) := by decide +kernel
theorem dX14_out_1 : decode cX14_out 1 = .ok (.iload_n 1, 1) := by decide +kernel
theorem dX14_out_2 : decode cX14_out 2 = .ok (.ifCond .lt 11, 3) := by decide +kernel
theorem dX14_out_5 : decode cX14_out 5 = .ok (.iload_n 1, 1) := by decide +kernel
theorem dX14_out_6 : decode cX14_out 6 = .ok (.aload_n 0, 1) := by decide +kernel
theorem dX14_out_7 : decode cX14_out 7 = .ok (.getfield 540, 3) := by decide +kernel
theorem dX14_out_10 : decode cX14_out 10 = .ok (.if_icmp .lt 7, 3) := by decide +kernel
theorem dX14_out_13 : decode cX14_out 13 = .ok (.iconst 1, 1) := by decide +kernel
theorem dX14_out_14 : decode cX14_out 14 = .ok (.goto 4, 3) := by decide +kernel
theorem dX14_out_17 : decode cX14_out 17 = .ok (.iconst 0, 1) := by decide +kernel
theorem dX14_out_18 : decode cX14_out 18 = .ok (.putfield 105, 3) := by decide +kernel
theorem dX14_out_21 : decode cX14_out 21 = .ok (.aload_n 0, 1) := by decide +kernel
theorem dX14_out_22 : decode cX14_out 22 = .ok (.getfield 105, 3) := by decide +kernel
theorem dX14_out_25 : decode cX14_out 25 = .ok (.ifCond .le 7, 3) := by decide +kernel
theorem dX14_out_28 : decode cX14_out 28 = .ok (.iconst 0, 1) := by decide +kernel
theorem dX14_out_29 : decode cX14_out 29 = .ok (.goto 9, 3) := by decide +kernel
theorem dX14_out_32 : decode cX14_out 32 = .ok (.aload_n 0, 1) := by decide +kernel
theorem dX14_out_33 : decode cX14_out 33 = .ok (.getfield 96, 3) := by decide +kernel
theorem dX14_out_36 : decode cX14_out 36 = .ok (.iload_n 1, 1) := by decide +kernel
theorem dX14_out_37 : decode cX14_out 37 = .ok (.baload, 1) := by decide +kernel
theorem dX14_out_38 : decode cX14_out 38 = .ok (.ireturn, 1) := by decide +kernel
set_option maxHeartbeats 4000000 in
set_option maxRecDepth 100000 in
theorem c_X14_held_x (l : Launch) (dC : Nat → ClassId) (dI : Nat → Nat → Nat) (aK aV : Nat → Nat) (h0 : Nat) (m_thrown : Int32) (m_stop : Nat) (m_tape : Nat) (m_taped : Int32) (m_length : Int32) (m_at : Int32) (m_sort : Int32) (m_place : Int32) (m_sign : Int32) (m_letters : Int64) (m_p : Nat) (m_spare : Nat) (m_isTaken : Int32) (m_scope : Nat) (m_scoped : Int32) (m_deep : Int32) (m_counted : Int32) (m_fault : Int32) (m_where : Int32) (m_cellKind : Nat) (m_cellCount : Nat) (m_free : Nat) (m_pile : Nat) (m_cellField : Nat) (m_freeCount : Int32) (m_given : Int32) (m_nextPlain : Int32) (m_otherKind : Nat) (m_otherField : Nat) (m_isPlain : Int32) (m_hasRun : Int32) (m_hasValue : Int32) (m_hasOther : Int32) (m_value : Int64) (m_other : Int64) (m_steps : Int32) (m_made : Int32) (m_reused : Int32) (m_freed : Int32) (m_most : Int32) (m_doubled : Int32) (m_openMost : Int32) (m_taskWhat : Nat) (m_taskPart : Nat) (m_values : Nat) (m_tasks : Int32) (m_valued : Int32) (m_open : Int32) (m_slots : Nat) (m_present : Nat) (m_shell : Nat) (m_shellArm : Nat) (m_shellCall : Nat) (m_shells : Int32) (m_keptCounts : Nat) (m_asideKind : Nat) (m_asideCount : Nat) (m_asideField : Nat) (m_out : Nat) (m_side : Nat) (m_outs : Int32) (m_sides : Int32) (m_saying : Nat) (sz : Nat)  : Met l yX14_held (Cond.code yX14_held cX14_held 1 (some .int) :: zw) ({ frames := 8, cells := 0, slots := 0, locals := 200 }) (va_Pc [.ref h0] (zP dC dI aK aV sz [] [(h0, .inr (14, [.int m_thrown, .ref m_stop, .ref m_tape, .int m_taped, .int m_length, .int m_at, .int m_sort, .int m_place, .int m_sign, .long m_letters, .ref m_p, .ref m_spare, .int m_isTaken, .ref m_scope, .int m_scoped, .int m_deep, .int m_counted, .int m_fault, .int m_where, .ref m_cellKind, .ref m_cellCount, .ref m_free, .ref m_pile, .ref m_cellField, .int m_freeCount, .int m_given, .int m_nextPlain, .ref m_otherKind, .ref m_otherField, .int m_isPlain, .int m_hasRun, .int m_hasValue, .int m_hasOther, .long m_value, .long m_other, .int m_steps, .int m_made, .int m_reused, .int m_freed, .int m_most, .int m_doubled, .int m_openMost, .ref m_taskWhat, .ref m_taskPart, .ref m_values, .int m_tasks, .int m_valued, .int m_open, .ref m_slots, .ref m_present, .ref m_shell, .ref m_shellArm, .ref m_shellCall, .int m_shells, .ref m_keptCounts, .ref m_asideKind, .ref m_asideCount, .ref m_asideField, .ref m_out, .ref m_side, .int m_outs, .int m_sides, .ref m_saying]))])) (va_Qi (fun (r : Int32) (u : Unit) => True) (fun u => zQ dC dI (va_A [(h0, .inr (14, [.int m_thrown, .ref m_stop, .ref m_tape, .int m_taped, .int m_length, .int m_at, .int m_sort, .int m_place, .int m_sign, .long m_letters, .ref m_p, .ref m_spare, .int m_isTaken, .ref m_scope, .int m_scoped, .int m_deep, .int m_counted, .int m_fault, .int m_where, .ref m_cellKind, .ref m_cellCount, .ref m_free, .ref m_pile, .ref m_cellField, .int m_freeCount, .int m_given, .int m_nextPlain, .ref m_otherKind, .ref m_otherField, .int m_isPlain, .int m_hasRun, .int m_hasValue, .int m_hasOther, .long m_value, .long m_other, .int m_steps, .int m_made, .int m_reused, .int m_freed, .int m_most, .int m_doubled, .int m_openMost, .ref m_taskWhat, .ref m_taskPart, .ref m_values, .int m_tasks, .int m_valued, .int m_open, .ref m_slots, .ref m_present, .ref m_shell, .ref m_shellArm, .ref m_shellCall, .int m_shells, .ref m_keptCounts, .ref m_asideKind, .ref m_asideCount, .ref m_asideField, .ref m_out, .ref m_side, .int m_outs, .int m_sides, .ref m_saying]))] sz) [] [(h0, .inr (14, [.int m_thrown, .ref m_stop, .ref m_tape, .int m_taped, .int m_length, .int m_at, .int m_sort, .int m_place, .int m_sign, .long m_letters, .ref m_p, .ref m_spare, .int m_isTaken, .ref m_scope, .int m_scoped, .int m_deep, .int m_counted, .int m_fault, .int m_where, .ref m_cellKind, .ref m_cellCount, .ref m_free, .ref m_pile, .ref m_cellField, .int m_freeCount, .int m_given, .int m_nextPlain, .ref m_otherKind, .ref m_otherField, .int m_isPlain, .int m_hasRun, .int m_hasValue, .int m_hasOther, .long m_value, .long m_other, .int m_steps, .int m_made, .int m_reused, .int m_freed, .int m_most, .int m_doubled, .int m_openMost, .ref m_taskWhat, .ref m_taskPart, .ref m_values, .int m_tasks, .int m_valued, .int m_open, .ref m_slots, .ref m_present, .ref m_shell, .ref m_shellArm, .ref m_shellCall, .int m_shells, .ref m_keptCounts, .ref m_asideKind, .ref m_asideCount, .ref m_asideField, .ref m_out, .ref m_side, .int m_outs, .int m_sides, .ref m_saying]))]) (va_A [(h0, .inr (14, [.int m_thrown, .ref m_stop, .ref m_tape, .int m_taped, .int m_length, .int m_at, .int m_sort, .int m_place, .int m_sign, .long m_letters, .ref m_p, .ref m_spare, .int m_isTaken, .ref m_scope, .int m_scoped, .int m_deep, .int m_counted, .int m_fault, .int m_where, .ref m_cellKind, .ref m_cellCount, .ref m_free, .ref m_pile, .ref m_cellField, .int m_freeCount, .int m_given, .int m_nextPlain, .ref m_otherKind, .ref m_otherField, .int m_isPlain, .int m_hasRun, .int m_hasValue, .int m_hasOther, .long m_value, .long m_other, .int m_steps, .int m_made, .int m_reused, .int m_freed, .int m_most, .int m_doubled, .int m_openMost, .ref m_taskWhat, .ref m_taskPart, .ref m_values, .int m_tasks, .int m_valued, .int m_open, .ref m_slots, .ref m_present, .ref m_shell, .ref m_shellArm, .ref m_shellCall, .int m_shells, .ref m_keptCounts, .ref m_asideKind, .ref m_asideCount, .ref m_asideField, .ref m_out, .ref m_side, .int m_outs, .int m_sides, .ref m_saying]))] sz)) 0 0 (va_A [(h0, .inr (14, [.int m_thrown, .ref m_stop, .ref m_tape, .int m_taped, .int m_length, .int m_at, .int m_sort, .int m_place, .int m_sign, .long m_letters, .ref m_p, .ref m_spare, .int m_isTaken, .ref m_scope, .int m_scoped, .int m_deep, .int m_counted, .int m_fault, .int m_where, .ref m_cellKind, .ref m_cellCount, .ref m_free, .ref m_pile, .ref m_cellField, .int m_freeCount, .int m_given, .int m_nextPlain, .ref m_otherKind, .ref m_otherField, .int m_isPlain, .int m_hasRun, .int m_hasValue, .int m_hasOther, .long m_value, .long m_other, .int m_steps, .int m_made, .int m_reused, .int m_freed, .int m_most, .int m_doubled, .int m_openMost, .ref m_taskWhat, .ref m_taskPart, .ref m_values, .int m_tasks, .int m_valued, .int m_open, .ref m_slots, .ref m_present, .ref m_shell, .ref m_shellArm, .ref m_shellCall, .int m_shells, .ref m_keptCounts, .ref m_asideKind, .ref m_asideCount, .ref m_asideField, .ref m_out, .ref m_side, .int m_outs, .int m_sides, .ref m_saying]))] sz) := by
  refine Met.ofW (cc := cX14_held) (maxL := 1) (ret := (some .int)) (by decide) rfl ?_
  intro p e s m args below meth c s₁ B hml hv
  obtain ⟨rfl, hsz, hP, hK, hD0, hN, hT⟩ := hv
  have hx := B.exec
  have hb := B.bytes
  have hr := B.returns
  have hts := atoms_spec (ws := Cond.code yX14_held cX14_held 1 (some .int) :: zw) B.pre
  have hA : ∀ w ∈ zw, w.before _ s = true := fun w h => hts w (List.mem_cons_of_mem _ h)
  have hown : s.vm.findClass RX14 = some m.cls := findClass_of_methodNamed B.named
  have hlocks := B.notSynchronized
  subst hsz
  have hD := hD0.self (sz := s.heap.size)
  generalize hAe : va_A [(h0, .inr (14, [.int m_thrown, .ref m_stop, .ref m_tape, .int m_taped, .int m_length, .int m_at, .int m_sort, .int m_place, .int m_sign, .long m_letters, .ref m_p, .ref m_spare, .int m_isTaken, .ref m_scope, .int m_scoped, .int m_deep, .int m_counted, .int m_fault, .int m_where, .ref m_cellKind, .ref m_cellCount, .ref m_free, .ref m_pile, .ref m_cellField, .int m_freeCount, .int m_given, .int m_nextPlain, .ref m_otherKind, .ref m_otherField, .int m_isPlain, .int m_hasRun, .int m_hasValue, .int m_hasOther, .long m_value, .long m_other, .int m_steps, .int m_made, .int m_reused, .int m_freed, .int m_most, .int m_doubled, .int m_openMost, .ref m_taskWhat, .ref m_taskPart, .ref m_values, .int m_tasks, .int m_valued, .int m_open, .ref m_slots, .ref m_present, .ref m_shell, .ref m_shellArm, .ref m_shellCall, .int m_shells, .ref m_keptCounts, .ref m_asideKind, .ref m_asideCount, .ref m_asideField, .ref m_out, .ref m_side, .int m_outs, .int m_sides, .ref m_saying]))] s.heap.size = A at hD hT ⊢
  have hAA : ∀ q : Nat, s.heap.size ≤ q → A q := fun q h => by rw [← hAe]; exact Or.inr h
  have hS : va_S A s.heap s.heap [] := va_S.rf
  have hl := lv_entry ([.ref h0]) (n := 1) (Nat.le_of_ble_eq_true rfl)
  rw [lg_entry_eq]
  generalize (lg_sl ([.ref h0]) ++ List.replicate (1 - (lg_sl ([.ref h0])).length) Slot.unset).toArray = ls at hl ⊢
  have hl : lv_has ls 1 [(0, .ref h0)] := hl
  refine lv_aload_n hx hb dX14_held_0 rfl (lv_at hl 0 rfl) ?_
  refine va_get (D := (dC, dI)) (ci := 14) (v := .int m_given) (C := RX14) (T := TX14) (N := 63) hx hb hA zin_X14 hown hK hP 0 rfl rfl 25 (by decide) (hA _ wi_1522) (fun _ h9 => h9) rfl dX14_held_1 ?_
  refine lv_aload_n hx hb dX14_held_4 rfl (lv_at hl 0 rfl) ?_
  refine va_get (D := (dC, dI)) (ci := 14) (v := .int m_freeCount) (C := RX14) (T := TX14) (N := 63) hx hb hA zin_X14 hown hK hP 0 rfl rfl 24 (by decide) (hA _ wi_1521) (fun _ h9 => h9) rfl dX14_held_5 ?_
  refine lv_isub hx hb dX14_held_8 ?_
  refine lv_topi (fun x_1 ex_1 => ?_)
  have hP9 := hP.sub (ws' := [(h0, .inr (14, [.int m_thrown, .ref m_stop, .ref m_tape, .int m_taped, .int m_length, .int m_at, .int m_sort, .int m_place, .int m_sign, .long m_letters, .ref m_p, .ref m_spare, .int m_isTaken, .ref m_scope, .int m_scoped, .int m_deep, .int m_counted, .int m_fault, .int m_where, .ref m_cellKind, .ref m_cellCount, .ref m_free, .ref m_pile, .ref m_cellField, .int m_freeCount, .int m_given, .int m_nextPlain, .ref m_otherKind, .ref m_otherField, .int m_isPlain, .int m_hasRun, .int m_hasValue, .int m_hasOther, .long m_value, .long m_other, .int m_steps, .int m_made, .int m_reused, .int m_freed, .int m_most, .int m_doubled, .int m_openMost, .ref m_taskWhat, .ref m_taskPart, .ref m_values, .int m_tasks, .int m_valued, .int m_open, .ref m_slots, .ref m_present, .ref m_shell, .ref m_shellArm, .ref m_shellCall, .int m_shells, .ref m_keptCounts, .ref m_asideKind, .ref m_asideCount, .ref m_asideField, .ref m_out, .ref m_side, .int m_outs, .int m_sides, .ref m_saying]))]) [0] rfl
  have hD9 := hD.sub (ws' := [(h0, .inr (14, [.int m_thrown, .ref m_stop, .ref m_tape, .int m_taped, .int m_length, .int m_at, .int m_sort, .int m_place, .int m_sign, .long m_letters, .ref m_p, .ref m_spare, .int m_isTaken, .ref m_scope, .int m_scoped, .int m_deep, .int m_counted, .int m_fault, .int m_where, .ref m_cellKind, .ref m_cellCount, .ref m_free, .ref m_pile, .ref m_cellField, .int m_freeCount, .int m_given, .int m_nextPlain, .ref m_otherKind, .ref m_otherField, .int m_isPlain, .int m_hasRun, .int m_hasValue, .int m_hasOther, .long m_value, .long m_other, .int m_steps, .int m_made, .int m_reused, .int m_freed, .int m_most, .int m_doubled, .int m_openMost, .ref m_taskWhat, .ref m_taskPart, .ref m_values, .int m_tasks, .int m_valued, .int m_open, .ref m_slots, .ref m_present, .ref m_shell, .ref m_shellArm, .ref m_shellCall, .int m_shells, .ref m_keptCounts, .ref m_asideKind, .ref m_asideCount, .ref m_asideField, .ref m_out, .ref m_side, .int m_outs, .int m_sides, .ref m_saying]))]) [0] (by decide) rfl
  have hK9 := hK.sub (tys' := []) [] rfl
  exact W.iret (v := x_1) hx hb hr (fun t ht hW => ⟨⟨x_1, (), rfl, trivial, by rw [ht]; exact hP9, va_K.moved hW.alike hK9, hD9⟩, hS.F ht⟩) hS.2.2 dX14_held_9

end
section
theorem zas_b (v : Int64) {i : Nat} (hi : i < 64) : (v >>> ((32 : Int32).toInt64 &&& 63)).toBitVec.getLsbD i = if i < 32 then v.toBitVec.getLsbD (32 + i) else v.toBitVec.getLsbD 63 := by
  have e : ((32 : Int32).toInt64 &&& 63).toBitVec.smod 64 = 32#64 := by decide
  rw [Int64.toBitVec_shiftRight, e]
  show (v.toBitVec.sshiftRight 32).getLsbD i = _
  rw [BitVec.getLsbD_sshiftRight]
  have h1 : decide (64 ≤ i) = false := decide_eq_false (by omega)
  rw [h1]
  by_cases g : i < 32
  · rw [if_pos g, if_pos (by omega)]; simp
  · rw [if_neg g, if_neg (by omega), BitVec.msb_eq_getLsbD_last]; simp
theorem zas_c {v x : Int64} (hx : ∀ i, 31 ≤ i → i < 64 → x.toBitVec.getLsbD i = false) : (v >>> ((32 : Int32).toInt64 &&& 63)) = x ↔ zhs v = x := by
  constructor
  · intro h
    apply z64_ext
    intro i hi
    have h63 : v.toBitVec.getLsbD 63 = false := by
      have := zas_b v (i := 31) (by decide)
      rw [h, hx 31 (by decide) (by decide), if_pos (by decide)] at this
      exact this.symm
    rw [zhs_bit, ← h, zas_b v hi]
    by_cases g : i < 32
    · rw [if_pos g]
    · rw [if_neg g, h63, BitVec.getLsbD_of_ge _ _ (by omega)]
  · intro h
    apply z64_ext
    intro i hi
    have h63 : v.toBitVec.getLsbD 63 = false := by
      have := zhs_bit v 31
      rw [h, hx 31 (by decide) (by decide)] at this
      exact this.symm
    rw [zas_b v hi]
    by_cases g : i < 32
    · rw [if_pos g, ← h, zhs_bit]
    · rw [if_neg g, h63, hx i (by omega) hi]
theorem zas_0b : ∀ i : Fin 64, (0 : Int64).toBitVec.getLsbD i.val = false := by decide +kernel
theorem zas_0 {v : Int64} : (v >>> ((32 : Int32).toInt64 &&& 63)) = 0 ↔ zhs v = 0 := zas_c (fun i _ h => zas_0b ⟨i, h⟩)
theorem zas_2 {v : Int64} : (v >>> ((32 : Int32).toInt64 &&& 63)) = 2 ↔ zhs v = 2 := zas_c (fun i h1 h => by rw [ztwo_b ⟨i, h⟩]; exact decide_eq_false (by show ¬ i = 1; omega))
/-- a value whose cell is one of P -/
def zVo (P : Nat → Prop) (kz : Int32) (v : Int64) : Prop := zhs v = 0 ∨ zhs v = 1 ∧ 0 ≤ v.toInt32.toInt ∧ v.toInt32.toInt < kz.toInt ∨ zhs v = 2 ∧ 0 ≤ v.toInt32.toInt ∧ P (Int32.toNatClampNeg v.toInt32)
/-- the cells of P hold such values -/
def zVc (P : Nat → Prop) (kz : Int32) (fd gk : Nat → Int32) (gv : Nat → Int64) : Prop := ∀ c, P c → c < 4000 ∧ 0 ≤ (gk c).toInt ∧ (gk c).toInt < kz.toInt ∧ 1 ≤ (fd (Int32.toNatClampNeg (gk c))).toInt ∧ (fd (Int32.toNatClampNeg (gk c))).toInt ≤ 3 ∧ ∀ k : Nat, (k : Int) < (fd (Int32.toNatClampNeg (gk c))).toInt → zVo P kz (gv (3 * c + k))
/-- what is to be said -/
def zVs (P : Nat → Prop) (kz : Int32) (sy : Nat → Int64) (n : Int) : Prop := ∀ j : Nat, (j : Int) < n → (sy j).toInt < 0 ∨ zVo P kz (sy j)
theorem zVs_1 {P : Nat → Prop} {kz : Int32} {sy sy2 : Nat → Int64} {n2 : Int} {i : Int32} {v : Int64} (h : zVs P kz sy i.toInt) (h0 : 0 ≤ i.toInt) (e : sy2 = vp_updL sy (Int32.toNatClampNeg i) v) (hv : v.toInt < 0 ∨ zVo P kz v) (hn : n2 = i.toInt + 1) : zVs P kz sy2 n2 := fun j hj => by
  have := zn_nat h0
  rw [e]; unfold vp_updL
  by_cases g : j = Int32.toNatClampNeg i
  · rw [if_pos g]; exact hv
  · rw [if_neg g]; exact h j (by omega)
theorem zVs_m {P : Nat → Prop} {kz : Int32} {sy : Nat → Int64} {n n2 : Int} (h : zVs P kz sy n) (hn : n2 ≤ n) : zVs P kz sy n2 := fun j hj => h j (by omega)

set_option maxHeartbeats 4000000 in
set_option maxRecDepth 100000 in
theorem c_X14_isInt_x (l : Launch) (dC : Nat → ClassId) (dI : Nat → Nat → Nat) (aK aV : Nat → Nat) (va : Int64) (sz : Nat)  : Met l yX14_isInt (Cond.code yX14_isInt cX14_isInt 2 (some .boolean) :: zw) ({ frames := 8, cells := 0, slots := 0, locals := 200 }) (va_Pc [.long va] (zP dC dI aK aV sz [] [])) (va_Qi (fun (r : Int32) (u : Unit) => (r.toInt = 1 ∧ zhs va = 0 ∨ r.toInt = 0 ∧ zhs va ≠ 0)) (fun u => zQ dC dI (va_A [] sz) [] []) (va_A [] sz)) 0 0 (va_A [] sz) := by
  refine Met.ofW (cc := cX14_isInt) (maxL := 2) (ret := (some .boolean)) (by decide) rfl ?_
  intro p e s m args below meth c s₁ B hml hv
  obtain ⟨rfl, hsz, hP, hK, hD0, hN, hT⟩ := hv
  have hx := B.exec
  have hb := B.bytes
  have hr := B.returns
  have hts := atoms_spec (ws := Cond.code yX14_isInt cX14_isInt 2 (some .boolean) :: zw) B.pre
  have hA : ∀ w ∈ zw, w.before _ s = true := fun w h => hts w (List.mem_cons_of_mem _ h)
  have hown : s.vm.findClass RX14 = some m.cls := findClass_of_methodNamed B.named
  have hlocks := B.notSynchronized
  subst hsz
  have hD := hD0.self (sz := s.heap.size)
  generalize hAe : va_A [] s.heap.size = A at hD hT ⊢
  have hAA : ∀ q : Nat, s.heap.size ≤ q → A q := fun q h => by rw [← hAe]; exact Or.inr h
  have hS : va_S A s.heap s.heap [] := va_S.rf
  have hl := lv_entry ([.long va]) (n := 2) (Nat.le_of_ble_eq_true rfl)
  rw [lg_entry_eq]
  generalize (lg_sl ([.long va]) ++ List.replicate (2 - (lg_sl ([.long va])).length) Slot.unset).toArray = ls at hl ⊢
  have hl : lv_has ls 2 [(0, .long va)] := hl
  refine lv_lload_n hx hb dX14_isInt_0 rfl (lv_at hl 0 rfl) ?_
  refine lv_bipush (v := 32) hx hb dX14_isInt_1 (by decide) ?_
  refine lv_lshr hx hb dX14_isInt_3 rfl ?_
  refine lv_topl (fun x_1 ex_1 => ?_)
  refine lv_lconst (v := 0) hx hb dX14_isInt_4 (by decide) ?_
  refine W.lcmp hx hb dX14_isInt_5 ?_
  refine lv_topi (fun x_2 ex_2 => ?_)
  have lx_2 := zl_cmp ex_2
  have hl_3 : Int64.toInt 0 = 0 := by decide
  refine lv_if_ne (tgt := 13) hx hb dX14_isInt_6 (by decide) (fun c_4 => ?_) (fun c_4 => ?_)
  · have ic_4 : x_2.toInt ≠ 0 := zi_ne c_4
    refine lv_iconst (v := 0) hx hb dX14_isInt_13 (by decide) ?_
    have hlit : Int32.toInt 0 = 0 := by decide
    have hP9 := hP.sub (ws' := []) [] rfl
    have hD9 := hD.sub (ws' := []) [] (by decide) rfl
    have hK9 := hK.sub (tys' := []) [] rfl
    exact W.zret (v := 0) hx hb hr rfl (fun t ht hW => ⟨⟨0, (), rfl, Or.inr ⟨by decide, fun g9 => by have g8 := zas_0.mpr g9; rw [← ex_1] at g8; have g7 : x_1.toInt = Int64.toInt 0 := (by rw [g8]); omega⟩, by rw [ht]; exact hP9, va_K.moved hW.alike hK9, hD9⟩, hS.F ht⟩) hS.2.2 dX14_isInt_14
  · have ic_4 : x_2.toInt = 0 := zi_eq c_4
    refine lv_iconst (v := 1) hx hb dX14_isInt_9 (by decide) ?_
    refine lv_goto (tgt := 14) hx hb dX14_isInt_10 (by decide) ?_
    have hlit : Int32.toInt 1 = 1 := by decide
    have hP9 := hP.sub (ws' := []) [] rfl
    have hD9 := hD.sub (ws' := []) [] (by decide) rfl
    have hK9 := hK.sub (tys' := []) [] rfl
    exact W.zret (v := 1) hx hb hr rfl (fun t ht hW => ⟨⟨1, (), rfl, Or.inl ⟨by decide, zas_0.mp (by rw [← ex_1]; exact Int64.toInt_inj.mp (by omega))⟩, by rw [ht]; exact hP9, va_K.moved hW.alike hK9, hD9⟩, hS.F ht⟩) hS.2.2 dX14_isInt_14
set_option maxHeartbeats 4000000 in
set_option maxRecDepth 100000 in
theorem c_X14_isCell_x (l : Launch) (dC : Nat → ClassId) (dI : Nat → Nat → Nat) (aK aV : Nat → Nat) (va : Int64) (sz : Nat)  : Met l yX14_isCell (Cond.code yX14_isCell cX14_isCell 2 (some .boolean) :: zw) ({ frames := 8, cells := 0, slots := 0, locals := 200 }) (va_Pc [.long va] (zP dC dI aK aV sz [] [])) (va_Qi (fun (r : Int32) (u : Unit) => (r.toInt = 1 ∧ zhs va = 2 ∨ r.toInt = 0 ∧ zhs va ≠ 2)) (fun u => zQ dC dI (va_A [] sz) [] []) (va_A [] sz)) 0 0 (va_A [] sz) := by
  refine Met.ofW (cc := cX14_isCell) (maxL := 2) (ret := (some .boolean)) (by decide) rfl ?_
  intro p e s m args below meth c s₁ B hml hv
  obtain ⟨rfl, hsz, hP, hK, hD0, hN, hT⟩ := hv
  have hx := B.exec
  have hb := B.bytes
  have hr := B.returns
  have hts := atoms_spec (ws := Cond.code yX14_isCell cX14_isCell 2 (some .boolean) :: zw) B.pre
  have hA : ∀ w ∈ zw, w.before _ s = true := fun w h => hts w (List.mem_cons_of_mem _ h)
  have hown : s.vm.findClass RX14 = some m.cls := findClass_of_methodNamed B.named
  have hlocks := B.notSynchronized
  subst hsz
  have hD := hD0.self (sz := s.heap.size)
  generalize hAe : va_A [] s.heap.size = A at hD hT ⊢
  have hAA : ∀ q : Nat, s.heap.size ≤ q → A q := fun q h => by rw [← hAe]; exact Or.inr h
  have hS : va_S A s.heap s.heap [] := va_S.rf
  have hl := lv_entry ([.long va]) (n := 2) (Nat.le_of_ble_eq_true rfl)
  rw [lg_entry_eq]
  generalize (lg_sl ([.long va]) ++ List.replicate (2 - (lg_sl ([.long va])).length) Slot.unset).toArray = ls at hl ⊢
  have hl : lv_has ls 2 [(0, .long va)] := hl
  refine lv_lload_n hx hb dX14_isCell_0 rfl (lv_at hl 0 rfl) ?_
  refine lv_bipush (v := 32) hx hb dX14_isCell_1 (by decide) ?_
  refine lv_lshr hx hb dX14_isCell_3 rfl ?_
  refine lv_topl (fun x_1 ex_1 => ?_)
  refine lv_ldc2 (v := 2) hx hb hown (hA _ wi_1924) dX14_isCell_4 ?_
  refine W.lcmp hx hb dX14_isCell_7 ?_
  refine lv_topi (fun x_2 ex_2 => ?_)
  have lx_2 := zl_cmp ex_2
  have hl_3 : Int64.toInt 2 = 2 := by decide
  refine lv_if_ne (tgt := 15) hx hb dX14_isCell_8 (by decide) (fun c_4 => ?_) (fun c_4 => ?_)
  · have ic_4 : x_2.toInt ≠ 0 := zi_ne c_4
    refine lv_iconst (v := 0) hx hb dX14_isCell_15 (by decide) ?_
    have hlit : Int32.toInt 0 = 0 := by decide
    have hP9 := hP.sub (ws' := []) [] rfl
    have hD9 := hD.sub (ws' := []) [] (by decide) rfl
    have hK9 := hK.sub (tys' := []) [] rfl
    exact W.zret (v := 0) hx hb hr rfl (fun t ht hW => ⟨⟨0, (), rfl, Or.inr ⟨by decide, fun g9 => by have g8 := zas_2.mpr g9; rw [← ex_1] at g8; have g7 : x_1.toInt = Int64.toInt 2 := (by rw [g8]); omega⟩, by rw [ht]; exact hP9, va_K.moved hW.alike hK9, hD9⟩, hS.F ht⟩) hS.2.2 dX14_isCell_16
  · have ic_4 : x_2.toInt = 0 := zi_eq c_4
    refine lv_iconst (v := 1) hx hb dX14_isCell_11 (by decide) ?_
    refine lv_goto (tgt := 16) hx hb dX14_isCell_12 (by decide) ?_
    have hlit : Int32.toInt 1 = 1 := by decide
    have hP9 := hP.sub (ws' := []) [] rfl
    have hD9 := hD.sub (ws' := []) [] (by decide) rfl
    have hK9 := hK.sub (tys' := []) [] rfl
    exact W.zret (v := 1) hx hb hr rfl (fun t ht hW => ⟨⟨1, (), rfl, Or.inl ⟨by decide, zas_2.mp (by rw [← ex_1]; exact Int64.toInt_inj.mp (by omega))⟩, by rw [ht]; exact hP9, va_K.moved hW.alike hK9, hD9⟩, hS.F ht⟩) hS.2.2 dX14_isCell_16

end
section
theorem wi_1559 : Cond.fieldLink RX14 102 "ReuseHouseModel" "saying" "[J" ∈ zw := zw_in (List.mem_of_getElem? (i := 1559) (by decide +kernel)) (by decide +kernel)
theorem wi_1947 : Cond.code yX14_isInt cX14_isInt 2 (some .boolean) ∈ zw := zw_in (List.mem_of_getElem? (i := 1947) (by decide +kernel)) (by decide +kernel)
theorem wi_1945 : Cond.methodLink RX14 454 yX14_isInt ∈ zw := zw_in (List.mem_of_getElem? (i := 1945) (by decide +kernel)) (by decide +kernel)
theorem wi_1946 : Cond.static yX14_isInt ∈ zw := zw_in (List.mem_of_getElem? (i := 1946) (by decide +kernel)) (by decide +kernel)
theorem wi_1923 : Cond.code yX14_isCell cX14_isCell 2 (some .boolean) ∈ zw := zw_in (List.mem_of_getElem? (i := 1923) (by decide +kernel)) (by decide +kernel)
theorem wi_1921 : Cond.methodLink RX14 395 yX14_isCell ∈ zw := zw_in (List.mem_of_getElem? (i := 1921) (by decide +kernel)) (by decide +kernel)
theorem wi_1922 : Cond.static yX14_isCell ∈ zw := zw_in (List.mem_of_getElem? (i := 1922) (by decide +kernel)) (by decide +kernel)
theorem wi_2013 : Cond.code yX14_sayKind cX14_sayKind 6 none ∈ zw := zw_in (List.mem_of_getElem? (i := 2013) (by decide +kernel)) (by decide +kernel)
theorem wi_2010 : Cond.methodLink RX14 529 yX14_sayKind ∈ zw := zw_in (List.mem_of_getElem? (i := 2010) (by decide +kernel)) (by decide +kernel)
theorem wi_2012 : Cond.instanceMethod yX14_sayKind ∈ zw := zw_in (List.mem_of_getElem? (i := 2012) (by decide +kernel)) (by decide +kernel)
theorem wi_128 : Cond.selects RX14 yX14_sayKind yX14_sayKind ∈ zw := zw_in (List.mem_of_getElem? (i := 128) (by decide +kernel)) (by decide +kernel)
theorem wi_1516 : Cond.fieldLink RX14 38 "ReuseHouseModel" "cellKind" "[I" ∈ zw := zw_in (List.mem_of_getElem? (i := 1516) (by decide +kernel)) (by decide +kernel)
theorem wi_2015 : Cond.constantLong RX14 532 (-41) ∈ zw := zw_in (List.mem_of_getElem? (i := 2015) (by decide +kernel)) (by decide +kernel)
theorem wi_1520 : Cond.fieldLink RX14 51 "ReuseHouseModel" "cellField" "[J" ∈ zw := zw_in (List.mem_of_getElem? (i := 1520) (by decide +kernel)) (by decide +kernel)
theorem wi_2016 : Cond.constantLong RX14 534 (-44) ∈ zw := zw_in (List.mem_of_getElem? (i := 2016) (by decide +kernel)) (by decide +kernel)
theorem wi_1525 : Cond.fieldLink RX14 57 "ReuseHouseModel" "otherField" "[J" ∈ zw := zw_in (List.mem_of_getElem? (i := 1525) (by decide +kernel)) (by decide +kernel)
theorem wi_1524 : Cond.fieldLink RX14 54 "ReuseHouseModel" "otherKind" "[I" ∈ zw := zw_in (List.mem_of_getElem? (i := 1524) (by decide +kernel)) (by decide +kernel)
theorem wi_2009 : Cond.code yX14_sayInt cX14_sayInt 5 none ∈ zw := zw_in (List.mem_of_getElem? (i := 2009) (by decide +kernel)) (by decide +kernel)
theorem wi_2006 : Cond.methodLink RX14 526 yX14_sayInt ∈ zw := zw_in (List.mem_of_getElem? (i := 2006) (by decide +kernel)) (by decide +kernel)
theorem wi_2008 : Cond.instanceMethod yX14_sayInt ∈ zw := zw_in (List.mem_of_getElem? (i := 2008) (by decide +kernel)) (by decide +kernel)
theorem wi_127 : Cond.selects RX14 yX14_sayInt yX14_sayInt ∈ zw := zw_in (List.mem_of_getElem? (i := 127) (by decide +kernel)) (by decide +kernel)
theorem dX14_says_0 : decode cX14_says 0 = .ok (.iconst 0, 1) := by decide +kernel
theorem dX14_says_1 : decode cX14_says 1 = .ok (.istore 4, 2) := by decide +kernel
theorem dX14_says_3 : decode cX14_says 3 = .ok (.aload_n 0, 1) := by decide +kernel
theorem dX14_says_4 : decode cX14_says 4 = .ok (.getfield 102, 3) := by decide +kernel
theorem dX14_says_7 : decode cX14_says 7 = .ok (.iload 4, 2) := by decide +kernel
theorem dX14_says_9 : decode cX14_says 9 = .ok (.lload_n 1, 1) := by decide +kernel
theorem dX14_says_10 : decode cX14_says 10 = .ok (.lastore, 1) := by decide +kernel
theorem dX14_says_11 : decode cX14_says 11 = .ok (.iinc 4 1, 3) := by decide +kernel
theorem dX14_says_14 : decode cX14_says 14 = .ok (.iload 4, 2) := by decide +kernel
theorem dX14_says_16 : decode cX14_says 16 = .ok (.ifCond .le 218, 3) := by decide +kernel
theorem dX14_says_19 : decode cX14_says 19 = .ok (.iinc 4 (-1), 3) := by decide +kernel
theorem dX14_says_22 : decode cX14_says 22 = .ok (.aload_n 0, 1) := by decide +kernel
theorem dX14_says_23 : decode cX14_says 23 = .ok (.getfield 102, 3) := by decide +kernel
theorem dX14_says_26 : decode cX14_says 26 = .ok (.iload 4, 2) := by decide +kernel
theorem dX14_says_28 : decode cX14_says 28 = .ok (.laload, 1) := by decide +kernel
theorem dX14_says_29 : decode cX14_says 29 = .ok (.lstore 5, 2) := by decide +kernel
theorem dX14_says_31 : decode cX14_says 31 = .ok (.lload 5, 2) := by decide +kernel
theorem dX14_says_33 : decode cX14_says 33 = .ok (.lconst 0, 1) := by decide +kernel
theorem dX14_says_34 : decode cX14_says 34 = .ok (.lcmp, 1) := by decide +kernel
theorem dX14_says_35 : decode cX14_says 35 = .ok (.ifCond .ge 14, 3) := by decide +kernel
theorem dX14_says_38 : decode cX14_says 38 = .ok (.aload_n 0, 1) := by decide +kernel
theorem dX14_says_39 : decode cX14_says 39 = .ok (.lload 5, 2) := by decide +kernel
theorem dX14_says_41 : decode cX14_says 41 = .ok (.lneg, 1) := by decide +kernel
theorem dX14_says_42 : decode cX14_says 42 = .ok (.l2i, 1) := by decide +kernel
theorem dX14_says_43 : decode cX14_says 43 = .ok (.invokevirtual 521, 3) := by decide +kernel
theorem dX14_says_46 : decode cX14_says 46 = .ok (.goto (-32), 3) := by decide +kernel
theorem dX14_says_49 : decode cX14_says 49 = .ok (.lload 5, 2) := by decide +kernel
theorem dX14_says_51 : decode cX14_says 51 = .ok (.invokestatic 454, 3) := by decide +kernel
theorem dX14_says_54 : decode cX14_says 54 = .ok (.ifCond .eq 13, 3) := by decide +kernel
theorem dX14_says_57 : decode cX14_says 57 = .ok (.aload_n 0, 1) := by decide +kernel
theorem dX14_says_58 : decode cX14_says 58 = .ok (.lload 5, 2) := by decide +kernel
theorem dX14_says_60 : decode cX14_says 60 = .ok (.l2i, 1) := by decide +kernel
theorem dX14_says_61 : decode cX14_says 61 = .ok (.invokevirtual 526, 3) := by decide +kernel
theorem dX14_says_64 : decode cX14_says 64 = .ok (.goto (-50), 3) := by decide +kernel
theorem dX14_says_67 : decode cX14_says 67 = .ok (.lload 5, 2) := by decide +kernel
theorem dX14_says_69 : decode cX14_says 69 = .ok (.invokestatic 395, 3) := by decide +kernel
theorem dX14_says_72 : decode cX14_says 72 = .ok (.ifCond .eq 29, 3) := by decide +kernel
theorem dX14_says_75 : decode cX14_says 75 = .ok (.iload_n 3, 1) := by decide +kernel
theorem dX14_says_76 : decode cX14_says 76 = .ok (.ifCond .eq 14, 3) := by decide +kernel
theorem dX14_says_79 : decode cX14_says 79 = .ok (.aload_n 0, 1) := by decide +kernel
theorem dX14_says_80 : decode cX14_says 80 = .ok (.getfield 54, 3) := by decide +kernel
theorem dX14_says_83 : decode cX14_says 83 = .ok (.lload 5, 2) := by decide +kernel
theorem dX14_says_85 : decode cX14_says 85 = .ok (.l2i, 1) := by decide +kernel
theorem dX14_says_86 : decode cX14_says 86 = .ok (.iaload, 1) := by decide +kernel
theorem dX14_says_87 : decode cX14_says 87 = .ok (.goto 17, 3) := by decide +kernel
theorem dX14_says_90 : decode cX14_says 90 = .ok (.aload_n 0, 1) := by decide +kernel
theorem dX14_says_91 : decode cX14_says 91 = .ok (.getfield 38, 3) := by decide +kernel
theorem dX14_says_94 : decode cX14_says 94 = .ok (.lload 5, 2) := by decide +kernel
theorem dX14_says_96 : decode cX14_says 96 = .ok (.l2i, 1) := by decide +kernel
theorem dX14_says_97 : decode cX14_says 97 = .ok (.iaload, 1) := by decide +kernel
theorem dX14_says_98 : decode cX14_says 98 = .ok (.goto 6, 3) := by decide +kernel
theorem dX14_says_101 : decode cX14_says 101 = .ok (.lload 5, 2) := by decide +kernel
theorem dX14_says_103 : decode cX14_says 103 = .ok (.l2i, 1) := by decide +kernel
theorem dX14_says_104 : decode cX14_says 104 = .ok (.istore 7, 2) := by decide +kernel
theorem dX14_says_106 : decode cX14_says 106 = .ok (.aload_n 0, 1) := by decide +kernel
theorem dX14_says_107 : decode cX14_says 107 = .ok (.iload 7, 2) := by decide +kernel
theorem dX14_says_109 : decode cX14_says 109 = .ok (.invokevirtual 529, 3) := by decide +kernel
theorem dX14_says_112 : decode cX14_says 112 = .ok (.lload 5, 2) := by decide +kernel
theorem dX14_says_114 : decode cX14_says 114 = .ok (.invokestatic 395, 3) := by decide +kernel
theorem dX14_says_117 : decode cX14_says 117 = .ok (.ifCond .ne 6, 3) := by decide +kernel
theorem dX14_says_120 : decode cX14_says 120 = .ok (.goto (-106), 3) := by decide +kernel
theorem dX14_says_123 : decode cX14_says 123 = .ok (.aload_n 0, 1) := by decide +kernel
theorem dX14_says_124 : decode cX14_says 124 = .ok (.bipush 40, 2) := by decide +kernel
theorem dX14_says_126 : decode cX14_says 126 = .ok (.invokevirtual 521, 3) := by decide +kernel
theorem dX14_says_129 : decode cX14_says 129 = .ok (.aload_n 0, 1) := by decide +kernel
theorem dX14_says_130 : decode cX14_says 130 = .ok (.getfield 102, 3) := by decide +kernel
theorem dX14_says_133 : decode cX14_says 133 = .ok (.iload 4, 2) := by decide +kernel
theorem dX14_says_135 : decode cX14_says 135 = .ok (.ldc2_w 532, 3) := by decide +kernel
theorem dX14_says_138 : decode cX14_says 138 = .ok (.lastore, 1) := by decide +kernel
theorem dX14_says_139 : decode cX14_says 139 = .ok (.iinc 4 1, 3) := by decide +kernel
theorem dX14_says_142 : decode cX14_says 142 = .ok (.aload_n 0, 1) := by decide +kernel
theorem dX14_says_143 : decode cX14_says 143 = .ok (.getfield 23, 3) := by decide +kernel
theorem dX14_says_146 : decode cX14_says 146 = .ok (.getfield 245, 3) := by decide +kernel
theorem dX14_says_149 : decode cX14_says 149 = .ok (.iload 7, 2) := by decide +kernel
theorem dX14_says_151 : decode cX14_says 151 = .ok (.iaload, 1) := by decide +kernel
theorem dX14_says_152 : decode cX14_says 152 = .ok (.iconst 1, 1) := by decide +kernel
theorem dX14_says_153 : decode cX14_says 153 = .ok (.isub, 1) := by decide +kernel
theorem dX14_says_154 : decode cX14_says 154 = .ok (.istore 8, 2) := by decide +kernel
theorem dX14_says_156 : decode cX14_says 156 = .ok (.iload 8, 2) := by decide +kernel
theorem dX14_says_158 : decode cX14_says 158 = .ok (.ifCond .lt 73, 3) := by decide +kernel
theorem dX14_says_161 : decode cX14_says 161 = .ok (.aload_n 0, 1) := by decide +kernel
theorem dX14_says_162 : decode cX14_says 162 = .ok (.getfield 102, 3) := by decide +kernel
theorem dX14_says_165 : decode cX14_says 165 = .ok (.iload 4, 2) := by decide +kernel
theorem dX14_says_167 : decode cX14_says 167 = .ok (.iload_n 3, 1) := by decide +kernel
theorem dX14_says_168 : decode cX14_says 168 = .ok (.ifCond .eq 19, 3) := by decide +kernel
theorem dX14_says_171 : decode cX14_says 171 = .ok (.aload_n 0, 1) := by decide +kernel
theorem dX14_says_172 : decode cX14_says 172 = .ok (.getfield 57, 3) := by decide +kernel
theorem dX14_says_175 : decode cX14_says 175 = .ok (.iconst 3, 1) := by decide +kernel
theorem dX14_says_176 : decode cX14_says 176 = .ok (.lload 5, 2) := by decide +kernel
theorem dX14_says_178 : decode cX14_says 178 = .ok (.l2i, 1) := by decide +kernel
theorem dX14_says_179 : decode cX14_says 179 = .ok (.imul, 1) := by decide +kernel
theorem dX14_says_180 : decode cX14_says 180 = .ok (.iload 8, 2) := by decide +kernel
theorem dX14_says_182 : decode cX14_says 182 = .ok (.iadd, 1) := by decide +kernel
theorem dX14_says_183 : decode cX14_says 183 = .ok (.laload, 1) := by decide +kernel
theorem dX14_says_184 : decode cX14_says 184 = .ok (.goto 16, 3) := by decide +kernel
theorem dX14_says_187 : decode cX14_says 187 = .ok (.aload_n 0, 1) := by decide +kernel
theorem dX14_says_188 : decode cX14_says 188 = .ok (.getfield 51, 3) := by decide +kernel
theorem dX14_says_191 : decode cX14_says 191 = .ok (.iconst 3, 1) := by decide +kernel
theorem dX14_says_192 : decode cX14_says 192 = .ok (.lload 5, 2) := by decide +kernel
theorem dX14_says_194 : decode cX14_says 194 = .ok (.l2i, 1) := by decide +kernel
theorem dX14_says_195 : decode cX14_says 195 = .ok (.imul, 1) := by decide +kernel
theorem dX14_says_196 : decode cX14_says 196 = .ok (.iload 8, 2) := by decide +kernel
theorem dX14_says_198 : decode cX14_says 198 = .ok (.iadd, 1) := by decide +kernel
theorem dX14_says_199 : decode cX14_says 199 = .ok (.laload, 1) := by decide +kernel
theorem dX14_says_200 : decode cX14_says 200 = .ok (.lastore, 1) := by decide +kernel
theorem dX14_says_201 : decode cX14_says 201 = .ok (.iinc 4 1, 3) := by decide +kernel
theorem dX14_says_204 : decode cX14_says 204 = .ok (.iload 8, 2) := by decide +kernel
theorem dX14_says_206 : decode cX14_says 206 = .ok (.ifCond .ne 6, 3) := by decide +kernel
theorem dX14_says_209 : decode cX14_says 209 = .ok (.goto 16, 3) := by decide +kernel
theorem dX14_says_212 : decode cX14_says 212 = .ok (.aload_n 0, 1) := by decide +kernel
theorem dX14_says_213 : decode cX14_says 213 = .ok (.getfield 102, 3) := by decide +kernel
theorem dX14_says_216 : decode cX14_says 216 = .ok (.iload 4, 2) := by decide +kernel
theorem dX14_says_218 : decode cX14_says 218 = .ok (.ldc2_w 534, 3) := by decide +kernel
theorem dX14_says_221 : decode cX14_says 221 = .ok (.lastore, 1) := by decide +kernel
theorem dX14_says_222 : decode cX14_says 222 = .ok (.iinc 4 1, 3) := by decide +kernel
theorem dX14_says_225 : decode cX14_says 225 = .ok (.iinc 8 (-1), 3) := by decide +kernel
theorem dX14_says_228 : decode cX14_says 228 = .ok (.goto (-72), 3) := by decide +kernel
theorem dX14_says_231 : decode cX14_says 231 = .ok (.goto (-217), 3) := by decide +kernel
theorem dX14_says_234 : decode cX14_says 234 = .ok (.return_, 1) := by decide +kernel

end
section
theorem wi_1530 : Cond.fieldLink RX14 512 "ReuseHouseModel" "value" "J" ∈ zw := zw_in (List.mem_of_getElem? (i := 1530) (by decide +kernel)) (by decide +kernel)
theorem wi_2001 : Cond.code yX14_says cX14_says 9 none ∈ zw := zw_in (List.mem_of_getElem? (i := 2001) (by decide +kernel)) (by decide +kernel)
theorem wi_1998 : Cond.methodLink RX14 536 yX14_says ∈ zw := zw_in (List.mem_of_getElem? (i := 1998) (by decide +kernel)) (by decide +kernel)
theorem wi_2000 : Cond.instanceMethod yX14_says ∈ zw := zw_in (List.mem_of_getElem? (i := 2000) (by decide +kernel)) (by decide +kernel)
theorem wi_125 : Cond.selects RX14 yX14_says yX14_says ∈ zw := zw_in (List.mem_of_getElem? (i := 125) (by decide +kernel)) (by decide +kernel)
theorem wi_1531 : Cond.fieldLink RX14 515 "ReuseHouseModel" "other" "J" ∈ zw := zw_in (List.mem_of_getElem? (i := 1531) (by decide +kernel)) (by decide +kernel)
theorem dX14_show_0 : decode cX14_show 0 = .ok (.aload_n 0, 1) := by decide +kernel
theorem dX14_show_1 : decode cX14_show 1 = .ok (.iconst 0, 1) := by decide +kernel
theorem dX14_show_2 : decode cX14_show 2 = .ok (.putfield 105, 3) := by decide +kernel
theorem dX14_show_5 : decode cX14_show 5 = .ok (.iload_n 1, 1) := by decide +kernel
theorem dX14_show_6 : decode cX14_show 6 = .ok (.ifCond .eq 13, 3) := by decide +kernel
theorem dX14_show_9 : decode cX14_show 9 = .ok (.aload_n 0, 1) := by decide +kernel
theorem dX14_show_10 : decode cX14_show 10 = .ok (.getfield 369, 3) := by decide +kernel
theorem dX14_show_13 : decode cX14_show 13 = .ok (.ifCond .ne 15, 3) := by decide +kernel
theorem dX14_show_16 : decode cX14_show 16 = .ok (.goto 10, 3) := by decide +kernel
theorem dX14_show_19 : decode cX14_show 19 = .ok (.aload_n 0, 1) := by decide +kernel
theorem dX14_show_20 : decode cX14_show 20 = .ok (.getfield 366, 3) := by decide +kernel
theorem dX14_show_23 : decode cX14_show 23 = .ok (.ifCond .ne 5, 3) := by decide +kernel
theorem dX14_show_26 : decode cX14_show 26 = .ok (.iconst (-1), 1) := by decide +kernel
theorem dX14_show_27 : decode cX14_show 27 = .ok (.ireturn, 1) := by decide +kernel
theorem dX14_show_28 : decode cX14_show 28 = .ok (.aload_n 0, 1) := by decide +kernel
theorem dX14_show_29 : decode cX14_show 29 = .ok (.iconst 0, 1) := by decide +kernel
theorem dX14_show_30 : decode cX14_show 30 = .ok (.putfield 518, 3) := by decide +kernel
theorem dX14_show_33 : decode cX14_show 33 = .ok (.aload_n 0, 1) := by decide +kernel
theorem dX14_show_34 : decode cX14_show 34 = .ok (.iload_n 1, 1) := by decide +kernel
theorem dX14_show_35 : decode cX14_show 35 = .ok (.ifCond .eq 10, 3) := by decide +kernel
theorem dX14_show_38 : decode cX14_show 38 = .ok (.aload_n 0, 1) := by decide +kernel
theorem dX14_show_39 : decode cX14_show 39 = .ok (.getfield 515, 3) := by decide +kernel
theorem dX14_show_42 : decode cX14_show 42 = .ok (.goto 7, 3) := by decide +kernel
theorem dX14_show_45 : decode cX14_show 45 = .ok (.aload_n 0, 1) := by decide +kernel
theorem dX14_show_46 : decode cX14_show 46 = .ok (.getfield 512, 3) := by decide +kernel
theorem dX14_show_49 : decode cX14_show 49 = .ok (.iload_n 1, 1) := by decide +kernel
theorem dX14_show_50 : decode cX14_show 50 = .ok (.invokevirtual 536, 3) := by decide +kernel
theorem dX14_show_53 : decode cX14_show 53 = .ok (.goto 6, 3) := by decide +kernel
theorem dX14_show_56 : decode cX14_show 56 = .ok (.astore_n 2, 1) := by decide +kernel
theorem dX14_show_57 : decode cX14_show 57 = .ok (.iconst (-1), 1) := by decide +kernel
theorem dX14_show_58 : decode cX14_show 58 = .ok (.ireturn, 1) := by decide +kernel
theorem dX14_show_59 : decode cX14_show 59 = .ok (.iconst 0, 1) := by decide +kernel
theorem dX14_show_60 : decode cX14_show 60 = .ok (.istore_n 2, 1) := by decide +kernel
theorem dX14_show_61 : decode cX14_show 61 = .ok (.iload_n 2, 1) := by decide +kernel
theorem dX14_show_62 : decode cX14_show 62 = .ok (.aload_n 0, 1) := by decide +kernel
theorem dX14_show_63 : decode cX14_show 63 = .ok (.getfield 518, 3) := by decide +kernel
theorem dX14_show_66 : decode cX14_show 66 = .ok (.if_icmp .ge 21, 3) := by decide +kernel
theorem dX14_show_69 : decode cX14_show 69 = .ok (.aload_n 0, 1) := by decide +kernel
theorem dX14_show_70 : decode cX14_show 70 = .ok (.getfield 96, 3) := by decide +kernel
theorem dX14_show_73 : decode cX14_show 73 = .ok (.iload_n 2, 1) := by decide +kernel
theorem dX14_show_74 : decode cX14_show 74 = .ok (.aload_n 0, 1) := by decide +kernel
theorem dX14_show_75 : decode cX14_show 75 = .ok (.getfield 99, 3) := by decide +kernel
theorem dX14_show_78 : decode cX14_show 78 = .ok (.iload_n 2, 1) := by decide +kernel
theorem dX14_show_79 : decode cX14_show 79 = .ok (.baload, 1) := by decide +kernel
theorem dX14_show_80 : decode cX14_show 80 = .ok (.bastore, 1) := by decide +kernel
theorem dX14_show_81 : decode cX14_show 81 = .ok (.iinc 2 1, 3) := by decide +kernel
theorem dX14_show_84 : decode cX14_show 84 = .ok (.goto (-23), 3) := by decide +kernel
theorem dX14_show_87 : decode cX14_show 87 = .ok (.aload_n 0, 1) := by decide +kernel
theorem dX14_show_88 : decode cX14_show 88 = .ok (.aload_n 0, 1) := by decide +kernel
theorem dX14_show_89 : decode cX14_show 89 = .ok (.getfield 518, 3) := by decide +kernel
theorem dX14_show_92 : decode cX14_show 92 = .ok (.putfield 540, 3) := by decide +kernel
theorem dX14_show_95 : decode cX14_show 95 = .ok (.aload_n 0, 1) := by decide +kernel
theorem dX14_show_96 : decode cX14_show 96 = .ok (.getfield 540, 3) := by decide +kernel
theorem dX14_show_99 : decode cX14_show 99 = .ok (.ireturn, 1) := by decide +kernel

end
section
/-! how much room a method took depends on how it ended -/
def vw_Q (a0 : Addr) (Qc : Nat → Nat → Array Value → State → Outcome → State → Prop) (XC : Nat → Nat → String → State → State → Prop) (free : Addr → Prop) : Array Value → State → Outcome → State → Prop := fun a st o t =>
  ∃ kc kn : Nat, (Qc kc kn a st o t ∧ ∃ L, FrameEnd st o t L kc kn ∧ ∀ q ∈ L, free q.base) ∨ (o = .threw a0 ∧ vx_T (XC kc kn) st a0 t kc kn free)
def vw_Met (a0 : Addr) (l : Launch) (y : MethodName) (ws : List Cond) (rm : Room) (Pc : Array Value → State → Prop) (Qc : Nat → Nat → Array Value → State → Outcome → State → Prop) (XC : Nat → Nat → String → State → State → Prop) (free : Addr → Prop) : Prop :=
  MetFree l y (headSpec ws rm) Pc (fun _ _ _ _ _ => True) (vw_Q a0 Qc XC free)
def vw_MQ (a0 : Addr) (below : List Frame) (Qc : Nat → Nat → Array Value → State → Outcome → State → Prop) (XC : Nat → Nat → String → State → State → Prop) (a : Array Value) (s : State) (free : Addr → Prop) : State → Prop := fun t =>
  ∃ o, t.status = .running ∧ Ended t below o ∧ vw_Q a0 Qc XC free a s o t
def vw_Po (Qc : Nat → Nat → Array Value → State → Outcome → State → Prop) (free : Addr → Prop) : Pt → Array Value → Option Value → Pt → Prop := fun A a v B => ∃ kc kn : Nat, PostOf (Qc kc kn) kc kn free A a v B
def vw_Px (a0 : Addr) (XC : Nat → Nat → String → State → State → Prop) (free : Addr → Prop) : Pt → Array Value → Addr → Pt → Prop := fun A a q B => ∃ kc kn : Nat, zy_Post a0 (XC kc kn) kc kn free A a q B
theorem vw_thr (kc kn : Nat) {a0 : Addr} {below : List Frame} {Qc : Nat → Nat → Array Value → State → Outcome → State → Prop} {XC : Nat → Nat → String → State → State → Prop} {a : Array Value} {s : State} {free : Addr → Prop} : ∀ t, zy_MQ below a0 (XC kc kn) a s kc kn free t → vw_MQ a0 below Qc XC a s free t := fun t h => by
  obtain ⟨o, h1, h2, h3⟩ := h
  exact ⟨o, h1, h2, kc, kn, Or.inr h3⟩
theorem vw_ret (kc kn : Nat) {a0 : Addr} {below : List Frame} {Qc : Nat → Nat → Array Value → State → Outcome → State → Prop} {XC : Nat → Nat → String → State → State → Prop} {a : Array Value} {s : State} {free : Addr → Prop} : ∀ t, vx_MQ below (Qc kc kn) (fun _ _ _ => False) a s kc kn free t → vw_MQ a0 below Qc XC a s free t := fun t h => by
  obtain ⟨o, h1, h2, h3⟩ := h
  exact ⟨o, h1, h2, kc, kn, h3.elim Or.inl (fun ⟨q, _, _, _, _, g, _⟩ => g.elim)⟩
theorem vw_back {a0 : Addr} {l : Launch} {R : Room} {p : Program} {e : Env} {below : List Frame} {s : State} {sargs : Array Value} {y : MethodName} {len W9 : Nat} {ws : List Cond} {rm : Room} {Pc : Array Value → State → Prop} {Qc : Nat → Nat → Array Value → State → Outcome → State → Prop} {XC : Nat → Nat → String → State → State → Prop} {mc ms : Nat} {free : Addr → Prop} {bytes : ByteArray} {maxL : Nat} {ret : Option FieldType}
    (hM : vw_Met a0 l y ws rm Pc Qc XC free) (hblind : FrameBlind Pc) (hrc : rm.cells = mc) (hrs : rm.slots = ms)
    (hframes : rm.frames + 1 ≤ R.frames) (hlocals : W9 + (maxL + 11) + rm.locals ≤ R.locals)
    (hws : ∀ w ∈ ws, ∀ a' U, s.WarmedH U.vm → w.before a' U = true) (hcode : Cond.code y bytes maxL ret ∈ ws) (hinit : ∀ a' U, s.WarmedH U.vm → (Cond.initialized y.cls).before a' U = true) :
    vx_Back l R p e below s sargs y len W9 (PreOf R mc ms Pc) (vw_Po Qc free) (vw_Px a0 XC free) := by
  intro m meth c A g ig mk a X hg hsize hdg hW hn hp
  have h1 : (headSpec ws rm).pre.before a A.U = true := atoms_intro fun w hw => hws w hw _ _ X.warmed
  have h2 : (Cond.code y bytes maxL ret).before a A.U = true := hws _ hcode _ _ X.warmed
  have h3 : (Cond.initialized y.cls).before a A.U = true := hinit _ _ X.warmed
  have h4 : A.cells + (headSpec ws rm).room.cells ≤ R.cells := by rw [show (headSpec ws rm).room.cells = mc from hrc]; exact hp.1
  have h5 : A.slots + (headSpec ws rm).room.slots ≤ R.slots := by rw [show (headSpec ws rm).room.slots = ms from hrs]; exact hp.2.1
  have hPc : Pc a (A.U.calling g mk a) := hblind _ _ _ _ hp.2.2
  obtain ⟨U, Ls, c0, s0⟩ := A
  dsimp only [Pt.U, Pt.locs, Pt.cells, Pt.slots] at h1 h2 h3 h4 h5 X hn hPc ⊢
  obtain ⟨methY, cY, hmY, hcY, -, hlY, -, -, -, -⟩ := Cond.code_spec hn h2
  obtain ⟨kY, hkY, -⟩ := className_of_methodNamed hn
  have hinitY : kY.init = .initialized := Cond.initialized_spec (findClass_of_methodNamed hn) hkY h3
  have h : At U g.method c below := by rw [hg]; exact X.here
  have hlocals9 : W9 + (maxL + 11) + (headSpec ws rm).room.locals ≤ R.locals := hlocals
  have happ : (headSpec ws rm).appliesLoose y e.platform (U.calling g mk a) = true :=
    Spec.appliesLoose_calling (g := g) h hdg hn hkY hinitY
      (X.room_calling (g := g) (R' := (headSpec ws rm).room) hsize hmY hcY hframes (by rw [hlY]; omega) h4 h5) h1
  obtain ⟨mid, hmid⟩ := h.above
  have hfr : (U.setTop g).frames = (.java g :: mid) ++ below := by rw [State.frames_setTop' g h.top, hmid]; rfl
  obtain ⟨o, s₂, hsteps, -, hend, hq⟩ := Steps.callFree hM p X.admits X.cas X.clock (acts := []) hfr happ hPc trivial
  have hq' : vw_Q a0 Qc XC free a (U.calling g mk a) o s₂ := hq
  rw [State.frames_setTop' g h.top] at hend
  obtain ⟨g₀, hg0⟩ := Option.isSome_iff_exists.mp h.top
  obtain ⟨r, hr⟩ := State.topJava?_eq_some.mp hg0
  have hr' : (({ U with heap := s₂.heap, slotsUsed := s₂.slotsUsed } : State).setVm s₂.vm).frames = .java g₀ :: r := hr
  obtain ⟨kc, kn, hq'⟩ := hq'
  rcases hq' with ⟨hqc, L, hfe, hL⟩ | ⟨rfl, E, ce, L, hx, hce, hcv, hcl, hW₂, hsm, hL⟩
  · obtain ⟨⟨v, rfl⟩, hW₂, e2, q2, q3, q4, q5, q6⟩ := id hfe
    have e3 : s₂ = ({ (U.calling g mk a).setFrames s₂.frames with heap := s₂.heap, slotsUsed := s₂.slotsUsed } : State).setVm s₂.vm := by
      have : s₂ = ({ s₂ with vm := (U.calling g mk a).vm } : State).setVm s₂.vm := rfl
      rw [e2] at this
      exact this
    obtain ⟨c₂, i₂, len₂, hc₂, hd₂, hf₂⟩ := hend
    have hW' : U.WarmedH s₂.vm := hW₂
    have hcc : c₂ = c := by
      have h1 : s₂.code? g.method = U.code? g.method := by
        rw [State.code?_eq, State.code?_eq, hW'.alike.method?]
      exact Option.some.inj (hc₂.symm.trans (h1.trans h.code))
    subst hcc
    have hlen : len₂ = len := by rw [hdg] at hd₂; cases hd₂; rfl
    subst hlen
    have hs₂ : s₂ = (({ U with heap := s₂.heap, slotsUsed := s₂.slotsUsed } : State).setVm s₂.vm).setTop { g with pc := g.pc + len₂, stack := v.toList ++ g.stack } := by
      refine e3.trans ?_
      rw [hf₂, State.calling_eq h.top, State.setFrames_setFrames, State.setTop_of_frames _ hr', hr]
      rfl
    have hsame : U.sameButNew ({ U with heap := s₂.heap, slotsUsed := s₂.slotsUsed } : State) L kc kn := by
      refine ⟨?_, q2, q3, q4, q5, q6⟩
      obtain ⟨t, ht, -⟩ := State.frames_cons hr
      show ({ U with heap := s₂.heap, slotsUsed := s₂.slotsUsed } : State) = { U.setFrames U.frames with heap := s₂.heap, slotsUsed := s₂.slotsUsed }
      rw [State.setFrames_self ht]
    subst hg
    refine Or.inl ⟨v, ⟨(({ U with heap := s₂.heap, slotsUsed := s₂.slotsUsed } : State).setVm s₂.vm), Ls ++ L, c0 + kc, s0 + kn⟩,
      ⟨X.admits, X.cas, X.clock, X.frames, X.room, X.hears, X.method, X.code, (X.here.setHeapUsed s₂.heap s₂.slotsUsed).setVm hW'.alike, X.tail, State.WarmedH.trans X.warmed hW', X.limits, X.bytes, X.same.trans (hsame.setVm s.vm)⟩,
      ⟨kc, kn, g, mk, s₂, L, rfl, rfl, hqc, rfl, hL, rfl, rfl⟩, ?_⟩
    show Steps p.tables e below _ ((({ U with heap := s₂.heap, slotsUsed := s₂.slotsUsed } : State).setVm s₂.vm).setTop { g with pc := g.pc + len₂, stack := v.toList ++ g.stack })
    rw [← hs₂]
    exact hsteps
  · obtain ⟨e2, q2, q3, q4, q5, q6⟩ := id hsm
    have e3 : s₂ = ({ (U.calling g mk a).setFrames s₂.frames with heap := s₂.heap, slotsUsed := s₂.slotsUsed } : State).setVm s₂.vm := by
      have : s₂ = ({ s₂ with vm := (U.calling g mk a).vm } : State).setVm s₂.vm := rfl
      rw [e2] at this
      exact this
    have hf₂ : s₂.frames = .throwing a0 :: .java g :: U.frames.tail := hend
    have hW' : U.WarmedH s₂.vm := hW₂
    have hs₂ : s₂ = ((({ U with heap := s₂.heap, slotsUsed := s₂.slotsUsed } : State).setVm s₂.vm).setTop g).pushFrame (.throwing a0) := by
      refine e3.trans ?_
      rw [hf₂, State.calling_eq h.top, State.setFrames_setFrames, State.pushFrame, State.frames_setTop _ hr', State.setTop_of_frames _ hr', State.setFrames_setFrames, hr]
      rfl
    have hsame : U.sameButNew ({ U with heap := s₂.heap, slotsUsed := s₂.slotsUsed } : State) L kc kn := by
      refine ⟨?_, q2, q3, q4, q5, q6⟩
      obtain ⟨t, ht, -⟩ := State.frames_cons hr
      show ({ U with heap := s₂.heap, slotsUsed := s₂.slotsUsed } : State) = { U.setFrames U.frames with heap := s₂.heap, slotsUsed := s₂.slotsUsed }
      rw [State.setFrames_self ht]
    subst hg
    refine Or.inr ⟨a0, ⟨(({ U with heap := s₂.heap, slotsUsed := s₂.slotsUsed } : State).setVm s₂.vm), Ls ++ L, c0 + kc, s0 + kn⟩,
      ⟨X.admits, X.cas, X.clock, X.frames, X.room, X.hears, X.method, X.code, (X.here.setHeapUsed s₂.heap s₂.slotsUsed).setVm hW'.alike, X.tail, State.WarmedH.trans X.warmed hW', X.limits, X.bytes, X.same.trans (hsame.setVm s.vm)⟩,
      ⟨kc, kn, rfl, g, mk, s₂, L, E, ce, rfl, rfl, hx, hce, hcv, hcl, rfl, hL, rfl, rfl⟩, ?_⟩
    show Steps p.tables e below _ (((({ U with heap := s₂.heap, slotsUsed := s₂.slotsUsed } : State).setVm s₂.vm).setTop g).pushFrame (.throwing a0))
    rw [← hs₂]
    exact hsteps
def vw_Run (a0 : Addr) (p : Program) (l : Launch) (e : Env) (R : Room) (s : State) (m : MethodId) (args : Array Value) (below : List Frame) (meth : Method) (c : Code) (H : Heap) (locs : List Loc) (cells slots : Nat) (g : JFrame) (rest : List Value) (Qa : Nat → Nat → State → Outcome → State → Prop) (XC : Nat → Nat → String → State → State → Prop) (free : Addr → Prop) : Prop :=
  ∀ T : State, T.heap = H → Stand p l e R s m args below meth c T locs cells slots →
    (∃ (kc kn : Nat) (v : Option Value) (st₀ t T' : State) (L : List Loc), st₀.heap = H ∧ Stand p l e R s m args below meth c T' (locs ++ L) (cells + kc) (slots + kn) ∧ (∀ q ∈ L, free q.base) ∧ T'.heap = t.heap ∧ T'.vm = t.vm ∧ Qa kc kn st₀ (.returned v) t ∧
      Goes p e below T g T' { g with pc := g.pc + 3, stack := v.toList ++ rest }) ∨
    (∃ (kc kn : Nat) (st₀ t T' : State) (L : List Loc) (E : String) (ce : Cell), st₀.heap = H ∧ Stand p l e R s m args below meth c T' (locs ++ L) (cells + kc) (slots + kn) ∧ (∀ z ∈ L, free z.base) ∧ T'.heap = t.heap ∧ T'.vm = t.vm ∧ XC kc kn E st₀ t ∧ t.heap[a0]? = some ce ∧ ce.vm = .none ∧ s.vm.findClass E = some ce.cls ∧
      Steps p.tables e below (T.setTop g) ((T'.setTop { g with stack := rest }).pushFrame (.throwing a0)))
theorem vw_runV {a0 : Addr} {p : Program} {l : Launch} {e : Env} {R : Room} {s : State} {m : MethodId} {args : Array Value} {below : List Frame} {meth : Method} {c : Code} {H : Heap} {locs : List Loc} {cells slots : Nat} {y : MethodName} {bytes cc : ByteArray} {maxL nL mc ms n index : Nat} {ret : Option FieldType} {ws : List Cond} {rm : Room} {Pc : Array Value → State → Prop} {Qc : Nat → Nat → Array Value → State → Outcome → State → Prop} {XC : Nat → Nat → String → State → State → Prop} {free : Addr → Prop} {Ts : List Cond} {own C : String} {b : Addr} {As rest : List Value} {g : JFrame} (S : CallFix p m c cc nL s args Ts own) (hM : vw_Met a0 l y ws rm Pc Qc XC free) (cw : CallW R s args own C index y bytes maxL ret ws rm mc ms n) (hp : PreV s H C b Pc As)
    (hg : g.method = m) (hn : As.length = n) (hsize : g.locals.size = nL) (hstack : g.stack = As.reverse ++ .ref b :: rest) (hW : 2 * g.monitorRoom + (rest.map fun v => v.category).sum ≤ 8) (hdg : decode cc g.pc = .ok (.invokevirtual index, 3)) (hf : cells + mc ≤ R.cells ∧ slots + ms ≤ R.slots) :
    vw_Run a0 p l e R s m args below meth c H locs cells slots g rest (fun kc kn => Qc kc kn (Value.ref b :: As).toArray) XC free := by
  have hK : vx_Back l R p e below s args y 3 8 (PreOf R mc ms Pc) (vw_Po Qc free) (vw_Px a0 XC free) := by
    obtain ⟨hrc, hrs, hfr, hlo, hws, hcw, -, hini, -⟩ := cw.1
    exact vw_back (bytes := bytes) (maxL := maxL) (ret := ret) hM hp.1 hrc hrs hfr hlo hws hcw (fun a' U hW => word_at hW (Or.inl (by first | rfl | simp [Cond.onTables, Cond.keeps, Cond.steady])) hini)
  obtain ⟨⟨-, -, -, -, -, -, hcode, -, hy, hlen, hl⟩, hin, hse⟩ := cw
  obtain ⟨hx, hb, hml, ho, -⟩ := S
  obtain ⟨-, ⟨cellB, hcB, hoB, hclB⟩, hPc⟩ := hp
  intro T hT X
  rcases vx_callV X hx (C := C) (bytes := bytes) (maxL := maxL) (ret := ret) ho hl hin hse hcode hy hK (by rw [hT]; exact hcB) hoB hclB hg (hsize.trans hml.symm) (argsL := As) (rest := rest) (fun sig h => hn.trans (hlen sig h)) hstack hW (by rw [hb]; exact hdg)
    (fun vm₁ hW₁ => ⟨hf.1, hf.2, hPc (T.setVm vm₁) hT hW₁⟩) with ⟨v, vm₁, ⟨U', l2, c2, s2⟩, hW₁, X', ⟨kc, kn, g', mk, t, L, e1, e2, hq, h1, hL, h2, h3⟩, st⟩ | ⟨q, vm₁, ⟨U', l2, c2, s2⟩, hW₁, X', ⟨kc, kn, rfl, g', mk, t, L, E, ce, e1, e2, hq, hce, hcv, hcl, h1, hL, h2, h3⟩, st⟩
  · dsimp only [Pt.U, Pt.locs, Pt.cells, Pt.slots] at X' e1 e2 h1 h2 h3 st
    subst h1; subst h2; subst h3
    exact Or.inl ⟨kc, kn, v, (T.setVm vm₁).calling g' mk (Value.ref b :: As).toArray, t, U', L, hT, X', hL, e1, e2, hq, st⟩
  · dsimp only [Pt.U, Pt.locs, Pt.cells, Pt.slots] at X' e1 e2 h1 h2 h3 st hcl
    subst h1; subst h2; subst h3
    exact Or.inr ⟨kc, kn, (T.setVm vm₁).calling g' mk (Value.ref b :: As).toArray, t, U', L, E, ce, hT, X', hL, e1, e2, hq, hce, hcv, vx_cls hW₁ hcl, st⟩
theorem vw_calli {a0 : Addr} {p : Program} {l : Launch} {e : Env} {R : Room} {s : State} {m : MethodId} {args : Array Value} {below : List Frame} {meth : Method} {c : Code} {H : Heap} {locs : List Loc} {cells slots : Nat} {Q : State → Prop} {free : Addr → Prop} {A0 A1 : Nat → Prop} {H0 : Heap} {a : Array Value} {pc : Nat} {ls : Array Slot} {st0 rest : List Value} {S SX : Type} {post : Nat → Nat → Int32 → S → Prop} {px : Nat → Nat → SX → Prop} {B : S → State → Prop} {BX : String → SX → State → Prop} {AX : Nat → Prop} (hr : vw_Run a0 p l e R s m args below meth c H locs cells slots (F0 m pc ls st0) rest (fun kc kn => va_Qi (post kc kn) B A1 a) (fun kc kn => vx_X (px kc kn) BX AX) free) (hS : va_S A0 H0 H locs) (hA : ∀ q, q < H.size → A1 q → A0 q) (hf : ∀ q, free q → A0 q) (hAX : ∀ q, q < H.size → AX q → A0 q)
    (kx : ∀ (kc kn : Nat) (E : String) (ce : Cell) (u : SX) (t : State) (H1 : Heap) (locs1 : List Loc), t.heap = H1 → s.vm.Alike t.vm → px kc kn u → BX E u t → H.size ≤ H1.size → (∀ q : Nat, q < H.size → ¬ AX q → H1[q]? = H[q]?) → va_S A0 H0 H1 locs1 → H1[a0]? = some ce → ce.vm = .none → s.vm.findClass E = some ce.cls → vx_W p l e R s m args below meth c H1 locs1 (cells + kc) (slots + kn) Q (F0 m pc ls rest) a0)
    (kk : ∀ (kc kn : Nat) (r : Int32) (u : S) (t : State) (H1 : Heap) (locs1 : List Loc), t.heap = H1 → s.vm.Alike t.vm → post kc kn r u → B u t → H.size ≤ H1.size → (∀ q : Nat, q < H.size → ¬ A1 q → H1[q]? = H[q]?) → va_S A0 H0 H1 locs1 → W p l e R s m args below meth c H1 locs1 (cells + kc) (slots + kn) Q (F0 m (pc + 3) ls (.int r :: rest))) : W p l e R s m args below meth c H locs cells slots Q (F0 m pc ls st0) := by
  intro T hT X
  rcases hr T hT X with ⟨kc, kn, v, st₀, t, T', L, h0, X', hL, e1, e2, ⟨⟨r, u, hv, hp, hb⟩, hF⟩, st⟩ | ⟨kc, kn, st₀, t, T', L, E, ce, h0, X', hL, e1, e2, ⟨u, hp, hb, hF⟩, hce, hcv, hcl, st⟩
  · cases hv
    obtain ⟨k1, k2, k3⟩ := vx_keep h0 e1 hS hA hf hL hF
    obtain ⟨t2, a1, b1⟩ := kk kc kn r u t T'.heap (locs ++ L) e1.symm (by rw [← e2]; exact X'.warmed.alike) hp hb k1 k2 k3 T' rfl X'
    exact ⟨t2, st t2 a1, b1⟩
  · obtain ⟨k1, k2, k3⟩ := vx_keep h0 e1 hS hAX hf hL hF
    obtain ⟨t2, a1, b1⟩ := kx kc kn E ce u t T'.heap (locs ++ L) e1.symm (by rw [← e2]; exact X'.warmed.alike) hp hb k1 k2 k3 (by rw [e1]; exact hce) hcv hcl T' rfl X'
    exact ⟨t2, st.trans a1, b1⟩
theorem vw_callv {a0 : Addr} {p : Program} {l : Launch} {e : Env} {R : Room} {s : State} {m : MethodId} {args : Array Value} {below : List Frame} {meth : Method} {c : Code} {H : Heap} {locs : List Loc} {cells slots : Nat} {Q : State → Prop} {free : Addr → Prop} {A0 A1 : Nat → Prop} {H0 : Heap} {a : Array Value} {pc : Nat} {ls : Array Slot} {st0 rest : List Value} {S SX : Type} {post : Nat → Nat → S → Prop} {px : Nat → Nat → SX → Prop} {B : S → State → Prop} {BX : String → SX → State → Prop} {AX : Nat → Prop} (hr : vw_Run a0 p l e R s m args below meth c H locs cells slots (F0 m pc ls st0) rest (fun kc kn => va_Qv (post kc kn) B A1 a) (fun kc kn => vx_X (px kc kn) BX AX) free) (hS : va_S A0 H0 H locs) (hA : ∀ q, q < H.size → A1 q → A0 q) (hf : ∀ q, free q → A0 q) (hAX : ∀ q, q < H.size → AX q → A0 q)
    (kx : ∀ (kc kn : Nat) (E : String) (ce : Cell) (u : SX) (t : State) (H1 : Heap) (locs1 : List Loc), t.heap = H1 → s.vm.Alike t.vm → px kc kn u → BX E u t → H.size ≤ H1.size → (∀ q : Nat, q < H.size → ¬ AX q → H1[q]? = H[q]?) → va_S A0 H0 H1 locs1 → H1[a0]? = some ce → ce.vm = .none → s.vm.findClass E = some ce.cls → vx_W p l e R s m args below meth c H1 locs1 (cells + kc) (slots + kn) Q (F0 m pc ls rest) a0)
    (kk : ∀ (kc kn : Nat) (u : S) (t : State) (H1 : Heap) (locs1 : List Loc), t.heap = H1 → s.vm.Alike t.vm → post kc kn u → B u t → H.size ≤ H1.size → (∀ q : Nat, q < H.size → ¬ A1 q → H1[q]? = H[q]?) → va_S A0 H0 H1 locs1 → W p l e R s m args below meth c H1 locs1 (cells + kc) (slots + kn) Q (F0 m (pc + 3) ls (rest))) : W p l e R s m args below meth c H locs cells slots Q (F0 m pc ls st0) := by
  intro T hT X
  rcases hr T hT X with ⟨kc, kn, v, st₀, t, T', L, h0, X', hL, e1, e2, ⟨⟨u, hv, hp, hb⟩, hF⟩, st⟩ | ⟨kc, kn, st₀, t, T', L, E, ce, h0, X', hL, e1, e2, ⟨u, hp, hb, hF⟩, hce, hcv, hcl, st⟩
  · cases hv
    obtain ⟨k1, k2, k3⟩ := vx_keep h0 e1 hS hA hf hL hF
    obtain ⟨t2, a1, b1⟩ := kk kc kn u t T'.heap (locs ++ L) e1.symm (by rw [← e2]; exact X'.warmed.alike) hp hb k1 k2 k3 T' rfl X'
    exact ⟨t2, st t2 a1, b1⟩
  · obtain ⟨k1, k2, k3⟩ := vx_keep h0 e1 hS hAX hf hL hF
    obtain ⟨t2, a1, b1⟩ := kx kc kn E ce u t T'.heap (locs ++ L) e1.symm (by rw [← e2]; exact X'.warmed.alike) hp hb k1 k2 k3 (by rw [e1]; exact hce) hcv hcl T' rfl X'
    exact ⟨t2, st.trans a1, b1⟩
theorem vw_ofW {a0 : Addr} {l : Launch} {y : MethodName} {ws ws' : List Cond} {rm : Room} {Pc : Array Value → State → Prop} {Qc : Nat → Nat → Array Value → State → Outcome → State → Prop} {XC : Nat → Nat → String → State → State → Prop} {free : Addr → Prop} {cc : ByteArray} {maxL : Nat} {ret : Option FieldType}
    (hy : plainName y.cls = true) (hw : ws = Cond.code y cc maxL ret :: ws')
    (body : ∀ p e s m args below meth c s₁, BodyLoose p l y (headSpec ws rm) cc maxL ret e s m args below meth c s₁ → c.maxLocals = maxL → (∀ x ∈ c.exceptionTable.toList, False) → Pc args s →
      W p l e (headSpec ws rm).room s m args below meth c s.heap [] 0 0 (vw_MQ a0 below Qc XC args s free) (entryFrame m args maxL)) : vw_Met a0 l y ws rm Pc Qc XC free := by
  refine MetFree.of_bodyS (code := cc) (maxLocals := maxL) (ret := ret) hy ?_ ?_
  · intro args s m h hn
    obtain ⟨meth, c, h1, h2, h3, h4, h5, h6, -, -⟩ := Cond.code_spec hn (atoms_spec (ws := ws) h _ (by rw [hw]; exact List.mem_cons_self))
    exact ⟨meth, c, h1, h2, h3, h4, h5, h6⟩
  · intro p e s m args below meth c s₁ B hml hP _
    have hh0 : s₁.heap = s.heap := by rw [B.state]; rfl
    have ht : ∀ x ∈ c.exceptionTable.toList, False := by
      obtain ⟨meth9, c9, h1, h2, -, -, -, -, h7, -⟩ := Cond.code_spec B.named (atoms_spec (ws := ws) B.pre _ (by rw [hw]; exact List.mem_cons_self))
      cases Option.some.inj (h1.symm.trans B.method)
      cases Option.some.inj (h2.symm.trans (Stand.of_body B).code)
      intro x hx
      rw [Array.isEmpty_iff.mp h7] at hx
      cases hx
    obtain ⟨t, a1, o, b1, b2, b3⟩ := body p e s m args below meth c s₁ B hml ht hP s₁ hh0 (Stand.of_body B)
    exact ⟨t, o, a1, b1, b2, b3⟩
theorem vw_backW {hh : List (Nat × Nat × Nat × Nat)} {a0 : Addr} {l : Launch} {R : Room} {p : Program} {e : Env} {below : List Frame} {s : State} {sargs : Array Value} {y : MethodName} {len W9 : Nat} {ws : List Cond} {rm : Room} {Pc : Array Value → State → Prop} {Qc : Nat → Nat → Array Value → State → Outcome → State → Prop} {XC : Nat → Nat → String → State → State → Prop} {mc ms : Nat} {free : Addr → Prop} {bytes : ByteArray} {maxL : Nat} {ret : Option FieldType}
    (hM : vw_Met a0 l y ws rm Pc Qc XC free) (hblind : FrameBlind Pc) (hrc : rm.cells = mc) (hrs : rm.slots = ms)
    (hframes : rm.frames + 1 ≤ R.frames) (hlocals : W9 + (maxL + 11) + rm.locals ≤ R.locals)
    (hws : ∀ w ∈ ws, ∀ a' U, s.WarmedH U.vm → w.before a' U = true) (hcode : Cond.codeWith y bytes maxL ret hh ∈ ws) (hinit : ∀ a' U, s.WarmedH U.vm → (Cond.initialized y.cls).before a' U = true) :
    vx_Back l R p e below s sargs y len W9 (PreOf R mc ms Pc) (vw_Po Qc free) (vw_Px a0 XC free) := by
  intro m meth c A g ig mk a X hg hsize hdg hW hn hp
  have h1 : (headSpec ws rm).pre.before a A.U = true := atoms_intro fun w hw => hws w hw _ _ X.warmed
  have h2 : (Cond.codeWith y bytes maxL ret hh).before a A.U = true := hws _ hcode _ _ X.warmed
  have h3 : (Cond.initialized y.cls).before a A.U = true := hinit _ _ X.warmed
  have h4 : A.cells + (headSpec ws rm).room.cells ≤ R.cells := by rw [show (headSpec ws rm).room.cells = mc from hrc]; exact hp.1
  have h5 : A.slots + (headSpec ws rm).room.slots ≤ R.slots := by rw [show (headSpec ws rm).room.slots = ms from hrs]; exact hp.2.1
  have hPc : Pc a (A.U.calling g mk a) := hblind _ _ _ _ hp.2.2
  obtain ⟨U, Ls, c0, s0⟩ := A
  dsimp only [Pt.U, Pt.locs, Pt.cells, Pt.slots] at h1 h2 h3 h4 h5 X hn hPc ⊢
  obtain ⟨m9, methY, cY, hn9, hmY, hcY, -, hlY, -⟩ := Cond.codeWith_spec h2
  cases Option.some.inj (hn9.symm.trans hn)
  obtain ⟨kY, hkY, -⟩ := className_of_methodNamed hn
  have hinitY : kY.init = .initialized := Cond.initialized_spec (findClass_of_methodNamed hn) hkY h3
  have h : At U g.method c below := by rw [hg]; exact X.here
  have hlocals9 : W9 + (maxL + 11) + (headSpec ws rm).room.locals ≤ R.locals := hlocals
  have happ : (headSpec ws rm).appliesLoose y e.platform (U.calling g mk a) = true :=
    Spec.appliesLoose_calling (g := g) h hdg hn hkY hinitY
      (X.room_calling (g := g) (R' := (headSpec ws rm).room) hsize hmY hcY hframes (by rw [hlY]; omega) h4 h5) h1
  obtain ⟨mid, hmid⟩ := h.above
  have hfr : (U.setTop g).frames = (.java g :: mid) ++ below := by rw [State.frames_setTop' g h.top, hmid]; rfl
  obtain ⟨o, s₂, hsteps, -, hend, hq⟩ := Steps.callFree hM p X.admits X.cas X.clock (acts := []) hfr happ hPc trivial
  have hq' : vw_Q a0 Qc XC free a (U.calling g mk a) o s₂ := hq
  rw [State.frames_setTop' g h.top] at hend
  obtain ⟨g₀, hg0⟩ := Option.isSome_iff_exists.mp h.top
  obtain ⟨r, hr⟩ := State.topJava?_eq_some.mp hg0
  have hr' : (({ U with heap := s₂.heap, slotsUsed := s₂.slotsUsed } : State).setVm s₂.vm).frames = .java g₀ :: r := hr
  obtain ⟨kc, kn, hq'⟩ := hq'
  rcases hq' with ⟨hqc, L, hfe, hL⟩ | ⟨rfl, E, ce, L, hx, hce, hcv, hcl, hW₂, hsm, hL⟩
  · obtain ⟨⟨v, rfl⟩, hW₂, e2, q2, q3, q4, q5, q6⟩ := id hfe
    have e3 : s₂ = ({ (U.calling g mk a).setFrames s₂.frames with heap := s₂.heap, slotsUsed := s₂.slotsUsed } : State).setVm s₂.vm := by
      have : s₂ = ({ s₂ with vm := (U.calling g mk a).vm } : State).setVm s₂.vm := rfl
      rw [e2] at this
      exact this
    obtain ⟨c₂, i₂, len₂, hc₂, hd₂, hf₂⟩ := hend
    have hW' : U.WarmedH s₂.vm := hW₂
    have hcc : c₂ = c := by
      have h1 : s₂.code? g.method = U.code? g.method := by
        rw [State.code?_eq, State.code?_eq, hW'.alike.method?]
      exact Option.some.inj (hc₂.symm.trans (h1.trans h.code))
    subst hcc
    have hlen : len₂ = len := by rw [hdg] at hd₂; cases hd₂; rfl
    subst hlen
    have hs₂ : s₂ = (({ U with heap := s₂.heap, slotsUsed := s₂.slotsUsed } : State).setVm s₂.vm).setTop { g with pc := g.pc + len₂, stack := v.toList ++ g.stack } := by
      refine e3.trans ?_
      rw [hf₂, State.calling_eq h.top, State.setFrames_setFrames, State.setTop_of_frames _ hr', hr]
      rfl
    have hsame : U.sameButNew ({ U with heap := s₂.heap, slotsUsed := s₂.slotsUsed } : State) L kc kn := by
      refine ⟨?_, q2, q3, q4, q5, q6⟩
      obtain ⟨t, ht, -⟩ := State.frames_cons hr
      show ({ U with heap := s₂.heap, slotsUsed := s₂.slotsUsed } : State) = { U.setFrames U.frames with heap := s₂.heap, slotsUsed := s₂.slotsUsed }
      rw [State.setFrames_self ht]
    subst hg
    refine Or.inl ⟨v, ⟨(({ U with heap := s₂.heap, slotsUsed := s₂.slotsUsed } : State).setVm s₂.vm), Ls ++ L, c0 + kc, s0 + kn⟩,
      ⟨X.admits, X.cas, X.clock, X.frames, X.room, X.hears, X.method, X.code, (X.here.setHeapUsed s₂.heap s₂.slotsUsed).setVm hW'.alike, X.tail, State.WarmedH.trans X.warmed hW', X.limits, X.bytes, X.same.trans (hsame.setVm s.vm)⟩,
      ⟨kc, kn, g, mk, s₂, L, rfl, rfl, hqc, rfl, hL, rfl, rfl⟩, ?_⟩
    show Steps p.tables e below _ ((({ U with heap := s₂.heap, slotsUsed := s₂.slotsUsed } : State).setVm s₂.vm).setTop { g with pc := g.pc + len₂, stack := v.toList ++ g.stack })
    rw [← hs₂]
    exact hsteps
  · obtain ⟨e2, q2, q3, q4, q5, q6⟩ := id hsm
    have e3 : s₂ = ({ (U.calling g mk a).setFrames s₂.frames with heap := s₂.heap, slotsUsed := s₂.slotsUsed } : State).setVm s₂.vm := by
      have : s₂ = ({ s₂ with vm := (U.calling g mk a).vm } : State).setVm s₂.vm := rfl
      rw [e2] at this
      exact this
    have hf₂ : s₂.frames = .throwing a0 :: .java g :: U.frames.tail := hend
    have hW' : U.WarmedH s₂.vm := hW₂
    have hs₂ : s₂ = ((({ U with heap := s₂.heap, slotsUsed := s₂.slotsUsed } : State).setVm s₂.vm).setTop g).pushFrame (.throwing a0) := by
      refine e3.trans ?_
      rw [hf₂, State.calling_eq h.top, State.setFrames_setFrames, State.pushFrame, State.frames_setTop _ hr', State.setTop_of_frames _ hr', State.setFrames_setFrames, hr]
      rfl
    have hsame : U.sameButNew ({ U with heap := s₂.heap, slotsUsed := s₂.slotsUsed } : State) L kc kn := by
      refine ⟨?_, q2, q3, q4, q5, q6⟩
      obtain ⟨t, ht, -⟩ := State.frames_cons hr
      show ({ U with heap := s₂.heap, slotsUsed := s₂.slotsUsed } : State) = { U.setFrames U.frames with heap := s₂.heap, slotsUsed := s₂.slotsUsed }
      rw [State.setFrames_self ht]
    subst hg
    refine Or.inr ⟨a0, ⟨(({ U with heap := s₂.heap, slotsUsed := s₂.slotsUsed } : State).setVm s₂.vm), Ls ++ L, c0 + kc, s0 + kn⟩,
      ⟨X.admits, X.cas, X.clock, X.frames, X.room, X.hears, X.method, X.code, (X.here.setHeapUsed s₂.heap s₂.slotsUsed).setVm hW'.alike, X.tail, State.WarmedH.trans X.warmed hW', X.limits, X.bytes, X.same.trans (hsame.setVm s.vm)⟩,
      ⟨kc, kn, rfl, g, mk, s₂, L, E, ce, rfl, rfl, hx, hce, hcv, hcl, rfl, hL, rfl, rfl⟩, ?_⟩
    show Steps p.tables e below _ (((({ U with heap := s₂.heap, slotsUsed := s₂.slotsUsed } : State).setVm s₂.vm).setTop g).pushFrame (.throwing a0))
    rw [← hs₂]
    exact hsteps
theorem vw_runVX {hh : List (Nat × Nat × Nat × Nat)} {a0 : Addr} {p : Program} {l : Launch} {e : Env} {R : Room} {s : State} {m : MethodId} {args : Array Value} {below : List Frame} {meth : Method} {c : Code} {H : Heap} {locs : List Loc} {cells slots : Nat} {y : MethodName} {bytes cc : ByteArray} {maxL nL mc ms n index : Nat} {ret : Option FieldType} {ws : List Cond} {rm : Room} {Pc : Array Value → State → Prop} {Qc : Nat → Nat → Array Value → State → Outcome → State → Prop} {XC : Nat → Nat → String → State → State → Prop} {free : Addr → Prop} {Ts : List Cond} {own C : String} {b : Addr} {As rest : List Value} {g : JFrame} (S : CallFix p m c cc nL s args Ts own) (hM : vw_Met a0 l y ws rm Pc Qc XC free) (cw : vx_CVW R s args own C index y bytes maxL ret hh ws rm mc ms n) (hp : PreV s H C b Pc As)
    (hg : g.method = m) (hn : As.length = n) (hsize : g.locals.size = nL) (hstack : g.stack = As.reverse ++ .ref b :: rest) (hW : 2 * g.monitorRoom + (rest.map fun v => v.category).sum ≤ 8) (hdg : decode cc g.pc = .ok (.invokevirtual index, 3)) (hf : cells + mc ≤ R.cells ∧ slots + ms ≤ R.slots) :
    vw_Run a0 p l e R s m args below meth c H locs cells slots g rest (fun kc kn => Qc kc kn (Value.ref b :: As).toArray) XC free := by
  obtain ⟨⟨hrc, hrs, hfr, hlo, hws, hcw⟩, hcode, hini, hy, hlen, hl, hin, hse⟩ := cw
  have hK : vx_Back l R p e below s args y 3 8 (PreOf R mc ms Pc) (vw_Po Qc free) (vw_Px a0 XC free) := vw_backW (hh := hh) (bytes := bytes) (maxL := maxL) (ret := ret) hM hp.1 hrc hrs hfr hlo hws hcw (fun a' U hW => word_at hW (Or.inl (by first | rfl | simp [Cond.onTables, Cond.keeps, Cond.steady])) hini)
  obtain ⟨hx, hb, hml, ho, -⟩ := S
  obtain ⟨-, ⟨cellB, hcB, hoB, hclB⟩, hPc⟩ := hp
  intro T hT X
  rcases vx_callVX X hx (C := C) (hh := hh) (bytes := bytes) (maxL := maxL) (ret := ret) ho hl hin hse hcode hy hK (by rw [hT]; exact hcB) hoB hclB hg (hsize.trans hml.symm) (argsL := As) (rest := rest) (fun sig h => hn.trans (hlen sig h)) hstack hW (by rw [hb]; exact hdg)
    (fun vm₁ hW₁ => ⟨hf.1, hf.2, hPc (T.setVm vm₁) hT hW₁⟩) with ⟨v, vm₁, ⟨U', l2, c2, s2⟩, hW₁, X', ⟨kc, kn, g', mk, t, L, e1, e2, hq, h1, hL, h2, h3⟩, st⟩ | ⟨q, vm₁, ⟨U', l2, c2, s2⟩, hW₁, X', ⟨kc, kn, rfl, g', mk, t, L, E, ce, e1, e2, hq, hce, hcv, hcl, h1, hL, h2, h3⟩, st⟩
  · dsimp only [Pt.U, Pt.locs, Pt.cells, Pt.slots] at X' e1 e2 h1 h2 h3 st
    subst h1; subst h2; subst h3
    exact Or.inl ⟨kc, kn, v, (T.setVm vm₁).calling g' mk (Value.ref b :: As).toArray, t, U', L, hT, X', hL, e1, e2, hq, st⟩
  · dsimp only [Pt.U, Pt.locs, Pt.cells, Pt.slots] at X' e1 e2 h1 h2 h3 st hcl
    subst h1; subst h2; subst h3
    exact Or.inr ⟨kc, kn, (T.setVm vm₁).calling g' mk (Value.ref b :: As).toArray, t, U', L, E, ce, hT, X', hL, e1, e2, hq, hce, hcv, vx_cls hW₁ hcl, st⟩
theorem vw_ofWH {a0 : Addr} {l : Launch} {y : MethodName} {ws ws' : List Cond} {rm : Room} {Pc : Array Value → State → Prop} {Qc : Nat → Nat → Array Value → State → Outcome → State → Prop} {XC : Nat → Nat → String → State → State → Prop} {free : Addr → Prop} {cc : ByteArray} {maxL : Nat} {ret : Option FieldType} {hh : List (Nat × Nat × Nat × Nat)}
    (hy : plainName y.cls = true) (hw : ws = Cond.codeWith y cc maxL ret hh :: ws')
    (body : ∀ p e s m args below meth c s₁, BodyLoose p l y (headSpec ws rm) cc maxL ret e s m args below meth c s₁ → c.maxLocals = maxL → Pc args s →
      W p l e (headSpec ws rm).room s m args below meth c s.heap [] 0 0 (vw_MQ a0 below Qc XC args s free) (entryFrame m args maxL)) : vw_Met a0 l y ws rm Pc Qc XC free := by
  refine MetFree.of_bodyS (code := cc) (maxLocals := maxL) (ret := ret) hy ?_ ?_
  · intro args s m h hn
    obtain ⟨m9, meth, c, hn9, h1, h2, h3, h4, -, h5, h6, -⟩ := Cond.codeWith_spec (atoms_spec (ws := ws) h _ (by rw [hw]; exact List.mem_cons_self))
    cases hn.symm.trans hn9
    exact ⟨meth, c, h1, h2, h3, h4, h5, h6⟩
  · intro p e s m args below meth c s₁ B hml hP _
    have hh0 : s₁.heap = s.heap := by rw [B.state]; rfl
    obtain ⟨t, a1, o, b1, b2, b3⟩ := body p e s m args below meth c s₁ B hml hP s₁ hh0 (Stand.of_body B)
    exact ⟨t, o, a1, b1, b2, b3⟩
/-- rows that grow: how many, of what length -/
def zG (z : Nat) : Nat := z / 32
theorem zG_2 {z z2 : Nat} (h : 64 ≤ z) (e : z2 = 2 * z) : zG z + 2 ≤ zG z2 := by unfold zG; omega
theorem zG_le {z : Nat} : 32 * zG z ≤ z := by unfold zG; omega

end
section
/-! the reference's cells: counted ones, or plain ones -/
def zHw (fd gk : Nat → Int32) : Nat → Nat := fun d => (fd (Int32.toNatClampNeg (gk d))).toInt.toNat
/-- a value that may be had -/
def zHv (kz : Int32) (fd : Nat → Int32) (v : Int64) : Prop := zhs v = 0 ∨ (zhs v = 1 ∧ 0 ≤ v.toInt32.toInt ∧ v.toInt32.toInt < kz.toInt ∧ (fd (Int32.toNatClampNeg v.toInt32)).toInt = 0) ∨ (zhs v = 2 ∧ 0 ≤ v.toInt32.toInt)
def zHk (kz : Int32) (fd gk : Nat → Int32) (gv : Nat → Int64) (lv : Nat → Bool) : Prop := ∀ d, lv d = true → 0 ≤ (gk d).toInt ∧ (gk d).toInt < kz.toInt ∧ 1 ≤ (fd (Int32.toNatClampNeg (gk d))).toInt ∧ (fd (Int32.toNatClampNeg (gk d))).toInt ≤ 3 ∧ ∀ k, k < zHw fd gk d → zHv kz fd (gv (3 * d + k))
/-- the free cells and the shells: none lives, no two alike -/
def zHD (lv : Nat → Bool) (fr sh : Nat → Int32) (fc sc : Int) : Prop :=
  (∀ i : Nat, (i : Int) < fc → 0 ≤ (fr i).toInt ∧ (fr i).toInt < 400 ∧ lv (Int32.toNatClampNeg (fr i)) = false) ∧ (∀ i j : Nat, i < j → (j : Int) < fc → (fr i).toInt ≠ (fr j).toInt) ∧
  (∀ i : Nat, (i : Int) < sc → 0 ≤ (sh i).toInt ∧ (sh i).toInt < 400 ∧ lv (Int32.toNatClampNeg (sh i)) = false) ∧ (∀ i j : Nat, i < j → (j : Int) < sc → (sh i).toInt ≠ (sh j).toInt) ∧ (∀ i j : Nat, (i : Int) < fc → (j : Int) < sc → (fr i).toInt ≠ (sh j).toInt)
/-- cell x is none of them -/
def zHn (fr sh : Nat → Int32) (fc sc : Int) (x : Nat) : Prop := (∀ i : Nat, (i : Int) < fc → (fr i).toInt ≠ (x : Int)) ∧ ∀ i : Nat, (i : Int) < sc → (sh i).toInt ≠ (x : Int)
def zH (pl kz : Int32) (fd gk gc : Nat → Int32) (gv : Nat → Int64) (lv : Nat → Bool) (R : Nat → Int) (db : Int) (fr sh : Nat → Int32) (fc sc np : Int) : Prop :=
  zHk kz fd gk gv lv ∧ (∀ c, 0 ≤ R c) ∧ (∀ c, lv c = false → R c = 0) ∧ 0 ≤ fc ∧ 0 ≤ sc ∧ 0 ≤ db ∧
  ((pl.toInt = 0 ∧ zI zr 400 lv (zHw fd gk) gv (fun c => (gc c).toInt) R db ∧ zHD lv fr sh fc sc) ∨
   (pl.toInt ≠ 0 ∧ 0 ≤ np ∧ np ≤ 4000 ∧ (∀ c : Nat, lv c = true ↔ (c : Int) < np) ∧ ∀ d, lv d = true → ∀ k, k < zHw fd gk d → zhs (gv (3 * d + k)) = 2 → lv (Int32.toNatClampNeg (gv (3 * d + k)).toInt32) = true))
theorem zcf_w {wd wd2 : Nat → Nat} {gv : Nat → Int64} {d c : Nat} (h : wd d = wd2 d) : zcf zr wd gv d c = zcf zr wd2 gv d c := by unfold zcf; rw [h]
theorem zinj {m n : Nat} {f : Nat → Nat} (h1 : ∀ i, i < n → f i < m) (h2 : ∀ i j, i < j → j < n → f i ≠ f j) : n ≤ m := by
  have := zlen m (L := (List.range n).map f) (by
    show List.Pairwise _ _
    rw [List.pairwise_map]
    exact List.Pairwise.imp_of_mem (fun {a b} ha hb hlt => h2 a b hlt (List.mem_range.mp hb)) List.pairwise_lt_range) (fun x hx => by
    obtain ⟨i, hi, rfl⟩ := List.mem_map.mp hx
    exact h1 i (List.mem_range.mp hi))
  rw [List.length_map, List.length_range] at this
  exact this
theorem zHD_room {lv : Nat → Bool} {fr sh : Nat → Int32} {fc sc : Int} (h : zHD lv fr sh fc sc) (h0 : 0 ≤ fc) (h1 : 0 ≤ sc) : fc + sc ≤ 400 := by
  have := zinj (m := 400) (n := (fc + sc).toNat) (f := fun i => if (i : Int) < fc then (fr i).toInt.toNat else (sh (i - fc.toNat)).toInt.toNat) (fun i hi => by
    show (if (i : Int) < fc then _ else _) < 400
    split
    · have := h.1 i (by omega); omega
    · have := h.2.2.1 (i - fc.toNat) (by omega); omega) (fun i j hij hj => by
    show (if (i : Int) < fc then (fr i).toInt.toNat else (sh (i - fc.toNat)).toInt.toNat) ≠ (if (j : Int) < fc then (fr j).toInt.toNat else (sh (j - fc.toNat)).toInt.toNat)
    by_cases a : (j : Int) < fc
    · have a' : (i : Int) < fc := by omega
      rw [if_pos a, if_pos a']
      have := h.2.1 i j hij a; have := h.1 i a'; have := h.1 j a; omega
    · rw [if_neg a]
      have b := h.2.2.1 (j - fc.toNat) (by omega)
      by_cases a' : (i : Int) < fc
      · rw [if_pos a']
        have := h.2.2.2.2 i (j - fc.toNat) a' (by omega); have := h.1 i a'; omega
      · rw [if_neg a']
        have := h.2.2.2.1 (i - fc.toNat) (j - fc.toNat) (by omega) (by omega); have := h.2.2.1 (i - fc.toNat) (by omega); omega)
  omega
theorem zHD_free {lv : Nat → Bool} {fr sh fr2 : Nat → Int32} {fc sc : Int} {x : Nat} {y : Int32} (h : zHD lv fr sh fc sc) (h0 : 0 ≤ fc) (hx : lv x = false) (hx4 : x < 400) (hn : zHn fr sh fc sc x) (ey : y.toInt = (x : Int)) (e : fr2 = upd fr fc.toNat y) : zHD lv fr2 sh (fc + 1) sc := by
  have es : fr2 fc.toNat = y := by rw [e, zu_s]
  have en : ∀ i, i ≠ fc.toNat → fr2 i = fr i := fun i hi => by rw [e, zu_n hi]
  refine ⟨fun i hi => ?_, fun i j hij hj => ?_, h.2.2.1, h.2.2.2.1, fun i j hi hj => ?_⟩
  · by_cases g : i = fc.toNat
    · rw [g, es]
      have := zn_nat (x := y) (by omega)
      refine ⟨by omega, by omega, ?_⟩
      rw [show Int32.toNatClampNeg y = x by omega]; exact hx
    · rw [en i g]; exact h.1 i (by omega)
  · have g1 : i ≠ fc.toNat := by omega
    rw [en i g1]
    by_cases g : j = fc.toNat
    · rw [g, es, ey]; exact hn.1 i (by omega)
    · rw [en j g]; exact h.2.1 i j hij (by omega)
  · by_cases g : i = fc.toNat
    · rw [g, es, ey]; exact fun u => hn.2 j hj u.symm
    · rw [en i g]; exact h.2.2.2.2 i j (by omega) hj
theorem zHD_shell {lv : Nat → Bool} {fr sh sh2 : Nat → Int32} {fc sc : Int} {x : Nat} {y : Int32} (h : zHD lv fr sh fc sc) (h0 : 0 ≤ sc) (hx : lv x = false) (hx4 : x < 400) (hn : zHn fr sh fc sc x) (ey : y.toInt = (x : Int)) (e : sh2 = upd sh sc.toNat y) : zHD lv fr sh2 fc (sc + 1) := by
  have es : sh2 sc.toNat = y := by rw [e, zu_s]
  have en : ∀ i, i ≠ sc.toNat → sh2 i = sh i := fun i hi => by rw [e, zu_n hi]
  refine ⟨h.1, h.2.1, fun i hi => ?_, fun i j hij hj => ?_, fun i j hi hj => ?_⟩
  · by_cases g : i = sc.toNat
    · rw [g, es]
      have := zn_nat (x := y) (by omega)
      refine ⟨by omega, by omega, ?_⟩
      rw [show Int32.toNatClampNeg y = x by omega]; exact hx
    · rw [en i g]; exact h.2.2.1 i (by omega)
  · have g1 : i ≠ sc.toNat := by omega
    rw [en i g1]
    by_cases g : j = sc.toNat
    · rw [g, es, ey]; exact hn.2 i (by omega)
    · rw [en j g]; exact h.2.2.2.1 i j hij (by omega)
  · by_cases g : j = sc.toNat
    · rw [g, es, ey]; exact hn.1 i hi
    · rw [en j g]; exact h.2.2.2.2 i j hi (by omega)
/-- one shell is taken out, those behind it move up -/
theorem zHD_out {lv : Nat → Bool} {fr sh sh2 : Nat → Int32} {fc sc : Int} {k : Nat} (h : zHD lv fr sh fc sc) (hk : (k : Int) < sc) (e1 : ∀ i, i < k → sh2 i = sh i) (e2 : ∀ i : Nat, k ≤ i → (i : Int) < sc - 1 → sh2 i = sh (i + 1)) : zHD lv fr sh2 fc (sc - 1) ∧ zHn fr sh2 fc (sc - 1) (Int32.toNatClampNeg (sh k)) ∧ 0 ≤ (sh k).toInt ∧ (sh k).toInt < 400 ∧ lv (Int32.toNatClampNeg (sh k)) = false := by
  have hs := h.2.2.1 k hk
  have hn := zn_nat hs.1
  have eq : ∀ i : Nat, (i : Int) < sc - 1 → ∃ i2 : Nat, (i2 : Int) < sc ∧ sh2 i = sh i2 ∧ i2 ≠ k ∧ (i < k → i2 = i) ∧ (k ≤ i → i2 = i + 1) := fun i hi => by
    rcases Nat.lt_or_ge i k with g | g
    · exact ⟨i, by omega, e1 i g, by omega, fun _ => rfl, fun u => absurd u (by omega)⟩
    · exact ⟨i + 1, by omega, e2 i g hi, by omega, fun u => absurd u (by omega), fun _ => rfl⟩
  refine ⟨⟨h.1, h.2.1, fun i hi => ?_, fun i j hij hj => ?_, fun i j hi hj => ?_⟩, ⟨fun i hi => ?_, fun i hi => ?_⟩, hs.1, hs.2.1, hs.2.2⟩
  · obtain ⟨i2, a, b, -⟩ := eq i hi
    rw [b]; exact h.2.2.1 i2 a
  · obtain ⟨i2, a, b, -, a1, a2⟩ := eq i (by omega)
    obtain ⟨j2, c, d, -, c1, c2⟩ := eq j hj
    rw [b, d]
    refine h.2.2.2.1 i2 j2 ?_ c
    rcases Nat.lt_or_ge i k with g | g
    · rw [a1 g]
      rcases Nat.lt_or_ge j k with g2 | g2
      · rw [c1 g2]; exact hij
      · rw [c2 g2]; omega
    · rw [a2 g, c2 (by omega)]; omega
  · obtain ⟨j2, c, d, -⟩ := eq j hj
    rw [d]; exact h.2.2.2.2 i j2 hi c
  · have := h.2.2.2.2 i k hi hk; omega
  · obtain ⟨i2, a, b, c, -⟩ := eq i hi
    rw [b]
    rcases Nat.lt_or_ge i2 k with g | g
    · have := h.2.2.2.1 i2 k g hk; omega
    · have := h.2.2.2.1 k i2 (by omega) a; omega
/-- the last free cell is taken -/
theorem zHD_take {lv : Nat → Bool} {fr sh : Nat → Int32} {fc sc : Int} {k : Nat} (h : zHD lv fr sh fc sc) (hk : (k : Int) = fc - 1) : zHD lv fr sh (fc - 1) sc ∧ zHn fr sh (fc - 1) sc (Int32.toNatClampNeg (fr k)) ∧ 0 ≤ (fr k).toInt ∧ (fr k).toInt < 400 ∧ lv (Int32.toNatClampNeg (fr k)) = false := by
  have hs := h.1 k (by omega)
  have hn := zn_nat hs.1
  refine ⟨⟨fun i hi => h.1 i (by omega), fun i j hij hj => h.2.1 i j hij (by omega), h.2.2.1, h.2.2.2.1, fun i j hi hj => h.2.2.2.2 i j (by omega) hj⟩, ⟨fun i hi => ?_, fun i hi => ?_⟩, hs.1, hs.2.1, hs.2.2⟩
  · have := h.2.1 i k (by omega) (by omega); omega
  · have := h.2.2.2.2 k i (by omega) hi; omega
theorem zHD_lv {lv lv2 : Nat → Bool} {fr sh : Nat → Int32} {fc sc : Int} (h : zHD lv fr sh fc sc) (h1 : ∀ x, lv x = false → zHn fr sh fc sc x ∨ lv2 x = false) : zHD lv2 fr sh fc sc := by
  refine ⟨fun i hi => ?_, h.2.1, fun i hi => ?_, h.2.2.2.1, h.2.2.2.2⟩
  · have g := h.1 i hi
    have hn := zn_nat g.1
    refine ⟨g.1, g.2.1, ?_⟩
    rcases h1 _ g.2.2 with u | u
    · exact (u.1 i hi (by omega)).elim
    · exact u
  · have g := h.2.2.1 i hi
    have hn := zn_nat g.1
    refine ⟨g.1, g.2.1, ?_⟩
    rcases h1 _ g.2.2 with u | u
    · exact (u.2 i hi (by omega)).elim
    · exact u
theorem zHD_n {lv : Nat → Bool} {fr sh : Nat → Int32} {fc sc : Int} {x : Nat} (h : zHD lv fr sh fc sc) (hx : lv x = true) : zHn fr sh fc sc x := by
  refine ⟨fun i hi u => ?_, fun i hi u => ?_⟩
  · have g := h.1 i hi
    have hn := zn_nat g.1
    rw [show Int32.toNatClampNeg (fr i) = x by omega, hx] at g; exact Bool.noConfusion g.2.2
  · have g := h.2.2.1 i hi
    have hn := zn_nat g.1
    rw [show Int32.toNatClampNeg (sh i) = x by omega, hx] at g; exact Bool.noConfusion g.2.2
theorem zHD_full {lv : Nat → Bool} {fr sh : Nat → Int32} {fc sc : Int} {x : Nat} (h : zHD lv fr sh fc sc) (h0 : 0 ≤ fc) (h1 : 0 ≤ sc) (hn : zHn fr sh fc sc x) (hx4 : x < 400) (hx : lv x = false) : fc + sc < 400 := by
  have hv : (Int32.ofNat x).toInt = (x : Int) := by
    rw [show Int32.ofNat x = Int32.ofInt (x : Int) from rfl, Int32.toInt_ofInt_of_le (by omega) (by omega)]
  have := zHD_room (zHD_free h h0 hx hx4 hn hv rfl) (by omega) h1
  omega
/-- a field of a cell that lives leads to one that lives -/
theorem zH_fl {pl kz : Int32} {fd gk gc : Nat → Int32} {gv : Nat → Int64} {lv : Nat → Bool} {R : Nat → Int} {db : Int} {fr sh : Nat → Int32} {fc sc np : Int} (h : zH pl kz fd gk gc gv lv R db fr sh fc sc np) {x k : Nat} (hx : lv x = true) (hk : k < zHw fd gk x) (h2 : zhs (gv (3 * x + k)) = 2) : lv (Int32.toNatClampNeg (gv (3 * x + k)).toInt32) = true := by
  obtain ⟨hK, -, -, -, -, -, g⟩ := h
  rcases g with ⟨-, hI, -⟩ | ⟨-, -, -, -, g⟩
  · have hge : 0 ≤ (gv (3 * x + k)).toInt32.toInt := by
      rcases (hK x hx).2.2.2.2 k hk with u | u | u
      · rw [h2] at u; exact absurd u (by decide)
      · rw [h2] at u; exact absurd u.1 (by decide)
      · exact u.2
    cases e : lv (Int32.toNatClampNeg (gv (3 * x + k)).toInt32) with
    | true => rfl
    | false =>
      exfalso
      have t := (hI.2.1 _ e).2
      have u := zct_ge zr_0 (wd := zHw fd gk) (gv := gv) (c := Int32.toNatClampNeg (gv (3 * x + k)).toInt32) (hI.1 x hx).1 hx
      have v := zs_ge (f := fun k' => zr (gv (3 * x + k')) (Int32.toNatClampNeg (gv (3 * x + k)).toInt32)) (n := zHw fd gk x) (x := k) (fun _ _ => zr_0 _ _) hk
      have v : zr (gv (3 * x + k)) (Int32.toNatClampNeg (gv (3 * x + k)).toInt32) ≤ zcf zr (zHw fd gk) gv x (Int32.toNatClampNeg (gv (3 * x + k)).toInt32) := v
      rw [zr_c h2 hge, if_pos rfl] at v
      omega
  · exact g x hx k hk h2
/-- a value that is held: its cell lives -/
theorem zH_lv {pl kz : Int32} {fd gk gc : Nat → Int32} {gv : Nat → Int64} {lv : Nat → Bool} {R : Nat → Int} {db : Int} {fr sh : Nat → Int32} {fc sc np : Int} (h : zH pl kz fd gk gc gv lv R db fr sh fc sc np) {x : Nat} (hx : 1 ≤ R x) : lv x = true := by
  cases e : lv x with
  | true => rfl
  | false => have := h.2.2.1 x e; omega
/-- where a cell that lives lies, and what stands there -/
theorem zH_at {pl kz : Int32} {fd gk gc : Nat → Int32} {gv : Nat → Int64} {lv : Nat → Bool} {R : Nat → Int} {db : Int} {fr sh : Nat → Int32} {fc sc np : Int} (h : zH pl kz fd gk gc gv lv R db fr sh fc sc np) {x : Nat} (hx : lv x = true) : (x < 4000 ∧ 0 ≤ (gk x).toInt ∧ (gk x).toInt < kz.toInt ∧ 1 ≤ (fd (Int32.toNatClampNeg (gk x))).toInt ∧ (fd (Int32.toNatClampNeg (gk x))).toInt ≤ 3) ∧ (pl.toInt = 0 → x < 400 ∧ 1 ≤ (gc x).toInt ∧ (gc x).toInt ≤ db + 1) := by
  obtain ⟨hK, -, -, -, -, -, g⟩ := h
  have k := hK x hx
  rcases g with ⟨-, hI, -⟩ | ⟨g0, g1, g2, g3, -⟩
  · have := hI.1 x hx
    exact ⟨⟨by omega, k.1, k.2.1, k.2.2.1, k.2.2.2.1⟩, fun _ => ⟨this.1, this.2.1, this.2.2.1⟩⟩
  · have := (g3 x).mp hx
    exact ⟨⟨by omega, k.1, k.2.1, k.2.2.1, k.2.2.2.1⟩, fun u => absurd u g0⟩
theorem zH_leak {pl kz : Int32} {fd gk gc : Nat → Int32} {gv : Nat → Int64} {lv : Nat → Bool} {R R2 : Nat → Int} {db : Int} {fr sh : Nat → Int32} {fc sc np : Int} (h : zH pl kz fd gk gc gv lv R db fr sh fc sc np) (h1 : ∀ c, R2 c ≤ R c) (h2 : ∀ c, 0 ≤ R2 c) : zH pl kz fd gk gc gv lv R2 db fr sh fc sc np := by
  obtain ⟨hK, hR, hl, a, b, d, g⟩ := h
  refine ⟨hK, h2, fun c hc => ?_, a, b, d, ?_⟩
  · have := hl c hc; have := h1 c; have := h2 c; omega
  · rcases g with ⟨p, hI, q⟩ | g
    · exact Or.inl ⟨p, zI_leak hI h1 h2, q⟩
    · exact Or.inr g
/-- a value is doubled: it is no cell, or the cells are plain -/
theorem zH_cp0 {pl kz : Int32} {fd gk gc : Nat → Int32} {gv : Nat → Int64} {lv : Nat → Bool} {R : Nat → Int} {db : Int} {fr sh : Nat → Int32} {fc sc np : Int} {v : Int64} (h : zH pl kz fd gk gc gv lv R db fr sh fc sc np) (hv : zhs v ≠ 2 ∨ pl.toInt ≠ 0) (hl : zhs v = 2 → 0 ≤ v.toInt32.toInt ∧ lv (Int32.toNatClampNeg v.toInt32) = true) : zH pl kz fd gk gc gv lv (fun c => R c + zr v c) db fr sh fc sc np := by
  obtain ⟨hK, hR, hF, a, b, d, g⟩ := h
  refine ⟨hK, fun c => ?_, fun c hc => ?_, a, b, d, ?_⟩
  · have := hR c; have := zr_0 v c; show 0 ≤ R c + zr v c; omega
  · have u := hF c hc
    show R c + zr v c = 0
    by_cases e : zhs v = 2
    · rw [zr_c e (hl e).1]
      have : c ≠ Int32.toNatClampNeg v.toInt32 := fun w => by rw [w, (hl e).2] at hc; exact Bool.noConfusion hc
      rw [if_neg this]; omega
    · rw [zr_n e]; omega
  · rcases g with ⟨p, hI, q⟩ | g
    · have e : zhs v ≠ 2 := hv.resolve_right (fun u => u p)
      have e2 : (fun c => R c + zr v c : Nat → Int) = R := by funext c; rw [zr_n e]; omega
      rw [e2]; exact Or.inl ⟨p, hI, q⟩
    · exact Or.inr g
/-- a counted cell's value is doubled -/
theorem zH_cp1 {pl kz : Int32} {fd gk gc gc2 : Nat → Int32} {gv : Nat → Int64} {lv : Nat → Bool} {R : Nat → Int} {db : Int} {fr sh : Nat → Int32} {fc sc np : Int} {v : Int64} {w : Int32} (h : zH pl kz fd gk gc gv lv R db fr sh fc sc np) (hp : pl.toInt = 0) (hv : zhs v = 2) (h0 : 0 ≤ v.toInt32.toInt) (hl : lv (Int32.toNatClampNeg v.toInt32) = true) (e : gc2 = upd gc (Int32.toNatClampNeg v.toInt32) w) (ew : w.toInt = (gc (Int32.toNatClampNeg v.toInt32)).toInt + 1) : zH pl kz fd gk gc2 gv lv (fun c => R c + zr v c) (db + 1) fr sh fc sc np := by
  obtain ⟨hK, hR, hF, a, b, d, g⟩ := h
  have e2 : (fun c => R c + zr v c : Nat → Int) = fun c => R c + if c = Int32.toNatClampNeg v.toInt32 then 1 else 0 := by funext c; rw [zr_c hv h0]
  rw [e2]
  rcases g with ⟨p, hI, q⟩ | g
  · have hc := zI_copy (gc2 := fun c => (gc2 c).toInt) (x := Int32.toNatClampNeg v.toInt32) hI hl (by show (gc2 _).toInt = (gc _).toInt + 1; rw [e, zu_s]; exact ew) (fun c hc => by show (gc2 c).toInt = (gc c).toInt; rw [e, zu_n hc]) hR
    exact ⟨hK, hc.2.2, fun c u => (hc.2.1 c u).1, a, b, by omega, Or.inl ⟨p, hc, q⟩⟩
  · exact absurd hp g.1
/-- a reference is let go, and others stay -/
theorem zH_dec {pl kz : Int32} {fd gk gc gc2 : Nat → Int32} {gv : Nat → Int64} {lv : Nat → Bool} {R R2 : Nat → Int} {db : Int} {fr sh : Nat → Int32} {fc sc np : Int} {x : Nat} {w : Int32} (h : zH pl kz fd gk gc gv lv R db fr sh fc sc np) (hp : pl.toInt = 0) (hR : ∀ c, R c = R2 c + if c = x then 1 else 0) (h2 : ∀ c, 0 ≤ R2 c) (e : gc2 = upd gc x w) (ew : w.toInt = (gc x).toInt - 1) (h1 : 1 ≤ w.toInt) : zH pl kz fd gk gc2 gv lv R2 db fr sh fc sc np := by
  obtain ⟨hK, -, hF, a, b, d, g⟩ := h
  rcases g with ⟨p, hI, q⟩ | g
  · have hc := zI_dec (gc2 := fun c => (gc2 c).toInt) (x := x) hI hR h2 (by show (gc2 _).toInt = (gc _).toInt - 1; rw [e, zu_s]; exact ew) (fun c hc => by show (gc2 c).toInt = (gc c).toInt; rw [e, zu_n hc]) (by show 1 ≤ (gc2 x).toInt; rw [e, zu_s]; exact h1)
    exact ⟨hK, h2, fun c u => (hc.2.1 c u).1, a, b, d, Or.inl ⟨p, hc, q⟩⟩
  · exact absurd hp g.1
/-- the last reference is let go: the cell dies, its own references are held -/
theorem zH_die {pl kz : Int32} {fd gk gc gc2 : Nat → Int32} {gv : Nat → Int64} {lv : Nat → Bool} {R R2 : Nat → Int} {db : Int} {fr sh : Nat → Int32} {fc sc np : Int} {x : Nat} (h : zH pl kz fd gk gc gv lv R db fr sh fc sc np) (hp : pl.toInt = 0) (hR : ∀ c, R c = R2 c + if c = x then 1 else 0) (h2 : ∀ c, 0 ≤ R2 c) (h1 : (gc x).toInt ≤ 1) (e : ∀ c, c ≠ x → gc2 c = gc c) : zH pl kz fd gk gc2 gv (fun c => if c = x then false else lv c) (fun c => R2 c + zcf zr (zHw fd gk) gv x c) db fr sh fc sc np ∧ zHn fr sh fc sc x ∧ x < 400 ∧ lv x = true := by
  have hx : lv x = true := zH_lv h (x := x) (by have := hR x; rw [if_pos rfl] at this; have := h2 x; omega)
  have hat := zH_at h hx
  obtain ⟨hK, -, hF, a, b, d, g⟩ := h
  rcases g with ⟨p, hI, q⟩ | g
  · have hc := zI_die zr_0 (lv2 := fun c => if c = x then false else lv c) (gc2 := fun c => (gc2 c).toInt) (x := x) hI hR h2 hx h1 (if_pos rfl) (fun c hc => ⟨if_neg hc, by show (gc2 c).toInt = (gc c).toInt; rw [e c hc]⟩)
    refine ⟨⟨fun c u => hK c ?_, hc.2.2, fun c u => (hc.2.1 c u).1, a, b, d, Or.inl ⟨p, hc, zHD_lv q (fun c u => Or.inr ?_)⟩⟩, zHD_n q hx, (hat.2 hp).1, hx⟩
    · have u : (if c = x then false else lv c) = true := u
      by_cases v : c = x
      · rw [if_pos v] at u; exact Bool.noConfusion u
      · rw [if_neg v] at u; exact u
    · show (if c = x then false else lv c) = false
      split
      · rfl
      · exact u
  · exact absurd hp g.1
theorem zH_gc {pl kz : Int32} {fd gk gc gc2 : Nat → Int32} {gv : Nat → Int64} {lv : Nat → Bool} {R : Nat → Int} {db : Int} {fr sh : Nat → Int32} {fc sc np : Int} (h : zH pl kz fd gk gc gv lv R db fr sh fc sc np) (e : ∀ c, lv c = true → gc2 c = gc c) : zH pl kz fd gk gc2 gv lv R db fr sh fc sc np := by
  obtain ⟨hK, hR, hF, a, b, d, g⟩ := h
  refine ⟨hK, hR, hF, a, b, d, ?_⟩
  rcases g with ⟨p, hI, q⟩ | g
  · exact Or.inl ⟨p, ⟨fun c hc => by show _ ∧ 1 ≤ (gc2 c).toInt ∧ (gc2 c).toInt ≤ _ ∧ _ ≤ (gc2 c).toInt; rw [e c hc]; exact hI.1 c hc, hI.2⟩, q⟩
  · exact Or.inr g
theorem zH_D {pl kz : Int32} {fd gk gc : Nat → Int32} {gv : Nat → Int64} {lv : Nat → Bool} {R : Nat → Int} {db : Int} {fr sh : Nat → Int32} {fc sc np : Int} (h : zH pl kz fd gk gc gv lv R db fr sh fc sc np) (hp : pl.toInt = 0) : zHD lv fr sh fc sc := by
  rcases h.2.2.2.2.2.2 with ⟨_, _, q⟩ | g
  · exact q
  · exact absurd hp g.1
theorem zH_Ds {pl kz : Int32} {fd gk gc : Nat → Int32} {gv : Nat → Int64} {lv : Nat → Bool} {R : Nat → Int} {db : Int} {fr sh fr2 sh2 : Nat → Int32} {fc sc fc2 sc2 np : Int} (h : zH pl kz fd gk gc gv lv R db fr sh fc sc np) (hD : pl.toInt = 0 → zHD lv fr2 sh2 fc2 sc2) (h0 : 0 ≤ fc2) (h1 : 0 ≤ sc2) : zH pl kz fd gk gc gv lv R db fr2 sh2 fc2 sc2 np := by
  obtain ⟨hK, hR, hF, a, b, d, g⟩ := h
  refine ⟨hK, hR, hF, h0, h1, d, ?_⟩
  rcases g with ⟨p, hI, q⟩ | g
  · exact Or.inl ⟨p, hI, hD p⟩
  · exact Or.inr g
/-- a counted cell that is none of them is filled -/
theorem zH_fill {pl kz : Int32} {fd gk gk2 gc gc2 : Nat → Int32} {gv gv2 : Nat → Int64} {lv : Nat → Bool} {R R2 : Nat → Int} {db : Int} {fr sh : Nat → Int32} {fc sc np : Int} {x : Nat} (h : zH pl kz fd gk gc gv lv R db fr sh fc sc np) (hp : pl.toInt = 0) (hx : lv x = false) (hx4 : x < 400) (hn : zHn fr sh fc sc x)
    (ek : ∀ c, c ≠ x → gk2 c = gk c) (ec : ∀ c, c ≠ x → gc2 c = gc c) (e1 : (gc2 x).toInt = 1) (ev : ∀ c, c ≠ x → ∀ k, k < 3 → gv2 (3 * c + k) = gv (3 * c + k)) (k0 : 0 ≤ (gk2 x).toInt) (k1 : (gk2 x).toInt < kz.toInt) (f0 : 1 ≤ (fd (Int32.toNatClampNeg (gk2 x))).toInt) (f1 : (fd (Int32.toNatClampNeg (gk2 x))).toInt ≤ 3)
    (hv : ∀ k, k < zHw fd gk2 x → zHv kz fd (gv2 (3 * x + k))) (hR : ∀ c, R c = R2 c + zcf zr (zHw fd gk2) gv2 x c) (h2 : ∀ c, 0 ≤ R2 c) : zH pl kz fd gk2 gc2 gv2 (fun c => if c = x then true else lv c) (fun c => R2 c + if c = x then 1 else 0) db fr sh fc sc np := by
  obtain ⟨hK, hR0, hF, a, b, d, g⟩ := h
  rcases g with ⟨p, hI, q⟩ | g
  · have ew : ∀ c, c ≠ x → zHw fd gk2 c = zHw fd gk c := fun c hc => by unfold zHw; rw [ek c hc]
    have hlt : ∀ c, c ≠ x → (if c = x then true else lv c) = lv c := fun c hc => if_neg hc
    have w3 : ∀ c, lv c = true → zHw fd gk c ≤ 3 := fun c hc => by
      have := (hK c hc).2.2.2.1
      unfold zHw; omega
    -- cells that don't live: their fields don't matter
    have hI2 : zI zr 400 lv (fun c => if lv c = true then zHw fd gk c else 0) gv (fun c => (gc c).toInt) R db := by
      have e : ∀ c, zct zr 400 lv (fun c => if lv c = true then zHw fd gk c else 0) gv c = zct zr 400 lv (zHw fd gk) gv c := fun c => zs_ext (fun d _ => by
        by_cases u : lv d = true
        · rw [if_pos u, if_pos u]; exact zcf_w (if_pos u)
        · rw [if_neg u, if_neg u])
      exact ⟨fun c hc => by rw [e c]; exact hI.1 c hc, fun c hc => by rw [e c]; exact hI.2.1 c hc, hI.2.2⟩
    have hc := zI_fill zr_0 (lv2 := fun c => if c = x then true else lv c) (wd2 := fun c => if c = x then zHw fd gk2 x else if lv c = true then zHw fd gk c else 0) (gv2 := gv2) (gc2 := fun c => (gc2 c).toInt) (x := x) (R2 := R2) hI2 d hx hx4 (if_pos rfl) e1 (fun c hc => ⟨if_neg hc, by show (gc2 c).toInt = (gc c).toInt; rw [ec c hc], if_neg hc, fun k hk => by
        by_cases u : lv c = true
        · have hk : k < (if lv c = true then zHw fd gk c else 0) := hk
          rw [if_pos u] at hk
          exact ev c hc k (by have := w3 c u; omega)
        · have hk : k < (if lv c = true then zHw fd gk c else 0) := hk
          rw [if_neg u] at hk; omega⟩) (fun c => by
        rw [hR c]; exact congrArg (R2 c + ·) (zcf_w (if_pos rfl).symm)) h2
    have e3 : ∀ c, zct zr 400 (fun c => if c = x then true else lv c) (fun c => if c = x then zHw fd gk2 x else if lv c = true then zHw fd gk c else 0) gv2 c = zct zr 400 (fun c => if c = x then true else lv c) (zHw fd gk2) gv2 c := fun c => zs_ext (fun d _ => by
      by_cases u : d = x
      · show (if (if d = x then true else lv d) = true then _ else _) = (if (if d = x then true else lv d) = true then _ else _)
        rw [if_pos u, if_pos rfl, if_pos rfl]; exact zcf_w ((if_pos u).trans (by rw [u]))
      · show (if (if d = x then true else lv d) = true then _ else _) = (if (if d = x then true else lv d) = true then _ else _)
        rw [if_neg u]
        by_cases w : lv d = true
        · rw [if_pos w, if_pos w]; exact zcf_w (((if_neg u).trans (if_pos w)).trans (ew d u).symm)
        · rw [if_neg w, if_neg w])
    refine ⟨fun c u => ?_, hc.2.2, fun c u => (hc.2.1 c u).1, a, b, d, Or.inl ⟨p, ⟨fun c u => by rw [← e3 c]; exact hc.1 c u, fun c u => by rw [← e3 c]; exact hc.2.1 c u, hc.2.2⟩, zHD_lv q (fun c u => ?_)⟩⟩
    · by_cases v : c = x
      · rw [v]; exact ⟨k0, k1, f0, f1, hv⟩
      · have u : (if c = x then true else lv c) = true := u
        rw [if_neg v] at u
        have t := hK c u
        rw [ek c v, ew c v]
        exact ⟨t.1, t.2.1, t.2.2.1, t.2.2.2.1, fun k hk => by rw [ev c v k (by have := w3 c u; omega)]; exact t.2.2.2.2 k hk⟩
    · by_cases v : c = x
      · rw [v]; exact Or.inl hn
      · refine Or.inr ?_
        show (if c = x then true else lv c) = false
        rw [if_neg v]; exact u
  · exact absurd hp g.1
/-- the next plain cell is filled -/
theorem zH_fillp {pl kz : Int32} {fd gk gk2 gc gc2 : Nat → Int32} {gv gv2 : Nat → Int64} {lv : Nat → Bool} {R R2 : Nat → Int} {db : Int} {fr sh : Nat → Int32} {fc sc np np2 : Int} {x : Nat} (h : zH pl kz fd gk gc gv lv R db fr sh fc sc np) (hp : pl.toInt ≠ 0) (hx : (x : Int) = np) (hx4 : x < 4000) (en : np2 = np + 1)
    (ek : ∀ c, c ≠ x → gk2 c = gk c) (ev : ∀ c, c ≠ x → ∀ k, k < 3 → gv2 (3 * c + k) = gv (3 * c + k)) (k0 : 0 ≤ (gk2 x).toInt) (k1 : (gk2 x).toInt < kz.toInt) (f0 : 1 ≤ (fd (Int32.toNatClampNeg (gk2 x))).toInt) (f1 : (fd (Int32.toNatClampNeg (gk2 x))).toInt ≤ 3)
    (hv : ∀ k, k < zHw fd gk2 x → zHv kz fd (gv2 (3 * x + k))) (hR : ∀ c, R c = R2 c + zcf zr (zHw fd gk2) gv2 x c) (h2 : ∀ c, 0 ≤ R2 c) : zH pl kz fd gk2 gc2 gv2 (fun c => if c = x then true else lv c) (fun c => R2 c + if c = x then 1 else 0) db fr sh fc sc np2 := by
  obtain ⟨hK, hR0, hF, a, b, d, g⟩ := h
  rcases g with ⟨p, hI, q⟩ | ⟨-, g1, g2, g3, g4⟩
  · exact absurd p hp
  · have ew : ∀ c, c ≠ x → zHw fd gk2 c = zHw fd gk c := fun c hc => by unfold zHw; rw [ek c hc]
    have w3 : ∀ c, lv c = true → zHw fd gk c ≤ 3 := fun c hc => by
      have := (hK c hc).2.2.2.1
      unfold zHw; omega
    have hmono : ∀ c, lv c = true → (if c = x then true else lv c) = true := fun c u => by split <;> first | rfl | exact u
    have hRl : ∀ c, 1 ≤ R c → lv c = true := fun c u => by
      cases e : lv c with
      | true => rfl
      | false => have := hF c e; omega
    refine ⟨fun c u => ?_, fun c => ?_, fun c u => ?_, a, b, d, Or.inr ⟨hp, by omega, by omega, fun c => ?_, fun c u k hk h2' => ?_⟩⟩
    · by_cases v : c = x
      · rw [v]; exact ⟨k0, k1, f0, f1, hv⟩
      · have u : (if c = x then true else lv c) = true := u
        rw [if_neg v] at u
        have t := hK c u
        rw [ek c v, ew c v]
        exact ⟨t.1, t.2.1, t.2.2.1, t.2.2.2.1, fun k hk => by rw [ev c v k (by have := w3 c u; omega)]; exact t.2.2.2.2 k hk⟩
    · have := h2 c
      show 0 ≤ R2 c + (if c = x then 1 else 0)
      split <;> omega
    · have u : (if c = x then true else lv c) = false := u
      by_cases v : c = x
      · rw [if_pos v] at u; exact Bool.noConfusion u
      · rw [if_neg v] at u
        show R2 c + (if c = x then 1 else 0) = 0
        rw [if_neg v]
        have := hF c u; have := hR c; have := h2 c; have := zcf_0 zr_0 (wd := zHw fd gk2) (gv := gv2) (d := x) (c := c)
        omega
    · show (if c = x then true else lv c) = true ↔ _
      by_cases v : c = x
      · rw [if_pos v]; exact ⟨fun _ => by omega, fun _ => rfl⟩
      · rw [if_neg v, g3 c]; exact ⟨fun _ => by omega, fun _ => by omega⟩
    · by_cases v : c = x
      · rw [v] at hk h2' ⊢
        refine hmono _ (hRl _ ?_)
        have hge : 0 ≤ (gv2 (3 * x + k)).toInt32.toInt := by
          rcases hv k hk with u | u | u
          · rw [h2'] at u; exact absurd u (by decide)
          · rw [h2'] at u; exact absurd u.1 (by decide)
          · exact u.2
        have w := zs_ge (f := fun k' => zr (gv2 (3 * x + k')) (Int32.toNatClampNeg (gv2 (3 * x + k)).toInt32)) (n := zHw fd gk2 x) (x := k) (fun _ _ => zr_0 _ _) hk
        have w : zr (gv2 (3 * x + k)) (Int32.toNatClampNeg (gv2 (3 * x + k)).toInt32) ≤ zcf zr (zHw fd gk2) gv2 x (Int32.toNatClampNeg (gv2 (3 * x + k)).toInt32) := w
        rw [zr_c h2' hge, if_pos rfl] at w
        have := hR (Int32.toNatClampNeg (gv2 (3 * x + k)).toInt32); have := h2 (Int32.toNatClampNeg (gv2 (3 * x + k)).toInt32)
        omega
      · have u : (if c = x then true else lv c) = true := u
        rw [if_neg v] at u
        rw [ew c v] at hk
        have e := ev c v k (by have := w3 c u; omega)
        rw [e] at h2' ⊢
        exact hmono _ (g4 c u k hk h2')
/-- the pile: how often cell c lies on it -/
def zPi (pi : Nat → Int32) (n : Nat) (c : Nat) : Int := zs n (fun i => if (pi i).toInt = (c : Int) then 1 else 0)
theorem zPi_i {pi : Nat → Int32} {i c : Nat} : 0 ≤ (if (pi i).toInt = (c : Int) then 1 else 0 : Int) := by split <;> omega
theorem zPi_p {pi : Nat → Int32} {n c : Nat} : 0 ≤ zPi pi n c := zs_0 (fun _ _ => zPi_i)
theorem zPi_s {pi : Nat → Int32} {n : Nat} {c : Nat} : zPi pi (n + 1) c = zPi pi n c + (if (pi n).toInt = (c : Int) then 1 else 0) := rfl
theorem zPi_e {pi pi2 : Nat → Int32} {n c : Nat} (h : ∀ i, i < n → pi2 i = pi i) : zPi pi2 n c = zPi pi n c := zs_ext (fun i hi => by rw [h i hi])
theorem zPi_add {pi pi2 : Nat → Int32} {n c : Nat} {x : Int32} (e : pi2 = upd pi n x) : zPi pi2 (n + 1) c = zPi pi n c + (if x.toInt = (c : Int) then 1 else 0) := by
  rw [zPi_s, zPi_e (pi := pi) (fun i hi => by rw [e, zu_n (by omega)]), e, zu_s]
theorem zr_i {v : Int64} (h : zhs v = 2) (c : Nat) : (if v.toInt32.toInt = (c : Int) then 1 else 0 : Int) = zr v c := by
  unfold zr
  by_cases g : v.toInt32.toInt = (c : Int)
  · rw [if_pos g, if_pos ⟨h, g⟩]
  · rw [if_neg g, if_neg (fun u => g u.2)]
theorem zif_c {x : Int32} (h : 0 ≤ x.toInt) (c : Nat) : (if x.toInt = (c : Int) then 1 else 0 : Int) = if c = Int32.toNatClampNeg x then 1 else 0 := by
  have := zn_nat h
  by_cases g : x.toInt = (c : Int)
  · rw [if_pos g, if_pos (by omega)]
  · rw [if_neg g, if_neg (by omega)]
theorem zHn_free {fr fr2 sh : Nat → Int32} {fc sc : Int} {x : Nat} {y : Int32} (h : zHn fr sh fc sc x) (hy : y.toInt ≠ (x : Int)) (h0 : 0 ≤ fc) (e : fr2 = upd fr fc.toNat y) : zHn fr2 sh (fc + 1) sc x := ⟨fun i hi => by
  by_cases g : i = fc.toNat
  · rw [e, g, zu_s]; exact hy
  · rw [e, zu_n g]; exact h.1 i (by omega), h.2⟩
/-- plain cells: the free ones stay -/
def zFx (pl : Int32) (fr fr2 : Nat → Int32) (fc fc2 : Int) : Prop := pl.toInt = 0 ∨ fr2 = fr ∧ fc2 = fc
theorem zFx_tr {pl : Int32} {fr fr1 fr2 : Nat → Int32} {fc fc1 fc2 : Int} (a : zFx pl fr fr1 fc fc1) (b : zFx pl fr1 fr2 fc1 fc2) : zFx pl fr fr2 fc fc2 := a.elim Or.inl (fun a => b.imp id (fun b => ⟨b.1.trans a.1, b.2.trans a.2⟩))
/-- what drops leaves: lv2 of lv, and what was none of the free ones is none of them now -/
def zHm (pl : Int32) (lv lv2 : Nat → Bool) (fr fr2 sh : Nat → Int32) (fc fc2 sc : Int) : Prop := (∀ x, lv2 x = true → lv x = true) ∧ (∀ x, lv x = false → zHn fr sh fc sc x → zHn fr2 sh fc2 sc x) ∧ zFx pl fr fr2 fc fc2
theorem zHm_rf {pl : Int32} {lv : Nat → Bool} {fr sh : Nat → Int32} {fc sc : Int} : zHm pl lv lv fr fr sh fc fc sc := ⟨fun _ h => h, fun _ _ h => h, Or.inr ⟨rfl, rfl⟩⟩
theorem zHm_tr {pl : Int32} {lv lv1 lv2 : Nat → Bool} {fr fr1 fr2 sh : Nat → Int32} {fc fc1 fc2 sc : Int} (a : zHm pl lv lv1 fr fr1 sh fc fc1 sc) (b : zHm pl lv1 lv2 fr1 fr2 sh fc1 fc2 sc) : zHm pl lv lv2 fr fr2 sh fc fc2 sc := ⟨fun x h => a.1 x (b.1 x h), fun x h g => b.2.1 x (by
  cases e : lv1 x with
  | false => rfl
  | true => rw [a.1 x e] at h; exact Bool.noConfusion h) (a.2.1 x h g), zFx_tr a.2.2 b.2.2⟩
theorem zHm_d {pl : Int32} {lv lv2 : Nat → Bool} {fr fr2 sh : Nat → Int32} {fc fc2 sc : Int} (a : zHm pl lv lv2 fr fr2 sh fc fc2 sc) {x : Nat} (h : lv x = false) : lv2 x = false := by
  cases e : lv2 x with
  | false => rfl
  | true => rw [a.1 x e] at h; exact Bool.noConfusion h
theorem zH_R {pl kz : Int32} {fd gk gc : Nat → Int32} {gv : Nat → Int64} {lv : Nat → Bool} {R R2 : Nat → Int} {db : Int} {fr sh : Nat → Int32} {fc sc np : Int} (e : ∀ c, R2 c = R c) (h : zH pl kz fd gk gc gv lv R db fr sh fc sc np) : zH pl kz fd gk gc gv lv R2 db fr sh fc sc np := by
  rw [show R2 = R from funext e]; exact h
theorem zHv_c {kz : Int32} {fd : Nat → Int32} {v : Int64} (h : zHv kz fd v) (g : zhs v = 2) : 0 ≤ v.toInt32.toInt := by
  rcases h with u | u | u
  · rw [g] at u; exact absurd u (by decide)
  · rw [g] at u; exact absurd u.1 (by decide)
  · exact u.2
/-- one turn of drops: what lies on top of the pile -/
theorem zH_top {pl kz : Int32} {fd gk gc pi : Nat → Int32} {gv : Nat → Int64} {lv : Nat → Bool} {R2 : Nat → Int} {db : Int} {fr sh : Nat → Int32} {fc sc np : Int} {n : Nat} (h : zH pl kz fd gk gc gv lv (fun c => R2 c + zPi pi (n + 1) c) db fr sh fc sc np) (h2 : ∀ c, 0 ≤ R2 c) (hn : 0 ≤ (pi n).toInt) : lv (Int32.toNatClampNeg (pi n)) = true ∧ ∀ c, R2 c + zPi pi (n + 1) c = R2 c + zPi pi n c + if c = Int32.toNatClampNeg (pi n) then 1 else 0 := by
  have e : ∀ c, R2 c + zPi pi (n + 1) c = R2 c + zPi pi n c + if c = Int32.toNatClampNeg (pi n) then 1 else 0 := fun c => by
    rw [zPi_s, zif_c hn]; omega
  refine ⟨zH_lv h ?_, e⟩
  show 1 ≤ R2 _ + zPi pi (n + 1) _
  rw [e, if_pos rfl]
  have := h2 (Int32.toNatClampNeg (pi n)); have := zPi_p (pi := pi) (n := n) (c := Int32.toNatClampNeg (pi n))
  omega

end
section
theorem wi_1518 : Cond.fieldLink RX14 45 "ReuseHouseModel" "free" "[I" ∈ zw := zw_in (List.mem_of_getElem? (i := 1518) (by decide +kernel)) (by decide +kernel)
theorem wi_1526 : Cond.fieldLink RX14 392 "ReuseHouseModel" "isPlain" "Z" ∈ zw := zw_in (List.mem_of_getElem? (i := 1526) (by decide +kernel)) (by decide +kernel)
theorem wi_1517 : Cond.fieldLink RX14 42 "ReuseHouseModel" "cellCount" "[I" ∈ zw := zw_in (List.mem_of_getElem? (i := 1517) (by decide +kernel)) (by decide +kernel)
theorem wi_1544 : Cond.fieldLink RX14 410 "ReuseHouseModel" "open" "I" ∈ zw := zw_in (List.mem_of_getElem? (i := 1544) (by decide +kernel)) (by decide +kernel)
theorem dX14_call_0 : decode cX14_call 0 = .ok (.aload_n 0, 1) := by decide +kernel
theorem dX14_call_1 : decode cX14_call 1 = .ok (.getfield 410, 3) := by decide +kernel
theorem dX14_call_4 : decode cX14_call 4 = .ok (.iconst 1, 1) := by decide +kernel
theorem dX14_call_5 : decode cX14_call 5 = .ok (.isub, 1) := by decide +kernel
theorem dX14_call_6 : decode cX14_call 6 = .ok (.ireturn, 1) := by decide +kernel
theorem dX14_doubles_0 : decode cX14_doubles 0 = .ok (.aload_n 0, 1) := by decide +kernel
theorem dX14_doubles_1 : decode cX14_doubles 1 = .ok (.getfield 392, 3) := by decide +kernel
theorem dX14_doubles_4 : decode cX14_doubles 4 = .ok (.ifCond .ne 10, 3) := by decide +kernel
theorem dX14_doubles_7 : decode cX14_doubles 7 = .ok (.lload_n 1, 1) := by decide +kernel
theorem dX14_doubles_8 : decode cX14_doubles 8 = .ok (.invokestatic 395, 3) := by decide +kernel
theorem dX14_doubles_11 : decode cX14_doubles 11 = .ok (.ifCond .ne 4, 3) := by decide +kernel
theorem dX14_doubles_14 : decode cX14_doubles 14 = .ok (.return_, 1) := by decide +kernel
theorem dX14_doubles_15 : decode cX14_doubles 15 = .ok (.aload_n 0, 1) := by decide +kernel
theorem dX14_doubles_16 : decode cX14_doubles 16 = .ok (.getfield 42, 3) := by decide +kernel
theorem dX14_doubles_19 : decode cX14_doubles 19 = .ok (.lload_n 1, 1) := by decide +kernel
theorem dX14_doubles_20 : decode cX14_doubles 20 = .ok (.l2i, 1) := by decide +kernel
theorem dX14_doubles_21 : decode cX14_doubles 21 = .ok (.dup2, 1) := by decide +kernel
theorem dX14_doubles_22 : decode cX14_doubles 22 = .ok (.iaload, 1) := by decide +kernel
theorem dX14_doubles_23 : decode cX14_doubles 23 = .ok (.iconst 1, 1) := by decide +kernel
theorem dX14_doubles_24 : decode cX14_doubles 24 = .ok (.iadd, 1) := by decide +kernel
theorem dX14_doubles_25 : decode cX14_doubles 25 = .ok (.iastore, 1) := by decide +kernel
theorem dX14_doubles_26 : decode cX14_doubles 26 = .ok (.aload_n 0, 1) := by decide +kernel
theorem dX14_doubles_27 : decode cX14_doubles 27 = .ok (.dup, 1) := by decide +kernel
theorem dX14_doubles_28 : decode cX14_doubles 28 = .ok (.getfield 398, 3) := by decide +kernel
theorem dX14_doubles_31 : decode cX14_doubles 31 = .ok (.iconst 1, 1) := by decide +kernel
theorem dX14_doubles_32 : decode cX14_doubles 32 = .ok (.iadd, 1) := by decide +kernel
theorem dX14_doubles_33 : decode cX14_doubles 33 = .ok (.putfield 398, 3) := by decide +kernel
theorem dX14_doubles_36 : decode cX14_doubles 36 = .ok (.return_, 1) := by decide +kernel
theorem dX14_frees_0 : decode cX14_frees 0 = .ok (.aload_n 0, 1) := by decide +kernel
theorem dX14_frees_1 : decode cX14_frees 1 = .ok (.getfield 45, 3) := by decide +kernel
theorem dX14_frees_4 : decode cX14_frees 4 = .ok (.aload_n 0, 1) := by decide +kernel
theorem dX14_frees_5 : decode cX14_frees 5 = .ok (.getfield 386, 3) := by decide +kernel
theorem dX14_frees_8 : decode cX14_frees 8 = .ok (.iload_n 1, 1) := by decide +kernel
theorem dX14_frees_9 : decode cX14_frees 9 = .ok (.iastore, 1) := by decide +kernel
theorem dX14_frees_10 : decode cX14_frees 10 = .ok (.aload_n 0, 1) := by decide +kernel
theorem dX14_frees_11 : decode cX14_frees 11 = .ok (.dup, 1) := by decide +kernel
theorem dX14_frees_12 : decode cX14_frees 12 = .ok (.getfield 386, 3) := by decide +kernel
theorem dX14_frees_15 : decode cX14_frees 15 = .ok (.iconst 1, 1) := by decide +kernel
theorem dX14_frees_16 : decode cX14_frees 16 = .ok (.iadd, 1) := by decide +kernel
theorem dX14_frees_17 : decode cX14_frees 17 = .ok (.putfield 386, 3) := by decide +kernel
theorem dX14_frees_20 : decode cX14_frees 20 = .ok (.aload_n 0, 1) := by decide +kernel
theorem dX14_frees_21 : decode cX14_frees 21 = .ok (.dup, 1) := by decide +kernel
theorem dX14_frees_22 : decode cX14_frees 22 = .ok (.getfield 389, 3) := by decide +kernel
theorem dX14_frees_25 : decode cX14_frees 25 = .ok (.iconst 1, 1) := by decide +kernel
theorem dX14_frees_26 : decode cX14_frees 26 = .ok (.iadd, 1) := by decide +kernel
theorem dX14_frees_27 : decode cX14_frees 27 = .ok (.putfield 389, 3) := by decide +kernel
theorem dX14_frees_30 : decode cX14_frees 30 = .ok (.return_, 1) := by decide +kernel
set_option maxHeartbeats 4000000 in
set_option maxRecDepth 100000 in
theorem c_X14_frees_x (l : Launch) (dC : Nat → ClassId) (dI : Nat → Nat → Nat) (aK aV : Nat → Nat) (h0 : Nat) (m_thrown : Int32) (m_stop : Nat) (m_tape : Nat) (m_taped : Int32) (m_length : Int32) (m_at : Int32) (m_sort : Int32) (m_place : Int32) (m_sign : Int32) (m_letters : Int64) (m_p : Nat) (m_spare : Nat) (m_isTaken : Int32) (m_scope : Nat) (m_scoped : Int32) (m_deep : Int32) (m_counted : Int32) (m_fault : Int32) (m_where : Int32) (m_cellKind : Nat) (m_cellCount : Nat) (m_free : Nat) (m_pile : Nat) (m_cellField : Nat) (m_freeCount : Int32) (m_given : Int32) (m_nextPlain : Int32) (m_otherKind : Nat) (m_otherField : Nat) (m_isPlain : Int32) (m_hasRun : Int32) (m_hasValue : Int32) (m_hasOther : Int32) (m_value : Int64) (m_other : Int64) (m_steps : Int32) (m_made : Int32) (m_reused : Int32) (m_freed : Int32) (m_most : Int32) (m_doubled : Int32) (m_openMost : Int32) (m_taskWhat : Nat) (m_taskPart : Nat) (m_values : Nat) (m_tasks : Int32) (m_valued : Int32) (m_open : Int32) (m_slots : Nat) (m_present : Nat) (m_shell : Nat) (m_shellArm : Nat) (m_shellCall : Nat) (m_shells : Int32) (m_keptCounts : Nat) (m_asideKind : Nat) (m_asideCount : Nat) (m_asideField : Nat) (m_out : Nat) (m_side : Nat) (m_outs : Int32) (m_sides : Int32) (m_saying : Nat) (ak_free : ClassId) (gfr : Nat → Int32) (ce : Int32) (sz : Nat) (hf0 : 0 ≤ m_freeCount.toInt) (hf1 : m_freeCount.toInt < 400) : Met l yX14_frees (Cond.code yX14_frees cX14_frees 2 none :: zw) ({ frames := 8, cells := 0, slots := 0, locals := 200 }) (va_Pc [.ref h0, .int ce] (zP dC dI aK aV sz [(ak_free, .int)] [(h0, .inr (14, [.int m_thrown, .ref m_stop, .ref m_tape, .int m_taped, .int m_length, .int m_at, .int m_sort, .int m_place, .int m_sign, .long m_letters, .ref m_p, .ref m_spare, .int m_isTaken, .ref m_scope, .int m_scoped, .int m_deep, .int m_counted, .int m_fault, .int m_where, .ref m_cellKind, .ref m_cellCount, .ref m_free, .ref m_pile, .ref m_cellField, .int m_freeCount, .int m_given, .int m_nextPlain, .ref m_otherKind, .ref m_otherField, .int m_isPlain, .int m_hasRun, .int m_hasValue, .int m_hasOther, .long m_value, .long m_other, .int m_steps, .int m_made, .int m_reused, .int m_freed, .int m_most, .int m_doubled, .int m_openMost, .ref m_taskWhat, .ref m_taskPart, .ref m_values, .int m_tasks, .int m_valued, .int m_open, .ref m_slots, .ref m_present, .ref m_shell, .ref m_shellArm, .ref m_shellCall, .int m_shells, .ref m_keptCounts, .ref m_asideKind, .ref m_asideCount, .ref m_asideField, .ref m_out, .ref m_side, .int m_outs, .int m_sides, .ref m_saying])), (m_free, .inl (ak_free, 400, .inl gfr))])) (va_Qv (fun u : Int32 × Int32 × (Nat → Int32) => match u with | (fc2, fe2, gfr2) => (fc2.toInt = m_freeCount.toInt + 1) ∧ (gfr2 = upd gfr (Int32.toNatClampNeg m_freeCount) ce)) (fun u => match u with | (fc2, fe2, gfr2) => zQ dC dI (va_A [(h0, .inr (14, [.int m_thrown, .ref m_stop, .ref m_tape, .int m_taped, .int m_length, .int m_at, .int m_sort, .int m_place, .int m_sign, .long m_letters, .ref m_p, .ref m_spare, .int m_isTaken, .ref m_scope, .int m_scoped, .int m_deep, .int m_counted, .int m_fault, .int m_where, .ref m_cellKind, .ref m_cellCount, .ref m_free, .ref m_pile, .ref m_cellField, .int m_freeCount, .int m_given, .int m_nextPlain, .ref m_otherKind, .ref m_otherField, .int m_isPlain, .int m_hasRun, .int m_hasValue, .int m_hasOther, .long m_value, .long m_other, .int m_steps, .int m_made, .int m_reused, .int m_freed, .int m_most, .int m_doubled, .int m_openMost, .ref m_taskWhat, .ref m_taskPart, .ref m_values, .int m_tasks, .int m_valued, .int m_open, .ref m_slots, .ref m_present, .ref m_shell, .ref m_shellArm, .ref m_shellCall, .int m_shells, .ref m_keptCounts, .ref m_asideKind, .ref m_asideCount, .ref m_asideField, .ref m_out, .ref m_side, .int m_outs, .int m_sides, .ref m_saying])), (m_free, .inl (ak_free, 400, .inl gfr))] sz) [(ak_free, .int)] [(h0, .inr (14, [.int m_thrown, .ref m_stop, .ref m_tape, .int m_taped, .int m_length, .int m_at, .int m_sort, .int m_place, .int m_sign, .long m_letters, .ref m_p, .ref m_spare, .int m_isTaken, .ref m_scope, .int m_scoped, .int m_deep, .int m_counted, .int m_fault, .int m_where, .ref m_cellKind, .ref m_cellCount, .ref m_free, .ref m_pile, .ref m_cellField, .int fc2, .int m_given, .int m_nextPlain, .ref m_otherKind, .ref m_otherField, .int m_isPlain, .int m_hasRun, .int m_hasValue, .int m_hasOther, .long m_value, .long m_other, .int m_steps, .int m_made, .int m_reused, .int fe2, .int m_most, .int m_doubled, .int m_openMost, .ref m_taskWhat, .ref m_taskPart, .ref m_values, .int m_tasks, .int m_valued, .int m_open, .ref m_slots, .ref m_present, .ref m_shell, .ref m_shellArm, .ref m_shellCall, .int m_shells, .ref m_keptCounts, .ref m_asideKind, .ref m_asideCount, .ref m_asideField, .ref m_out, .ref m_side, .int m_outs, .int m_sides, .ref m_saying])), (m_free, .inl (ak_free, 400, .inl gfr2))]) (va_A [(h0, .inr (14, [.int m_thrown, .ref m_stop, .ref m_tape, .int m_taped, .int m_length, .int m_at, .int m_sort, .int m_place, .int m_sign, .long m_letters, .ref m_p, .ref m_spare, .int m_isTaken, .ref m_scope, .int m_scoped, .int m_deep, .int m_counted, .int m_fault, .int m_where, .ref m_cellKind, .ref m_cellCount, .ref m_free, .ref m_pile, .ref m_cellField, .int m_freeCount, .int m_given, .int m_nextPlain, .ref m_otherKind, .ref m_otherField, .int m_isPlain, .int m_hasRun, .int m_hasValue, .int m_hasOther, .long m_value, .long m_other, .int m_steps, .int m_made, .int m_reused, .int m_freed, .int m_most, .int m_doubled, .int m_openMost, .ref m_taskWhat, .ref m_taskPart, .ref m_values, .int m_tasks, .int m_valued, .int m_open, .ref m_slots, .ref m_present, .ref m_shell, .ref m_shellArm, .ref m_shellCall, .int m_shells, .ref m_keptCounts, .ref m_asideKind, .ref m_asideCount, .ref m_asideField, .ref m_out, .ref m_side, .int m_outs, .int m_sides, .ref m_saying])), (m_free, .inl (ak_free, 400, .inl gfr))] sz)) 0 0 (va_A [(h0, .inr (14, [.int m_thrown, .ref m_stop, .ref m_tape, .int m_taped, .int m_length, .int m_at, .int m_sort, .int m_place, .int m_sign, .long m_letters, .ref m_p, .ref m_spare, .int m_isTaken, .ref m_scope, .int m_scoped, .int m_deep, .int m_counted, .int m_fault, .int m_where, .ref m_cellKind, .ref m_cellCount, .ref m_free, .ref m_pile, .ref m_cellField, .int m_freeCount, .int m_given, .int m_nextPlain, .ref m_otherKind, .ref m_otherField, .int m_isPlain, .int m_hasRun, .int m_hasValue, .int m_hasOther, .long m_value, .long m_other, .int m_steps, .int m_made, .int m_reused, .int m_freed, .int m_most, .int m_doubled, .int m_openMost, .ref m_taskWhat, .ref m_taskPart, .ref m_values, .int m_tasks, .int m_valued, .int m_open, .ref m_slots, .ref m_present, .ref m_shell, .ref m_shellArm, .ref m_shellCall, .int m_shells, .ref m_keptCounts, .ref m_asideKind, .ref m_asideCount, .ref m_asideField, .ref m_out, .ref m_side, .int m_outs, .int m_sides, .ref m_saying])), (m_free, .inl (ak_free, 400, .inl gfr))] sz) := by
  refine Met.ofW (cc := cX14_frees) (maxL := 2) (ret := none) (by decide) rfl ?_
  intro p e s m args below meth c s₁ B hml hv
  obtain ⟨rfl, hsz, hP, hK, hD0, hN, hT⟩ := hv
  have hx := B.exec
  have hb := B.bytes
  have hr := B.returns
  have hts := atoms_spec (ws := Cond.code yX14_frees cX14_frees 2 none :: zw) B.pre
  have hA : ∀ w ∈ zw, w.before _ s = true := fun w h => hts w (List.mem_cons_of_mem _ h)
  have hown : s.vm.findClass RX14 = some m.cls := findClass_of_methodNamed B.named
  have hlocks := B.notSynchronized
  subst hsz
  have hD := hD0.self (sz := s.heap.size)
  generalize hAe : va_A [(h0, .inr (14, [.int m_thrown, .ref m_stop, .ref m_tape, .int m_taped, .int m_length, .int m_at, .int m_sort, .int m_place, .int m_sign, .long m_letters, .ref m_p, .ref m_spare, .int m_isTaken, .ref m_scope, .int m_scoped, .int m_deep, .int m_counted, .int m_fault, .int m_where, .ref m_cellKind, .ref m_cellCount, .ref m_free, .ref m_pile, .ref m_cellField, .int m_freeCount, .int m_given, .int m_nextPlain, .ref m_otherKind, .ref m_otherField, .int m_isPlain, .int m_hasRun, .int m_hasValue, .int m_hasOther, .long m_value, .long m_other, .int m_steps, .int m_made, .int m_reused, .int m_freed, .int m_most, .int m_doubled, .int m_openMost, .ref m_taskWhat, .ref m_taskPart, .ref m_values, .int m_tasks, .int m_valued, .int m_open, .ref m_slots, .ref m_present, .ref m_shell, .ref m_shellArm, .ref m_shellCall, .int m_shells, .ref m_keptCounts, .ref m_asideKind, .ref m_asideCount, .ref m_asideField, .ref m_out, .ref m_side, .int m_outs, .int m_sides, .ref m_saying])), (m_free, .inl (ak_free, 400, .inl gfr))] s.heap.size = A at hD hT ⊢
  have hAA : ∀ q : Nat, s.heap.size ≤ q → A q := fun q h => by rw [← hAe]; exact Or.inr h
  have hS : va_S A s.heap s.heap [] := va_S.rf
  have hl := lv_entry ([.ref h0, .int ce]) (n := 2) (Nat.le_of_ble_eq_true rfl)
  rw [lg_entry_eq]
  generalize (lg_sl ([.ref h0, .int ce]) ++ List.replicate (2 - (lg_sl ([.ref h0, .int ce])).length) Slot.unset).toArray = ls at hl ⊢
  have hl : lv_has ls 2 [(0, .ref h0), (1, .int ce)] := hl
  refine lv_aload_n hx hb dX14_frees_0 rfl (lv_at hl 0 rfl) ?_
  refine va_get (D := (dC, dI)) (ci := 14) (v := .ref m_free) (C := RX14) (T := TX14) (N := 63) hx hb hA zin_X14 hown hK hP 0 rfl rfl 21 (by decide) (hA _ wi_1518) (fun _ h9 => h9) rfl dX14_frees_1 ?_
  refine lv_aload_n hx hb dX14_frees_4 rfl (lv_at hl 0 rfl) ?_
  refine va_get (D := (dC, dI)) (ci := 14) (v := .int m_freeCount) (C := RX14) (T := TX14) (N := 63) hx hb hA zin_X14 hown hK hP 0 rfl rfl 24 (by decide) (hA _ wi_1521) (fun _ h9 => h9) rfl dX14_frees_5 ?_
  refine lv_iload_n hx hb dX14_frees_8 rfl (lv_at hl 1 rfl) ?_
  refine va_iast hx hb hK hP hD hS 1 0 rfl rfl (vp_in_iff.mpr ⟨by omega, by omega⟩) dX14_frees_9 (fun H locs hP hD hS => ?_)
  obtain ⟨f_1, ef_1⟩ : ∃ gz9 : Nat → Int32, gz9 = upd gfr (Int32.toNatClampNeg m_freeCount) ce := ⟨_, rfl⟩
  rw [← ef_1] at hP hD
  have hP : va_P (dC, dI) vwCl [(h0, .inr (14, [.int m_thrown, .ref m_stop, .ref m_tape, .int m_taped, .int m_length, .int m_at, .int m_sort, .int m_place, .int m_sign, .long m_letters, .ref m_p, .ref m_spare, .int m_isTaken, .ref m_scope, .int m_scoped, .int m_deep, .int m_counted, .int m_fault, .int m_where, .ref m_cellKind, .ref m_cellCount, .ref m_free, .ref m_pile, .ref m_cellField, .int m_freeCount, .int m_given, .int m_nextPlain, .ref m_otherKind, .ref m_otherField, .int m_isPlain, .int m_hasRun, .int m_hasValue, .int m_hasOther, .long m_value, .long m_other, .int m_steps, .int m_made, .int m_reused, .int m_freed, .int m_most, .int m_doubled, .int m_openMost, .ref m_taskWhat, .ref m_taskPart, .ref m_values, .int m_tasks, .int m_valued, .int m_open, .ref m_slots, .ref m_present, .ref m_shell, .ref m_shellArm, .ref m_shellCall, .int m_shells, .ref m_keptCounts, .ref m_asideKind, .ref m_asideCount, .ref m_asideField, .ref m_out, .ref m_side, .int m_outs, .int m_sides, .ref m_saying])), (m_free, .inl (ak_free, 400, .inl f_1))] H := hP
  have hD : va_D A [(h0, .inr (14, [.int m_thrown, .ref m_stop, .ref m_tape, .int m_taped, .int m_length, .int m_at, .int m_sort, .int m_place, .int m_sign, .long m_letters, .ref m_p, .ref m_spare, .int m_isTaken, .ref m_scope, .int m_scoped, .int m_deep, .int m_counted, .int m_fault, .int m_where, .ref m_cellKind, .ref m_cellCount, .ref m_free, .ref m_pile, .ref m_cellField, .int m_freeCount, .int m_given, .int m_nextPlain, .ref m_otherKind, .ref m_otherField, .int m_isPlain, .int m_hasRun, .int m_hasValue, .int m_hasOther, .long m_value, .long m_other, .int m_steps, .int m_made, .int m_reused, .int m_freed, .int m_most, .int m_doubled, .int m_openMost, .ref m_taskWhat, .ref m_taskPart, .ref m_values, .int m_tasks, .int m_valued, .int m_open, .ref m_slots, .ref m_present, .ref m_shell, .ref m_shellArm, .ref m_shellCall, .int m_shells, .ref m_keptCounts, .ref m_asideKind, .ref m_asideCount, .ref m_asideField, .ref m_out, .ref m_side, .int m_outs, .int m_sides, .ref m_saying])), (m_free, .inl (ak_free, 400, .inl f_1))] := hD
  refine lv_aload_n hx hb dX14_frees_10 rfl (lv_at hl 0 rfl) ?_
  refine lv_dup hx hb dX14_frees_11 rfl ?_
  refine va_get (D := (dC, dI)) (ci := 14) (v := .int m_freeCount) (C := RX14) (T := TX14) (N := 63) hx hb hA zin_X14 hown hK hP 0 rfl rfl 24 (by decide) (hA _ wi_1521) (fun _ h9 => h9) rfl dX14_frees_12 ?_
  refine lv_iconst (v := 1) hx hb dX14_frees_15 (by decide) ?_
  refine lv_iadd hx hb dX14_frees_16 ?_
  refine lv_topi (fun x_2 ex_2 => ?_)
  have ix_2 : x_2.toInt = m_freeCount.toInt + 1 := by rw [ex_2]; exact zi_addc (by decide) (by omega) (by omega)
  refine va_put (D := (dC, dI)) (ci := 14) (v := .int x_2) (ty := .int) (C := RX14) (T := TX14) (N := 63) hx hb hA zin_X14 tyX14 tyX14_ok nmX14 hown hK hP hD hS 0 rfl rfl 24 (by decide) (hA _ wi_1521) (fun _ h9 => h9) rfl (by decide +kernel) rfl rfl (Nat.le_of_ble_eq_true rfl) dX14_frees_17 (fun H locs hP hD hS => ?_)
  have hP : va_P (dC, dI) vwCl [(h0, .inr (14, [.int m_thrown, .ref m_stop, .ref m_tape, .int m_taped, .int m_length, .int m_at, .int m_sort, .int m_place, .int m_sign, .long m_letters, .ref m_p, .ref m_spare, .int m_isTaken, .ref m_scope, .int m_scoped, .int m_deep, .int m_counted, .int m_fault, .int m_where, .ref m_cellKind, .ref m_cellCount, .ref m_free, .ref m_pile, .ref m_cellField, .int x_2, .int m_given, .int m_nextPlain, .ref m_otherKind, .ref m_otherField, .int m_isPlain, .int m_hasRun, .int m_hasValue, .int m_hasOther, .long m_value, .long m_other, .int m_steps, .int m_made, .int m_reused, .int m_freed, .int m_most, .int m_doubled, .int m_openMost, .ref m_taskWhat, .ref m_taskPart, .ref m_values, .int m_tasks, .int m_valued, .int m_open, .ref m_slots, .ref m_present, .ref m_shell, .ref m_shellArm, .ref m_shellCall, .int m_shells, .ref m_keptCounts, .ref m_asideKind, .ref m_asideCount, .ref m_asideField, .ref m_out, .ref m_side, .int m_outs, .int m_sides, .ref m_saying])), (m_free, .inl (ak_free, 400, .inl f_1))] H := hP
  have hD : va_D A [(h0, .inr (14, [.int m_thrown, .ref m_stop, .ref m_tape, .int m_taped, .int m_length, .int m_at, .int m_sort, .int m_place, .int m_sign, .long m_letters, .ref m_p, .ref m_spare, .int m_isTaken, .ref m_scope, .int m_scoped, .int m_deep, .int m_counted, .int m_fault, .int m_where, .ref m_cellKind, .ref m_cellCount, .ref m_free, .ref m_pile, .ref m_cellField, .int x_2, .int m_given, .int m_nextPlain, .ref m_otherKind, .ref m_otherField, .int m_isPlain, .int m_hasRun, .int m_hasValue, .int m_hasOther, .long m_value, .long m_other, .int m_steps, .int m_made, .int m_reused, .int m_freed, .int m_most, .int m_doubled, .int m_openMost, .ref m_taskWhat, .ref m_taskPart, .ref m_values, .int m_tasks, .int m_valued, .int m_open, .ref m_slots, .ref m_present, .ref m_shell, .ref m_shellArm, .ref m_shellCall, .int m_shells, .ref m_keptCounts, .ref m_asideKind, .ref m_asideCount, .ref m_asideField, .ref m_out, .ref m_side, .int m_outs, .int m_sides, .ref m_saying])), (m_free, .inl (ak_free, 400, .inl f_1))] := hD
  refine lv_aload_n hx hb dX14_frees_20 rfl (lv_at hl 0 rfl) ?_
  refine lv_dup hx hb dX14_frees_21 rfl ?_
  refine va_get (D := (dC, dI)) (ci := 14) (v := .int m_freed) (C := RX14) (T := TX14) (N := 63) hx hb hA zin_X14 hown hK hP 0 rfl rfl 38 (by decide) (hA _ wi_1535) (fun _ h9 => h9) rfl dX14_frees_22 ?_
  refine lv_iconst (v := 1) hx hb dX14_frees_25 (by decide) ?_
  refine lv_iadd hx hb dX14_frees_26 ?_
  refine lv_topi (fun x_3 ex_3 => ?_)
  refine va_put (D := (dC, dI)) (ci := 14) (v := .int x_3) (ty := .int) (C := RX14) (T := TX14) (N := 63) hx hb hA zin_X14 tyX14 tyX14_ok nmX14 hown hK hP hD hS 0 rfl rfl 38 (by decide) (hA _ wi_1535) (fun _ h9 => h9) rfl (by decide +kernel) rfl rfl (Nat.le_of_ble_eq_true rfl) dX14_frees_27 (fun H locs hP hD hS => ?_)
  have hP : va_P (dC, dI) vwCl [(h0, .inr (14, [.int m_thrown, .ref m_stop, .ref m_tape, .int m_taped, .int m_length, .int m_at, .int m_sort, .int m_place, .int m_sign, .long m_letters, .ref m_p, .ref m_spare, .int m_isTaken, .ref m_scope, .int m_scoped, .int m_deep, .int m_counted, .int m_fault, .int m_where, .ref m_cellKind, .ref m_cellCount, .ref m_free, .ref m_pile, .ref m_cellField, .int x_2, .int m_given, .int m_nextPlain, .ref m_otherKind, .ref m_otherField, .int m_isPlain, .int m_hasRun, .int m_hasValue, .int m_hasOther, .long m_value, .long m_other, .int m_steps, .int m_made, .int m_reused, .int x_3, .int m_most, .int m_doubled, .int m_openMost, .ref m_taskWhat, .ref m_taskPart, .ref m_values, .int m_tasks, .int m_valued, .int m_open, .ref m_slots, .ref m_present, .ref m_shell, .ref m_shellArm, .ref m_shellCall, .int m_shells, .ref m_keptCounts, .ref m_asideKind, .ref m_asideCount, .ref m_asideField, .ref m_out, .ref m_side, .int m_outs, .int m_sides, .ref m_saying])), (m_free, .inl (ak_free, 400, .inl f_1))] H := hP
  have hD : va_D A [(h0, .inr (14, [.int m_thrown, .ref m_stop, .ref m_tape, .int m_taped, .int m_length, .int m_at, .int m_sort, .int m_place, .int m_sign, .long m_letters, .ref m_p, .ref m_spare, .int m_isTaken, .ref m_scope, .int m_scoped, .int m_deep, .int m_counted, .int m_fault, .int m_where, .ref m_cellKind, .ref m_cellCount, .ref m_free, .ref m_pile, .ref m_cellField, .int x_2, .int m_given, .int m_nextPlain, .ref m_otherKind, .ref m_otherField, .int m_isPlain, .int m_hasRun, .int m_hasValue, .int m_hasOther, .long m_value, .long m_other, .int m_steps, .int m_made, .int m_reused, .int x_3, .int m_most, .int m_doubled, .int m_openMost, .ref m_taskWhat, .ref m_taskPart, .ref m_values, .int m_tasks, .int m_valued, .int m_open, .ref m_slots, .ref m_present, .ref m_shell, .ref m_shellArm, .ref m_shellCall, .int m_shells, .ref m_keptCounts, .ref m_asideKind, .ref m_asideCount, .ref m_asideField, .ref m_out, .ref m_side, .int m_outs, .int m_sides, .ref m_saying])), (m_free, .inl (ak_free, 400, .inl f_1))] := hD
  have hP9 := hP.sub (ws' := [(h0, .inr (14, [.int m_thrown, .ref m_stop, .ref m_tape, .int m_taped, .int m_length, .int m_at, .int m_sort, .int m_place, .int m_sign, .long m_letters, .ref m_p, .ref m_spare, .int m_isTaken, .ref m_scope, .int m_scoped, .int m_deep, .int m_counted, .int m_fault, .int m_where, .ref m_cellKind, .ref m_cellCount, .ref m_free, .ref m_pile, .ref m_cellField, .int x_2, .int m_given, .int m_nextPlain, .ref m_otherKind, .ref m_otherField, .int m_isPlain, .int m_hasRun, .int m_hasValue, .int m_hasOther, .long m_value, .long m_other, .int m_steps, .int m_made, .int m_reused, .int x_3, .int m_most, .int m_doubled, .int m_openMost, .ref m_taskWhat, .ref m_taskPart, .ref m_values, .int m_tasks, .int m_valued, .int m_open, .ref m_slots, .ref m_present, .ref m_shell, .ref m_shellArm, .ref m_shellCall, .int m_shells, .ref m_keptCounts, .ref m_asideKind, .ref m_asideCount, .ref m_asideField, .ref m_out, .ref m_side, .int m_outs, .int m_sides, .ref m_saying])), (m_free, .inl (ak_free, 400, .inl f_1))]) [0, 1] rfl
  have hD9 := hD.sub (ws' := [(h0, .inr (14, [.int m_thrown, .ref m_stop, .ref m_tape, .int m_taped, .int m_length, .int m_at, .int m_sort, .int m_place, .int m_sign, .long m_letters, .ref m_p, .ref m_spare, .int m_isTaken, .ref m_scope, .int m_scoped, .int m_deep, .int m_counted, .int m_fault, .int m_where, .ref m_cellKind, .ref m_cellCount, .ref m_free, .ref m_pile, .ref m_cellField, .int x_2, .int m_given, .int m_nextPlain, .ref m_otherKind, .ref m_otherField, .int m_isPlain, .int m_hasRun, .int m_hasValue, .int m_hasOther, .long m_value, .long m_other, .int m_steps, .int m_made, .int m_reused, .int x_3, .int m_most, .int m_doubled, .int m_openMost, .ref m_taskWhat, .ref m_taskPart, .ref m_values, .int m_tasks, .int m_valued, .int m_open, .ref m_slots, .ref m_present, .ref m_shell, .ref m_shellArm, .ref m_shellCall, .int m_shells, .ref m_keptCounts, .ref m_asideKind, .ref m_asideCount, .ref m_asideField, .ref m_out, .ref m_side, .int m_outs, .int m_sides, .ref m_saying])), (m_free, .inl (ak_free, 400, .inl f_1))]) [0, 1] (by decide) rfl
  have hK9 := hK.sub (tys' := [(ak_free, .int)]) [0] rfl
  exact W.vret hx hb hr (fun t ht hW => ⟨⟨(x_2, x_3, f_1), rfl, ⟨by omega, ef_1⟩, by rw [ht]; exact hP9, va_K.moved hW.alike hK9, hD9⟩, hS.F ht⟩) hS.2.2 dX14_frees_30
set_option maxHeartbeats 4000000 in
set_option maxRecDepth 100000 in
theorem c_X14_doubles_x (l : Launch) (dC : Nat → ClassId) (dI : Nat → Nat → Nat) (aK aV : Nat → Nat) (h0 : Nat) (m_thrown : Int32) (m_stop : Nat) (m_tape : Nat) (m_taped : Int32) (m_length : Int32) (m_at : Int32) (m_sort : Int32) (m_place : Int32) (m_sign : Int32) (m_letters : Int64) (m_p : Nat) (m_spare : Nat) (m_isTaken : Int32) (m_scope : Nat) (m_scoped : Int32) (m_deep : Int32) (m_counted : Int32) (m_fault : Int32) (m_where : Int32) (m_cellKind : Nat) (m_cellCount : Nat) (m_free : Nat) (m_pile : Nat) (m_cellField : Nat) (m_freeCount : Int32) (m_given : Int32) (m_nextPlain : Int32) (m_otherKind : Nat) (m_otherField : Nat) (m_isPlain : Int32) (m_hasRun : Int32) (m_hasValue : Int32) (m_hasOther : Int32) (m_value : Int64) (m_other : Int64) (m_steps : Int32) (m_made : Int32) (m_reused : Int32) (m_freed : Int32) (m_most : Int32) (m_doubled : Int32) (m_openMost : Int32) (m_taskWhat : Nat) (m_taskPart : Nat) (m_values : Nat) (m_tasks : Int32) (m_valued : Int32) (m_open : Int32) (m_slots : Nat) (m_present : Nat) (m_shell : Nat) (m_shellArm : Nat) (m_shellCall : Nat) (m_shells : Int32) (m_keptCounts : Nat) (m_asideKind : Nat) (m_asideCount : Nat) (m_asideField : Nat) (m_out : Nat) (m_side : Nat) (m_outs : Int32) (m_sides : Int32) (m_saying : Nat) (ak_cellCount : ClassId) (gcc : Nat → Int32) (va : Int64) (lv : Nat → Bool) (R : Nat → Int) (gfr : Nat → Int32) (gsh : Nat → Int32) (gck : Nat → Int32) (gcf : Nat → Int64) (pr_kinds : Int32) (rg_fields : Nat → Int32) (sz : Nat) (hH : zH m_isPlain pr_kinds rg_fields gck gcc gcf lv R (Int32.toInt m_doubled) gfr gsh (Int32.toInt m_freeCount) (Int32.toInt m_shells) (Int32.toInt m_nextPlain)) (hlv : zhs va = 2 → 0 ≤ va.toInt32.toInt ∧ lv (Int32.toNatClampNeg va.toInt32) = true) (hdb : m_doubled.toInt < 1000000) : Met l yX14_doubles (Cond.code yX14_doubles cX14_doubles 3 none :: zw) ({ frames := 10, cells := 0, slots := 0, locals := 300 }) (va_Pc [.ref h0, .long va] (zP dC dI aK aV sz [(ak_cellCount, .int)] [(h0, .inr (14, [.int m_thrown, .ref m_stop, .ref m_tape, .int m_taped, .int m_length, .int m_at, .int m_sort, .int m_place, .int m_sign, .long m_letters, .ref m_p, .ref m_spare, .int m_isTaken, .ref m_scope, .int m_scoped, .int m_deep, .int m_counted, .int m_fault, .int m_where, .ref m_cellKind, .ref m_cellCount, .ref m_free, .ref m_pile, .ref m_cellField, .int m_freeCount, .int m_given, .int m_nextPlain, .ref m_otherKind, .ref m_otherField, .int m_isPlain, .int m_hasRun, .int m_hasValue, .int m_hasOther, .long m_value, .long m_other, .int m_steps, .int m_made, .int m_reused, .int m_freed, .int m_most, .int m_doubled, .int m_openMost, .ref m_taskWhat, .ref m_taskPart, .ref m_values, .int m_tasks, .int m_valued, .int m_open, .ref m_slots, .ref m_present, .ref m_shell, .ref m_shellArm, .ref m_shellCall, .int m_shells, .ref m_keptCounts, .ref m_asideKind, .ref m_asideCount, .ref m_asideField, .ref m_out, .ref m_side, .int m_outs, .int m_sides, .ref m_saying])), (m_cellCount, .inl (ak_cellCount, 4000, .inl gcc))])) (va_Qv (fun u : Int32 × (Nat → Int32) => match u with | (db2, gcc2) => (m_doubled.toInt ≤ db2.toInt) ∧ (db2.toInt ≤ m_doubled.toInt + 1) ∧ (zH m_isPlain pr_kinds rg_fields gck gcc2 gcf lv (fun c => R c + zr va c) (Int32.toInt db2) gfr gsh (Int32.toInt m_freeCount) (Int32.toInt m_shells) (Int32.toInt m_nextPlain)) ∧ (∀ x, Int32.toInt (gcc x) ≤ Int32.toInt (gcc2 x))) (fun u => match u with | (db2, gcc2) => zQ dC dI (va_A [(h0, .inr (14, [.int m_thrown, .ref m_stop, .ref m_tape, .int m_taped, .int m_length, .int m_at, .int m_sort, .int m_place, .int m_sign, .long m_letters, .ref m_p, .ref m_spare, .int m_isTaken, .ref m_scope, .int m_scoped, .int m_deep, .int m_counted, .int m_fault, .int m_where, .ref m_cellKind, .ref m_cellCount, .ref m_free, .ref m_pile, .ref m_cellField, .int m_freeCount, .int m_given, .int m_nextPlain, .ref m_otherKind, .ref m_otherField, .int m_isPlain, .int m_hasRun, .int m_hasValue, .int m_hasOther, .long m_value, .long m_other, .int m_steps, .int m_made, .int m_reused, .int m_freed, .int m_most, .int m_doubled, .int m_openMost, .ref m_taskWhat, .ref m_taskPart, .ref m_values, .int m_tasks, .int m_valued, .int m_open, .ref m_slots, .ref m_present, .ref m_shell, .ref m_shellArm, .ref m_shellCall, .int m_shells, .ref m_keptCounts, .ref m_asideKind, .ref m_asideCount, .ref m_asideField, .ref m_out, .ref m_side, .int m_outs, .int m_sides, .ref m_saying])), (m_cellCount, .inl (ak_cellCount, 4000, .inl gcc))] sz) [(ak_cellCount, .int)] [(h0, .inr (14, [.int m_thrown, .ref m_stop, .ref m_tape, .int m_taped, .int m_length, .int m_at, .int m_sort, .int m_place, .int m_sign, .long m_letters, .ref m_p, .ref m_spare, .int m_isTaken, .ref m_scope, .int m_scoped, .int m_deep, .int m_counted, .int m_fault, .int m_where, .ref m_cellKind, .ref m_cellCount, .ref m_free, .ref m_pile, .ref m_cellField, .int m_freeCount, .int m_given, .int m_nextPlain, .ref m_otherKind, .ref m_otherField, .int m_isPlain, .int m_hasRun, .int m_hasValue, .int m_hasOther, .long m_value, .long m_other, .int m_steps, .int m_made, .int m_reused, .int m_freed, .int m_most, .int db2, .int m_openMost, .ref m_taskWhat, .ref m_taskPart, .ref m_values, .int m_tasks, .int m_valued, .int m_open, .ref m_slots, .ref m_present, .ref m_shell, .ref m_shellArm, .ref m_shellCall, .int m_shells, .ref m_keptCounts, .ref m_asideKind, .ref m_asideCount, .ref m_asideField, .ref m_out, .ref m_side, .int m_outs, .int m_sides, .ref m_saying])), (m_cellCount, .inl (ak_cellCount, 4000, .inl gcc2))]) (va_A [(h0, .inr (14, [.int m_thrown, .ref m_stop, .ref m_tape, .int m_taped, .int m_length, .int m_at, .int m_sort, .int m_place, .int m_sign, .long m_letters, .ref m_p, .ref m_spare, .int m_isTaken, .ref m_scope, .int m_scoped, .int m_deep, .int m_counted, .int m_fault, .int m_where, .ref m_cellKind, .ref m_cellCount, .ref m_free, .ref m_pile, .ref m_cellField, .int m_freeCount, .int m_given, .int m_nextPlain, .ref m_otherKind, .ref m_otherField, .int m_isPlain, .int m_hasRun, .int m_hasValue, .int m_hasOther, .long m_value, .long m_other, .int m_steps, .int m_made, .int m_reused, .int m_freed, .int m_most, .int m_doubled, .int m_openMost, .ref m_taskWhat, .ref m_taskPart, .ref m_values, .int m_tasks, .int m_valued, .int m_open, .ref m_slots, .ref m_present, .ref m_shell, .ref m_shellArm, .ref m_shellCall, .int m_shells, .ref m_keptCounts, .ref m_asideKind, .ref m_asideCount, .ref m_asideField, .ref m_out, .ref m_side, .int m_outs, .int m_sides, .ref m_saying])), (m_cellCount, .inl (ak_cellCount, 4000, .inl gcc))] sz)) 0 0 (va_A [(h0, .inr (14, [.int m_thrown, .ref m_stop, .ref m_tape, .int m_taped, .int m_length, .int m_at, .int m_sort, .int m_place, .int m_sign, .long m_letters, .ref m_p, .ref m_spare, .int m_isTaken, .ref m_scope, .int m_scoped, .int m_deep, .int m_counted, .int m_fault, .int m_where, .ref m_cellKind, .ref m_cellCount, .ref m_free, .ref m_pile, .ref m_cellField, .int m_freeCount, .int m_given, .int m_nextPlain, .ref m_otherKind, .ref m_otherField, .int m_isPlain, .int m_hasRun, .int m_hasValue, .int m_hasOther, .long m_value, .long m_other, .int m_steps, .int m_made, .int m_reused, .int m_freed, .int m_most, .int m_doubled, .int m_openMost, .ref m_taskWhat, .ref m_taskPart, .ref m_values, .int m_tasks, .int m_valued, .int m_open, .ref m_slots, .ref m_present, .ref m_shell, .ref m_shellArm, .ref m_shellCall, .int m_shells, .ref m_keptCounts, .ref m_asideKind, .ref m_asideCount, .ref m_asideField, .ref m_out, .ref m_side, .int m_outs, .int m_sides, .ref m_saying])), (m_cellCount, .inl (ak_cellCount, 4000, .inl gcc))] sz) := by
  refine Met.ofW (cc := cX14_doubles) (maxL := 3) (ret := none) (by decide) rfl ?_
  intro p e s m args below meth c s₁ B hml hv
  obtain ⟨rfl, hsz, hP, hK, hD0, hN, hT⟩ := hv
  have hx := B.exec
  have hb := B.bytes
  have hr := B.returns
  have hts := atoms_spec (ws := Cond.code yX14_doubles cX14_doubles 3 none :: zw) B.pre
  have hA : ∀ w ∈ zw, w.before _ s = true := fun w h => hts w (List.mem_cons_of_mem _ h)
  have hown : s.vm.findClass RX14 = some m.cls := findClass_of_methodNamed B.named
  have hlocks := B.notSynchronized
  subst hsz
  have hD := hD0.self (sz := s.heap.size)
  generalize hAe : va_A [(h0, .inr (14, [.int m_thrown, .ref m_stop, .ref m_tape, .int m_taped, .int m_length, .int m_at, .int m_sort, .int m_place, .int m_sign, .long m_letters, .ref m_p, .ref m_spare, .int m_isTaken, .ref m_scope, .int m_scoped, .int m_deep, .int m_counted, .int m_fault, .int m_where, .ref m_cellKind, .ref m_cellCount, .ref m_free, .ref m_pile, .ref m_cellField, .int m_freeCount, .int m_given, .int m_nextPlain, .ref m_otherKind, .ref m_otherField, .int m_isPlain, .int m_hasRun, .int m_hasValue, .int m_hasOther, .long m_value, .long m_other, .int m_steps, .int m_made, .int m_reused, .int m_freed, .int m_most, .int m_doubled, .int m_openMost, .ref m_taskWhat, .ref m_taskPart, .ref m_values, .int m_tasks, .int m_valued, .int m_open, .ref m_slots, .ref m_present, .ref m_shell, .ref m_shellArm, .ref m_shellCall, .int m_shells, .ref m_keptCounts, .ref m_asideKind, .ref m_asideCount, .ref m_asideField, .ref m_out, .ref m_side, .int m_outs, .int m_sides, .ref m_saying])), (m_cellCount, .inl (ak_cellCount, 4000, .inl gcc))] s.heap.size = A at hD hT ⊢
  have hAA : ∀ q : Nat, s.heap.size ≤ q → A q := fun q h => by rw [← hAe]; exact Or.inr h
  have hS : va_S A s.heap s.heap [] := va_S.rf
  have hl := lv_entry ([.ref h0, .long va]) (n := 3) (Nat.le_of_ble_eq_true rfl)
  rw [lg_entry_eq]
  generalize (lg_sl ([.ref h0, .long va]) ++ List.replicate (3 - (lg_sl ([.ref h0, .long va])).length) Slot.unset).toArray = ls at hl ⊢
  have hl : lv_has ls 3 [(0, .ref h0), (1, .long va)] := hl
  refine lv_aload_n hx hb dX14_doubles_0 rfl (lv_at hl 0 rfl) ?_
  refine va_get (D := (dC, dI)) (ci := 14) (v := .int m_isPlain) (C := RX14) (T := TX14) (N := 63) hx hb hA zin_X14 hown hK hP 0 rfl rfl 29 (by decide) (hA _ wi_1526) (fun _ h9 => h9) rfl dX14_doubles_1 ?_
  refine lv_if_ne (tgt := 14) hx hb dX14_doubles_4 (by decide) (fun c_1 => ?_) (fun c_1 => ?_)
  · have ic_1 : m_isPlain.toInt ≠ 0 := zi_ne c_1
    have hP9 := hP.sub (ws' := [(h0, .inr (14, [.int m_thrown, .ref m_stop, .ref m_tape, .int m_taped, .int m_length, .int m_at, .int m_sort, .int m_place, .int m_sign, .long m_letters, .ref m_p, .ref m_spare, .int m_isTaken, .ref m_scope, .int m_scoped, .int m_deep, .int m_counted, .int m_fault, .int m_where, .ref m_cellKind, .ref m_cellCount, .ref m_free, .ref m_pile, .ref m_cellField, .int m_freeCount, .int m_given, .int m_nextPlain, .ref m_otherKind, .ref m_otherField, .int m_isPlain, .int m_hasRun, .int m_hasValue, .int m_hasOther, .long m_value, .long m_other, .int m_steps, .int m_made, .int m_reused, .int m_freed, .int m_most, .int m_doubled, .int m_openMost, .ref m_taskWhat, .ref m_taskPart, .ref m_values, .int m_tasks, .int m_valued, .int m_open, .ref m_slots, .ref m_present, .ref m_shell, .ref m_shellArm, .ref m_shellCall, .int m_shells, .ref m_keptCounts, .ref m_asideKind, .ref m_asideCount, .ref m_asideField, .ref m_out, .ref m_side, .int m_outs, .int m_sides, .ref m_saying])), (m_cellCount, .inl (ak_cellCount, 4000, .inl gcc))]) [0, 1] rfl
    have hD9 := hD.sub (ws' := [(h0, .inr (14, [.int m_thrown, .ref m_stop, .ref m_tape, .int m_taped, .int m_length, .int m_at, .int m_sort, .int m_place, .int m_sign, .long m_letters, .ref m_p, .ref m_spare, .int m_isTaken, .ref m_scope, .int m_scoped, .int m_deep, .int m_counted, .int m_fault, .int m_where, .ref m_cellKind, .ref m_cellCount, .ref m_free, .ref m_pile, .ref m_cellField, .int m_freeCount, .int m_given, .int m_nextPlain, .ref m_otherKind, .ref m_otherField, .int m_isPlain, .int m_hasRun, .int m_hasValue, .int m_hasOther, .long m_value, .long m_other, .int m_steps, .int m_made, .int m_reused, .int m_freed, .int m_most, .int m_doubled, .int m_openMost, .ref m_taskWhat, .ref m_taskPart, .ref m_values, .int m_tasks, .int m_valued, .int m_open, .ref m_slots, .ref m_present, .ref m_shell, .ref m_shellArm, .ref m_shellCall, .int m_shells, .ref m_keptCounts, .ref m_asideKind, .ref m_asideCount, .ref m_asideField, .ref m_out, .ref m_side, .int m_outs, .int m_sides, .ref m_saying])), (m_cellCount, .inl (ak_cellCount, 4000, .inl gcc))]) [0, 1] (by decide) rfl
    have hK9 := hK.sub (tys' := [(ak_cellCount, .int)]) [0] rfl
    exact W.vret hx hb hr (fun t ht hW => ⟨⟨(m_doubled, gcc), rfl, ⟨by omega, by omega, (zH_cp0 hH (Or.inr (by omega)) hlv), (fun _ => Int.le_refl _)⟩, by rw [ht]; exact hP9, va_K.moved hW.alike hK9, hD9⟩, hS.F ht⟩) hS.2.2 dX14_doubles_14
  · have ic_1 : m_isPlain.toInt = 0 := zi_eq c_1
    refine lv_lload_n hx hb dX14_doubles_7 rfl (lv_at hl 1 rfl) ?_
    have hPc := hP.sub (ws' := []) [] rfl
    have hDc := hD.sub (ws' := []) [] (by decide) rfl
    have hKc := hK.sub (tys' := []) [] rfl
    have hFc := va_free (wc := []) hD hS hAA [] rfl
    refine va_calli (va_runS (As := [.long va]) (rest := []) ⟨hx, hb, hml, hown, hA⟩ (c_X14_isCell_x l dC dI aK aV va s.heap.size) (va_cwS 1 hA (zw_S wi_1921 wi_1922 wi_143 (zw_good wi_1923)) rfl rfl rfl (by decide +kernel) ⟨(Nat.le_of_ble_eq_true rfl), (Nat.le_of_ble_eq_true rfl)⟩) ⟨zP_blind, zz_pre hKc hPc hDc hN hT hS hFc⟩ rfl rfl hl.1 rfl (lv_room (Nat.le_of_ble_eq_true rfl)) dX14_doubles_8 ⟨(Nat.le_of_ble_eq_true rfl), (Nat.le_of_ble_eq_true rfl)⟩) hS (fun q _ h => hFc q h) hFc (fun r_2 u t H1 locs ht hvm hw hB hz1 hk1 hS => ?_)
    obtain ⟨hP1, hK1, hD1⟩ := hB
    rw [ht] at hP1
    have hK1 := va_K.moved hvm.symm hK1
    obtain ⟨hP, hD⟩ := va_join (wr := [(h0, .inr (14, [.int m_thrown, .ref m_stop, .ref m_tape, .int m_taped, .int m_length, .int m_at, .int m_sort, .int m_place, .int m_sign, .long m_letters, .ref m_p, .ref m_spare, .int m_isTaken, .ref m_scope, .int m_scoped, .int m_deep, .int m_counted, .int m_fault, .int m_where, .ref m_cellKind, .ref m_cellCount, .ref m_free, .ref m_pile, .ref m_cellField, .int m_freeCount, .int m_given, .int m_nextPlain, .ref m_otherKind, .ref m_otherField, .int m_isPlain, .int m_hasRun, .int m_hasValue, .int m_hasOther, .long m_value, .long m_other, .int m_steps, .int m_made, .int m_reused, .int m_freed, .int m_most, .int m_doubled, .int m_openMost, .ref m_taskWhat, .ref m_taskPart, .ref m_values, .int m_tasks, .int m_valued, .int m_open, .ref m_slots, .ref m_present, .ref m_shell, .ref m_shellArm, .ref m_shellCall, .int m_shells, .ref m_keptCounts, .ref m_asideKind, .ref m_asideCount, .ref m_asideField, .ref m_out, .ref m_side, .int m_outs, .int m_sides, .ref m_saying])), (m_cellCount, .inl (ak_cellCount, 4000, .inl gcc))]) (w1 := []) hP hD [] [0, 1] rfl rfl (by decide) (by decide) hk1 hFc hP1 hD1
    have hK := (hK.sub (tys' := [(ak_cellCount, .int)]) [0] rfl).app hK1
    generalize H1 = H at hP hS ⊢
    have hP : va_P (dC, dI) vwCl [(h0, .inr (14, [.int m_thrown, .ref m_stop, .ref m_tape, .int m_taped, .int m_length, .int m_at, .int m_sort, .int m_place, .int m_sign, .long m_letters, .ref m_p, .ref m_spare, .int m_isTaken, .ref m_scope, .int m_scoped, .int m_deep, .int m_counted, .int m_fault, .int m_where, .ref m_cellKind, .ref m_cellCount, .ref m_free, .ref m_pile, .ref m_cellField, .int m_freeCount, .int m_given, .int m_nextPlain, .ref m_otherKind, .ref m_otherField, .int m_isPlain, .int m_hasRun, .int m_hasValue, .int m_hasOther, .long m_value, .long m_other, .int m_steps, .int m_made, .int m_reused, .int m_freed, .int m_most, .int m_doubled, .int m_openMost, .ref m_taskWhat, .ref m_taskPart, .ref m_values, .int m_tasks, .int m_valued, .int m_open, .ref m_slots, .ref m_present, .ref m_shell, .ref m_shellArm, .ref m_shellCall, .int m_shells, .ref m_keptCounts, .ref m_asideKind, .ref m_asideCount, .ref m_asideField, .ref m_out, .ref m_side, .int m_outs, .int m_sides, .ref m_saying])), (m_cellCount, .inl (ak_cellCount, 4000, .inl gcc))] H := hP
    have hD : va_D A [(h0, .inr (14, [.int m_thrown, .ref m_stop, .ref m_tape, .int m_taped, .int m_length, .int m_at, .int m_sort, .int m_place, .int m_sign, .long m_letters, .ref m_p, .ref m_spare, .int m_isTaken, .ref m_scope, .int m_scoped, .int m_deep, .int m_counted, .int m_fault, .int m_where, .ref m_cellKind, .ref m_cellCount, .ref m_free, .ref m_pile, .ref m_cellField, .int m_freeCount, .int m_given, .int m_nextPlain, .ref m_otherKind, .ref m_otherField, .int m_isPlain, .int m_hasRun, .int m_hasValue, .int m_hasOther, .long m_value, .long m_other, .int m_steps, .int m_made, .int m_reused, .int m_freed, .int m_most, .int m_doubled, .int m_openMost, .ref m_taskWhat, .ref m_taskPart, .ref m_values, .int m_tasks, .int m_valued, .int m_open, .ref m_slots, .ref m_present, .ref m_shell, .ref m_shellArm, .ref m_shellCall, .int m_shells, .ref m_keptCounts, .ref m_asideKind, .ref m_asideCount, .ref m_asideField, .ref m_out, .ref m_side, .int m_outs, .int m_sides, .ref m_saying])), (m_cellCount, .inl (ak_cellCount, 4000, .inl gcc))] := hD
    have hK : va_K (dC, dI) vwCl [(ak_cellCount, .int)] s := hK
    have hw_r_2 := hw
    try dsimp only at hw_r_2
    have hq_3 := hw
    refine lv_if_ne (tgt := 15) hx hb dX14_doubles_11 (by decide) (fun c_4 => ?_) (fun c_4 => ?_)
    · have ic_4 : r_2.toInt ≠ 0 := zi_ne c_4
      have h2c : zhs va = 2 := hq_3.elim (fun g => g.2) (fun g => absurd g.1 (by omega))
      obtain ⟨h0c, hlc⟩ := hlv h2c
      have hat := (zH_at hH hlc).2 (by omega)
      have hnn := zn_nat h0c
      have hdb0 := hH.2.2.2.2.2.1
      refine lv_aload_n hx hb dX14_doubles_15 rfl (lv_at hl 0 rfl) ?_
      refine va_get (D := (dC, dI)) (ci := 14) (v := .ref m_cellCount) (C := RX14) (T := TX14) (N := 63) hx hb hA zin_X14 hown hK hP 0 rfl rfl 20 (by decide) (hA _ wi_1517) (fun _ h9 => h9) rfl dX14_doubles_16 ?_
      refine lv_lload_n hx hb dX14_doubles_19 rfl (lv_at hl 1 rfl) ?_
      refine lv_l2i hx hb dX14_doubles_20 rfl ?_
      refine lv_topi (fun x_5 ex_5 => ?_)
      have ix_5 : x_5.toInt = va.toInt32.toInt := by rw [ex_5]
      refine lv_dup2_11 hx hb dX14_doubles_21 rfl rfl ?_
      refine va_iald hx hb hK hP 1 0 rfl rfl (vp_in_iff.mpr ⟨by omega, by omega⟩) dX14_doubles_22 ?_
      refine lv_topi (fun x_6 ex_6 => ?_)
      have ix_6 : 1 ≤ x_6.toInt ∧ x_6.toInt ≤ m_doubled.toInt + 1 := by rw [ex_6, show Int32.toNatClampNeg x_5 = Int32.toNatClampNeg va.toInt32 by rw [ex_5]]; exact hat.2
      refine lv_iconst (v := 1) hx hb dX14_doubles_23 (by decide) ?_
      refine lv_iadd hx hb dX14_doubles_24 ?_
      refine lv_topi (fun x_7 ex_7 => ?_)
      have ix_7 : x_7.toInt = x_6.toInt + 1 := by rw [ex_7]; exact zi_addc (by decide) (by omega) (by omega)
      refine va_iast hx hb hK hP hD hS 1 0 rfl rfl (vp_in_iff.mpr ⟨by omega, by omega⟩) dX14_doubles_25 (fun H locs hP hD hS => ?_)
      obtain ⟨f_8, ef_8⟩ : ∃ gz9 : Nat → Int32, gz9 = upd gcc (Int32.toNatClampNeg x_5) x_7 := ⟨_, rfl⟩
      rw [← ef_8] at hP hD
      have hP : va_P (dC, dI) vwCl [(h0, .inr (14, [.int m_thrown, .ref m_stop, .ref m_tape, .int m_taped, .int m_length, .int m_at, .int m_sort, .int m_place, .int m_sign, .long m_letters, .ref m_p, .ref m_spare, .int m_isTaken, .ref m_scope, .int m_scoped, .int m_deep, .int m_counted, .int m_fault, .int m_where, .ref m_cellKind, .ref m_cellCount, .ref m_free, .ref m_pile, .ref m_cellField, .int m_freeCount, .int m_given, .int m_nextPlain, .ref m_otherKind, .ref m_otherField, .int m_isPlain, .int m_hasRun, .int m_hasValue, .int m_hasOther, .long m_value, .long m_other, .int m_steps, .int m_made, .int m_reused, .int m_freed, .int m_most, .int m_doubled, .int m_openMost, .ref m_taskWhat, .ref m_taskPart, .ref m_values, .int m_tasks, .int m_valued, .int m_open, .ref m_slots, .ref m_present, .ref m_shell, .ref m_shellArm, .ref m_shellCall, .int m_shells, .ref m_keptCounts, .ref m_asideKind, .ref m_asideCount, .ref m_asideField, .ref m_out, .ref m_side, .int m_outs, .int m_sides, .ref m_saying])), (m_cellCount, .inl (ak_cellCount, 4000, .inl f_8))] H := hP
      have hD : va_D A [(h0, .inr (14, [.int m_thrown, .ref m_stop, .ref m_tape, .int m_taped, .int m_length, .int m_at, .int m_sort, .int m_place, .int m_sign, .long m_letters, .ref m_p, .ref m_spare, .int m_isTaken, .ref m_scope, .int m_scoped, .int m_deep, .int m_counted, .int m_fault, .int m_where, .ref m_cellKind, .ref m_cellCount, .ref m_free, .ref m_pile, .ref m_cellField, .int m_freeCount, .int m_given, .int m_nextPlain, .ref m_otherKind, .ref m_otherField, .int m_isPlain, .int m_hasRun, .int m_hasValue, .int m_hasOther, .long m_value, .long m_other, .int m_steps, .int m_made, .int m_reused, .int m_freed, .int m_most, .int m_doubled, .int m_openMost, .ref m_taskWhat, .ref m_taskPart, .ref m_values, .int m_tasks, .int m_valued, .int m_open, .ref m_slots, .ref m_present, .ref m_shell, .ref m_shellArm, .ref m_shellCall, .int m_shells, .ref m_keptCounts, .ref m_asideKind, .ref m_asideCount, .ref m_asideField, .ref m_out, .ref m_side, .int m_outs, .int m_sides, .ref m_saying])), (m_cellCount, .inl (ak_cellCount, 4000, .inl f_8))] := hD
      refine lv_aload_n hx hb dX14_doubles_26 rfl (lv_at hl 0 rfl) ?_
      refine lv_dup hx hb dX14_doubles_27 rfl ?_
      refine va_get (D := (dC, dI)) (ci := 14) (v := .int m_doubled) (C := RX14) (T := TX14) (N := 63) hx hb hA zin_X14 hown hK hP 0 rfl rfl 40 (by decide) (hA _ wi_1537) (fun _ h9 => h9) rfl dX14_doubles_28 ?_
      refine lv_iconst (v := 1) hx hb dX14_doubles_31 (by decide) ?_
      refine lv_iadd hx hb dX14_doubles_32 ?_
      refine lv_topi (fun x_9 ex_9 => ?_)
      have ix_9 : x_9.toInt = m_doubled.toInt + 1 := by rw [ex_9]; exact zi_addc (by decide) (by omega) (by omega)
      refine va_put (D := (dC, dI)) (ci := 14) (v := .int x_9) (ty := .int) (C := RX14) (T := TX14) (N := 63) hx hb hA zin_X14 tyX14 tyX14_ok nmX14 hown hK hP hD hS 0 rfl rfl 40 (by decide) (hA _ wi_1537) (fun _ h9 => h9) rfl (by decide +kernel) rfl rfl (Nat.le_of_ble_eq_true rfl) dX14_doubles_33 (fun H locs hP hD hS => ?_)
      have hP : va_P (dC, dI) vwCl [(h0, .inr (14, [.int m_thrown, .ref m_stop, .ref m_tape, .int m_taped, .int m_length, .int m_at, .int m_sort, .int m_place, .int m_sign, .long m_letters, .ref m_p, .ref m_spare, .int m_isTaken, .ref m_scope, .int m_scoped, .int m_deep, .int m_counted, .int m_fault, .int m_where, .ref m_cellKind, .ref m_cellCount, .ref m_free, .ref m_pile, .ref m_cellField, .int m_freeCount, .int m_given, .int m_nextPlain, .ref m_otherKind, .ref m_otherField, .int m_isPlain, .int m_hasRun, .int m_hasValue, .int m_hasOther, .long m_value, .long m_other, .int m_steps, .int m_made, .int m_reused, .int m_freed, .int m_most, .int x_9, .int m_openMost, .ref m_taskWhat, .ref m_taskPart, .ref m_values, .int m_tasks, .int m_valued, .int m_open, .ref m_slots, .ref m_present, .ref m_shell, .ref m_shellArm, .ref m_shellCall, .int m_shells, .ref m_keptCounts, .ref m_asideKind, .ref m_asideCount, .ref m_asideField, .ref m_out, .ref m_side, .int m_outs, .int m_sides, .ref m_saying])), (m_cellCount, .inl (ak_cellCount, 4000, .inl f_8))] H := hP
      have hD : va_D A [(h0, .inr (14, [.int m_thrown, .ref m_stop, .ref m_tape, .int m_taped, .int m_length, .int m_at, .int m_sort, .int m_place, .int m_sign, .long m_letters, .ref m_p, .ref m_spare, .int m_isTaken, .ref m_scope, .int m_scoped, .int m_deep, .int m_counted, .int m_fault, .int m_where, .ref m_cellKind, .ref m_cellCount, .ref m_free, .ref m_pile, .ref m_cellField, .int m_freeCount, .int m_given, .int m_nextPlain, .ref m_otherKind, .ref m_otherField, .int m_isPlain, .int m_hasRun, .int m_hasValue, .int m_hasOther, .long m_value, .long m_other, .int m_steps, .int m_made, .int m_reused, .int m_freed, .int m_most, .int x_9, .int m_openMost, .ref m_taskWhat, .ref m_taskPart, .ref m_values, .int m_tasks, .int m_valued, .int m_open, .ref m_slots, .ref m_present, .ref m_shell, .ref m_shellArm, .ref m_shellCall, .int m_shells, .ref m_keptCounts, .ref m_asideKind, .ref m_asideCount, .ref m_asideField, .ref m_out, .ref m_side, .int m_outs, .int m_sides, .ref m_saying])), (m_cellCount, .inl (ak_cellCount, 4000, .inl f_8))] := hD
      have hP9 := hP.sub (ws' := [(h0, .inr (14, [.int m_thrown, .ref m_stop, .ref m_tape, .int m_taped, .int m_length, .int m_at, .int m_sort, .int m_place, .int m_sign, .long m_letters, .ref m_p, .ref m_spare, .int m_isTaken, .ref m_scope, .int m_scoped, .int m_deep, .int m_counted, .int m_fault, .int m_where, .ref m_cellKind, .ref m_cellCount, .ref m_free, .ref m_pile, .ref m_cellField, .int m_freeCount, .int m_given, .int m_nextPlain, .ref m_otherKind, .ref m_otherField, .int m_isPlain, .int m_hasRun, .int m_hasValue, .int m_hasOther, .long m_value, .long m_other, .int m_steps, .int m_made, .int m_reused, .int m_freed, .int m_most, .int x_9, .int m_openMost, .ref m_taskWhat, .ref m_taskPart, .ref m_values, .int m_tasks, .int m_valued, .int m_open, .ref m_slots, .ref m_present, .ref m_shell, .ref m_shellArm, .ref m_shellCall, .int m_shells, .ref m_keptCounts, .ref m_asideKind, .ref m_asideCount, .ref m_asideField, .ref m_out, .ref m_side, .int m_outs, .int m_sides, .ref m_saying])), (m_cellCount, .inl (ak_cellCount, 4000, .inl f_8))]) [0, 1] rfl
      have hD9 := hD.sub (ws' := [(h0, .inr (14, [.int m_thrown, .ref m_stop, .ref m_tape, .int m_taped, .int m_length, .int m_at, .int m_sort, .int m_place, .int m_sign, .long m_letters, .ref m_p, .ref m_spare, .int m_isTaken, .ref m_scope, .int m_scoped, .int m_deep, .int m_counted, .int m_fault, .int m_where, .ref m_cellKind, .ref m_cellCount, .ref m_free, .ref m_pile, .ref m_cellField, .int m_freeCount, .int m_given, .int m_nextPlain, .ref m_otherKind, .ref m_otherField, .int m_isPlain, .int m_hasRun, .int m_hasValue, .int m_hasOther, .long m_value, .long m_other, .int m_steps, .int m_made, .int m_reused, .int m_freed, .int m_most, .int x_9, .int m_openMost, .ref m_taskWhat, .ref m_taskPart, .ref m_values, .int m_tasks, .int m_valued, .int m_open, .ref m_slots, .ref m_present, .ref m_shell, .ref m_shellArm, .ref m_shellCall, .int m_shells, .ref m_keptCounts, .ref m_asideKind, .ref m_asideCount, .ref m_asideField, .ref m_out, .ref m_side, .int m_outs, .int m_sides, .ref m_saying])), (m_cellCount, .inl (ak_cellCount, 4000, .inl f_8))]) [0, 1] (by decide) rfl
      have hK9 := hK.sub (tys' := [(ak_cellCount, .int)]) [0] rfl
      exact W.vret hx hb hr (fun t ht hW => ⟨⟨(x_9, f_8), rfl, ⟨by omega, by omega, (by rw [show Int32.toInt x_9 = Int32.toInt m_doubled + 1 by omega]; exact zH_cp1 hH (by omega) h2c h0c hlc (by rw [ef_8, ex_5]) (by rw [ex_6] at ix_7; rw [ix_7, show Int32.toNatClampNeg x_5 = Int32.toNatClampNeg va.toInt32 by rw [ex_5]])), (fun x => by rw [ef_8]; by_cases g : x = Int32.toNatClampNeg x_5; (rw [g, zu_s]; rw [ex_6] at ix_7; omega); rw [zu_n g]; exact Int.le_refl _)⟩, by rw [ht]; exact hP9, va_K.moved hW.alike hK9, hD9⟩, hS.F ht⟩) hS.2.2 dX14_doubles_36
    · have ic_4 : r_2.toInt = 0 := zi_eq c_4
      have hP9 := hP.sub (ws' := [(h0, .inr (14, [.int m_thrown, .ref m_stop, .ref m_tape, .int m_taped, .int m_length, .int m_at, .int m_sort, .int m_place, .int m_sign, .long m_letters, .ref m_p, .ref m_spare, .int m_isTaken, .ref m_scope, .int m_scoped, .int m_deep, .int m_counted, .int m_fault, .int m_where, .ref m_cellKind, .ref m_cellCount, .ref m_free, .ref m_pile, .ref m_cellField, .int m_freeCount, .int m_given, .int m_nextPlain, .ref m_otherKind, .ref m_otherField, .int m_isPlain, .int m_hasRun, .int m_hasValue, .int m_hasOther, .long m_value, .long m_other, .int m_steps, .int m_made, .int m_reused, .int m_freed, .int m_most, .int m_doubled, .int m_openMost, .ref m_taskWhat, .ref m_taskPart, .ref m_values, .int m_tasks, .int m_valued, .int m_open, .ref m_slots, .ref m_present, .ref m_shell, .ref m_shellArm, .ref m_shellCall, .int m_shells, .ref m_keptCounts, .ref m_asideKind, .ref m_asideCount, .ref m_asideField, .ref m_out, .ref m_side, .int m_outs, .int m_sides, .ref m_saying])), (m_cellCount, .inl (ak_cellCount, 4000, .inl gcc))]) [0, 1] rfl
      have hD9 := hD.sub (ws' := [(h0, .inr (14, [.int m_thrown, .ref m_stop, .ref m_tape, .int m_taped, .int m_length, .int m_at, .int m_sort, .int m_place, .int m_sign, .long m_letters, .ref m_p, .ref m_spare, .int m_isTaken, .ref m_scope, .int m_scoped, .int m_deep, .int m_counted, .int m_fault, .int m_where, .ref m_cellKind, .ref m_cellCount, .ref m_free, .ref m_pile, .ref m_cellField, .int m_freeCount, .int m_given, .int m_nextPlain, .ref m_otherKind, .ref m_otherField, .int m_isPlain, .int m_hasRun, .int m_hasValue, .int m_hasOther, .long m_value, .long m_other, .int m_steps, .int m_made, .int m_reused, .int m_freed, .int m_most, .int m_doubled, .int m_openMost, .ref m_taskWhat, .ref m_taskPart, .ref m_values, .int m_tasks, .int m_valued, .int m_open, .ref m_slots, .ref m_present, .ref m_shell, .ref m_shellArm, .ref m_shellCall, .int m_shells, .ref m_keptCounts, .ref m_asideKind, .ref m_asideCount, .ref m_asideField, .ref m_out, .ref m_side, .int m_outs, .int m_sides, .ref m_saying])), (m_cellCount, .inl (ak_cellCount, 4000, .inl gcc))]) [0, 1] (by decide) rfl
      have hK9 := hK.sub (tys' := [(ak_cellCount, .int)]) [0] rfl
      exact W.vret hx hb hr (fun t ht hW => ⟨⟨(m_doubled, gcc), rfl, ⟨by omega, by omega, (zH_cp0 hH (Or.inl (hq_3.elim (fun g => absurd g.1 (by omega)) (fun g => g.2))) hlv), (fun _ => Int.le_refl _)⟩, by rw [ht]; exact hP9, va_K.moved hW.alike hK9, hD9⟩, hS.F ht⟩) hS.2.2 dX14_doubles_14
set_option maxHeartbeats 4000000 in
set_option maxRecDepth 100000 in
theorem c_X14_call_x (l : Launch) (dC : Nat → ClassId) (dI : Nat → Nat → Nat) (aK aV : Nat → Nat) (h0 : Nat) (m_thrown : Int32) (m_stop : Nat) (m_tape : Nat) (m_taped : Int32) (m_length : Int32) (m_at : Int32) (m_sort : Int32) (m_place : Int32) (m_sign : Int32) (m_letters : Int64) (m_p : Nat) (m_spare : Nat) (m_isTaken : Int32) (m_scope : Nat) (m_scoped : Int32) (m_deep : Int32) (m_counted : Int32) (m_fault : Int32) (m_where : Int32) (m_cellKind : Nat) (m_cellCount : Nat) (m_free : Nat) (m_pile : Nat) (m_cellField : Nat) (m_freeCount : Int32) (m_given : Int32) (m_nextPlain : Int32) (m_otherKind : Nat) (m_otherField : Nat) (m_isPlain : Int32) (m_hasRun : Int32) (m_hasValue : Int32) (m_hasOther : Int32) (m_value : Int64) (m_other : Int64) (m_steps : Int32) (m_made : Int32) (m_reused : Int32) (m_freed : Int32) (m_most : Int32) (m_doubled : Int32) (m_openMost : Int32) (m_taskWhat : Nat) (m_taskPart : Nat) (m_values : Nat) (m_tasks : Int32) (m_valued : Int32) (m_open : Int32) (m_slots : Nat) (m_present : Nat) (m_shell : Nat) (m_shellArm : Nat) (m_shellCall : Nat) (m_shells : Int32) (m_keptCounts : Nat) (m_asideKind : Nat) (m_asideCount : Nat) (m_asideField : Nat) (m_out : Nat) (m_side : Nat) (m_outs : Int32) (m_sides : Int32) (m_saying : Nat) (sz : Nat) (ho0 : 0 ≤ m_open.toInt) (ho1 : m_open.toInt ≤ 100) : Met l yX14_call (Cond.code yX14_call cX14_call 1 (some .int) :: zw) ({ frames := 8, cells := 0, slots := 0, locals := 200 }) (va_Pc [.ref h0] (zP dC dI aK aV sz [] [(h0, .inr (14, [.int m_thrown, .ref m_stop, .ref m_tape, .int m_taped, .int m_length, .int m_at, .int m_sort, .int m_place, .int m_sign, .long m_letters, .ref m_p, .ref m_spare, .int m_isTaken, .ref m_scope, .int m_scoped, .int m_deep, .int m_counted, .int m_fault, .int m_where, .ref m_cellKind, .ref m_cellCount, .ref m_free, .ref m_pile, .ref m_cellField, .int m_freeCount, .int m_given, .int m_nextPlain, .ref m_otherKind, .ref m_otherField, .int m_isPlain, .int m_hasRun, .int m_hasValue, .int m_hasOther, .long m_value, .long m_other, .int m_steps, .int m_made, .int m_reused, .int m_freed, .int m_most, .int m_doubled, .int m_openMost, .ref m_taskWhat, .ref m_taskPart, .ref m_values, .int m_tasks, .int m_valued, .int m_open, .ref m_slots, .ref m_present, .ref m_shell, .ref m_shellArm, .ref m_shellCall, .int m_shells, .ref m_keptCounts, .ref m_asideKind, .ref m_asideCount, .ref m_asideField, .ref m_out, .ref m_side, .int m_outs, .int m_sides, .ref m_saying]))])) (va_Qi (fun (r : Int32) (u : Unit) => (r.toInt = m_open.toInt - 1)) (fun u => zQ dC dI (va_A [(h0, .inr (14, [.int m_thrown, .ref m_stop, .ref m_tape, .int m_taped, .int m_length, .int m_at, .int m_sort, .int m_place, .int m_sign, .long m_letters, .ref m_p, .ref m_spare, .int m_isTaken, .ref m_scope, .int m_scoped, .int m_deep, .int m_counted, .int m_fault, .int m_where, .ref m_cellKind, .ref m_cellCount, .ref m_free, .ref m_pile, .ref m_cellField, .int m_freeCount, .int m_given, .int m_nextPlain, .ref m_otherKind, .ref m_otherField, .int m_isPlain, .int m_hasRun, .int m_hasValue, .int m_hasOther, .long m_value, .long m_other, .int m_steps, .int m_made, .int m_reused, .int m_freed, .int m_most, .int m_doubled, .int m_openMost, .ref m_taskWhat, .ref m_taskPart, .ref m_values, .int m_tasks, .int m_valued, .int m_open, .ref m_slots, .ref m_present, .ref m_shell, .ref m_shellArm, .ref m_shellCall, .int m_shells, .ref m_keptCounts, .ref m_asideKind, .ref m_asideCount, .ref m_asideField, .ref m_out, .ref m_side, .int m_outs, .int m_sides, .ref m_saying]))] sz) [] [(h0, .inr (14, [.int m_thrown, .ref m_stop, .ref m_tape, .int m_taped, .int m_length, .int m_at, .int m_sort, .int m_place, .int m_sign, .long m_letters, .ref m_p, .ref m_spare, .int m_isTaken, .ref m_scope, .int m_scoped, .int m_deep, .int m_counted, .int m_fault, .int m_where, .ref m_cellKind, .ref m_cellCount, .ref m_free, .ref m_pile, .ref m_cellField, .int m_freeCount, .int m_given, .int m_nextPlain, .ref m_otherKind, .ref m_otherField, .int m_isPlain, .int m_hasRun, .int m_hasValue, .int m_hasOther, .long m_value, .long m_other, .int m_steps, .int m_made, .int m_reused, .int m_freed, .int m_most, .int m_doubled, .int m_openMost, .ref m_taskWhat, .ref m_taskPart, .ref m_values, .int m_tasks, .int m_valued, .int m_open, .ref m_slots, .ref m_present, .ref m_shell, .ref m_shellArm, .ref m_shellCall, .int m_shells, .ref m_keptCounts, .ref m_asideKind, .ref m_asideCount, .ref m_asideField, .ref m_out, .ref m_side, .int m_outs, .int m_sides, .ref m_saying]))]) (va_A [(h0, .inr (14, [.int m_thrown, .ref m_stop, .ref m_tape, .int m_taped, .int m_length, .int m_at, .int m_sort, .int m_place, .int m_sign, .long m_letters, .ref m_p, .ref m_spare, .int m_isTaken, .ref m_scope, .int m_scoped, .int m_deep, .int m_counted, .int m_fault, .int m_where, .ref m_cellKind, .ref m_cellCount, .ref m_free, .ref m_pile, .ref m_cellField, .int m_freeCount, .int m_given, .int m_nextPlain, .ref m_otherKind, .ref m_otherField, .int m_isPlain, .int m_hasRun, .int m_hasValue, .int m_hasOther, .long m_value, .long m_other, .int m_steps, .int m_made, .int m_reused, .int m_freed, .int m_most, .int m_doubled, .int m_openMost, .ref m_taskWhat, .ref m_taskPart, .ref m_values, .int m_tasks, .int m_valued, .int m_open, .ref m_slots, .ref m_present, .ref m_shell, .ref m_shellArm, .ref m_shellCall, .int m_shells, .ref m_keptCounts, .ref m_asideKind, .ref m_asideCount, .ref m_asideField, .ref m_out, .ref m_side, .int m_outs, .int m_sides, .ref m_saying]))] sz)) 0 0 (va_A [(h0, .inr (14, [.int m_thrown, .ref m_stop, .ref m_tape, .int m_taped, .int m_length, .int m_at, .int m_sort, .int m_place, .int m_sign, .long m_letters, .ref m_p, .ref m_spare, .int m_isTaken, .ref m_scope, .int m_scoped, .int m_deep, .int m_counted, .int m_fault, .int m_where, .ref m_cellKind, .ref m_cellCount, .ref m_free, .ref m_pile, .ref m_cellField, .int m_freeCount, .int m_given, .int m_nextPlain, .ref m_otherKind, .ref m_otherField, .int m_isPlain, .int m_hasRun, .int m_hasValue, .int m_hasOther, .long m_value, .long m_other, .int m_steps, .int m_made, .int m_reused, .int m_freed, .int m_most, .int m_doubled, .int m_openMost, .ref m_taskWhat, .ref m_taskPart, .ref m_values, .int m_tasks, .int m_valued, .int m_open, .ref m_slots, .ref m_present, .ref m_shell, .ref m_shellArm, .ref m_shellCall, .int m_shells, .ref m_keptCounts, .ref m_asideKind, .ref m_asideCount, .ref m_asideField, .ref m_out, .ref m_side, .int m_outs, .int m_sides, .ref m_saying]))] sz) := by
  refine Met.ofW (cc := cX14_call) (maxL := 1) (ret := (some .int)) (by decide) rfl ?_
  intro p e s m args below meth c s₁ B hml hv
  obtain ⟨rfl, hsz, hP, hK, hD0, hN, hT⟩ := hv
  have hx := B.exec
  have hb := B.bytes
  have hr := B.returns
  have hts := atoms_spec (ws := Cond.code yX14_call cX14_call 1 (some .int) :: zw) B.pre
  have hA : ∀ w ∈ zw, w.before _ s = true := fun w h => hts w (List.mem_cons_of_mem _ h)
  have hown : s.vm.findClass RX14 = some m.cls := findClass_of_methodNamed B.named
  have hlocks := B.notSynchronized
  subst hsz
  have hD := hD0.self (sz := s.heap.size)
  generalize hAe : va_A [(h0, .inr (14, [.int m_thrown, .ref m_stop, .ref m_tape, .int m_taped, .int m_length, .int m_at, .int m_sort, .int m_place, .int m_sign, .long m_letters, .ref m_p, .ref m_spare, .int m_isTaken, .ref m_scope, .int m_scoped, .int m_deep, .int m_counted, .int m_fault, .int m_where, .ref m_cellKind, .ref m_cellCount, .ref m_free, .ref m_pile, .ref m_cellField, .int m_freeCount, .int m_given, .int m_nextPlain, .ref m_otherKind, .ref m_otherField, .int m_isPlain, .int m_hasRun, .int m_hasValue, .int m_hasOther, .long m_value, .long m_other, .int m_steps, .int m_made, .int m_reused, .int m_freed, .int m_most, .int m_doubled, .int m_openMost, .ref m_taskWhat, .ref m_taskPart, .ref m_values, .int m_tasks, .int m_valued, .int m_open, .ref m_slots, .ref m_present, .ref m_shell, .ref m_shellArm, .ref m_shellCall, .int m_shells, .ref m_keptCounts, .ref m_asideKind, .ref m_asideCount, .ref m_asideField, .ref m_out, .ref m_side, .int m_outs, .int m_sides, .ref m_saying]))] s.heap.size = A at hD hT ⊢
  have hAA : ∀ q : Nat, s.heap.size ≤ q → A q := fun q h => by rw [← hAe]; exact Or.inr h
  have hS : va_S A s.heap s.heap [] := va_S.rf
  have hl := lv_entry ([.ref h0]) (n := 1) (Nat.le_of_ble_eq_true rfl)
  rw [lg_entry_eq]
  generalize (lg_sl ([.ref h0]) ++ List.replicate (1 - (lg_sl ([.ref h0])).length) Slot.unset).toArray = ls at hl ⊢
  have hl : lv_has ls 1 [(0, .ref h0)] := hl
  refine lv_aload_n hx hb dX14_call_0 rfl (lv_at hl 0 rfl) ?_
  refine va_get (D := (dC, dI)) (ci := 14) (v := .int m_open) (C := RX14) (T := TX14) (N := 63) hx hb hA zin_X14 hown hK hP 0 rfl rfl 47 (by decide) (hA _ wi_1544) (fun _ h9 => h9) rfl dX14_call_1 ?_
  refine lv_iconst (v := 1) hx hb dX14_call_4 (by decide) ?_
  refine lv_isub hx hb dX14_call_5 ?_
  refine lv_topi (fun x_1 ex_1 => ?_)
  have ix_1 : x_1.toInt = m_open.toInt - 1 := by rw [ex_1]; exact zi_subc (by decide) (by omega) (by omega)
  have hP9 := hP.sub (ws' := [(h0, .inr (14, [.int m_thrown, .ref m_stop, .ref m_tape, .int m_taped, .int m_length, .int m_at, .int m_sort, .int m_place, .int m_sign, .long m_letters, .ref m_p, .ref m_spare, .int m_isTaken, .ref m_scope, .int m_scoped, .int m_deep, .int m_counted, .int m_fault, .int m_where, .ref m_cellKind, .ref m_cellCount, .ref m_free, .ref m_pile, .ref m_cellField, .int m_freeCount, .int m_given, .int m_nextPlain, .ref m_otherKind, .ref m_otherField, .int m_isPlain, .int m_hasRun, .int m_hasValue, .int m_hasOther, .long m_value, .long m_other, .int m_steps, .int m_made, .int m_reused, .int m_freed, .int m_most, .int m_doubled, .int m_openMost, .ref m_taskWhat, .ref m_taskPart, .ref m_values, .int m_tasks, .int m_valued, .int m_open, .ref m_slots, .ref m_present, .ref m_shell, .ref m_shellArm, .ref m_shellCall, .int m_shells, .ref m_keptCounts, .ref m_asideKind, .ref m_asideCount, .ref m_asideField, .ref m_out, .ref m_side, .int m_outs, .int m_sides, .ref m_saying]))]) [0] rfl
  have hD9 := hD.sub (ws' := [(h0, .inr (14, [.int m_thrown, .ref m_stop, .ref m_tape, .int m_taped, .int m_length, .int m_at, .int m_sort, .int m_place, .int m_sign, .long m_letters, .ref m_p, .ref m_spare, .int m_isTaken, .ref m_scope, .int m_scoped, .int m_deep, .int m_counted, .int m_fault, .int m_where, .ref m_cellKind, .ref m_cellCount, .ref m_free, .ref m_pile, .ref m_cellField, .int m_freeCount, .int m_given, .int m_nextPlain, .ref m_otherKind, .ref m_otherField, .int m_isPlain, .int m_hasRun, .int m_hasValue, .int m_hasOther, .long m_value, .long m_other, .int m_steps, .int m_made, .int m_reused, .int m_freed, .int m_most, .int m_doubled, .int m_openMost, .ref m_taskWhat, .ref m_taskPart, .ref m_values, .int m_tasks, .int m_valued, .int m_open, .ref m_slots, .ref m_present, .ref m_shell, .ref m_shellArm, .ref m_shellCall, .int m_shells, .ref m_keptCounts, .ref m_asideKind, .ref m_asideCount, .ref m_asideField, .ref m_out, .ref m_side, .int m_outs, .int m_sides, .ref m_saying]))]) [0] (by decide) rfl
  have hK9 := hK.sub (tys' := []) [] rfl
  exact W.iret (v := x_1) hx hb hr (fun t ht hW => ⟨⟨x_1, (), rfl, by omega, by rw [ht]; exact hP9, va_K.moved hW.alike hK9, hD9⟩, hS.F ht⟩) hS.2.2 dX14_call_6

end
