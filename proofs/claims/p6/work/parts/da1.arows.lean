theorem wi_1513 : Cond.fieldLink RX14 312 "ReuseHouseModel" "counted" "I" ∈ zw := zw_in (List.mem_of_getElem? (i := 1513) (by decide +kernel)) (by decide +kernel)
theorem wi_1786 : Cond.code yX14_begins cX14_begins 1 (some .boolean) ∈ zw := zw_in (List.mem_of_getElem? (i := 1786) (by decide +kernel)) (by decide +kernel)
theorem wi_1783 : Cond.methodLink RX14 248 yX14_begins ∈ zw := zw_in (List.mem_of_getElem? (i := 1783) (by decide +kernel)) (by decide +kernel)
theorem wi_1785 : Cond.instanceMethod yX14_begins ∈ zw := zw_in (List.mem_of_getElem? (i := 1785) (by decide +kernel)) (by decide +kernel)
theorem wi_83 : Cond.selects RX14 yX14_begins yX14_begins ∈ zw := zw_in (List.mem_of_getElem? (i := 83) (by decide +kernel)) (by decide +kernel)
theorem dX14_arguments_0 : decode cX14_arguments 0 = .ok (.aload_n 0, 1) := by decide +kernel
theorem dX14_arguments_1 : decode cX14_arguments 1 = .ok (.invokevirtual 184, 3) := by decide +kernel
theorem dX14_arguments_4 : decode cX14_arguments 4 = .ok (.iconst (-1), 1) := by decide +kernel
theorem dX14_arguments_5 : decode cX14_arguments 5 = .ok (.istore_n 2, 1) := by decide +kernel
theorem dX14_arguments_6 : decode cX14_arguments 6 = .ok (.iconst (-1), 1) := by decide +kernel
theorem dX14_arguments_7 : decode cX14_arguments 7 = .ok (.istore_n 3, 1) := by decide +kernel
theorem dX14_arguments_8 : decode cX14_arguments 8 = .ok (.iconst 0, 1) := by decide +kernel
theorem dX14_arguments_9 : decode cX14_arguments 9 = .ok (.istore 4, 2) := by decide +kernel
theorem dX14_arguments_11 : decode cX14_arguments 11 = .ok (.iconst 1, 1) := by decide +kernel
theorem dX14_arguments_12 : decode cX14_arguments 12 = .ok (.istore 5, 2) := by decide +kernel
theorem dX14_arguments_14 : decode cX14_arguments 14 = .ok (.iload 5, 2) := by decide +kernel
theorem dX14_arguments_16 : decode cX14_arguments 16 = .ok (.ifCond .eq 90, 3) := by decide +kernel
theorem dX14_arguments_19 : decode cX14_arguments 19 = .ok (.aload_n 0, 1) := by decide +kernel
theorem dX14_arguments_20 : decode cX14_arguments 20 = .ok (.invokevirtual 248, 3) := by decide +kernel
theorem dX14_arguments_23 : decode cX14_arguments 23 = .ok (.ifCond .ne 13, 3) := by decide +kernel
theorem dX14_arguments_26 : decode cX14_arguments 26 = .ok (.aload_n 0, 1) := by decide +kernel
theorem dX14_arguments_27 : decode cX14_arguments 27 = .ok (.iconst 1, 1) := by decide +kernel
theorem dX14_arguments_28 : decode cX14_arguments 28 = .ok (.aload_n 0, 1) := by decide +kernel
theorem dX14_arguments_29 : decode cX14_arguments 29 = .ok (.getfield 151, 3) := by decide +kernel
theorem dX14_arguments_32 : decode cX14_arguments 32 = .ok (.invokevirtual 181, 3) := by decide +kernel
theorem dX14_arguments_35 : decode cX14_arguments 35 = .ok (.athrow, 1) := by decide +kernel
theorem dX14_arguments_36 : decode cX14_arguments 36 = .ok (.iload 4, 2) := by decide +kernel
theorem dX14_arguments_38 : decode cX14_arguments 38 = .ok (.iload_n 1, 1) := by decide +kernel
theorem dX14_arguments_39 : decode cX14_arguments 39 = .ok (.if_icmp .ne 13, 3) := by decide +kernel
theorem dX14_arguments_42 : decode cX14_arguments 42 = .ok (.aload_n 0, 1) := by decide +kernel
theorem dX14_arguments_43 : decode cX14_arguments 43 = .ok (.iconst 5, 1) := by decide +kernel
theorem dX14_arguments_44 : decode cX14_arguments 44 = .ok (.aload_n 0, 1) := by decide +kernel
theorem dX14_arguments_45 : decode cX14_arguments 45 = .ok (.getfield 151, 3) := by decide +kernel
theorem dX14_arguments_48 : decode cX14_arguments 48 = .ok (.invokevirtual 181, 3) := by decide +kernel
theorem dX14_arguments_51 : decode cX14_arguments 51 = .ok (.athrow, 1) := by decide +kernel
theorem dX14_arguments_52 : decode cX14_arguments 52 = .ok (.aload_n 0, 1) := by decide +kernel
theorem dX14_arguments_53 : decode cX14_arguments 53 = .ok (.invokevirtual 272, 3) := by decide +kernel
theorem dX14_arguments_56 : decode cX14_arguments 56 = .ok (.istore 6, 2) := by decide +kernel
theorem dX14_arguments_58 : decode cX14_arguments 58 = .ok (.iload_n 2, 1) := by decide +kernel
theorem dX14_arguments_59 : decode cX14_arguments 59 = .ok (.iconst (-1), 1) := by decide +kernel
theorem dX14_arguments_60 : decode cX14_arguments 60 = .ok (.if_icmp .ne 9, 3) := by decide +kernel
theorem dX14_arguments_63 : decode cX14_arguments 63 = .ok (.iload 6, 2) := by decide +kernel
theorem dX14_arguments_65 : decode cX14_arguments 65 = .ok (.istore_n 2, 1) := by decide +kernel
theorem dX14_arguments_66 : decode cX14_arguments 66 = .ok (.goto 14, 3) := by decide +kernel
theorem dX14_arguments_69 : decode cX14_arguments 69 = .ok (.aload_n 0, 1) := by decide +kernel
theorem dX14_arguments_70 : decode cX14_arguments 70 = .ok (.getfield 27, 3) := by decide +kernel
theorem dX14_arguments_73 : decode cX14_arguments 73 = .ok (.getfield 211, 3) := by decide +kernel
theorem dX14_arguments_76 : decode cX14_arguments 76 = .ok (.iload_n 3, 1) := by decide +kernel
theorem dX14_arguments_77 : decode cX14_arguments 77 = .ok (.iload 6, 2) := by decide +kernel
theorem dX14_arguments_79 : decode cX14_arguments 79 = .ok (.iastore, 1) := by decide +kernel
theorem dX14_arguments_80 : decode cX14_arguments 80 = .ok (.iload 6, 2) := by decide +kernel
theorem dX14_arguments_82 : decode cX14_arguments 82 = .ok (.istore_n 3, 1) := by decide +kernel
theorem dX14_arguments_83 : decode cX14_arguments 83 = .ok (.iinc 4 1, 3) := by decide +kernel
theorem dX14_arguments_86 : decode cX14_arguments 86 = .ok (.aload_n 0, 1) := by decide +kernel
theorem dX14_arguments_87 : decode cX14_arguments 87 = .ok (.bipush 44, 2) := by decide +kernel
theorem dX14_arguments_89 : decode cX14_arguments 89 = .ok (.invokevirtual 178, 3) := by decide +kernel
theorem dX14_arguments_92 : decode cX14_arguments 92 = .ok (.istore 5, 2) := by decide +kernel
theorem dX14_arguments_94 : decode cX14_arguments 94 = .ok (.iload 5, 2) := by decide +kernel
theorem dX14_arguments_96 : decode cX14_arguments 96 = .ok (.ifCond .eq 7, 3) := by decide +kernel
theorem dX14_arguments_99 : decode cX14_arguments 99 = .ok (.aload_n 0, 1) := by decide +kernel
theorem dX14_arguments_100 : decode cX14_arguments 100 = .ok (.invokevirtual 184, 3) := by decide +kernel
theorem dX14_arguments_103 : decode cX14_arguments 103 = .ok (.goto (-89), 3) := by decide +kernel
theorem dX14_arguments_106 : decode cX14_arguments 106 = .ok (.aload_n 0, 1) := by decide +kernel
theorem dX14_arguments_107 : decode cX14_arguments 107 = .ok (.bipush 41, 2) := by decide +kernel
theorem dX14_arguments_109 : decode cX14_arguments 109 = .ok (.invokevirtual 268, 3) := by decide +kernel
theorem dX14_arguments_112 : decode cX14_arguments 112 = .ok (.aload_n 0, 1) := by decide +kernel
theorem dX14_arguments_113 : decode cX14_arguments 113 = .ok (.iload 4, 2) := by decide +kernel
theorem dX14_arguments_115 : decode cX14_arguments 115 = .ok (.putfield 312, 3) := by decide +kernel
theorem dX14_arguments_118 : decode cX14_arguments 118 = .ok (.iload_n 2, 1) := by decide +kernel
theorem dX14_arguments_119 : decode cX14_arguments 119 = .ok (.ireturn, 1) := by decide +kernel
