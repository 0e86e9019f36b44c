theorem wi_657 : Cond.methodLink RX10 39 Lib.Math.min.name ∈ zw := zw_in (List.mem_of_getElem? (i := 657) (by decide +kernel)) (by decide +kernel)
theorem wi_658 : Cond.static Lib.Math.min.name ∈ zw := zw_in (List.mem_of_getElem? (i := 658) (by decide +kernel)) (by decide +kernel)
theorem wi_659 : Cond.code Lib.Math.min.name Lib.Math.min.code 2 (some .int) ∈ zw := zw_in (List.mem_of_getElem? (i := 659) (by decide +kernel)) (by decide +kernel)
theorem wi_660 : Cond.methodLink RX10 45 Lib.Math.max.name ∈ zw := zw_in (List.mem_of_getElem? (i := 660) (by decide +kernel)) (by decide +kernel)
theorem wi_777 : Cond.code yX10_advance cX10_advance 1 none ∈ zw := zw_in (List.mem_of_getElem? (i := 777) (by decide +kernel)) (by decide +kernel)
theorem wi_774 : Cond.methodLink RX10 59 yX10_advance ∈ zw := zw_in (List.mem_of_getElem? (i := 774) (by decide +kernel)) (by decide +kernel)
theorem wi_775 : Cond.instanceMethod yX10_advance ∈ zw := zw_in (List.mem_of_getElem? (i := 775) (by decide +kernel)) (by decide +kernel)
theorem wi_776 : Cond.selects RX10 yX10_advance yX10_advance ∈ zw := zw_in (List.mem_of_getElem? (i := 776) (by decide +kernel)) (by decide +kernel)
theorem wi_785 : Cond.code yX2_clear cX2_clear 1 none ∈ zw := zw_in (List.mem_of_getElem? (i := 785) (by decide +kernel)) (by decide +kernel)
theorem wi_782 : Cond.methodLink RX9 37 yX2_clear ∈ zw := zw_in (List.mem_of_getElem? (i := 782) (by decide +kernel)) (by decide +kernel)
theorem wi_783 : Cond.instanceMethod yX2_clear ∈ zw := zw_in (List.mem_of_getElem? (i := 783) (by decide +kernel)) (by decide +kernel)
theorem wi_784 : Cond.selects RX2 yX2_clear yX2_clear ∈ zw := zw_in (List.mem_of_getElem? (i := 784) (by decide +kernel)) (by decide +kernel)
theorem wi_248 : Cond.fieldLink RX9 40 "ReuseHouse$Arms" "size" "I" ∈ zw := zw_in (List.mem_of_getElem? (i := 248) (by decide +kernel)) (by decide +kernel)
theorem wi_274 : Cond.fieldLink RX9 44 "ReuseHouse$Kinds" "size" "I" ∈ zw := zw_in (List.mem_of_getElem? (i := 274) (by decide +kernel)) (by decide +kernel)
theorem wi_296 : Cond.fieldLink RX9 45 "ReuseHouse$Functions" "size" "I" ∈ zw := zw_in (List.mem_of_getElem? (i := 296) (by decide +kernel)) (by decide +kernel)
theorem wi_652 : Cond.classLink RX7 73 "java/lang/IllegalStateException" ∈ zw := zw_in (List.mem_of_getElem? (i := 652) (by decide +kernel)) (by decide +kernel)
theorem wi_154 : Cond.initialized "java/lang/IllegalStateException" ∈ zw := zw_in (List.mem_of_getElem? (i := 154) (by decide +kernel)) (by decide +kernel)
theorem wi_355 : Cond.fieldLink RX7 80 "ReuseHouse$Tokens" "place" "I" ∈ zw := zw_in (List.mem_of_getElem? (i := 355) (by decide +kernel)) (by decide +kernel)
theorem wi_809 : Cond.code yX7_fail cX7_fail 3 none ∈ zw := zw_in (List.mem_of_getElem? (i := 809) (by decide +kernel)) (by decide +kernel)
theorem wi_806 : Cond.methodLink RX7 83 yX7_fail ∈ zw := zw_in (List.mem_of_getElem? (i := 806) (by decide +kernel)) (by decide +kernel)
theorem wi_808 : Cond.instanceMethod yX7_fail ∈ zw := zw_in (List.mem_of_getElem? (i := 808) (by decide +kernel)) (by decide +kernel)
theorem wi_5 : Cond.selects RX7 yX7_fail yX7_fail ∈ zw := zw_in (List.mem_of_getElem? (i := 5) (by decide +kernel)) (by decide +kernel)
theorem wi_353 : Cond.fieldLink RX7 60 "ReuseHouse$Tokens" "sort" "I" ∈ zw := zw_in (List.mem_of_getElem? (i := 353) (by decide +kernel)) (by decide +kernel)
theorem wi_880 : Cond.code yX7_failForm cX7_failForm 1 none ∈ zw := zw_in (List.mem_of_getElem? (i := 880) (by decide +kernel)) (by decide +kernel)
theorem wi_877 : Cond.methodLink RX7 109 yX7_failForm ∈ zw := zw_in (List.mem_of_getElem? (i := 877) (by decide +kernel)) (by decide +kernel)
theorem wi_879 : Cond.instanceMethod yX7_failForm ∈ zw := zw_in (List.mem_of_getElem? (i := 879) (by decide +kernel)) (by decide +kernel)
theorem wi_8 : Cond.selects RX7 yX7_failForm yX7_failForm ∈ zw := zw_in (List.mem_of_getElem? (i := 8) (by decide +kernel)) (by decide +kernel)
theorem wi_876 : Cond.code yX7_expect cX7_expect 2 none ∈ zw := zw_in (List.mem_of_getElem? (i := 876) (by decide +kernel)) (by decide +kernel)
theorem wi_873 : Cond.methodLink RX7 66 yX7_expect ∈ zw := zw_in (List.mem_of_getElem? (i := 873) (by decide +kernel)) (by decide +kernel)
theorem wi_875 : Cond.instanceMethod yX7_expect ∈ zw := zw_in (List.mem_of_getElem? (i := 875) (by decide +kernel)) (by decide +kernel)
theorem wi_7 : Cond.selects RX7 yX7_expect yX7_expect ∈ zw := zw_in (List.mem_of_getElem? (i := 7) (by decide +kernel)) (by decide +kernel)
theorem wi_656 : Cond.code yX10_read cX10_read 7 none ∈ zw := zw_in (List.mem_of_getElem? (i := 656) (by decide +kernel)) (by decide +kernel)
theorem wi_653 : Cond.methodLink RX7 53 yX10_read ∈ zw := zw_in (List.mem_of_getElem? (i := 653) (by decide +kernel)) (by decide +kernel)
theorem wi_654 : Cond.instanceMethod yX10_read ∈ zw := zw_in (List.mem_of_getElem? (i := 654) (by decide +kernel)) (by decide +kernel)
theorem wi_655 : Cond.selects RX10 yX10_read yX10_read ∈ zw := zw_in (List.mem_of_getElem? (i := 655) (by decide +kernel)) (by decide +kernel)
theorem wi_781 : Cond.code yX9_clear cX9_clear 1 none ∈ zw := zw_in (List.mem_of_getElem? (i := 781) (by decide +kernel)) (by decide +kernel)
theorem wi_778 : Cond.methodLink RX7 57 yX9_clear ∈ zw := zw_in (List.mem_of_getElem? (i := 778) (by decide +kernel)) (by decide +kernel)
theorem wi_779 : Cond.instanceMethod yX9_clear ∈ zw := zw_in (List.mem_of_getElem? (i := 779) (by decide +kernel)) (by decide +kernel)
theorem wi_780 : Cond.selects RX9 yX9_clear yX9_clear ∈ zw := zw_in (List.mem_of_getElem? (i := 780) (by decide +kernel)) (by decide +kernel)
theorem wi_789 : Cond.code yX7_definition cX7_definition 1 none ∈ zw := zw_in (List.mem_of_getElem? (i := 789) (by decide +kernel)) (by decide +kernel)
theorem wi_786 : Cond.methodLink RX7 63 yX7_definition ∈ zw := zw_in (List.mem_of_getElem? (i := 786) (by decide +kernel)) (by decide +kernel)
theorem wi_788 : Cond.instanceMethod yX7_definition ∈ zw := zw_in (List.mem_of_getElem? (i := 788) (by decide +kernel)) (by decide +kernel)
theorem wi_3 : Cond.selects RX7 yX7_definition yX7_definition ∈ zw := zw_in (List.mem_of_getElem? (i := 3) (by decide +kernel)) (by decide +kernel)
theorem wi_651 : Cond.codeWith yX7_reads cX7_reads 4 (some .boolean) [(26, 72, 75, 73)] ∈ zw := zw_in (List.mem_of_getElem? (i := 651) (by decide +kernel)) (by decide +kernel)
theorem wi_648 : Cond.methodLink RX11 91 yX7_reads ∈ zw := zw_in (List.mem_of_getElem? (i := 648) (by decide +kernel)) (by decide +kernel)
theorem wi_649 : Cond.instanceMethod yX7_reads ∈ zw := zw_in (List.mem_of_getElem? (i := 649) (by decide +kernel)) (by decide +kernel)
theorem wi_650 : Cond.selects RX7 yX7_reads yX7_reads ∈ zw := zw_in (List.mem_of_getElem? (i := 650) (by decide +kernel)) (by decide +kernel)
theorem wi_396 : Cond.fieldLink RX11 95 "ReuseHouse$Parser" "faultNumber" "I" ∈ zw := zw_in (List.mem_of_getElem? (i := 396) (by decide +kernel)) (by decide +kernel)
theorem wi_398 : Cond.fieldLink RX11 96 "ReuseHouse$Parser" "faultPlace" "I" ∈ zw := zw_in (List.mem_of_getElem? (i := 398) (by decide +kernel)) (by decide +kernel)
theorem dX10_advance_0 : decode cX10_advance 0 = .ok (.aload_n 0, 1) := by decide +kernel
theorem dX10_advance_1 : decode cX10_advance 1 = .ok (.aload_n 0, 1) := by decide +kernel
theorem dX10_advance_2 : decode cX10_advance 2 = .ok (.getfield 26, 3) := by decide +kernel
theorem dX10_advance_5 : decode cX10_advance 5 = .ok (.iconst 1, 1) := by decide +kernel
theorem dX10_advance_6 : decode cX10_advance 6 = .ok (.iadd, 1) := by decide +kernel
theorem dX10_advance_7 : decode cX10_advance 7 = .ok (.aload_n 0, 1) := by decide +kernel
theorem dX10_advance_8 : decode cX10_advance 8 = .ok (.getfield 22, 3) := by decide +kernel
theorem dX10_advance_11 : decode cX10_advance 11 = .ok (.invokestatic 39, 3) := by decide +kernel
theorem dX10_advance_14 : decode cX10_advance 14 = .ok (.putfield 26, 3) := by decide +kernel
theorem dX10_advance_17 : decode cX10_advance 17 = .ok (.aload_n 0, 1) := by decide +kernel
theorem dX10_advance_18 : decode cX10_advance 18 = .ok (.aload_n 0, 1) := by decide +kernel
theorem dX10_advance_19 : decode cX10_advance 19 = .ok (.getfield 9, 3) := by decide +kernel
theorem dX10_advance_22 : decode cX10_advance 22 = .ok (.aload_n 0, 1) := by decide +kernel
theorem dX10_advance_23 : decode cX10_advance 23 = .ok (.getfield 26, 3) := by decide +kernel
theorem dX10_advance_26 : decode cX10_advance 26 = .ok (.iaload, 1) := by decide +kernel
theorem dX10_advance_27 : decode cX10_advance 27 = .ok (.putfield 29, 3) := by decide +kernel
theorem dX10_advance_30 : decode cX10_advance 30 = .ok (.aload_n 0, 1) := by decide +kernel
theorem dX10_advance_31 : decode cX10_advance 31 = .ok (.aload_n 0, 1) := by decide +kernel
theorem dX10_advance_32 : decode cX10_advance 32 = .ok (.getfield 15, 3) := by decide +kernel
theorem dX10_advance_35 : decode cX10_advance 35 = .ok (.aload_n 0, 1) := by decide +kernel
theorem dX10_advance_36 : decode cX10_advance 36 = .ok (.getfield 26, 3) := by decide +kernel
theorem dX10_advance_39 : decode cX10_advance 39 = .ok (.iaload, 1) := by decide +kernel
theorem dX10_advance_40 : decode cX10_advance 40 = .ok (.putfield 32, 3) := by decide +kernel
theorem dX10_advance_43 : decode cX10_advance 43 = .ok (.aload_n 0, 1) := by decide +kernel
theorem dX10_advance_44 : decode cX10_advance 44 = .ok (.aload_n 0, 1) := by decide +kernel
theorem dX10_advance_45 : decode cX10_advance 45 = .ok (.getfield 18, 3) := by decide +kernel
theorem dX10_advance_48 : decode cX10_advance 48 = .ok (.aload_n 0, 1) := by decide +kernel
theorem dX10_advance_49 : decode cX10_advance 49 = .ok (.getfield 26, 3) := by decide +kernel
theorem dX10_advance_52 : decode cX10_advance 52 = .ok (.laload, 1) := by decide +kernel
theorem dX10_advance_53 : decode cX10_advance 53 = .ok (.putfield 35, 3) := by decide +kernel
theorem dX10_advance_56 : decode cX10_advance 56 = .ok (.return_, 1) := by decide +kernel
theorem dX10_read_0 : decode cX10_read 0 = .ok (.iconst 0, 1) := by decide +kernel
theorem dX10_read_1 : decode cX10_read 1 = .ok (.iload_n 2, 1) := by decide +kernel
theorem dX10_read_2 : decode cX10_read 2 = .ok (.sipush 2000, 3) := by decide +kernel
theorem dX10_read_5 : decode cX10_read 5 = .ok (.invokestatic 39, 3) := by decide +kernel
theorem dX10_read_8 : decode cX10_read 8 = .ok (.invokestatic 45, 3) := by decide +kernel
theorem dX10_read_11 : decode cX10_read 11 = .ok (.istore_n 3, 1) := by decide +kernel
theorem dX10_read_12 : decode cX10_read 12 = .ok (.iconst 0, 1) := by decide +kernel
theorem dX10_read_13 : decode cX10_read 13 = .ok (.istore 4, 2) := by decide +kernel
theorem dX10_read_15 : decode cX10_read 15 = .ok (.aload_n 0, 1) := by decide +kernel
theorem dX10_read_16 : decode cX10_read 16 = .ok (.iconst 0, 1) := by decide +kernel
theorem dX10_read_17 : decode cX10_read 17 = .ok (.putfield 22, 3) := by decide +kernel
theorem dX10_read_20 : decode cX10_read 20 = .ok (.iconst 0, 1) := by decide +kernel
theorem dX10_read_21 : decode cX10_read 21 = .ok (.istore 5, 2) := by decide +kernel
theorem dX10_read_23 : decode cX10_read 23 = .ok (.iload 5, 2) := by decide +kernel
theorem dX10_read_25 : decode cX10_read 25 = .ok (.iload_n 3, 1) := by decide +kernel
theorem dX10_read_26 : decode cX10_read 26 = .ok (.if_icmp .ge 95, 3) := by decide +kernel
theorem dX10_read_121 : decode cX10_read 121 = .ok (.aload_n 0, 1) := by decide +kernel
theorem dX10_read_122 : decode cX10_read 122 = .ok (.getfield 9, 3) := by decide +kernel
theorem dX10_read_125 : decode cX10_read 125 = .ok (.aload_n 0, 1) := by decide +kernel
theorem dX10_read_126 : decode cX10_read 126 = .ok (.getfield 22, 3) := by decide +kernel
theorem dX10_read_129 : decode cX10_read 129 = .ok (.sipush 256, 3) := by decide +kernel
theorem dX10_read_132 : decode cX10_read 132 = .ok (.iastore, 1) := by decide +kernel
theorem dX10_read_133 : decode cX10_read 133 = .ok (.aload_n 0, 1) := by decide +kernel
theorem dX10_read_134 : decode cX10_read 134 = .ok (.getfield 15, 3) := by decide +kernel
theorem dX10_read_137 : decode cX10_read 137 = .ok (.aload_n 0, 1) := by decide +kernel
theorem dX10_read_138 : decode cX10_read 138 = .ok (.getfield 22, 3) := by decide +kernel
theorem dX10_read_141 : decode cX10_read 141 = .ok (.iload_n 3, 1) := by decide +kernel
theorem dX10_read_142 : decode cX10_read 142 = .ok (.iastore, 1) := by decide +kernel
theorem dX10_read_143 : decode cX10_read 143 = .ok (.aload_n 0, 1) := by decide +kernel
theorem dX10_read_144 : decode cX10_read 144 = .ok (.getfield 18, 3) := by decide +kernel
theorem dX10_read_147 : decode cX10_read 147 = .ok (.aload_n 0, 1) := by decide +kernel
theorem dX10_read_148 : decode cX10_read 148 = .ok (.getfield 22, 3) := by decide +kernel
theorem dX10_read_151 : decode cX10_read 151 = .ok (.lconst 0, 1) := by decide +kernel
theorem dX10_read_152 : decode cX10_read 152 = .ok (.lastore, 1) := by decide +kernel
theorem dX10_read_153 : decode cX10_read 153 = .ok (.aload_n 0, 1) := by decide +kernel
theorem dX10_read_154 : decode cX10_read 154 = .ok (.iconst (-1), 1) := by decide +kernel
theorem dX10_read_155 : decode cX10_read 155 = .ok (.putfield 26, 3) := by decide +kernel
theorem dX10_read_158 : decode cX10_read 158 = .ok (.aload_n 0, 1) := by decide +kernel
theorem dX10_read_159 : decode cX10_read 159 = .ok (.invokevirtual 59, 3) := by decide +kernel
theorem dX10_read_162 : decode cX10_read 162 = .ok (.return_, 1) := by decide +kernel
theorem dX11_program_0 : decode cX11_program 0 = .ok (.aload_n 0, 1) := by decide +kernel
theorem dX11_program_1 : decode cX11_program 1 = .ok (.iconst (-1), 1) := by decide +kernel
theorem dX11_program_2 : decode cX11_program 2 = .ok (.putfield 62, 3) := by decide +kernel
theorem dX11_program_5 : decode cX11_program 5 = .ok (.aload_n 0, 1) := by decide +kernel
theorem dX11_program_6 : decode cX11_program 6 = .ok (.iconst 0, 1) := by decide +kernel
theorem dX11_program_7 : decode cX11_program 7 = .ok (.putfield 59, 3) := by decide +kernel
theorem dX11_program_10 : decode cX11_program 10 = .ok (.iload_n 1, 1) := by decide +kernel
theorem dX11_program_11 : decode cX11_program 11 = .ok (.ifCond .lt 11, 3) := by decide +kernel
theorem dX11_program_14 : decode cX11_program 14 = .ok (.iload_n 1, 1) := by decide +kernel
theorem dX11_program_15 : decode cX11_program 15 = .ok (.aload_n 0, 1) := by decide +kernel
theorem dX11_program_16 : decode cX11_program 16 = .ok (.getfield 13, 3) := by decide +kernel
theorem dX11_program_19 : decode cX11_program 19 = .ok (.if_icmp .le 5, 3) := by decide +kernel
theorem dX11_program_22 : decode cX11_program 22 = .ok (.iconst (-1), 1) := by decide +kernel
theorem dX11_program_23 : decode cX11_program 23 = .ok (.ireturn, 1) := by decide +kernel
theorem dX11_program_24 : decode cX11_program 24 = .ok (.aload_n 0, 1) := by decide +kernel
theorem dX11_program_25 : decode cX11_program 25 = .ok (.iconst 0, 1) := by decide +kernel
theorem dX11_program_26 : decode cX11_program 26 = .ok (.putfield 13, 3) := by decide +kernel
theorem dX11_program_29 : decode cX11_program 29 = .ok (.aload_n 0, 1) := by decide +kernel
theorem dX11_program_30 : decode cX11_program 30 = .ok (.getfield 27, 3) := by decide +kernel
theorem dX11_program_33 : decode cX11_program 33 = .ok (.aload_n 0, 1) := by decide +kernel
theorem dX11_program_34 : decode cX11_program 34 = .ok (.getfield 9, 3) := by decide +kernel
theorem dX11_program_37 : decode cX11_program 37 = .ok (.iload_n 1, 1) := by decide +kernel
theorem dX11_program_38 : decode cX11_program 38 = .ok (.invokevirtual 91, 3) := by decide +kernel
theorem dX11_program_41 : decode cX11_program 41 = .ok (.ifCond .ne 27, 3) := by decide +kernel
theorem dX11_program_44 : decode cX11_program 44 = .ok (.aload_n 0, 1) := by decide +kernel
theorem dX11_program_45 : decode cX11_program 45 = .ok (.aload_n 0, 1) := by decide +kernel
theorem dX11_program_46 : decode cX11_program 46 = .ok (.getfield 27, 3) := by decide +kernel
theorem dX11_program_49 : decode cX11_program 49 = .ok (.getfield 95, 3) := by decide +kernel
theorem dX11_program_52 : decode cX11_program 52 = .ok (.putfield 59, 3) := by decide +kernel
theorem dX11_program_55 : decode cX11_program 55 = .ok (.aload_n 0, 1) := by decide +kernel
theorem dX11_program_56 : decode cX11_program 56 = .ok (.aload_n 0, 1) := by decide +kernel
theorem dX11_program_57 : decode cX11_program 57 = .ok (.getfield 27, 3) := by decide +kernel
theorem dX11_program_60 : decode cX11_program 60 = .ok (.getfield 96, 3) := by decide +kernel
theorem dX11_program_63 : decode cX11_program 63 = .ok (.putfield 62, 3) := by decide +kernel
theorem dX11_program_66 : decode cX11_program 66 = .ok (.iconst (-1), 1) := by decide +kernel
theorem dX11_program_67 : decode cX11_program 67 = .ok (.ireturn, 1) := by decide +kernel
theorem dX2_clear_0 : decode cX2_clear 0 = .ok (.aload_n 0, 1) := by decide +kernel
theorem dX2_clear_1 : decode cX2_clear 1 = .ok (.iconst 0, 1) := by decide +kernel
theorem dX2_clear_2 : decode cX2_clear 2 = .ok (.putfield 30, 3) := by decide +kernel
theorem dX2_clear_5 : decode cX2_clear 5 = .ok (.aload_n 0, 1) := by decide +kernel
theorem dX2_clear_6 : decode cX2_clear 6 = .ok (.iconst (-1), 1) := by decide +kernel
theorem dX2_clear_7 : decode cX2_clear 7 = .ok (.putfield 34, 3) := by decide +kernel
theorem dX2_clear_10 : decode cX2_clear 10 = .ok (.return_, 1) := by decide +kernel
theorem dX7_definition_0 : decode cX7_definition 0 = .ok (.aload_n 0, 1) := by decide +kernel
theorem dX7_definition_1 : decode cX7_definition 1 = .ok (.getfield 12, 3) := by decide +kernel
theorem dX7_definition_4 : decode cX7_definition 4 = .ok (.getfield 60, 3) := by decide +kernel
theorem dX7_definition_7 : decode cX7_definition 7 = .ok (.sipush 268, 3) := by decide +kernel
theorem dX7_definition_10 : decode cX7_definition 10 = .ok (.if_icmp .ne 22, 3) := by decide +kernel
theorem dX7_definition_32 : decode cX7_definition 32 = .ok (.aload_n 0, 1) := by decide +kernel
theorem dX7_definition_33 : decode cX7_definition 33 = .ok (.sipush 268, 3) := by decide +kernel
theorem dX7_definition_36 : decode cX7_definition 36 = .ok (.invokevirtual 66, 3) := by decide +kernel
theorem dX7_expect_0 : decode cX7_expect 0 = .ok (.aload_n 0, 1) := by decide +kernel
theorem dX7_expect_1 : decode cX7_expect 1 = .ok (.getfield 12, 3) := by decide +kernel
theorem dX7_expect_4 : decode cX7_expect 4 = .ok (.getfield 60, 3) := by decide +kernel
theorem dX7_expect_7 : decode cX7_expect 7 = .ok (.iload_n 1, 1) := by decide +kernel
theorem dX7_expect_8 : decode cX7_expect 8 = .ok (.if_icmp .eq 7, 3) := by decide +kernel
theorem dX7_expect_11 : decode cX7_expect 11 = .ok (.aload_n 0, 1) := by decide +kernel
theorem dX7_expect_12 : decode cX7_expect 12 = .ok (.invokevirtual 109, 3) := by decide +kernel
theorem dX7_fail_0 : decode cX7_fail 0 = .ok (.aload_n 0, 1) := by decide +kernel
theorem dX7_fail_1 : decode cX7_fail 1 = .ok (.iload_n 1, 1) := by decide +kernel
theorem dX7_fail_2 : decode cX7_fail 2 = .ok (.putfield 47, 3) := by decide +kernel
theorem dX7_fail_5 : decode cX7_fail 5 = .ok (.aload_n 0, 1) := by decide +kernel
theorem dX7_fail_6 : decode cX7_fail 6 = .ok (.iload_n 2, 1) := by decide +kernel
theorem dX7_fail_7 : decode cX7_fail 7 = .ok (.putfield 50, 3) := by decide +kernel
theorem dX7_fail_10 : decode cX7_fail 10 = .ok (.new 73, 3) := by decide +kernel
theorem dX7_fail_13 : decode cX7_fail 13 = .ok (.dup, 1) := by decide +kernel
theorem dX7_fail_14 : decode cX7_fail 14 = .ok (.invokespecial 79, 3) := by decide +kernel
theorem dX7_fail_17 : decode cX7_fail 17 = .ok (.athrow, 1) := by decide +kernel
theorem dX7_failForm_0 : decode cX7_failForm 0 = .ok (.aload_n 0, 1) := by decide +kernel
theorem dX7_failForm_1 : decode cX7_failForm 1 = .ok (.iconst 1, 1) := by decide +kernel
theorem dX7_failForm_2 : decode cX7_failForm 2 = .ok (.aload_n 0, 1) := by decide +kernel
theorem dX7_failForm_3 : decode cX7_failForm 3 = .ok (.getfield 12, 3) := by decide +kernel
theorem dX7_failForm_6 : decode cX7_failForm 6 = .ok (.getfield 80, 3) := by decide +kernel
theorem dX7_failForm_9 : decode cX7_failForm 9 = .ok (.invokevirtual 83, 3) := by decide +kernel
theorem dX7_reads_0 : decode cX7_reads 0 = .ok (.aload_n 0, 1) := by decide +kernel
theorem dX7_reads_1 : decode cX7_reads 1 = .ok (.getfield 12, 3) := by decide +kernel
theorem dX7_reads_4 : decode cX7_reads 4 = .ok (.aload_n 1, 1) := by decide +kernel
theorem dX7_reads_5 : decode cX7_reads 5 = .ok (.iload_n 2, 1) := by decide +kernel
theorem dX7_reads_6 : decode cX7_reads 6 = .ok (.invokevirtual 53, 3) := by decide +kernel
theorem dX7_reads_9 : decode cX7_reads 9 = .ok (.aload_n 0, 1) := by decide +kernel
theorem dX7_reads_10 : decode cX7_reads 10 = .ok (.getfield 40, 3) := by decide +kernel
theorem dX7_reads_13 : decode cX7_reads 13 = .ok (.invokevirtual 57, 3) := by decide +kernel
theorem dX7_reads_16 : decode cX7_reads 16 = .ok (.aload_n 0, 1) := by decide +kernel
theorem dX7_reads_17 : decode cX7_reads 17 = .ok (.iconst 0, 1) := by decide +kernel
theorem dX7_reads_18 : decode cX7_reads 18 = .ok (.putfield 47, 3) := by decide +kernel
theorem dX7_reads_21 : decode cX7_reads 21 = .ok (.aload_n 0, 1) := by decide +kernel
theorem dX7_reads_22 : decode cX7_reads 22 = .ok (.iconst (-1), 1) := by decide +kernel
theorem dX7_reads_23 : decode cX7_reads 23 = .ok (.putfield 50, 3) := by decide +kernel
theorem dX7_reads_26 : decode cX7_reads 26 = .ok (.iconst 0, 1) := by decide +kernel
theorem dX7_reads_27 : decode cX7_reads 27 = .ok (.istore_n 3, 1) := by decide +kernel
theorem dX7_reads_28 : decode cX7_reads 28 = .ok (.iload_n 3, 1) := by decide +kernel
theorem dX7_reads_29 : decode cX7_reads 29 = .ok (.bipush 30, 2) := by decide +kernel
theorem dX7_reads_31 : decode cX7_reads 31 = .ok (.if_icmp .gt 30, 3) := by decide +kernel
theorem dX7_reads_34 : decode cX7_reads 34 = .ok (.iload_n 3, 1) := by decide +kernel
theorem dX7_reads_35 : decode cX7_reads 35 = .ok (.ifCond .eq 16, 3) := by decide +kernel
theorem dX7_reads_51 : decode cX7_reads 51 = .ok (.aload_n 0, 1) := by decide +kernel
theorem dX7_reads_52 : decode cX7_reads 52 = .ok (.invokevirtual 63, 3) := by decide +kernel
theorem dX7_reads_75 : decode cX7_reads 75 = .ok (.astore_n 3, 1) := by decide +kernel
theorem dX7_reads_76 : decode cX7_reads 76 = .ok (.iconst 0, 1) := by decide +kernel
theorem dX7_reads_77 : decode cX7_reads 77 = .ok (.ireturn, 1) := by decide +kernel
theorem dX9_clear_0 : decode cX9_clear 0 = .ok (.aload_n 0, 1) := by decide +kernel
theorem dX9_clear_1 : decode cX9_clear 1 = .ok (.getfield 10, 3) := by decide +kernel
theorem dX9_clear_4 : decode cX9_clear 4 = .ok (.invokevirtual 37, 3) := by decide +kernel
theorem dX9_clear_7 : decode cX9_clear 7 = .ok (.aload_n 0, 1) := by decide +kernel
theorem dX9_clear_8 : decode cX9_clear 8 = .ok (.getfield 19, 3) := by decide +kernel
theorem dX9_clear_11 : decode cX9_clear 11 = .ok (.iconst 0, 1) := by decide +kernel
theorem dX9_clear_12 : decode cX9_clear 12 = .ok (.putfield 40, 3) := by decide +kernel
theorem dX9_clear_15 : decode cX9_clear 15 = .ok (.aload_n 0, 1) := by decide +kernel
theorem dX9_clear_16 : decode cX9_clear 16 = .ok (.getfield 26, 3) := by decide +kernel
theorem dX9_clear_19 : decode cX9_clear 19 = .ok (.iconst 0, 1) := by decide +kernel
theorem dX9_clear_20 : decode cX9_clear 20 = .ok (.putfield 44, 3) := by decide +kernel
theorem dX9_clear_23 : decode cX9_clear 23 = .ok (.aload_n 0, 1) := by decide +kernel
theorem dX9_clear_24 : decode cX9_clear 24 = .ok (.getfield 33, 3) := by decide +kernel
theorem dX9_clear_27 : decode cX9_clear 27 = .ok (.iconst 0, 1) := by decide +kernel
theorem dX9_clear_28 : decode cX9_clear 28 = .ok (.putfield 45, 3) := by decide +kernel
theorem dX9_clear_31 : decode cX9_clear 31 = .ok (.return_, 1) := by decide +kernel
set_option maxHeartbeats 4000000 in
set_option maxRecDepth 100000 in
theorem c_X10_advance (l : Launch) (dC : Nat → ClassId) (dI : Nat → Nat → Nat) (h0 : Nat) (z_sorts : Nat) (z_places : Nat) (z_words : Nat) (kS : ClassId) (kP : ClassId) (kW : ClassId) (fS : Nat → Int32) (fP : Nat → Int32) (fW : Nat → Int64) (s0 : Int32) (p0 : Int32) (w0 : Int64) (sz : Nat)  : Met l yX10_advance (Cond.code yX10_advance cX10_advance 1 none :: zw) ({ frames := 8, cells := 0, slots := 0, locals := 200 }) (va_Pc [.ref h0] (zP dC dI sz [(kS, .int), (kP, .int), (kW, .long)] [(h0, .inr (10, [.ref z_sorts, .ref z_places, .ref z_words, .int 0, .int (-1), .int s0, .int p0, .long w0])), (z_sorts, .inl (kS, 2001, .inl fS)), (z_places, .inl (kP, 2001, .inl fP)), (z_words, .inl (kW, 2001, .inr (.inl fW)))])) (va_Qv (fun u : Unit => True) (fun u => zQ dC dI (va_A [(h0, .inr (10, [.ref z_sorts, .ref z_places, .ref z_words, .int 0, .int (-1), .int s0, .int p0, .long w0])), (z_sorts, .inl (kS, 2001, .inl fS)), (z_places, .inl (kP, 2001, .inl fP)), (z_words, .inl (kW, 2001, .inr (.inl fW)))] sz) [] [(h0, .inr (10, [.ref z_sorts, .ref z_places, .ref z_words, .int 0, .int 0, .int (fS 0), .int (fP 0), .long (fW 0)]))]) (va_A [(h0, .inr (10, [.ref z_sorts, .ref z_places, .ref z_words, .int 0, .int (-1), .int s0, .int p0, .long w0])), (z_sorts, .inl (kS, 2001, .inl fS)), (z_places, .inl (kP, 2001, .inl fP)), (z_words, .inl (kW, 2001, .inr (.inl fW)))] sz)) 0 0 (va_A [(h0, .inr (10, [.ref z_sorts, .ref z_places, .ref z_words, .int 0, .int (-1), .int s0, .int p0, .long w0])), (z_sorts, .inl (kS, 2001, .inl fS)), (z_places, .inl (kP, 2001, .inl fP)), (z_words, .inl (kW, 2001, .inr (.inl fW)))] sz) := by
  refine Met.ofW (cc := cX10_advance) (maxL := 1) (ret := none) (by decide) rfl ?_
  intro p e s m args below meth c s₁ B hml hv
  obtain ⟨rfl, hsz, hP, hK, hD0, hN, hT⟩ := hv
  have hx := B.exec
  have hb := B.bytes
  have hr := B.returns
  have hts := atoms_spec (ws := Cond.code yX10_advance cX10_advance 1 none :: zw) B.pre
  have hA : ∀ w ∈ zw, w.before _ s = true := fun w h => hts w (List.mem_cons_of_mem _ h)
  have hown : s.vm.findClass RX10 = some m.cls := findClass_of_methodNamed B.named
  have hlocks := B.notSynchronized
  subst hsz
  have hD := hD0.self (sz := s.heap.size)
  generalize hAe : va_A [(h0, .inr (10, [.ref z_sorts, .ref z_places, .ref z_words, .int 0, .int (-1), .int s0, .int p0, .long w0])), (z_sorts, .inl (kS, 2001, .inl fS)), (z_places, .inl (kP, 2001, .inl fP)), (z_words, .inl (kW, 2001, .inr (.inl fW)))] s.heap.size = A at hD hT ⊢
  have hAA : ∀ q : Nat, s.heap.size ≤ q → A q := fun q h => by rw [← hAe]; exact Or.inr h
  have hS : va_S A s.heap s.heap [] := va_S.rf
  have hl := lv_entry ([.ref h0]) (n := 1) (Nat.le_of_ble_eq_true rfl)
  rw [lg_entry_eq]
  generalize (lg_sl ([.ref h0]) ++ List.replicate (1 - (lg_sl ([.ref h0])).length) Slot.unset).toArray = ls at hl ⊢
  have hl : lv_has ls 1 [(0, .ref h0)] := hl
  refine lv_aload_n hx hb dX10_advance_0 rfl (lv_at hl 0 rfl) ?_
  refine lv_aload_n hx hb dX10_advance_1 rfl (lv_at hl 0 rfl) ?_
  refine va_get (D := (dC, dI)) (ci := 10) (v := .int (-1)) (C := RX10) (T := TX10) (N := 8) hx hb hA zin_X10 hown hK hP 0 rfl rfl 4 (by decide) (hA _ wi_350) (fun _ h9 => h9) rfl dX10_advance_2 ?_
  refine lv_iconst (v := 1) hx hb dX10_advance_5 (by decide) ?_
  refine lv_iadd hx hb dX10_advance_6 ?_
  refine lv_topi (fun x_1 ex_1 => ?_)
  obtain rfl : x_1 = 0 := ex_1.trans (by decide)
  refine lv_aload_n hx hb dX10_advance_7 rfl (lv_at hl 0 rfl) ?_
  refine va_get (D := (dC, dI)) (ci := 10) (v := .int 0) (C := RX10) (T := TX10) (N := 8) hx hb hA zin_X10 hown hK hP 0 rfl rfl 3 (by decide) (hA _ wi_349) (fun _ h9 => h9) rfl dX10_advance_8 ?_
  refine va_mmin hx hb (by rw [hml]; exact hl.1.symm) hown (hA _ wi_657) (hA _ wi_658) (hA _ wi_141) (hA _ wi_659) (Nat.le_of_ble_eq_true rfl) (Nat.le_of_ble_eq_true rfl) (Nat.le_of_ble_eq_true rfl) (Nat.le_of_ble_eq_true rfl) dX10_advance_11 ?_
  refine lv_topi (fun x_2 ex_2 => ?_)
  obtain rfl : x_2 = 0 := ex_2.trans (by decide)
  refine va_put (D := (dC, dI)) (ci := 10) (v := .int 0) (ty := .int) (C := RX10) (T := TX10) (N := 8) hx hb hA zin_X10 tyX10 tyX10_ok nmX10 hown hK hP hD hS 0 rfl rfl 4 (by decide) (hA _ wi_350) (fun _ h9 => h9) rfl (by decide +kernel) rfl rfl (Nat.le_of_ble_eq_true rfl) dX10_advance_14 (fun H locs hP hD hS => ?_)
  have hP : va_P (dC, dI) vwCl [(h0, .inr (10, [.ref z_sorts, .ref z_places, .ref z_words, .int 0, .int 0, .int s0, .int p0, .long w0])), (z_sorts, .inl (kS, 2001, .inl fS)), (z_places, .inl (kP, 2001, .inl fP)), (z_words, .inl (kW, 2001, .inr (.inl fW)))] H := hP
  have hD : va_D A [(h0, .inr (10, [.ref z_sorts, .ref z_places, .ref z_words, .int 0, .int 0, .int s0, .int p0, .long w0])), (z_sorts, .inl (kS, 2001, .inl fS)), (z_places, .inl (kP, 2001, .inl fP)), (z_words, .inl (kW, 2001, .inr (.inl fW)))] := hD
  refine lv_aload_n hx hb dX10_advance_17 rfl (lv_at hl 0 rfl) ?_
  refine lv_aload_n hx hb dX10_advance_18 rfl (lv_at hl 0 rfl) ?_
  refine va_get (D := (dC, dI)) (ci := 10) (v := .ref z_sorts) (C := RX10) (T := TX10) (N := 8) hx hb hA zin_X10 hown hK hP 0 rfl rfl 0 (by decide) (hA _ wi_346) (fun _ h9 => h9) rfl dX10_advance_19 ?_
  refine lv_aload_n hx hb dX10_advance_22 rfl (lv_at hl 0 rfl) ?_
  refine va_get (D := (dC, dI)) (ci := 10) (v := .int 0) (C := RX10) (T := TX10) (N := 8) hx hb hA zin_X10 hown hK hP 0 rfl rfl 4 (by decide) (hA _ wi_350) (fun _ h9 => h9) rfl dX10_advance_23 ?_
  refine va_iald hx hb hK hP 1 0 rfl rfl (by unfold vp_in; decide) dX10_advance_26 ?_
  refine lv_topi (fun x_3 ex_3 => ?_)
  obtain rfl : x_3 = (fS 0) := ex_3.trans (congrArg _ (by decide))
  refine va_put (D := (dC, dI)) (ci := 10) (v := .int (fS 0)) (ty := .int) (C := RX10) (T := TX10) (N := 8) hx hb hA zin_X10 tyX10 tyX10_ok nmX10 hown hK hP hD hS 0 rfl rfl 5 (by decide) (hA _ wi_352) (fun _ h9 => h9) rfl (by decide +kernel) rfl rfl (Nat.le_of_ble_eq_true rfl) dX10_advance_27 (fun H locs hP hD hS => ?_)
  have hP : va_P (dC, dI) vwCl [(h0, .inr (10, [.ref z_sorts, .ref z_places, .ref z_words, .int 0, .int 0, .int (fS 0), .int p0, .long w0])), (z_sorts, .inl (kS, 2001, .inl fS)), (z_places, .inl (kP, 2001, .inl fP)), (z_words, .inl (kW, 2001, .inr (.inl fW)))] H := hP
  have hD : va_D A [(h0, .inr (10, [.ref z_sorts, .ref z_places, .ref z_words, .int 0, .int 0, .int (fS 0), .int p0, .long w0])), (z_sorts, .inl (kS, 2001, .inl fS)), (z_places, .inl (kP, 2001, .inl fP)), (z_words, .inl (kW, 2001, .inr (.inl fW)))] := hD
  refine lv_aload_n hx hb dX10_advance_30 rfl (lv_at hl 0 rfl) ?_
  refine lv_aload_n hx hb dX10_advance_31 rfl (lv_at hl 0 rfl) ?_
  refine va_get (D := (dC, dI)) (ci := 10) (v := .ref z_places) (C := RX10) (T := TX10) (N := 8) hx hb hA zin_X10 hown hK hP 0 rfl rfl 1 (by decide) (hA _ wi_347) (fun _ h9 => h9) rfl dX10_advance_32 ?_
  refine lv_aload_n hx hb dX10_advance_35 rfl (lv_at hl 0 rfl) ?_
  refine va_get (D := (dC, dI)) (ci := 10) (v := .int 0) (C := RX10) (T := TX10) (N := 8) hx hb hA zin_X10 hown hK hP 0 rfl rfl 4 (by decide) (hA _ wi_350) (fun _ h9 => h9) rfl dX10_advance_36 ?_
  refine va_iald hx hb hK hP 2 1 rfl rfl (by unfold vp_in; decide) dX10_advance_39 ?_
  refine lv_topi (fun x_4 ex_4 => ?_)
  obtain rfl : x_4 = (fP 0) := ex_4.trans (congrArg _ (by decide))
  refine va_put (D := (dC, dI)) (ci := 10) (v := .int (fP 0)) (ty := .int) (C := RX10) (T := TX10) (N := 8) hx hb hA zin_X10 tyX10 tyX10_ok nmX10 hown hK hP hD hS 0 rfl rfl 6 (by decide) (hA _ wi_354) (fun _ h9 => h9) rfl (by decide +kernel) rfl rfl (Nat.le_of_ble_eq_true rfl) dX10_advance_40 (fun H locs hP hD hS => ?_)
  have hP : va_P (dC, dI) vwCl [(h0, .inr (10, [.ref z_sorts, .ref z_places, .ref z_words, .int 0, .int 0, .int (fS 0), .int (fP 0), .long w0])), (z_sorts, .inl (kS, 2001, .inl fS)), (z_places, .inl (kP, 2001, .inl fP)), (z_words, .inl (kW, 2001, .inr (.inl fW)))] H := hP
  have hD : va_D A [(h0, .inr (10, [.ref z_sorts, .ref z_places, .ref z_words, .int 0, .int 0, .int (fS 0), .int (fP 0), .long w0])), (z_sorts, .inl (kS, 2001, .inl fS)), (z_places, .inl (kP, 2001, .inl fP)), (z_words, .inl (kW, 2001, .inr (.inl fW)))] := hD
  refine lv_aload_n hx hb dX10_advance_43 rfl (lv_at hl 0 rfl) ?_
  refine lv_aload_n hx hb dX10_advance_44 rfl (lv_at hl 0 rfl) ?_
  refine va_get (D := (dC, dI)) (ci := 10) (v := .ref z_words) (C := RX10) (T := TX10) (N := 8) hx hb hA zin_X10 hown hK hP 0 rfl rfl 2 (by decide) (hA _ wi_348) (fun _ h9 => h9) rfl dX10_advance_45 ?_
  refine lv_aload_n hx hb dX10_advance_48 rfl (lv_at hl 0 rfl) ?_
  refine va_get (D := (dC, dI)) (ci := 10) (v := .int 0) (C := RX10) (T := TX10) (N := 8) hx hb hA zin_X10 hown hK hP 0 rfl rfl 4 (by decide) (hA _ wi_350) (fun _ h9 => h9) rfl dX10_advance_49 ?_
  refine va_lald hx hb hK hP 3 2 rfl rfl (by unfold vp_in; decide) dX10_advance_52 ?_
  refine lv_topl (fun x_5 ex_5 => ?_)
  obtain rfl : x_5 = (fW 0) := ex_5.trans (congrArg _ (by decide))
  refine va_put (D := (dC, dI)) (ci := 10) (v := .long (fW 0)) (ty := .long) (C := RX10) (T := TX10) (N := 8) hx hb hA zin_X10 tyX10 tyX10_ok nmX10 hown hK hP hD hS 0 rfl rfl 7 (by decide) (hA _ wi_356) (fun _ h9 => h9) rfl (by decide +kernel) rfl rfl (Nat.le_of_ble_eq_true rfl) dX10_advance_53 (fun H locs hP hD hS => ?_)
  have hP : va_P (dC, dI) vwCl [(h0, .inr (10, [.ref z_sorts, .ref z_places, .ref z_words, .int 0, .int 0, .int (fS 0), .int (fP 0), .long (fW 0)])), (z_sorts, .inl (kS, 2001, .inl fS)), (z_places, .inl (kP, 2001, .inl fP)), (z_words, .inl (kW, 2001, .inr (.inl fW)))] H := hP
  have hD : va_D A [(h0, .inr (10, [.ref z_sorts, .ref z_places, .ref z_words, .int 0, .int 0, .int (fS 0), .int (fP 0), .long (fW 0)])), (z_sorts, .inl (kS, 2001, .inl fS)), (z_places, .inl (kP, 2001, .inl fP)), (z_words, .inl (kW, 2001, .inr (.inl fW)))] := hD
  have hP9 := hP.sub (ws' := [(h0, .inr (10, [.ref z_sorts, .ref z_places, .ref z_words, .int 0, .int 0, .int (fS 0), .int (fP 0), .long (fW 0)]))]) [0] rfl
  have hD9 := hD.sub (ws' := [(h0, .inr (10, [.ref z_sorts, .ref z_places, .ref z_words, .int 0, .int 0, .int (fS 0), .int (fP 0), .long (fW 0)]))]) [0] (by decide) rfl
  have hK9 := hK.sub (tys' := []) [] rfl
  exact W.vret hx hb hr (fun t ht hW => ⟨⟨(), rfl, trivial, by rw [ht]; exact hP9, va_K.moved hW.alike hK9, hD9⟩, hS.F ht⟩) hS.2.2 dX10_advance_56
set_option maxHeartbeats 4000000 in
set_option maxRecDepth 100000 in
theorem c_X10_read (l : Launch) (dC : Nat → ClassId) (dI : Nat → Nat → Nat) (h0 : Nat) (tp : Nat) (z_sorts : Nat) (z_places : Nat) (z_words : Nat) (kS : ClassId) (kP : ClassId) (kW : ClassId) (sz : Nat)  : Met l yX10_read (Cond.code yX10_read cX10_read 7 none :: zw) ({ frames := 10, cells := 0, slots := 0, locals := 300 }) (va_Pc [.ref h0, .ref tp, .int 0] (zP dC dI sz [(kS, .int), (kP, .int), (kW, .long)] [(h0, .inr (10, [.ref z_sorts, .ref z_places, .ref z_words, .int 0, .int 0, .int 256, .int 0, .long 0])), (z_sorts, .inl (kS, 2001, .inl (fun _ => 0))), (z_places, .inl (kP, 2001, .inl (fun _ => 0))), (z_words, .inl (kW, 2001, .inr (.inl (fun _ => 0))))])) (va_Qv (fun u : Int32 × Int64 => match u with | (pl, wd) => True) (fun u => match u with | (pl, wd) => zQ dC dI (va_A [(h0, .inr (10, [.ref z_sorts, .ref z_places, .ref z_words, .int 0, .int 0, .int 256, .int 0, .long 0])), (z_sorts, .inl (kS, 2001, .inl (fun _ => 0))), (z_places, .inl (kP, 2001, .inl (fun _ => 0))), (z_words, .inl (kW, 2001, .inr (.inl (fun _ => 0))))] sz) [] [(h0, .inr (10, [.ref z_sorts, .ref z_places, .ref z_words, .int 0, .int 0, .int 256, .int pl, .long wd]))]) (va_A [(h0, .inr (10, [.ref z_sorts, .ref z_places, .ref z_words, .int 0, .int 0, .int 256, .int 0, .long 0])), (z_sorts, .inl (kS, 2001, .inl (fun _ => 0))), (z_places, .inl (kP, 2001, .inl (fun _ => 0))), (z_words, .inl (kW, 2001, .inr (.inl (fun _ => 0))))] sz)) 0 0 (va_A [(h0, .inr (10, [.ref z_sorts, .ref z_places, .ref z_words, .int 0, .int 0, .int 256, .int 0, .long 0])), (z_sorts, .inl (kS, 2001, .inl (fun _ => 0))), (z_places, .inl (kP, 2001, .inl (fun _ => 0))), (z_words, .inl (kW, 2001, .inr (.inl (fun _ => 0))))] sz) := by
  refine Met.ofW (cc := cX10_read) (maxL := 7) (ret := none) (by decide) rfl ?_
  intro p e s m args below meth c s₁ B hml hv
  obtain ⟨rfl, hsz, hP, hK, hD0, hN, hT⟩ := hv
  have hx := B.exec
  have hb := B.bytes
  have hr := B.returns
  have hts := atoms_spec (ws := Cond.code yX10_read cX10_read 7 none :: zw) B.pre
  have hA : ∀ w ∈ zw, w.before _ s = true := fun w h => hts w (List.mem_cons_of_mem _ h)
  have hown : s.vm.findClass RX10 = some m.cls := findClass_of_methodNamed B.named
  have hlocks := B.notSynchronized
  subst hsz
  have hD := hD0.self (sz := s.heap.size)
  generalize hAe : va_A [(h0, .inr (10, [.ref z_sorts, .ref z_places, .ref z_words, .int 0, .int 0, .int 256, .int 0, .long 0])), (z_sorts, .inl (kS, 2001, .inl (fun _ => 0))), (z_places, .inl (kP, 2001, .inl (fun _ => 0))), (z_words, .inl (kW, 2001, .inr (.inl (fun _ => 0))))] s.heap.size = A at hD hT ⊢
  have hAA : ∀ q : Nat, s.heap.size ≤ q → A q := fun q h => by rw [← hAe]; exact Or.inr h
  have hS : va_S A s.heap s.heap [] := va_S.rf
  have hl := lv_entry ([.ref h0, .ref tp, .int 0]) (n := 7) (Nat.le_of_ble_eq_true rfl)
  rw [lg_entry_eq]
  generalize (lg_sl ([.ref h0, .ref tp, .int 0]) ++ List.replicate (7 - (lg_sl ([.ref h0, .ref tp, .int 0])).length) Slot.unset).toArray = ls at hl ⊢
  have hl : lv_has ls 7 [(0, .ref h0), (1, .ref tp), (2, .int 0)] := hl
  refine lv_iconst (v := 0) hx hb dX10_read_0 (by decide) ?_
  refine lv_iload_n hx hb dX10_read_1 rfl (lv_at hl 2 rfl) ?_
  refine lv_sipush (v := 2000) hx hb dX10_read_2 (by decide) ?_
  refine va_mmin hx hb (by rw [hml]; exact hl.1.symm) hown (hA _ wi_657) (hA _ wi_658) (hA _ wi_141) (hA _ wi_659) (Nat.le_of_ble_eq_true rfl) (Nat.le_of_ble_eq_true rfl) (Nat.le_of_ble_eq_true rfl) (Nat.le_of_ble_eq_true rfl) dX10_read_5 ?_
  refine lv_topi (fun x_1 ex_1 => ?_)
  obtain rfl : x_1 = 0 := ex_1.trans (by decide)
  refine va_mmax hx hb (by rw [hml]; exact hl.1.symm) hown (hA _ wi_660) (hA _ wi_431) (hA _ wi_141) (hA _ wi_432) (Nat.le_of_ble_eq_true rfl) (Nat.le_of_ble_eq_true rfl) (Nat.le_of_ble_eq_true rfl) (Nat.le_of_ble_eq_true rfl) dX10_read_8 ?_
  refine lv_topi (fun x_2 ex_2 => ?_)
  obtain rfl : x_2 = 0 := ex_2.trans (by decide)
  refine lv_istore_n (lv' := [(3, .int 0), (0, .ref h0), (1, .ref tp), (2, .int 0)]) hx hb dX10_read_11 rfl hl (by decide) rfl (fun ls hl => ?_)
  refine lv_iconst (v := 0) hx hb dX10_read_12 (by decide) ?_
  refine lv_istore (lv' := [(4, .int 0), (3, .int 0), (0, .ref h0), (1, .ref tp), (2, .int 0)]) hx hb dX10_read_13 hl (by decide) rfl (fun ls hl => ?_)
  refine lv_aload_n hx hb dX10_read_15 rfl (lv_at hl 2 rfl) ?_
  refine lv_iconst (v := 0) hx hb dX10_read_16 (by decide) ?_
  refine va_put (D := (dC, dI)) (ci := 10) (v := .int 0) (ty := .int) (C := RX10) (T := TX10) (N := 8) hx hb hA zin_X10 tyX10 tyX10_ok nmX10 hown hK hP hD hS 0 rfl rfl 3 (by decide) (hA _ wi_349) (fun _ h9 => h9) rfl (by decide +kernel) rfl rfl (Nat.le_of_ble_eq_true rfl) dX10_read_17 (fun H locs hP hD hS => ?_)
  have hP : va_P (dC, dI) vwCl [(h0, .inr (10, [.ref z_sorts, .ref z_places, .ref z_words, .int 0, .int 0, .int 256, .int 0, .long 0])), (z_sorts, .inl (kS, 2001, .inl (fun _ => 0))), (z_places, .inl (kP, 2001, .inl (fun _ => 0))), (z_words, .inl (kW, 2001, .inr (.inl (fun _ => 0))))] H := hP
  have hD : va_D A [(h0, .inr (10, [.ref z_sorts, .ref z_places, .ref z_words, .int 0, .int 0, .int 256, .int 0, .long 0])), (z_sorts, .inl (kS, 2001, .inl (fun _ => 0))), (z_places, .inl (kP, 2001, .inl (fun _ => 0))), (z_words, .inl (kW, 2001, .inr (.inl (fun _ => 0))))] := hD
  refine lv_iconst (v := 0) hx hb dX10_read_20 (by decide) ?_
  refine lv_istore (lv' := [(5, .int 0), (4, .int 0), (3, .int 0), (0, .ref h0), (1, .ref tp), (2, .int 0)]) hx hb dX10_read_21 hl (by decide) rfl (fun ls hl => ?_)
  refine lv_iload hx hb dX10_read_23 (lv_at hl 0 rfl) ?_
  refine lv_iload_n hx hb dX10_read_25 rfl (lv_at hl 2 rfl) ?_
  refine lv_icmp_ge (tgt := 121) hx hb dX10_read_26 (by decide) (fun _ => ?_) (fun c_0 => absurd (by decide) c_0)
  refine lv_aload_n hx hb dX10_read_121 rfl (lv_at hl 3 rfl) ?_
  refine va_get (D := (dC, dI)) (ci := 10) (v := .ref z_sorts) (C := RX10) (T := TX10) (N := 8) hx hb hA zin_X10 hown hK hP 0 rfl rfl 0 (by decide) (hA _ wi_346) (fun _ h9 => h9) rfl dX10_read_122 ?_
  refine lv_aload_n hx hb dX10_read_125 rfl (lv_at hl 3 rfl) ?_
  refine va_get (D := (dC, dI)) (ci := 10) (v := .int 0) (C := RX10) (T := TX10) (N := 8) hx hb hA zin_X10 hown hK hP 0 rfl rfl 3 (by decide) (hA _ wi_349) (fun _ h9 => h9) rfl dX10_read_126 ?_
  refine lv_sipush (v := 256) hx hb dX10_read_129 (by decide) ?_
  refine va_iast hx hb hK hP hD hS 1 0 rfl rfl (by unfold vp_in; decide) dX10_read_132 (fun H locs hP hD hS => ?_)
  obtain ⟨f_3, ef_3⟩ : ∃ gz9 : Nat → Int32, gz9 = upd (fun _ => 0) (Int32.toNatClampNeg 0) 256 := ⟨_, rfl⟩
  rw [← ef_3] at hP hD
  have hP : va_P (dC, dI) vwCl [(h0, .inr (10, [.ref z_sorts, .ref z_places, .ref z_words, .int 0, .int 0, .int 256, .int 0, .long 0])), (z_sorts, .inl (kS, 2001, .inl f_3)), (z_places, .inl (kP, 2001, .inl (fun _ => 0))), (z_words, .inl (kW, 2001, .inr (.inl (fun _ => 0))))] H := hP
  have hD : va_D A [(h0, .inr (10, [.ref z_sorts, .ref z_places, .ref z_words, .int 0, .int 0, .int 256, .int 0, .long 0])), (z_sorts, .inl (kS, 2001, .inl f_3)), (z_places, .inl (kP, 2001, .inl (fun _ => 0))), (z_words, .inl (kW, 2001, .inr (.inl (fun _ => 0))))] := hD
  refine lv_aload_n hx hb dX10_read_133 rfl (lv_at hl 3 rfl) ?_
  refine va_get (D := (dC, dI)) (ci := 10) (v := .ref z_places) (C := RX10) (T := TX10) (N := 8) hx hb hA zin_X10 hown hK hP 0 rfl rfl 1 (by decide) (hA _ wi_347) (fun _ h9 => h9) rfl dX10_read_134 ?_
  refine lv_aload_n hx hb dX10_read_137 rfl (lv_at hl 3 rfl) ?_
  refine va_get (D := (dC, dI)) (ci := 10) (v := .int 0) (C := RX10) (T := TX10) (N := 8) hx hb hA zin_X10 hown hK hP 0 rfl rfl 3 (by decide) (hA _ wi_349) (fun _ h9 => h9) rfl dX10_read_138 ?_
  refine lv_iload_n hx hb dX10_read_141 rfl (lv_at hl 2 rfl) ?_
  refine va_iast hx hb hK hP hD hS 2 1 rfl rfl (by unfold vp_in; decide) dX10_read_142 (fun H locs hP hD hS => ?_)
  obtain ⟨f_4, ef_4⟩ : ∃ gz9 : Nat → Int32, gz9 = upd (fun _ => 0) (Int32.toNatClampNeg 0) 0 := ⟨_, rfl⟩
  rw [← ef_4] at hP hD
  have hP : va_P (dC, dI) vwCl [(h0, .inr (10, [.ref z_sorts, .ref z_places, .ref z_words, .int 0, .int 0, .int 256, .int 0, .long 0])), (z_sorts, .inl (kS, 2001, .inl f_3)), (z_places, .inl (kP, 2001, .inl f_4)), (z_words, .inl (kW, 2001, .inr (.inl (fun _ => 0))))] H := hP
  have hD : va_D A [(h0, .inr (10, [.ref z_sorts, .ref z_places, .ref z_words, .int 0, .int 0, .int 256, .int 0, .long 0])), (z_sorts, .inl (kS, 2001, .inl f_3)), (z_places, .inl (kP, 2001, .inl f_4)), (z_words, .inl (kW, 2001, .inr (.inl (fun _ => 0))))] := hD
  refine lv_aload_n hx hb dX10_read_143 rfl (lv_at hl 3 rfl) ?_
  refine va_get (D := (dC, dI)) (ci := 10) (v := .ref z_words) (C := RX10) (T := TX10) (N := 8) hx hb hA zin_X10 hown hK hP 0 rfl rfl 2 (by decide) (hA _ wi_348) (fun _ h9 => h9) rfl dX10_read_144 ?_
  refine lv_aload_n hx hb dX10_read_147 rfl (lv_at hl 3 rfl) ?_
  refine va_get (D := (dC, dI)) (ci := 10) (v := .int 0) (C := RX10) (T := TX10) (N := 8) hx hb hA zin_X10 hown hK hP 0 rfl rfl 3 (by decide) (hA _ wi_349) (fun _ h9 => h9) rfl dX10_read_148 ?_
  refine lv_lconst (v := 0) hx hb dX10_read_151 (by decide) ?_
  refine va_last hx hb hK hP hD hS 3 2 rfl rfl (by unfold vp_in; decide) dX10_read_152 (fun H locs hP hD hS => ?_)
  obtain ⟨f_5, ef_5⟩ : ∃ gz9 : Nat → Int64, gz9 = vp_updL (fun _ => 0) (Int32.toNatClampNeg 0) 0 := ⟨_, rfl⟩
  rw [← ef_5] at hP hD
  have hP : va_P (dC, dI) vwCl [(h0, .inr (10, [.ref z_sorts, .ref z_places, .ref z_words, .int 0, .int 0, .int 256, .int 0, .long 0])), (z_sorts, .inl (kS, 2001, .inl f_3)), (z_places, .inl (kP, 2001, .inl f_4)), (z_words, .inl (kW, 2001, .inr (.inl f_5)))] H := hP
  have hD : va_D A [(h0, .inr (10, [.ref z_sorts, .ref z_places, .ref z_words, .int 0, .int 0, .int 256, .int 0, .long 0])), (z_sorts, .inl (kS, 2001, .inl f_3)), (z_places, .inl (kP, 2001, .inl f_4)), (z_words, .inl (kW, 2001, .inr (.inl f_5)))] := hD
  refine lv_aload_n hx hb dX10_read_153 rfl (lv_at hl 3 rfl) ?_
  refine lv_iconst (v := (-1)) hx hb dX10_read_154 (by decide) ?_
  refine va_put (D := (dC, dI)) (ci := 10) (v := .int (-1)) (ty := .int) (C := RX10) (T := TX10) (N := 8) hx hb hA zin_X10 tyX10 tyX10_ok nmX10 hown hK hP hD hS 0 rfl rfl 4 (by decide) (hA _ wi_350) (fun _ h9 => h9) rfl (by decide +kernel) rfl rfl (Nat.le_of_ble_eq_true rfl) dX10_read_155 (fun H locs hP hD hS => ?_)
  have hP : va_P (dC, dI) vwCl [(h0, .inr (10, [.ref z_sorts, .ref z_places, .ref z_words, .int 0, .int (-1), .int 256, .int 0, .long 0])), (z_sorts, .inl (kS, 2001, .inl f_3)), (z_places, .inl (kP, 2001, .inl f_4)), (z_words, .inl (kW, 2001, .inr (.inl f_5)))] H := hP
  have hD : va_D A [(h0, .inr (10, [.ref z_sorts, .ref z_places, .ref z_words, .int 0, .int (-1), .int 256, .int 0, .long 0])), (z_sorts, .inl (kS, 2001, .inl f_3)), (z_places, .inl (kP, 2001, .inl f_4)), (z_words, .inl (kW, 2001, .inr (.inl f_5)))] := hD
  refine lv_aload_n hx hb dX10_read_158 rfl (lv_at hl 3 rfl) ?_
  have hPc := hP.sub (ws' := [(h0, .inr (10, [.ref z_sorts, .ref z_places, .ref z_words, .int 0, .int (-1), .int 256, .int 0, .long 0])), (z_sorts, .inl (kS, 2001, .inl f_3)), (z_places, .inl (kP, 2001, .inl f_4)), (z_words, .inl (kW, 2001, .inr (.inl f_5)))]) [0, 1, 2, 3] rfl
  have hDc := hD.sub (ws' := [(h0, .inr (10, [.ref z_sorts, .ref z_places, .ref z_words, .int 0, .int (-1), .int 256, .int 0, .long 0])), (z_sorts, .inl (kS, 2001, .inl f_3)), (z_places, .inl (kP, 2001, .inl f_4)), (z_words, .inl (kW, 2001, .inr (.inl f_5)))]) [0, 1, 2, 3] (by decide) rfl
  have hKc := hK.sub (tys' := [(kS, .int), (kP, .int), (kW, .long)]) [0, 1, 2] rfl
  have hFc := va_free (wc := [(h0, .inr (10, [.ref z_sorts, .ref z_places, .ref z_words, .int 0, .int (-1), .int 256, .int 0, .long 0])), (z_sorts, .inl (kS, 2001, .inl f_3)), (z_places, .inl (kP, 2001, .inl f_4)), (z_words, .inl (kW, 2001, .inr (.inl f_5)))]) hD hS hAA [0, 1, 2, 3] rfl
  refine va_callv (va_runV (As := []) (rest := []) ⟨hx, hb, hml, hown, hA⟩ (c_X10_advance l dC dI h0 z_sorts z_places z_words kS kP kW f_3 f_4 f_5 256 0 0 H.size) (cwV 0 hA (zw_V wi_774 wi_775 wi_776 wi_137 (zw_good wi_777)) rfl rfl rfl (by decide +kernel) ⟨(Nat.le_of_ble_eq_true rfl), (Nat.le_of_ble_eq_true rfl)⟩) ⟨zP_blind, va_recv hKc hPc (ci := 10) (q0 := 0) rfl rfl, zz_pre hKc hPc hDc hN hT hS hFc⟩ rfl rfl hl.1 rfl (lv_room (Nat.le_of_ble_eq_true rfl)) dX10_read_159 ⟨(Nat.le_of_ble_eq_true rfl), (Nat.le_of_ble_eq_true rfl)⟩) hS (fun q _ h => hFc q h) hFc (fun u t H1 locs ht hvm hw hB hz1 hk1 hS => ?_)
  obtain ⟨hP1, hK1, hD1⟩ := hB
  rw [ht] at hP1
  have hK1 := va_K.moved hvm.symm hK1
  obtain ⟨hP, hD⟩ := va_join (wr := []) (w1 := [(h0, .inr (10, [.ref z_sorts, .ref z_places, .ref z_words, .int 0, .int 0, .int (f_3 0), .int (f_4 0), .long (f_5 0)]))]) hP hD [0, 1, 2, 3] [] rfl rfl (by decide) (by decide) hk1 hFc hP1 hD1
  have hK := (hK.sub (tys' := []) [] rfl).app hK1
  generalize H1 = H at hP hS ⊢
  have hP : va_P (dC, dI) vwCl [(h0, .inr (10, [.ref z_sorts, .ref z_places, .ref z_words, .int 0, .int 0, .int (f_3 0), .int (f_4 0), .long (f_5 0)]))] H := hP
  have hD : va_D A [(h0, .inr (10, [.ref z_sorts, .ref z_places, .ref z_words, .int 0, .int 0, .int (f_3 0), .int (f_4 0), .long (f_5 0)]))] := hD
  have hK : va_K (dC, dI) vwCl [] s := hK
  have hs_7 : f_3 0 = 256 := by rw [ef_3]; rfl
  rw [hs_7] at hP hD
  have hP : va_P (dC, dI) vwCl [(h0, .inr (10, [.ref z_sorts, .ref z_places, .ref z_words, .int 0, .int 0, .int 256, .int (f_4 0), .long (f_5 0)]))] H := hP
  have hD : va_D A [(h0, .inr (10, [.ref z_sorts, .ref z_places, .ref z_words, .int 0, .int 0, .int 256, .int (f_4 0), .long (f_5 0)]))] := hD
  have hP9 := hP.sub (ws' := [(h0, .inr (10, [.ref z_sorts, .ref z_places, .ref z_words, .int 0, .int 0, .int 256, .int (f_4 0), .long (f_5 0)]))]) [0] rfl
  have hD9 := hD.sub (ws' := [(h0, .inr (10, [.ref z_sorts, .ref z_places, .ref z_words, .int 0, .int 0, .int 256, .int (f_4 0), .long (f_5 0)]))]) [0] (by decide) rfl
  have hK9 := hK.sub (tys' := []) [] rfl
  exact W.vret hx hb hr (fun t ht hW => ⟨⟨((f_4 0), (f_5 0)), rfl, trivial, by rw [ht]; exact hP9, va_K.moved hW.alike hK9, hD9⟩, hS.F ht⟩) hS.2.2 dX10_read_162
set_option maxHeartbeats 4000000 in
set_option maxRecDepth 100000 in
theorem c_X2_clear (l : Launch) (dC : Nat → ClassId) (dI : Nat → Nat → Nat) (h0 : Nat) (z_op : Nat) (z_a : Nat) (z_b : Nat) (z_place : Nat) (z_next : Nat) (z_needed : Nat) (sz : Nat)  : Met l yX2_clear (Cond.code yX2_clear cX2_clear 1 none :: zw) ({ frames := 8, cells := 0, slots := 0, locals := 200 }) (va_Pc [.ref h0] (zP dC dI sz [] [(h0, .inr (2, [.ref z_op, .ref z_a, .ref z_b, .ref z_place, .ref z_next, .ref z_needed, .int 0, .int (-1)]))])) (va_Qv (fun u : Unit => True) (fun u => zQ dC dI (va_A [(h0, .inr (2, [.ref z_op, .ref z_a, .ref z_b, .ref z_place, .ref z_next, .ref z_needed, .int 0, .int (-1)]))] sz) [] [(h0, .inr (2, [.ref z_op, .ref z_a, .ref z_b, .ref z_place, .ref z_next, .ref z_needed, .int 0, .int (-1)]))]) (va_A [(h0, .inr (2, [.ref z_op, .ref z_a, .ref z_b, .ref z_place, .ref z_next, .ref z_needed, .int 0, .int (-1)]))] sz)) 0 0 (va_A [(h0, .inr (2, [.ref z_op, .ref z_a, .ref z_b, .ref z_place, .ref z_next, .ref z_needed, .int 0, .int (-1)]))] sz) := by
  refine Met.ofW (cc := cX2_clear) (maxL := 1) (ret := none) (by decide) rfl ?_
  intro p e s m args below meth c s₁ B hml hv
  obtain ⟨rfl, hsz, hP, hK, hD0, hN, hT⟩ := hv
  have hx := B.exec
  have hb := B.bytes
  have hr := B.returns
  have hts := atoms_spec (ws := Cond.code yX2_clear cX2_clear 1 none :: zw) B.pre
  have hA : ∀ w ∈ zw, w.before _ s = true := fun w h => hts w (List.mem_cons_of_mem _ h)
  have hown : s.vm.findClass RX2 = some m.cls := findClass_of_methodNamed B.named
  have hlocks := B.notSynchronized
  subst hsz
  have hD := hD0.self (sz := s.heap.size)
  generalize hAe : va_A [(h0, .inr (2, [.ref z_op, .ref z_a, .ref z_b, .ref z_place, .ref z_next, .ref z_needed, .int 0, .int (-1)]))] s.heap.size = A at hD hT ⊢
  have hAA : ∀ q : Nat, s.heap.size ≤ q → A q := fun q h => by rw [← hAe]; exact Or.inr h
  have hS : va_S A s.heap s.heap [] := va_S.rf
  have hl := lv_entry ([.ref h0]) (n := 1) (Nat.le_of_ble_eq_true rfl)
  rw [lg_entry_eq]
  generalize (lg_sl ([.ref h0]) ++ List.replicate (1 - (lg_sl ([.ref h0])).length) Slot.unset).toArray = ls at hl ⊢
  have hl : lv_has ls 1 [(0, .ref h0)] := hl
  refine lv_aload_n hx hb dX2_clear_0 rfl (lv_at hl 0 rfl) ?_
  refine lv_iconst (v := 0) hx hb dX2_clear_1 (by decide) ?_
  refine va_put (D := (dC, dI)) (ci := 2) (v := .int 0) (ty := .int) (C := RX2) (T := TX2) (N := 8) hx hb hA zin_X2 tyX2 tyX2_ok nmX2 hown hK hP hD hS 0 rfl rfl 6 (by decide) (hA _ wi_197) (fun _ h9 => h9) rfl (by decide +kernel) rfl rfl (Nat.le_of_ble_eq_true rfl) dX2_clear_2 (fun H locs hP hD hS => ?_)
  have hP : va_P (dC, dI) vwCl [(h0, .inr (2, [.ref z_op, .ref z_a, .ref z_b, .ref z_place, .ref z_next, .ref z_needed, .int 0, .int (-1)]))] H := hP
  have hD : va_D A [(h0, .inr (2, [.ref z_op, .ref z_a, .ref z_b, .ref z_place, .ref z_next, .ref z_needed, .int 0, .int (-1)]))] := hD
  refine lv_aload_n hx hb dX2_clear_5 rfl (lv_at hl 0 rfl) ?_
  refine lv_iconst (v := (-1)) hx hb dX2_clear_6 (by decide) ?_
  refine va_put (D := (dC, dI)) (ci := 2) (v := .int (-1)) (ty := .int) (C := RX2) (T := TX2) (N := 8) hx hb hA zin_X2 tyX2 tyX2_ok nmX2 hown hK hP hD hS 0 rfl rfl 7 (by decide) (hA _ wi_200) (fun _ h9 => h9) rfl (by decide +kernel) rfl rfl (Nat.le_of_ble_eq_true rfl) dX2_clear_7 (fun H locs hP hD hS => ?_)
  have hP : va_P (dC, dI) vwCl [(h0, .inr (2, [.ref z_op, .ref z_a, .ref z_b, .ref z_place, .ref z_next, .ref z_needed, .int 0, .int (-1)]))] H := hP
  have hD : va_D A [(h0, .inr (2, [.ref z_op, .ref z_a, .ref z_b, .ref z_place, .ref z_next, .ref z_needed, .int 0, .int (-1)]))] := hD
  have hP9 := hP.sub (ws' := [(h0, .inr (2, [.ref z_op, .ref z_a, .ref z_b, .ref z_place, .ref z_next, .ref z_needed, .int 0, .int (-1)]))]) [0] rfl
  have hD9 := hD.sub (ws' := [(h0, .inr (2, [.ref z_op, .ref z_a, .ref z_b, .ref z_place, .ref z_next, .ref z_needed, .int 0, .int (-1)]))]) [0] (by decide) rfl
  have hK9 := hK.sub (tys' := []) [] rfl
  exact W.vret hx hb hr (fun t ht hW => ⟨⟨(), rfl, trivial, by rw [ht]; exact hP9, va_K.moved hW.alike hK9, hD9⟩, hS.F ht⟩) hS.2.2 dX2_clear_10
set_option maxHeartbeats 4000000 in
set_option maxRecDepth 100000 in
theorem c_X9_clear (l : Launch) (dC : Nat → ClassId) (dI : Nat → Nat → Nat) (h0 : Nat) (zcode : Nat) (zarms : Nat) (zkinds : Nat) (zfunctions : Nat) (zc_op : Nat) (zc_a : Nat) (zc_b : Nat) (zc_place : Nat) (zc_next : Nat) (zc_needed : Nat) (za_kind : Nat) (za_next : Nat) (za_before : Nat) (za_leave : Nat) (za_firstSlot : Nat) (za_builds : Nat) (zk_word : Nat) (zk_fields : Nat) (zf_word : Nat) (zf_enter : Nat) (zf_facts : Nat) (sz : Nat)  : Met l yX9_clear (Cond.code yX9_clear cX9_clear 1 none :: zw) ({ frames := 10, cells := 0, slots := 0, locals := 300 }) (va_Pc [.ref h0] (zP dC dI sz [] [(h0, .inr (9, [.ref zcode, .ref zarms, .ref zkinds, .ref zfunctions])), (zcode, .inr (2, [.ref zc_op, .ref zc_a, .ref zc_b, .ref zc_place, .ref zc_next, .ref zc_needed, .int 0, .int (-1)])), (zarms, .inr (0, [.ref za_kind, .ref za_next, .ref za_before, .ref za_leave, .ref za_firstSlot, .ref za_builds, .int 0])), (zkinds, .inr (4, [.ref zk_word, .ref zk_fields, .int 0])), (zfunctions, .inr (3, [.ref zf_word, .ref zf_enter, .ref zf_facts, .int 0]))])) (va_Qv (fun u : Unit => True) (fun u => zQ dC dI (va_A [(h0, .inr (9, [.ref zcode, .ref zarms, .ref zkinds, .ref zfunctions])), (zcode, .inr (2, [.ref zc_op, .ref zc_a, .ref zc_b, .ref zc_place, .ref zc_next, .ref zc_needed, .int 0, .int (-1)])), (zarms, .inr (0, [.ref za_kind, .ref za_next, .ref za_before, .ref za_leave, .ref za_firstSlot, .ref za_builds, .int 0])), (zkinds, .inr (4, [.ref zk_word, .ref zk_fields, .int 0])), (zfunctions, .inr (3, [.ref zf_word, .ref zf_enter, .ref zf_facts, .int 0]))] sz) [] []) (va_A [(h0, .inr (9, [.ref zcode, .ref zarms, .ref zkinds, .ref zfunctions])), (zcode, .inr (2, [.ref zc_op, .ref zc_a, .ref zc_b, .ref zc_place, .ref zc_next, .ref zc_needed, .int 0, .int (-1)])), (zarms, .inr (0, [.ref za_kind, .ref za_next, .ref za_before, .ref za_leave, .ref za_firstSlot, .ref za_builds, .int 0])), (zkinds, .inr (4, [.ref zk_word, .ref zk_fields, .int 0])), (zfunctions, .inr (3, [.ref zf_word, .ref zf_enter, .ref zf_facts, .int 0]))] sz)) 0 0 (va_A [(h0, .inr (9, [.ref zcode, .ref zarms, .ref zkinds, .ref zfunctions])), (zcode, .inr (2, [.ref zc_op, .ref zc_a, .ref zc_b, .ref zc_place, .ref zc_next, .ref zc_needed, .int 0, .int (-1)])), (zarms, .inr (0, [.ref za_kind, .ref za_next, .ref za_before, .ref za_leave, .ref za_firstSlot, .ref za_builds, .int 0])), (zkinds, .inr (4, [.ref zk_word, .ref zk_fields, .int 0])), (zfunctions, .inr (3, [.ref zf_word, .ref zf_enter, .ref zf_facts, .int 0]))] sz) := by
  refine Met.ofW (cc := cX9_clear) (maxL := 1) (ret := none) (by decide) rfl ?_
  intro p e s m args below meth c s₁ B hml hv
  obtain ⟨rfl, hsz, hP, hK, hD0, hN, hT⟩ := hv
  have hx := B.exec
  have hb := B.bytes
  have hr := B.returns
  have hts := atoms_spec (ws := Cond.code yX9_clear cX9_clear 1 none :: zw) B.pre
  have hA : ∀ w ∈ zw, w.before _ s = true := fun w h => hts w (List.mem_cons_of_mem _ h)
  have hown : s.vm.findClass RX9 = some m.cls := findClass_of_methodNamed B.named
  have hlocks := B.notSynchronized
  subst hsz
  have hD := hD0.self (sz := s.heap.size)
  generalize hAe : va_A [(h0, .inr (9, [.ref zcode, .ref zarms, .ref zkinds, .ref zfunctions])), (zcode, .inr (2, [.ref zc_op, .ref zc_a, .ref zc_b, .ref zc_place, .ref zc_next, .ref zc_needed, .int 0, .int (-1)])), (zarms, .inr (0, [.ref za_kind, .ref za_next, .ref za_before, .ref za_leave, .ref za_firstSlot, .ref za_builds, .int 0])), (zkinds, .inr (4, [.ref zk_word, .ref zk_fields, .int 0])), (zfunctions, .inr (3, [.ref zf_word, .ref zf_enter, .ref zf_facts, .int 0]))] s.heap.size = A at hD hT ⊢
  have hAA : ∀ q : Nat, s.heap.size ≤ q → A q := fun q h => by rw [← hAe]; exact Or.inr h
  have hS : va_S A s.heap s.heap [] := va_S.rf
  have hl := lv_entry ([.ref h0]) (n := 1) (Nat.le_of_ble_eq_true rfl)
  rw [lg_entry_eq]
  generalize (lg_sl ([.ref h0]) ++ List.replicate (1 - (lg_sl ([.ref h0])).length) Slot.unset).toArray = ls at hl ⊢
  have hl : lv_has ls 1 [(0, .ref h0)] := hl
  refine lv_aload_n hx hb dX9_clear_0 rfl (lv_at hl 0 rfl) ?_
  refine va_get (D := (dC, dI)) (ci := 9) (v := .ref zcode) (C := RX9) (T := TX9) (N := 4) hx hb hA zin_X9 hown hK hP 0 rfl rfl 0 (by decide) (hA _ wi_308) (fun _ h9 => h9) rfl dX9_clear_1 ?_
  have hPc := hP.sub (ws' := [(zcode, .inr (2, [.ref zc_op, .ref zc_a, .ref zc_b, .ref zc_place, .ref zc_next, .ref zc_needed, .int 0, .int (-1)]))]) [1] rfl
  have hDc := hD.sub (ws' := [(zcode, .inr (2, [.ref zc_op, .ref zc_a, .ref zc_b, .ref zc_place, .ref zc_next, .ref zc_needed, .int 0, .int (-1)]))]) [1] (by decide) rfl
  have hKc := hK.sub (tys' := []) [] rfl
  have hFc := va_free (wc := [(zcode, .inr (2, [.ref zc_op, .ref zc_a, .ref zc_b, .ref zc_place, .ref zc_next, .ref zc_needed, .int 0, .int (-1)]))]) hD hS hAA [1] rfl
  refine va_callv (va_runV (As := []) (rest := []) ⟨hx, hb, hml, hown, hA⟩ (c_X2_clear l dC dI zcode zc_op zc_a zc_b zc_place zc_next zc_needed s.heap.size) (cwV 0 hA (zw_V wi_782 wi_783 wi_784 wi_132 (zw_good wi_785)) rfl rfl rfl (by decide +kernel) ⟨(Nat.le_of_ble_eq_true rfl), (Nat.le_of_ble_eq_true rfl)⟩) ⟨zP_blind, va_recv hKc hPc (ci := 2) (q0 := 0) rfl rfl, zz_pre hKc hPc hDc hN hT hS hFc⟩ rfl rfl hl.1 rfl (lv_room (Nat.le_of_ble_eq_true rfl)) dX9_clear_4 ⟨(Nat.le_of_ble_eq_true rfl), (Nat.le_of_ble_eq_true rfl)⟩) hS (fun q _ h => hFc q h) hFc (fun u t H1 locs ht hvm hw hB hz1 hk1 hS => ?_)
  obtain ⟨hP1, hK1, hD1⟩ := hB
  rw [ht] at hP1
  have hK1 := va_K.moved hvm.symm hK1
  obtain ⟨hP, hD⟩ := va_join (wr := [(h0, .inr (9, [.ref zcode, .ref zarms, .ref zkinds, .ref zfunctions])), (zarms, .inr (0, [.ref za_kind, .ref za_next, .ref za_before, .ref za_leave, .ref za_firstSlot, .ref za_builds, .int 0])), (zkinds, .inr (4, [.ref zk_word, .ref zk_fields, .int 0])), (zfunctions, .inr (3, [.ref zf_word, .ref zf_enter, .ref zf_facts, .int 0]))]) (w1 := [(zcode, .inr (2, [.ref zc_op, .ref zc_a, .ref zc_b, .ref zc_place, .ref zc_next, .ref zc_needed, .int 0, .int (-1)]))]) hP hD [1] [0, 2, 3, 4] rfl rfl (by decide) (by decide) hk1 hFc hP1 hD1
  have hK := (hK.sub (tys' := []) [] rfl).app hK1
  generalize H1 = H at hP hS ⊢
  have hP : va_P (dC, dI) vwCl [(h0, .inr (9, [.ref zcode, .ref zarms, .ref zkinds, .ref zfunctions])), (zarms, .inr (0, [.ref za_kind, .ref za_next, .ref za_before, .ref za_leave, .ref za_firstSlot, .ref za_builds, .int 0])), (zkinds, .inr (4, [.ref zk_word, .ref zk_fields, .int 0])), (zfunctions, .inr (3, [.ref zf_word, .ref zf_enter, .ref zf_facts, .int 0])), (zcode, .inr (2, [.ref zc_op, .ref zc_a, .ref zc_b, .ref zc_place, .ref zc_next, .ref zc_needed, .int 0, .int (-1)]))] H := hP
  have hD : va_D A [(h0, .inr (9, [.ref zcode, .ref zarms, .ref zkinds, .ref zfunctions])), (zarms, .inr (0, [.ref za_kind, .ref za_next, .ref za_before, .ref za_leave, .ref za_firstSlot, .ref za_builds, .int 0])), (zkinds, .inr (4, [.ref zk_word, .ref zk_fields, .int 0])), (zfunctions, .inr (3, [.ref zf_word, .ref zf_enter, .ref zf_facts, .int 0])), (zcode, .inr (2, [.ref zc_op, .ref zc_a, .ref zc_b, .ref zc_place, .ref zc_next, .ref zc_needed, .int 0, .int (-1)]))] := hD
  have hK : va_K (dC, dI) vwCl [] s := hK
  refine lv_aload_n hx hb dX9_clear_7 rfl (lv_at hl 0 rfl) ?_
  refine va_get (D := (dC, dI)) (ci := 9) (v := .ref zarms) (C := RX9) (T := TX9) (N := 4) hx hb hA zin_X9 hown hK hP 0 rfl rfl 1 (by decide) (hA _ wi_312) (fun _ h9 => h9) rfl dX9_clear_8 ?_
  refine lv_iconst (v := 0) hx hb dX9_clear_11 (by decide) ?_
  refine va_put (D := (dC, dI)) (ci := 0) (v := .int 0) (ty := .int) (C := RX0) (T := TX0) (N := 7) hx hb hA zin_X0 tyX0 tyX0_ok nmX0 hown hK hP hD hS 1 rfl rfl 6 (by decide) (hA _ wi_248) (fun _ h9 => h9) rfl (by decide +kernel) rfl rfl (Nat.le_of_ble_eq_true rfl) dX9_clear_12 (fun H locs hP hD hS => ?_)
  have hP : va_P (dC, dI) vwCl [(h0, .inr (9, [.ref zcode, .ref zarms, .ref zkinds, .ref zfunctions])), (zarms, .inr (0, [.ref za_kind, .ref za_next, .ref za_before, .ref za_leave, .ref za_firstSlot, .ref za_builds, .int 0])), (zkinds, .inr (4, [.ref zk_word, .ref zk_fields, .int 0])), (zfunctions, .inr (3, [.ref zf_word, .ref zf_enter, .ref zf_facts, .int 0])), (zcode, .inr (2, [.ref zc_op, .ref zc_a, .ref zc_b, .ref zc_place, .ref zc_next, .ref zc_needed, .int 0, .int (-1)]))] H := hP
  have hD : va_D A [(h0, .inr (9, [.ref zcode, .ref zarms, .ref zkinds, .ref zfunctions])), (zarms, .inr (0, [.ref za_kind, .ref za_next, .ref za_before, .ref za_leave, .ref za_firstSlot, .ref za_builds, .int 0])), (zkinds, .inr (4, [.ref zk_word, .ref zk_fields, .int 0])), (zfunctions, .inr (3, [.ref zf_word, .ref zf_enter, .ref zf_facts, .int 0])), (zcode, .inr (2, [.ref zc_op, .ref zc_a, .ref zc_b, .ref zc_place, .ref zc_next, .ref zc_needed, .int 0, .int (-1)]))] := hD
  refine lv_aload_n hx hb dX9_clear_15 rfl (lv_at hl 0 rfl) ?_
  refine va_get (D := (dC, dI)) (ci := 9) (v := .ref zkinds) (C := RX9) (T := TX9) (N := 4) hx hb hA zin_X9 hown hK hP 0 rfl rfl 2 (by decide) (hA _ wi_316) (fun _ h9 => h9) rfl dX9_clear_16 ?_
  refine lv_iconst (v := 0) hx hb dX9_clear_19 (by decide) ?_
  refine va_put (D := (dC, dI)) (ci := 4) (v := .int 0) (ty := .int) (C := RX4) (T := TX4) (N := 3) hx hb hA zin_X4 tyX4 tyX4_ok nmX4 hown hK hP hD hS 2 rfl rfl 2 (by decide) (hA _ wi_274) (fun _ h9 => h9) rfl (by decide +kernel) rfl rfl (Nat.le_of_ble_eq_true rfl) dX9_clear_20 (fun H locs hP hD hS => ?_)
  have hP : va_P (dC, dI) vwCl [(h0, .inr (9, [.ref zcode, .ref zarms, .ref zkinds, .ref zfunctions])), (zarms, .inr (0, [.ref za_kind, .ref za_next, .ref za_before, .ref za_leave, .ref za_firstSlot, .ref za_builds, .int 0])), (zkinds, .inr (4, [.ref zk_word, .ref zk_fields, .int 0])), (zfunctions, .inr (3, [.ref zf_word, .ref zf_enter, .ref zf_facts, .int 0])), (zcode, .inr (2, [.ref zc_op, .ref zc_a, .ref zc_b, .ref zc_place, .ref zc_next, .ref zc_needed, .int 0, .int (-1)]))] H := hP
  have hD : va_D A [(h0, .inr (9, [.ref zcode, .ref zarms, .ref zkinds, .ref zfunctions])), (zarms, .inr (0, [.ref za_kind, .ref za_next, .ref za_before, .ref za_leave, .ref za_firstSlot, .ref za_builds, .int 0])), (zkinds, .inr (4, [.ref zk_word, .ref zk_fields, .int 0])), (zfunctions, .inr (3, [.ref zf_word, .ref zf_enter, .ref zf_facts, .int 0])), (zcode, .inr (2, [.ref zc_op, .ref zc_a, .ref zc_b, .ref zc_place, .ref zc_next, .ref zc_needed, .int 0, .int (-1)]))] := hD
  refine lv_aload_n hx hb dX9_clear_23 rfl (lv_at hl 0 rfl) ?_
  refine va_get (D := (dC, dI)) (ci := 9) (v := .ref zfunctions) (C := RX9) (T := TX9) (N := 4) hx hb hA zin_X9 hown hK hP 0 rfl rfl 3 (by decide) (hA _ wi_320) (fun _ h9 => h9) rfl dX9_clear_24 ?_
  refine lv_iconst (v := 0) hx hb dX9_clear_27 (by decide) ?_
  refine va_put (D := (dC, dI)) (ci := 3) (v := .int 0) (ty := .int) (C := RX3) (T := TX3) (N := 4) hx hb hA zin_X3 tyX3 tyX3_ok nmX3 hown hK hP hD hS 3 rfl rfl 3 (by decide) (hA _ wi_296) (fun _ h9 => h9) rfl (by decide +kernel) rfl rfl (Nat.le_of_ble_eq_true rfl) dX9_clear_28 (fun H locs hP hD hS => ?_)
  have hP : va_P (dC, dI) vwCl [(h0, .inr (9, [.ref zcode, .ref zarms, .ref zkinds, .ref zfunctions])), (zarms, .inr (0, [.ref za_kind, .ref za_next, .ref za_before, .ref za_leave, .ref za_firstSlot, .ref za_builds, .int 0])), (zkinds, .inr (4, [.ref zk_word, .ref zk_fields, .int 0])), (zfunctions, .inr (3, [.ref zf_word, .ref zf_enter, .ref zf_facts, .int 0])), (zcode, .inr (2, [.ref zc_op, .ref zc_a, .ref zc_b, .ref zc_place, .ref zc_next, .ref zc_needed, .int 0, .int (-1)]))] H := hP
  have hD : va_D A [(h0, .inr (9, [.ref zcode, .ref zarms, .ref zkinds, .ref zfunctions])), (zarms, .inr (0, [.ref za_kind, .ref za_next, .ref za_before, .ref za_leave, .ref za_firstSlot, .ref za_builds, .int 0])), (zkinds, .inr (4, [.ref zk_word, .ref zk_fields, .int 0])), (zfunctions, .inr (3, [.ref zf_word, .ref zf_enter, .ref zf_facts, .int 0])), (zcode, .inr (2, [.ref zc_op, .ref zc_a, .ref zc_b, .ref zc_place, .ref zc_next, .ref zc_needed, .int 0, .int (-1)]))] := hD
  have hP9 := hP.sub (ws' := []) [] rfl
  have hD9 := hD.sub (ws' := []) [] (by decide) rfl
  have hK9 := hK.sub (tys' := []) [] rfl
  exact W.vret hx hb hr (fun t ht hW => ⟨⟨(), rfl, trivial, by rw [ht]; exact hP9, va_K.moved hW.alike hK9, hD9⟩, hS.F ht⟩) hS.2.2 dX9_clear_31
set_option maxHeartbeats 4000000 in
set_option maxRecDepth 100000 in
theorem c_X7_fail (l : Launch) (dC : Nat → ClassId) (dI : Nat → Nat → Nat) (h0 : Nat) (z_tokens : Nat) (z_needs : Nat) (z_names : Nat) (z_built : Nat) (z_draft : Nat) (nn : Int32) (pl : Int32) (sz : Nat) (hlt : l.stackTraces = false) : vx_Met l yX7_fail (Cond.code yX7_fail cX7_fail 3 none :: zw) ({ frames := 10, cells := 1, slots := 6, locals := 300 }) (va_Pc [.ref h0, .int nn, .int pl] (zP dC dI sz [] [(h0, .inr (7, [.ref z_tokens, .ref z_needs, .ref z_names, .int 0, .ref z_built, .ref z_draft, .int 0, .int 0, .int (-1)]))])) (va_Qv (fun u : Unit => False) (fun u => zQ dC dI (va_A [(h0, .inr (7, [.ref z_tokens, .ref z_needs, .ref z_names, .int 0, .ref z_built, .ref z_draft, .int 0, .int 0, .int (-1)]))] sz) [] []) (va_A [(h0, .inr (7, [.ref z_tokens, .ref z_needs, .ref z_names, .int 0, .ref z_built, .ref z_draft, .int 0, .int 0, .int (-1)]))] sz)) (vx_X (fun _ : Int32 × Int32 => True) (fun E u t => E = "java/lang/IllegalStateException" ∧ (match u with | (fn, fp) => zQ dC dI (va_A [(h0, .inr (7, [.ref z_tokens, .ref z_needs, .ref z_names, .int 0, .ref z_built, .ref z_draft, .int 0, .int 0, .int (-1)]))] sz) [] [(h0, .inr (7, [.ref z_tokens, .ref z_needs, .ref z_names, .int 0, .ref z_built, .ref z_draft, .int 0, .int fn, .int fp]))] t)) (va_A [(h0, .inr (7, [.ref z_tokens, .ref z_needs, .ref z_names, .int 0, .ref z_built, .ref z_draft, .int 0, .int 0, .int (-1)]))] sz)) 1 6 (va_A [(h0, .inr (7, [.ref z_tokens, .ref z_needs, .ref z_names, .int 0, .ref z_built, .ref z_draft, .int 0, .int 0, .int (-1)]))] sz) := by
  refine vx_ofW (cc := cX7_fail) (maxL := 3) (ret := none) (by decide) rfl ?_
  intro p e s m args below meth c s₁ B hml hnh hv
  obtain ⟨rfl, hsz, hP, hK, hD0, hN, hT⟩ := hv
  have hx := B.exec
  have hb := B.bytes
  have hr := B.returns
  have hts := atoms_spec (ws := Cond.code yX7_fail cX7_fail 3 none :: zw) B.pre
  have hA : ∀ w ∈ zw, w.before _ s = true := fun w h => hts w (List.mem_cons_of_mem _ h)
  have hown : s.vm.findClass RX7 = some m.cls := findClass_of_methodNamed B.named
  have hlocks := B.notSynchronized
  subst hsz
  have hD := hD0.self (sz := s.heap.size)
  generalize hAe : va_A [(h0, .inr (7, [.ref z_tokens, .ref z_needs, .ref z_names, .int 0, .ref z_built, .ref z_draft, .int 0, .int 0, .int (-1)]))] s.heap.size = A at hD hT ⊢
  have hAA : ∀ q : Nat, s.heap.size ≤ q → A q := fun q h => by rw [← hAe]; exact Or.inr h
  have hS : va_S A s.heap s.heap [] := va_S.rf
  have hl := lv_entry ([.ref h0, .int nn, .int pl]) (n := 3) (Nat.le_of_ble_eq_true rfl)
  rw [lg_entry_eq]
  generalize (lg_sl ([.ref h0, .int nn, .int pl]) ++ List.replicate (3 - (lg_sl ([.ref h0, .int nn, .int pl])).length) Slot.unset).toArray = ls at hl ⊢
  have hl : lv_has ls 3 [(0, .ref h0), (1, .int nn), (2, .int pl)] := hl
  refine lv_aload_n hx hb dX7_fail_0 rfl (lv_at hl 0 rfl) ?_
  refine lv_iload_n hx hb dX7_fail_1 rfl (lv_at hl 1 rfl) ?_
  refine va_put (D := (dC, dI)) (ci := 7) (v := .int nn) (ty := .int) (C := RX7) (T := TX7) (N := 9) hx hb hA zin_X7 tyX7 tyX7_ok nmX7 hown hK hP hD hS 0 rfl rfl 7 (by decide) (hA _ wi_395) (fun _ h9 => h9) rfl (by decide +kernel) rfl rfl (Nat.le_of_ble_eq_true rfl) dX7_fail_2 (fun H locs hP hD hS => ?_)
  have hP : va_P (dC, dI) vwCl [(h0, .inr (7, [.ref z_tokens, .ref z_needs, .ref z_names, .int 0, .ref z_built, .ref z_draft, .int 0, .int nn, .int (-1)]))] H := hP
  have hD : va_D A [(h0, .inr (7, [.ref z_tokens, .ref z_needs, .ref z_names, .int 0, .ref z_built, .ref z_draft, .int 0, .int nn, .int (-1)]))] := hD
  refine lv_aload_n hx hb dX7_fail_5 rfl (lv_at hl 0 rfl) ?_
  refine lv_iload_n hx hb dX7_fail_6 rfl (lv_at hl 2 rfl) ?_
  refine va_put (D := (dC, dI)) (ci := 7) (v := .int pl) (ty := .int) (C := RX7) (T := TX7) (N := 9) hx hb hA zin_X7 tyX7 tyX7_ok nmX7 hown hK hP hD hS 0 rfl rfl 8 (by decide) (hA _ wi_397) (fun _ h9 => h9) rfl (by decide +kernel) rfl rfl (Nat.le_of_ble_eq_true rfl) dX7_fail_7 (fun H locs hP hD hS => ?_)
  have hP : va_P (dC, dI) vwCl [(h0, .inr (7, [.ref z_tokens, .ref z_needs, .ref z_names, .int 0, .ref z_built, .ref z_draft, .int 0, .int nn, .int pl]))] H := hP
  have hD : va_D A [(h0, .inr (7, [.ref z_tokens, .ref z_needs, .ref z_names, .int 0, .ref z_built, .ref z_draft, .int 0, .int nn, .int pl]))] := hD
  have hP9 := hP.sub (ws' := [(h0, .inr (7, [.ref z_tokens, .ref z_needs, .ref z_names, .int 0, .ref z_built, .ref z_draft, .int 0, .int nn, .int pl]))]) [0] rfl
  have hD9 := hD.sub (ws' := [(h0, .inr (7, [.ref z_tokens, .ref z_needs, .ref z_names, .int 0, .ref z_built, .ref z_draft, .int 0, .int nn, .int pl]))]) [0] (by decide) rfl
  have hK9 := hK.sub (tys' := []) [] rfl
  exact vx_throw0 (cls := "java/lang/IllegalStateException") (names := ["java/lang/RuntimeException", "java/lang/Exception"]) hx hb hlt hown (by decide +kernel) (by decide +kernel) (hA _ wi_652) (hA _ wi_154) (vx_hat (fun w hw => hA w (zat_i_g w hw)) zat_i_b (vx_c (va_Nw.use rfl (hN.2.2.1 ("java/lang/IllegalStateException", "java/lang/IllegalStateException") (by decide +kernel))) (vx_c (va_Nw.use rfl (hN.2.2.2.1 ⟨"java/lang/RuntimeException", "<init>", "()V"⟩ (by decide +kernel))) (vx_c (va_Nw.use rfl (hN.2.2.2.1 ⟨"java/lang/Exception", "<init>", "()V"⟩ (by decide +kernel))) (vx_c (va_Nw.use rfl (hN.2.2.2.1 ⟨"java/lang/Throwable", "<init>", "()V"⟩ (by decide +kernel))) vx_n))))) (by decide +kernel) hT.1 hT.2 hS (by rw [hml]; exact hl.1) dX7_fail_10 dX7_fail_13 dX7_fail_14 dX7_fail_17 (fun x hx => (hnh x hx).elim) (Nat.le_of_ble_eq_true rfl) (Nat.le_of_ble_eq_true rfl) (Nat.le_of_ble_eq_true rfl) (Nat.le_of_ble_eq_true rfl) hlocks (fun t hvm hle hq => ⟨(nn, pl), trivial, ⟨rfl, va_P.kept hP9 (fun k q hk => hq q.1 (vx_lt hP9 hk)), va_K.moved hvm hK9, hD9⟩, Nat.le_trans hS.1 hle, fun q h1 h2 => (hq q (Nat.lt_of_lt_of_le h1 hS.1)).trans (hS.2.1 q h1 h2)⟩) hS.2.2 (Nat.le_of_ble_eq_true rfl) (Nat.le_of_ble_eq_true rfl)
set_option maxHeartbeats 4000000 in
set_option maxRecDepth 100000 in
theorem c_X7_failForm (l : Launch) (dC : Nat → ClassId) (dI : Nat → Nat → Nat) (h0 : Nat) (z_tokens : Nat) (z_needs : Nat) (z_names : Nat) (z_built : Nat) (z_draft : Nat) (t_sorts : Nat) (t_places : Nat) (t_words : Nat) (pl : Int32) (wd : Int64) (sz : Nat) (hlt : l.stackTraces = false) : vx_Met l yX7_failForm (Cond.code yX7_failForm cX7_failForm 1 none :: zw) ({ frames := 12, cells := 1, slots := 6, locals := 400 }) (va_Pc [.ref h0] (zP dC dI sz [] [(h0, .inr (7, [.ref z_tokens, .ref z_needs, .ref z_names, .int 0, .ref z_built, .ref z_draft, .int 0, .int 0, .int (-1)])), (z_tokens, .inr (10, [.ref t_sorts, .ref t_places, .ref t_words, .int 0, .int 0, .int 256, .int pl, .long wd]))])) (va_Qv (fun u : Unit => False) (fun u => zQ dC dI (va_A [(h0, .inr (7, [.ref z_tokens, .ref z_needs, .ref z_names, .int 0, .ref z_built, .ref z_draft, .int 0, .int 0, .int (-1)])), (z_tokens, .inr (10, [.ref t_sorts, .ref t_places, .ref t_words, .int 0, .int 0, .int 256, .int pl, .long wd]))] sz) [] []) (va_A [(h0, .inr (7, [.ref z_tokens, .ref z_needs, .ref z_names, .int 0, .ref z_built, .ref z_draft, .int 0, .int 0, .int (-1)])), (z_tokens, .inr (10, [.ref t_sorts, .ref t_places, .ref t_words, .int 0, .int 0, .int 256, .int pl, .long wd]))] sz)) (vx_X (fun _ : Int32 × Int32 => True) (fun E u t => E = "java/lang/IllegalStateException" ∧ (match u with | (fn, fp) => zQ dC dI (va_A [(h0, .inr (7, [.ref z_tokens, .ref z_needs, .ref z_names, .int 0, .ref z_built, .ref z_draft, .int 0, .int 0, .int (-1)])), (z_tokens, .inr (10, [.ref t_sorts, .ref t_places, .ref t_words, .int 0, .int 0, .int 256, .int pl, .long wd]))] sz) [] [(h0, .inr (7, [.ref z_tokens, .ref z_needs, .ref z_names, .int 0, .ref z_built, .ref z_draft, .int 0, .int fn, .int fp]))] t)) (va_A [(h0, .inr (7, [.ref z_tokens, .ref z_needs, .ref z_names, .int 0, .ref z_built, .ref z_draft, .int 0, .int 0, .int (-1)])), (z_tokens, .inr (10, [.ref t_sorts, .ref t_places, .ref t_words, .int 0, .int 0, .int 256, .int pl, .long wd]))] sz)) 1 6 (va_A [(h0, .inr (7, [.ref z_tokens, .ref z_needs, .ref z_names, .int 0, .ref z_built, .ref z_draft, .int 0, .int 0, .int (-1)])), (z_tokens, .inr (10, [.ref t_sorts, .ref t_places, .ref t_words, .int 0, .int 0, .int 256, .int pl, .long wd]))] sz) := by
  refine vx_ofW (cc := cX7_failForm) (maxL := 1) (ret := none) (by decide) rfl ?_
  intro p e s m args below meth c s₁ B hml hnh hv
  obtain ⟨rfl, hsz, hP, hK, hD0, hN, hT⟩ := hv
  have hx := B.exec
  have hb := B.bytes
  have hr := B.returns
  have hts := atoms_spec (ws := Cond.code yX7_failForm cX7_failForm 1 none :: zw) B.pre
  have hA : ∀ w ∈ zw, w.before _ s = true := fun w h => hts w (List.mem_cons_of_mem _ h)
  have hown : s.vm.findClass RX7 = some m.cls := findClass_of_methodNamed B.named
  have hlocks := B.notSynchronized
  subst hsz
  have hD := hD0.self (sz := s.heap.size)
  generalize hAe : va_A [(h0, .inr (7, [.ref z_tokens, .ref z_needs, .ref z_names, .int 0, .ref z_built, .ref z_draft, .int 0, .int 0, .int (-1)])), (z_tokens, .inr (10, [.ref t_sorts, .ref t_places, .ref t_words, .int 0, .int 0, .int 256, .int pl, .long wd]))] s.heap.size = A at hD hT ⊢
  have hAA : ∀ q : Nat, s.heap.size ≤ q → A q := fun q h => by rw [← hAe]; exact Or.inr h
  have hS : va_S A s.heap s.heap [] := va_S.rf
  have hl := lv_entry ([.ref h0]) (n := 1) (Nat.le_of_ble_eq_true rfl)
  rw [lg_entry_eq]
  generalize (lg_sl ([.ref h0]) ++ List.replicate (1 - (lg_sl ([.ref h0])).length) Slot.unset).toArray = ls at hl ⊢
  have hl : lv_has ls 1 [(0, .ref h0)] := hl
  refine lv_aload_n hx hb dX7_failForm_0 rfl (lv_at hl 0 rfl) ?_
  refine lv_iconst (v := 1) hx hb dX7_failForm_1 (by decide) ?_
  refine lv_aload_n hx hb dX7_failForm_2 rfl (lv_at hl 0 rfl) ?_
  refine va_get (D := (dC, dI)) (ci := 7) (v := .ref z_tokens) (C := RX7) (T := TX7) (N := 9) hx hb hA zin_X7 hown hK hP 0 rfl rfl 0 (by decide) (hA _ wi_387) (fun _ h9 => h9) rfl dX7_failForm_3 ?_
  refine va_get (D := (dC, dI)) (ci := 10) (v := .int pl) (C := RX10) (T := TX10) (N := 8) hx hb hA zin_X10 hown hK hP 1 rfl rfl 6 (by decide) (hA _ wi_355) (fun _ h9 => h9) rfl dX7_failForm_6 ?_
  have hPc := hP.sub (ws' := [(h0, .inr (7, [.ref z_tokens, .ref z_needs, .ref z_names, .int 0, .ref z_built, .ref z_draft, .int 0, .int 0, .int (-1)]))]) [0] rfl
  have hDc := hD.sub (ws' := [(h0, .inr (7, [.ref z_tokens, .ref z_needs, .ref z_names, .int 0, .ref z_built, .ref z_draft, .int 0, .int 0, .int (-1)]))]) [0] (by decide) rfl
  have hKc := hK.sub (tys' := []) [] rfl
  have hFc := va_free (wc := [(h0, .inr (7, [.ref z_tokens, .ref z_needs, .ref z_names, .int 0, .ref z_built, .ref z_draft, .int 0, .int 0, .int (-1)]))]) hD hS hAA [0] rfl
  refine vx_callv (vx_runV (As := [.int 1, .int pl]) (rest := []) ⟨hx, hb, hml, hown, hA⟩ (c_X7_fail l dC dI h0 z_tokens z_needs z_names z_built z_draft 1 pl s.heap.size hlt) (cwV 2 hA (zw_V wi_806 wi_808 wi_5 wi_136 (zw_good wi_809)) rfl rfl rfl (by decide +kernel) ⟨(Nat.le_of_ble_eq_true rfl), (Nat.le_of_ble_eq_true rfl)⟩) ⟨zP_blind, va_recv hKc hPc (ci := 7) (q0 := 0) rfl rfl, zz_pre hKc hPc hDc hN hT hS hFc⟩ rfl rfl hl.1 rfl (lv_room (Nat.le_of_ble_eq_true rfl)) dX7_failForm_9 ⟨(Nat.le_of_ble_eq_true rfl), (Nat.le_of_ble_eq_true rfl)⟩) hS (fun q _ h => hFc q h) hFc (fun q _ h => hFc q h) (fun E9 ce9 q9 u t H1 locs ht hvm hw hB hz1 hk1 hS hcell hcv hcl => ?_) (fun u t H1 locs ht hvm hw hB hz1 hk1 hS => absurd hw id)
  obtain ⟨fn_2, fp_3⟩ := u
  obtain ⟨rfl, hP1, hK1, hD1⟩ := hB
  rw [ht] at hP1
  have hK1 := va_K.moved hvm.symm hK1
  obtain ⟨hP, hD⟩ := va_join (wr := [(z_tokens, .inr (10, [.ref t_sorts, .ref t_places, .ref t_words, .int 0, .int 0, .int 256, .int pl, .long wd]))]) (w1 := [(h0, .inr (7, [.ref z_tokens, .ref z_needs, .ref z_names, .int 0, .ref z_built, .ref z_draft, .int 0, .int fn_2, .int fp_3]))]) hP hD [0] [1] rfl rfl (by decide) (by decide) hk1 hFc hP1 hD1
  have hK := (hK.sub (tys' := []) [] rfl).app hK1
  clear hPc hDc hFc hP1 hD1 hk1 hz1 ht hvm
  generalize H1 = H at hP hS hcell ⊢
  have hP : va_P (dC, dI) vwCl [(z_tokens, .inr (10, [.ref t_sorts, .ref t_places, .ref t_words, .int 0, .int 0, .int 256, .int pl, .long wd])), (h0, .inr (7, [.ref z_tokens, .ref z_needs, .ref z_names, .int 0, .ref z_built, .ref z_draft, .int 0, .int fn_2, .int fp_3]))] H := hP
  have hD : va_D A [(z_tokens, .inr (10, [.ref t_sorts, .ref t_places, .ref t_words, .int 0, .int 0, .int 256, .int pl, .long wd])), (h0, .inr (7, [.ref z_tokens, .ref z_needs, .ref z_names, .int 0, .ref z_built, .ref z_draft, .int 0, .int fn_2, .int fp_3]))] := hD
  have hK : va_K (dC, dI) vwCl [] s := hK
  refine vx_widen (k := 1) (n := 6) (Nat.le_of_ble_eq_true rfl) (Nat.le_of_ble_eq_true rfl) ?_
  have hP9 := hP.sub (ws' := [(h0, .inr (7, [.ref z_tokens, .ref z_needs, .ref z_names, .int 0, .ref z_built, .ref z_draft, .int 0, .int fn_2, .int fp_3]))]) [1] rfl
  have hD9 := hD.sub (ws' := [(h0, .inr (7, [.ref z_tokens, .ref z_needs, .ref z_names, .int 0, .ref z_built, .ref z_draft, .int 0, .int fn_2, .int fp_3]))]) [1] (by decide) rfl
  have hK9 := hK.sub (tys' := []) [] rfl
  exact vx_out (fun x hx => (hnh x hx).elim) hlocks hcell hcv hcl (fun t ht hvm => ⟨(fn_2, fp_3), trivial, ⟨rfl, by rw [ht]; exact hP9, va_K.moved hvm hK9, hD9⟩, hS.F ht⟩) hS.2.2 (Nat.le_of_ble_eq_true rfl) (Nat.le_of_ble_eq_true rfl)
set_option maxHeartbeats 4000000 in
set_option maxRecDepth 100000 in
theorem c_X7_expect (l : Launch) (dC : Nat → ClassId) (dI : Nat → Nat → Nat) (h0 : Nat) (z_tokens : Nat) (z_needs : Nat) (z_names : Nat) (z_built : Nat) (z_draft : Nat) (t_sorts : Nat) (t_places : Nat) (t_words : Nat) (pl : Int32) (wd : Int64) (sz : Nat) (hlt : l.stackTraces = false) : vx_Met l yX7_expect (Cond.code yX7_expect cX7_expect 2 none :: zw) ({ frames := 14, cells := 1, slots := 6, locals := 500 }) (va_Pc [.ref h0, .int 268] (zP dC dI sz [] [(h0, .inr (7, [.ref z_tokens, .ref z_needs, .ref z_names, .int 0, .ref z_built, .ref z_draft, .int 0, .int 0, .int (-1)])), (z_tokens, .inr (10, [.ref t_sorts, .ref t_places, .ref t_words, .int 0, .int 0, .int 256, .int pl, .long wd]))])) (va_Qv (fun u : Unit => False) (fun u => zQ dC dI (va_A [(h0, .inr (7, [.ref z_tokens, .ref z_needs, .ref z_names, .int 0, .ref z_built, .ref z_draft, .int 0, .int 0, .int (-1)])), (z_tokens, .inr (10, [.ref t_sorts, .ref t_places, .ref t_words, .int 0, .int 0, .int 256, .int pl, .long wd]))] sz) [] []) (va_A [(h0, .inr (7, [.ref z_tokens, .ref z_needs, .ref z_names, .int 0, .ref z_built, .ref z_draft, .int 0, .int 0, .int (-1)])), (z_tokens, .inr (10, [.ref t_sorts, .ref t_places, .ref t_words, .int 0, .int 0, .int 256, .int pl, .long wd]))] sz)) (vx_X (fun _ : Int32 × Int32 => True) (fun E u t => E = "java/lang/IllegalStateException" ∧ (match u with | (fn, fp) => zQ dC dI (va_A [(h0, .inr (7, [.ref z_tokens, .ref z_needs, .ref z_names, .int 0, .ref z_built, .ref z_draft, .int 0, .int 0, .int (-1)])), (z_tokens, .inr (10, [.ref t_sorts, .ref t_places, .ref t_words, .int 0, .int 0, .int 256, .int pl, .long wd]))] sz) [] [(h0, .inr (7, [.ref z_tokens, .ref z_needs, .ref z_names, .int 0, .ref z_built, .ref z_draft, .int 0, .int fn, .int fp]))] t)) (va_A [(h0, .inr (7, [.ref z_tokens, .ref z_needs, .ref z_names, .int 0, .ref z_built, .ref z_draft, .int 0, .int 0, .int (-1)])), (z_tokens, .inr (10, [.ref t_sorts, .ref t_places, .ref t_words, .int 0, .int 0, .int 256, .int pl, .long wd]))] sz)) 1 6 (va_A [(h0, .inr (7, [.ref z_tokens, .ref z_needs, .ref z_names, .int 0, .ref z_built, .ref z_draft, .int 0, .int 0, .int (-1)])), (z_tokens, .inr (10, [.ref t_sorts, .ref t_places, .ref t_words, .int 0, .int 0, .int 256, .int pl, .long wd]))] sz) := by
  refine vx_ofW (cc := cX7_expect) (maxL := 2) (ret := none) (by decide) rfl ?_
  intro p e s m args below meth c s₁ B hml hnh hv
  obtain ⟨rfl, hsz, hP, hK, hD0, hN, hT⟩ := hv
  have hx := B.exec
  have hb := B.bytes
  have hr := B.returns
  have hts := atoms_spec (ws := Cond.code yX7_expect cX7_expect 2 none :: zw) B.pre
  have hA : ∀ w ∈ zw, w.before _ s = true := fun w h => hts w (List.mem_cons_of_mem _ h)
  have hown : s.vm.findClass RX7 = some m.cls := findClass_of_methodNamed B.named
  have hlocks := B.notSynchronized
  subst hsz
  have hD := hD0.self (sz := s.heap.size)
  generalize hAe : va_A [(h0, .inr (7, [.ref z_tokens, .ref z_needs, .ref z_names, .int 0, .ref z_built, .ref z_draft, .int 0, .int 0, .int (-1)])), (z_tokens, .inr (10, [.ref t_sorts, .ref t_places, .ref t_words, .int 0, .int 0, .int 256, .int pl, .long wd]))] s.heap.size = A at hD hT ⊢
  have hAA : ∀ q : Nat, s.heap.size ≤ q → A q := fun q h => by rw [← hAe]; exact Or.inr h
  have hS : va_S A s.heap s.heap [] := va_S.rf
  have hl := lv_entry ([.ref h0, .int 268]) (n := 2) (Nat.le_of_ble_eq_true rfl)
  rw [lg_entry_eq]
  generalize (lg_sl ([.ref h0, .int 268]) ++ List.replicate (2 - (lg_sl ([.ref h0, .int 268])).length) Slot.unset).toArray = ls at hl ⊢
  have hl : lv_has ls 2 [(0, .ref h0), (1, .int 268)] := hl
  refine lv_aload_n hx hb dX7_expect_0 rfl (lv_at hl 0 rfl) ?_
  refine va_get (D := (dC, dI)) (ci := 7) (v := .ref z_tokens) (C := RX7) (T := TX7) (N := 9) hx hb hA zin_X7 hown hK hP 0 rfl rfl 0 (by decide) (hA _ wi_387) (fun _ h9 => h9) rfl dX7_expect_1 ?_
  refine va_get (D := (dC, dI)) (ci := 10) (v := .int 256) (C := RX10) (T := TX10) (N := 8) hx hb hA zin_X10 hown hK hP 1 rfl rfl 5 (by decide) (hA _ wi_353) (fun _ h9 => h9) rfl dX7_expect_4 ?_
  refine lv_iload_n hx hb dX7_expect_7 rfl (lv_at hl 1 rfl) ?_
  refine lv_icmp_eq (tgt := 15) hx hb dX7_expect_8 (by decide) (fun c_0 => absurd c_0 (by decide)) (fun _ => ?_)
  refine lv_aload_n hx hb dX7_expect_11 rfl (lv_at hl 0 rfl) ?_
  have hPc := hP.sub (ws' := [(h0, .inr (7, [.ref z_tokens, .ref z_needs, .ref z_names, .int 0, .ref z_built, .ref z_draft, .int 0, .int 0, .int (-1)])), (z_tokens, .inr (10, [.ref t_sorts, .ref t_places, .ref t_words, .int 0, .int 0, .int 256, .int pl, .long wd]))]) [0, 1] rfl
  have hDc := hD.sub (ws' := [(h0, .inr (7, [.ref z_tokens, .ref z_needs, .ref z_names, .int 0, .ref z_built, .ref z_draft, .int 0, .int 0, .int (-1)])), (z_tokens, .inr (10, [.ref t_sorts, .ref t_places, .ref t_words, .int 0, .int 0, .int 256, .int pl, .long wd]))]) [0, 1] (by decide) rfl
  have hKc := hK.sub (tys' := []) [] rfl
  have hFc := va_free (wc := [(h0, .inr (7, [.ref z_tokens, .ref z_needs, .ref z_names, .int 0, .ref z_built, .ref z_draft, .int 0, .int 0, .int (-1)])), (z_tokens, .inr (10, [.ref t_sorts, .ref t_places, .ref t_words, .int 0, .int 0, .int 256, .int pl, .long wd]))]) hD hS hAA [0, 1] rfl
  refine vx_callv (vx_runV (As := []) (rest := []) ⟨hx, hb, hml, hown, hA⟩ (c_X7_failForm l dC dI h0 z_tokens z_needs z_names z_built z_draft t_sorts t_places t_words pl wd s.heap.size hlt) (cwV 0 hA (zw_V wi_877 wi_879 wi_8 wi_136 (zw_good wi_880)) rfl rfl rfl (by decide +kernel) ⟨(Nat.le_of_ble_eq_true rfl), (Nat.le_of_ble_eq_true rfl)⟩) ⟨zP_blind, va_recv hKc hPc (ci := 7) (q0 := 0) rfl rfl, zz_pre hKc hPc hDc hN hT hS hFc⟩ rfl rfl hl.1 rfl (lv_room (Nat.le_of_ble_eq_true rfl)) dX7_expect_12 ⟨(Nat.le_of_ble_eq_true rfl), (Nat.le_of_ble_eq_true rfl)⟩) hS (fun q _ h => hFc q h) hFc (fun q _ h => hFc q h) (fun E9 ce9 q9 u t H1 locs ht hvm hw hB hz1 hk1 hS hcell hcv hcl => ?_) (fun u t H1 locs ht hvm hw hB hz1 hk1 hS => absurd hw id)
  obtain ⟨fn_2, fp_3⟩ := u
  obtain ⟨rfl, hP1, hK1, hD1⟩ := hB
  rw [ht] at hP1
  have hK1 := va_K.moved hvm.symm hK1
  obtain ⟨hP, hD⟩ := va_join (wr := []) (w1 := [(h0, .inr (7, [.ref z_tokens, .ref z_needs, .ref z_names, .int 0, .ref z_built, .ref z_draft, .int 0, .int fn_2, .int fp_3]))]) hP hD [0, 1] [] rfl rfl (by decide) (by decide) hk1 hFc hP1 hD1
  have hK := (hK.sub (tys' := []) [] rfl).app hK1
  clear hPc hDc hFc hP1 hD1 hk1 hz1 ht hvm
  generalize H1 = H at hP hS hcell ⊢
  have hP : va_P (dC, dI) vwCl [(h0, .inr (7, [.ref z_tokens, .ref z_needs, .ref z_names, .int 0, .ref z_built, .ref z_draft, .int 0, .int fn_2, .int fp_3]))] H := hP
  have hD : va_D A [(h0, .inr (7, [.ref z_tokens, .ref z_needs, .ref z_names, .int 0, .ref z_built, .ref z_draft, .int 0, .int fn_2, .int fp_3]))] := hD
  have hK : va_K (dC, dI) vwCl [] s := hK
  refine vx_widen (k := 1) (n := 6) (Nat.le_of_ble_eq_true rfl) (Nat.le_of_ble_eq_true rfl) ?_
  have hP9 := hP.sub (ws' := [(h0, .inr (7, [.ref z_tokens, .ref z_needs, .ref z_names, .int 0, .ref z_built, .ref z_draft, .int 0, .int fn_2, .int fp_3]))]) [0] rfl
  have hD9 := hD.sub (ws' := [(h0, .inr (7, [.ref z_tokens, .ref z_needs, .ref z_names, .int 0, .ref z_built, .ref z_draft, .int 0, .int fn_2, .int fp_3]))]) [0] (by decide) rfl
  have hK9 := hK.sub (tys' := []) [] rfl
  exact vx_out (fun x hx => (hnh x hx).elim) hlocks hcell hcv hcl (fun t ht hvm => ⟨(fn_2, fp_3), trivial, ⟨rfl, by rw [ht]; exact hP9, va_K.moved hvm hK9, hD9⟩, hS.F ht⟩) hS.2.2 (Nat.le_of_ble_eq_true rfl) (Nat.le_of_ble_eq_true rfl)
set_option maxHeartbeats 4000000 in
set_option maxRecDepth 100000 in
theorem c_X7_definition (l : Launch) (dC : Nat → ClassId) (dI : Nat → Nat → Nat) (h0 : Nat) (z_tokens : Nat) (z_needs : Nat) (z_names : Nat) (z_built : Nat) (z_draft : Nat) (t_sorts : Nat) (t_places : Nat) (t_words : Nat) (pl : Int32) (wd : Int64) (sz : Nat) (hlt : l.stackTraces = false) : vx_Met l yX7_definition (Cond.code yX7_definition cX7_definition 1 none :: zw) ({ frames := 16, cells := 1, slots := 6, locals := 600 }) (va_Pc [.ref h0] (zP dC dI sz [] [(h0, .inr (7, [.ref z_tokens, .ref z_needs, .ref z_names, .int 0, .ref z_built, .ref z_draft, .int 0, .int 0, .int (-1)])), (z_tokens, .inr (10, [.ref t_sorts, .ref t_places, .ref t_words, .int 0, .int 0, .int 256, .int pl, .long wd]))])) (va_Qv (fun u : Unit => False) (fun u => zQ dC dI (va_A [(h0, .inr (7, [.ref z_tokens, .ref z_needs, .ref z_names, .int 0, .ref z_built, .ref z_draft, .int 0, .int 0, .int (-1)])), (z_tokens, .inr (10, [.ref t_sorts, .ref t_places, .ref t_words, .int 0, .int 0, .int 256, .int pl, .long wd]))] sz) [] []) (va_A [(h0, .inr (7, [.ref z_tokens, .ref z_needs, .ref z_names, .int 0, .ref z_built, .ref z_draft, .int 0, .int 0, .int (-1)])), (z_tokens, .inr (10, [.ref t_sorts, .ref t_places, .ref t_words, .int 0, .int 0, .int 256, .int pl, .long wd]))] sz)) (vx_X (fun _ : Int32 × Int32 => True) (fun E u t => E = "java/lang/IllegalStateException" ∧ (match u with | (fn, fp) => zQ dC dI (va_A [(h0, .inr (7, [.ref z_tokens, .ref z_needs, .ref z_names, .int 0, .ref z_built, .ref z_draft, .int 0, .int 0, .int (-1)])), (z_tokens, .inr (10, [.ref t_sorts, .ref t_places, .ref t_words, .int 0, .int 0, .int 256, .int pl, .long wd]))] sz) [] [(h0, .inr (7, [.ref z_tokens, .ref z_needs, .ref z_names, .int 0, .ref z_built, .ref z_draft, .int 0, .int fn, .int fp]))] t)) (va_A [(h0, .inr (7, [.ref z_tokens, .ref z_needs, .ref z_names, .int 0, .ref z_built, .ref z_draft, .int 0, .int 0, .int (-1)])), (z_tokens, .inr (10, [.ref t_sorts, .ref t_places, .ref t_words, .int 0, .int 0, .int 256, .int pl, .long wd]))] sz)) 1 6 (va_A [(h0, .inr (7, [.ref z_tokens, .ref z_needs, .ref z_names, .int 0, .ref z_built, .ref z_draft, .int 0, .int 0, .int (-1)])), (z_tokens, .inr (10, [.ref t_sorts, .ref t_places, .ref t_words, .int 0, .int 0, .int 256, .int pl, .long wd]))] sz) := by
  refine vx_ofW (cc := cX7_definition) (maxL := 1) (ret := none) (by decide) rfl ?_
  intro p e s m args below meth c s₁ B hml hnh hv
  obtain ⟨rfl, hsz, hP, hK, hD0, hN, hT⟩ := hv
  have hx := B.exec
  have hb := B.bytes
  have hr := B.returns
  have hts := atoms_spec (ws := Cond.code yX7_definition cX7_definition 1 none :: zw) B.pre
  have hA : ∀ w ∈ zw, w.before _ s = true := fun w h => hts w (List.mem_cons_of_mem _ h)
  have hown : s.vm.findClass RX7 = some m.cls := findClass_of_methodNamed B.named
  have hlocks := B.notSynchronized
  subst hsz
  have hD := hD0.self (sz := s.heap.size)
  generalize hAe : va_A [(h0, .inr (7, [.ref z_tokens, .ref z_needs, .ref z_names, .int 0, .ref z_built, .ref z_draft, .int 0, .int 0, .int (-1)])), (z_tokens, .inr (10, [.ref t_sorts, .ref t_places, .ref t_words, .int 0, .int 0, .int 256, .int pl, .long wd]))] s.heap.size = A at hD hT ⊢
  have hAA : ∀ q : Nat, s.heap.size ≤ q → A q := fun q h => by rw [← hAe]; exact Or.inr h
  have hS : va_S A s.heap s.heap [] := va_S.rf
  have hl := lv_entry ([.ref h0]) (n := 1) (Nat.le_of_ble_eq_true rfl)
  rw [lg_entry_eq]
  generalize (lg_sl ([.ref h0]) ++ List.replicate (1 - (lg_sl ([.ref h0])).length) Slot.unset).toArray = ls at hl ⊢
  have hl : lv_has ls 1 [(0, .ref h0)] := hl
  refine lv_aload_n hx hb dX7_definition_0 rfl (lv_at hl 0 rfl) ?_
  refine va_get (D := (dC, dI)) (ci := 7) (v := .ref z_tokens) (C := RX7) (T := TX7) (N := 9) hx hb hA zin_X7 hown hK hP 0 rfl rfl 0 (by decide) (hA _ wi_387) (fun _ h9 => h9) rfl dX7_definition_1 ?_
  refine va_get (D := (dC, dI)) (ci := 10) (v := .int 256) (C := RX10) (T := TX10) (N := 8) hx hb hA zin_X10 hown hK hP 1 rfl rfl 5 (by decide) (hA _ wi_353) (fun _ h9 => h9) rfl dX7_definition_4 ?_
  refine lv_sipush (v := 268) hx hb dX7_definition_7 (by decide) ?_
  refine lv_icmp_ne (tgt := 32) hx hb dX7_definition_10 (by decide) (fun _ => ?_) (fun c_0 => absurd c_0 (by decide))
  refine lv_aload_n hx hb dX7_definition_32 rfl (lv_at hl 0 rfl) ?_
  refine lv_sipush (v := 268) hx hb dX7_definition_33 (by decide) ?_
  have hPc := hP.sub (ws' := [(h0, .inr (7, [.ref z_tokens, .ref z_needs, .ref z_names, .int 0, .ref z_built, .ref z_draft, .int 0, .int 0, .int (-1)])), (z_tokens, .inr (10, [.ref t_sorts, .ref t_places, .ref t_words, .int 0, .int 0, .int 256, .int pl, .long wd]))]) [0, 1] rfl
  have hDc := hD.sub (ws' := [(h0, .inr (7, [.ref z_tokens, .ref z_needs, .ref z_names, .int 0, .ref z_built, .ref z_draft, .int 0, .int 0, .int (-1)])), (z_tokens, .inr (10, [.ref t_sorts, .ref t_places, .ref t_words, .int 0, .int 0, .int 256, .int pl, .long wd]))]) [0, 1] (by decide) rfl
  have hKc := hK.sub (tys' := []) [] rfl
  have hFc := va_free (wc := [(h0, .inr (7, [.ref z_tokens, .ref z_needs, .ref z_names, .int 0, .ref z_built, .ref z_draft, .int 0, .int 0, .int (-1)])), (z_tokens, .inr (10, [.ref t_sorts, .ref t_places, .ref t_words, .int 0, .int 0, .int 256, .int pl, .long wd]))]) hD hS hAA [0, 1] rfl
  refine vx_callv (vx_runV (As := [.int 268]) (rest := []) ⟨hx, hb, hml, hown, hA⟩ (c_X7_expect l dC dI h0 z_tokens z_needs z_names z_built z_draft t_sorts t_places t_words pl wd s.heap.size hlt) (cwV 1 hA (zw_V wi_873 wi_875 wi_7 wi_136 (zw_good wi_876)) rfl rfl rfl (by decide +kernel) ⟨(Nat.le_of_ble_eq_true rfl), (Nat.le_of_ble_eq_true rfl)⟩) ⟨zP_blind, va_recv hKc hPc (ci := 7) (q0 := 0) rfl rfl, zz_pre hKc hPc hDc hN hT hS hFc⟩ rfl rfl hl.1 rfl (lv_room (Nat.le_of_ble_eq_true rfl)) dX7_definition_36 ⟨(Nat.le_of_ble_eq_true rfl), (Nat.le_of_ble_eq_true rfl)⟩) hS (fun q _ h => hFc q h) hFc (fun q _ h => hFc q h) (fun E9 ce9 q9 u t H1 locs ht hvm hw hB hz1 hk1 hS hcell hcv hcl => ?_) (fun u t H1 locs ht hvm hw hB hz1 hk1 hS => absurd hw id)
  obtain ⟨fn_2, fp_3⟩ := u
  obtain ⟨rfl, hP1, hK1, hD1⟩ := hB
  rw [ht] at hP1
  have hK1 := va_K.moved hvm.symm hK1
  obtain ⟨hP, hD⟩ := va_join (wr := []) (w1 := [(h0, .inr (7, [.ref z_tokens, .ref z_needs, .ref z_names, .int 0, .ref z_built, .ref z_draft, .int 0, .int fn_2, .int fp_3]))]) hP hD [0, 1] [] rfl rfl (by decide) (by decide) hk1 hFc hP1 hD1
  have hK := (hK.sub (tys' := []) [] rfl).app hK1
  clear hPc hDc hFc hP1 hD1 hk1 hz1 ht hvm
  generalize H1 = H at hP hS hcell ⊢
  have hP : va_P (dC, dI) vwCl [(h0, .inr (7, [.ref z_tokens, .ref z_needs, .ref z_names, .int 0, .ref z_built, .ref z_draft, .int 0, .int fn_2, .int fp_3]))] H := hP
  have hD : va_D A [(h0, .inr (7, [.ref z_tokens, .ref z_needs, .ref z_names, .int 0, .ref z_built, .ref z_draft, .int 0, .int fn_2, .int fp_3]))] := hD
  have hK : va_K (dC, dI) vwCl [] s := hK
  refine vx_widen (k := 1) (n := 6) (Nat.le_of_ble_eq_true rfl) (Nat.le_of_ble_eq_true rfl) ?_
  have hP9 := hP.sub (ws' := [(h0, .inr (7, [.ref z_tokens, .ref z_needs, .ref z_names, .int 0, .ref z_built, .ref z_draft, .int 0, .int fn_2, .int fp_3]))]) [0] rfl
  have hD9 := hD.sub (ws' := [(h0, .inr (7, [.ref z_tokens, .ref z_needs, .ref z_names, .int 0, .ref z_built, .ref z_draft, .int 0, .int fn_2, .int fp_3]))]) [0] (by decide) rfl
  have hK9 := hK.sub (tys' := []) [] rfl
  exact vx_out (fun x hx => (hnh x hx).elim) hlocks hcell hcv hcl (fun t ht hvm => ⟨(fn_2, fp_3), trivial, ⟨rfl, by rw [ht]; exact hP9, va_K.moved hvm hK9, hD9⟩, hS.F ht⟩) hS.2.2 (Nat.le_of_ble_eq_true rfl) (Nat.le_of_ble_eq_true rfl)
set_option maxHeartbeats 4000000 in
set_option maxRecDepth 100000 in
theorem c_X7_reads (l : Launch) (dC : Nat → ClassId) (dI : Nat → Nat → Nat) (h0 : Nat) (tp : Nat) (ztok : Nat) (zdr : Nat) (zp_needs : Nat) (zp_names : Nat) (zp_built : Nat) (zt_sorts : Nat) (zt_places : Nat) (zt_words : Nat) (zdcode : Nat) (zdarms : Nat) (zdkinds : Nat) (zdfunctions : Nat) (zdc_op : Nat) (zdc_a : Nat) (zdc_b : Nat) (zdc_place : Nat) (zdc_next : Nat) (zdc_needed : Nat) (zda_kind : Nat) (zda_next : Nat) (zda_before : Nat) (zda_leave : Nat) (zda_firstSlot : Nat) (zda_builds : Nat) (zdk_word : Nat) (zdk_fields : Nat) (zdf_word : Nat) (zdf_enter : Nat) (zdf_facts : Nat) (zk_sorts : ClassId) (zk_places : ClassId) (zk_words : ClassId) (sz : Nat) (hlt : l.stackTraces = false) : vx_Met l yX7_reads (Cond.codeWith yX7_reads cX7_reads 4 (some .boolean) [(26, 72, 75, 73)] :: zw) ({ frames := 18, cells := 1, slots := 6, locals := 700 }) (va_Pc [.ref h0, .ref tp, .int 0] (zP dC dI sz [(zk_sorts, .int), (zk_places, .int), (zk_words, .long)] [(h0, .inr (7, [.ref ztok, .ref zp_needs, .ref zp_names, .int 0, .ref zp_built, .ref zdr, .int 0, .int 0, .int (-1)])), (ztok, .inr (10, [.ref zt_sorts, .ref zt_places, .ref zt_words, .int 0, .int 0, .int 256, .int 0, .long 0])), (zt_sorts, .inl (zk_sorts, 2001, .inl (fun _ => 0))), (zt_places, .inl (zk_places, 2001, .inl (fun _ => 0))), (zt_words, .inl (zk_words, 2001, .inr (.inl (fun _ => 0)))), (zdr, .inr (9, [.ref zdcode, .ref zdarms, .ref zdkinds, .ref zdfunctions])), (zdcode, .inr (2, [.ref zdc_op, .ref zdc_a, .ref zdc_b, .ref zdc_place, .ref zdc_next, .ref zdc_needed, .int 0, .int (-1)])), (zdarms, .inr (0, [.ref zda_kind, .ref zda_next, .ref zda_before, .ref zda_leave, .ref zda_firstSlot, .ref zda_builds, .int 0])), (zdkinds, .inr (4, [.ref zdk_word, .ref zdk_fields, .int 0])), (zdfunctions, .inr (3, [.ref zdf_word, .ref zdf_enter, .ref zdf_facts, .int 0]))])) (va_Qi (fun (r : Int32) (u : Int32 × Int32) => match u with | (fn, fp) => r = 0) (fun u => match u with | (fn, fp) => zQ dC dI (va_A [(h0, .inr (7, [.ref ztok, .ref zp_needs, .ref zp_names, .int 0, .ref zp_built, .ref zdr, .int 0, .int 0, .int (-1)])), (ztok, .inr (10, [.ref zt_sorts, .ref zt_places, .ref zt_words, .int 0, .int 0, .int 256, .int 0, .long 0])), (zt_sorts, .inl (zk_sorts, 2001, .inl (fun _ => 0))), (zt_places, .inl (zk_places, 2001, .inl (fun _ => 0))), (zt_words, .inl (zk_words, 2001, .inr (.inl (fun _ => 0)))), (zdr, .inr (9, [.ref zdcode, .ref zdarms, .ref zdkinds, .ref zdfunctions])), (zdcode, .inr (2, [.ref zdc_op, .ref zdc_a, .ref zdc_b, .ref zdc_place, .ref zdc_next, .ref zdc_needed, .int 0, .int (-1)])), (zdarms, .inr (0, [.ref zda_kind, .ref zda_next, .ref zda_before, .ref zda_leave, .ref zda_firstSlot, .ref zda_builds, .int 0])), (zdkinds, .inr (4, [.ref zdk_word, .ref zdk_fields, .int 0])), (zdfunctions, .inr (3, [.ref zdf_word, .ref zdf_enter, .ref zdf_facts, .int 0]))] sz) [] [(h0, .inr (7, [.ref ztok, .ref zp_needs, .ref zp_names, .int 0, .ref zp_built, .ref zdr, .int 0, .int fn, .int fp]))]) (va_A [(h0, .inr (7, [.ref ztok, .ref zp_needs, .ref zp_names, .int 0, .ref zp_built, .ref zdr, .int 0, .int 0, .int (-1)])), (ztok, .inr (10, [.ref zt_sorts, .ref zt_places, .ref zt_words, .int 0, .int 0, .int 256, .int 0, .long 0])), (zt_sorts, .inl (zk_sorts, 2001, .inl (fun _ => 0))), (zt_places, .inl (zk_places, 2001, .inl (fun _ => 0))), (zt_words, .inl (zk_words, 2001, .inr (.inl (fun _ => 0)))), (zdr, .inr (9, [.ref zdcode, .ref zdarms, .ref zdkinds, .ref zdfunctions])), (zdcode, .inr (2, [.ref zdc_op, .ref zdc_a, .ref zdc_b, .ref zdc_place, .ref zdc_next, .ref zdc_needed, .int 0, .int (-1)])), (zdarms, .inr (0, [.ref zda_kind, .ref zda_next, .ref zda_before, .ref zda_leave, .ref zda_firstSlot, .ref zda_builds, .int 0])), (zdkinds, .inr (4, [.ref zdk_word, .ref zdk_fields, .int 0])), (zdfunctions, .inr (3, [.ref zdf_word, .ref zdf_enter, .ref zdf_facts, .int 0]))] sz)) (vx_X (fun _ : Unit => False) (fun _ _ _ => True) (va_A [(h0, .inr (7, [.ref ztok, .ref zp_needs, .ref zp_names, .int 0, .ref zp_built, .ref zdr, .int 0, .int 0, .int (-1)])), (ztok, .inr (10, [.ref zt_sorts, .ref zt_places, .ref zt_words, .int 0, .int 0, .int 256, .int 0, .long 0])), (zt_sorts, .inl (zk_sorts, 2001, .inl (fun _ => 0))), (zt_places, .inl (zk_places, 2001, .inl (fun _ => 0))), (zt_words, .inl (zk_words, 2001, .inr (.inl (fun _ => 0)))), (zdr, .inr (9, [.ref zdcode, .ref zdarms, .ref zdkinds, .ref zdfunctions])), (zdcode, .inr (2, [.ref zdc_op, .ref zdc_a, .ref zdc_b, .ref zdc_place, .ref zdc_next, .ref zdc_needed, .int 0, .int (-1)])), (zdarms, .inr (0, [.ref zda_kind, .ref zda_next, .ref zda_before, .ref zda_leave, .ref zda_firstSlot, .ref zda_builds, .int 0])), (zdkinds, .inr (4, [.ref zdk_word, .ref zdk_fields, .int 0])), (zdfunctions, .inr (3, [.ref zdf_word, .ref zdf_enter, .ref zdf_facts, .int 0]))] sz)) 1 6 (va_A [(h0, .inr (7, [.ref ztok, .ref zp_needs, .ref zp_names, .int 0, .ref zp_built, .ref zdr, .int 0, .int 0, .int (-1)])), (ztok, .inr (10, [.ref zt_sorts, .ref zt_places, .ref zt_words, .int 0, .int 0, .int 256, .int 0, .long 0])), (zt_sorts, .inl (zk_sorts, 2001, .inl (fun _ => 0))), (zt_places, .inl (zk_places, 2001, .inl (fun _ => 0))), (zt_words, .inl (zk_words, 2001, .inr (.inl (fun _ => 0)))), (zdr, .inr (9, [.ref zdcode, .ref zdarms, .ref zdkinds, .ref zdfunctions])), (zdcode, .inr (2, [.ref zdc_op, .ref zdc_a, .ref zdc_b, .ref zdc_place, .ref zdc_next, .ref zdc_needed, .int 0, .int (-1)])), (zdarms, .inr (0, [.ref zda_kind, .ref zda_next, .ref zda_before, .ref zda_leave, .ref zda_firstSlot, .ref zda_builds, .int 0])), (zdkinds, .inr (4, [.ref zdk_word, .ref zdk_fields, .int 0])), (zdfunctions, .inr (3, [.ref zdf_word, .ref zdf_enter, .ref zdf_facts, .int 0]))] sz) := by
  refine vx_ofWH (cc := cX7_reads) (maxL := 4) (ret := (some .boolean)) (by decide) rfl ?_
  intro p e s m args below meth c s₁ B hml hv
  obtain ⟨rfl, hsz, hP, hK, hD0, hN, hT⟩ := hv
  have hx := B.exec
  have hb := B.bytes
  have hr := B.returns
  have hts := atoms_spec (ws := Cond.codeWith yX7_reads cX7_reads 4 (some .boolean) [(26, 72, 75, 73)] :: zw) B.pre
  have hA : ∀ w ∈ zw, w.before _ s = true := fun w h => hts w (List.mem_cons_of_mem _ h)
  have hown : s.vm.findClass RX7 = some m.cls := findClass_of_methodNamed B.named
  have hlocks := B.notSynchronized
  subst hsz
  have hD := hD0.self (sz := s.heap.size)
  generalize hAe : va_A [(h0, .inr (7, [.ref ztok, .ref zp_needs, .ref zp_names, .int 0, .ref zp_built, .ref zdr, .int 0, .int 0, .int (-1)])), (ztok, .inr (10, [.ref zt_sorts, .ref zt_places, .ref zt_words, .int 0, .int 0, .int 256, .int 0, .long 0])), (zt_sorts, .inl (zk_sorts, 2001, .inl (fun _ => 0))), (zt_places, .inl (zk_places, 2001, .inl (fun _ => 0))), (zt_words, .inl (zk_words, 2001, .inr (.inl (fun _ => 0)))), (zdr, .inr (9, [.ref zdcode, .ref zdarms, .ref zdkinds, .ref zdfunctions])), (zdcode, .inr (2, [.ref zdc_op, .ref zdc_a, .ref zdc_b, .ref zdc_place, .ref zdc_next, .ref zdc_needed, .int 0, .int (-1)])), (zdarms, .inr (0, [.ref zda_kind, .ref zda_next, .ref zda_before, .ref zda_leave, .ref zda_firstSlot, .ref zda_builds, .int 0])), (zdkinds, .inr (4, [.ref zdk_word, .ref zdk_fields, .int 0])), (zdfunctions, .inr (3, [.ref zdf_word, .ref zdf_enter, .ref zdf_facts, .int 0]))] s.heap.size = A at hD hT ⊢
  have hAA : ∀ q : Nat, s.heap.size ≤ q → A q := fun q h => by rw [← hAe]; exact Or.inr h
  have hS : va_S A s.heap s.heap [] := va_S.rf
  have hl := lv_entry ([.ref h0, .ref tp, .int 0]) (n := 4) (Nat.le_of_ble_eq_true rfl)
  rw [lg_entry_eq]
  generalize (lg_sl ([.ref h0, .ref tp, .int 0]) ++ List.replicate (4 - (lg_sl ([.ref h0, .ref tp, .int 0])).length) Slot.unset).toArray = ls at hl ⊢
  have hl : lv_has ls 4 [(0, .ref h0), (1, .ref tp), (2, .int 0)] := hl
  refine lv_aload_n hx hb dX7_reads_0 rfl (lv_at hl 0 rfl) ?_
  refine va_get (D := (dC, dI)) (ci := 7) (v := .ref ztok) (C := RX7) (T := TX7) (N := 9) hx hb hA zin_X7 hown hK hP 0 rfl rfl 0 (by decide) (hA _ wi_387) (fun _ h9 => h9) rfl dX7_reads_1 ?_
  refine lv_aload_n hx hb dX7_reads_4 rfl (lv_at hl 1 rfl) ?_
  refine lv_iload_n hx hb dX7_reads_5 rfl (lv_at hl 2 rfl) ?_
  have hPc := hP.sub (ws' := [(ztok, .inr (10, [.ref zt_sorts, .ref zt_places, .ref zt_words, .int 0, .int 0, .int 256, .int 0, .long 0])), (zt_sorts, .inl (zk_sorts, 2001, .inl (fun _ => 0))), (zt_places, .inl (zk_places, 2001, .inl (fun _ => 0))), (zt_words, .inl (zk_words, 2001, .inr (.inl (fun _ => 0))))]) [1, 2, 3, 4] rfl
  have hDc := hD.sub (ws' := [(ztok, .inr (10, [.ref zt_sorts, .ref zt_places, .ref zt_words, .int 0, .int 0, .int 256, .int 0, .long 0])), (zt_sorts, .inl (zk_sorts, 2001, .inl (fun _ => 0))), (zt_places, .inl (zk_places, 2001, .inl (fun _ => 0))), (zt_words, .inl (zk_words, 2001, .inr (.inl (fun _ => 0))))]) [1, 2, 3, 4] (by decide) rfl
  have hKc := hK.sub (tys' := [(zk_sorts, .int), (zk_places, .int), (zk_words, .long)]) [0, 1, 2] rfl
  have hFc := va_free (wc := [(ztok, .inr (10, [.ref zt_sorts, .ref zt_places, .ref zt_words, .int 0, .int 0, .int 256, .int 0, .long 0])), (zt_sorts, .inl (zk_sorts, 2001, .inl (fun _ => 0))), (zt_places, .inl (zk_places, 2001, .inl (fun _ => 0))), (zt_words, .inl (zk_words, 2001, .inr (.inl (fun _ => 0))))]) hD hS hAA [1, 2, 3, 4] rfl
  refine va_callv (va_runV (As := [.ref tp, .int 0]) (rest := []) ⟨hx, hb, hml, hown, hA⟩ (c_X10_read l dC dI ztok tp zt_sorts zt_places zt_words zk_sorts zk_places zk_words s.heap.size) (cwV 2 hA (zw_V wi_653 wi_654 wi_655 wi_137 (zw_good wi_656)) rfl rfl rfl (by decide +kernel) ⟨(Nat.le_of_ble_eq_true rfl), (Nat.le_of_ble_eq_true rfl)⟩) ⟨zP_blind, va_recv hKc hPc (ci := 10) (q0 := 0) rfl rfl, zz_pre hKc hPc hDc hN hT hS hFc⟩ rfl rfl hl.1 rfl (lv_room (Nat.le_of_ble_eq_true rfl)) dX7_reads_6 ⟨(Nat.le_of_ble_eq_true rfl), (Nat.le_of_ble_eq_true rfl)⟩) hS (fun q _ h => hFc q h) hFc (fun u t H1 locs ht hvm hw hB hz1 hk1 hS => ?_)
  obtain ⟨pl_2, wd_3⟩ := u
  obtain ⟨hP1, hK1, hD1⟩ := hB
  rw [ht] at hP1
  have hK1 := va_K.moved hvm.symm hK1
  obtain ⟨hP, hD⟩ := va_join (wr := [(h0, .inr (7, [.ref ztok, .ref zp_needs, .ref zp_names, .int 0, .ref zp_built, .ref zdr, .int 0, .int 0, .int (-1)])), (zdr, .inr (9, [.ref zdcode, .ref zdarms, .ref zdkinds, .ref zdfunctions])), (zdcode, .inr (2, [.ref zdc_op, .ref zdc_a, .ref zdc_b, .ref zdc_place, .ref zdc_next, .ref zdc_needed, .int 0, .int (-1)])), (zdarms, .inr (0, [.ref zda_kind, .ref zda_next, .ref zda_before, .ref zda_leave, .ref zda_firstSlot, .ref zda_builds, .int 0])), (zdkinds, .inr (4, [.ref zdk_word, .ref zdk_fields, .int 0])), (zdfunctions, .inr (3, [.ref zdf_word, .ref zdf_enter, .ref zdf_facts, .int 0]))]) (w1 := [(ztok, .inr (10, [.ref zt_sorts, .ref zt_places, .ref zt_words, .int 0, .int 0, .int 256, .int pl_2, .long wd_3]))]) hP hD [1, 2, 3, 4] [0, 5, 6, 7, 8, 9] rfl rfl (by decide) (by decide) hk1 hFc hP1 hD1
  have hK := (hK.sub (tys' := []) [] rfl).app hK1
  generalize H1 = H at hP hS ⊢
  have hP : va_P (dC, dI) vwCl [(h0, .inr (7, [.ref ztok, .ref zp_needs, .ref zp_names, .int 0, .ref zp_built, .ref zdr, .int 0, .int 0, .int (-1)])), (zdr, .inr (9, [.ref zdcode, .ref zdarms, .ref zdkinds, .ref zdfunctions])), (zdcode, .inr (2, [.ref zdc_op, .ref zdc_a, .ref zdc_b, .ref zdc_place, .ref zdc_next, .ref zdc_needed, .int 0, .int (-1)])), (zdarms, .inr (0, [.ref zda_kind, .ref zda_next, .ref zda_before, .ref zda_leave, .ref zda_firstSlot, .ref zda_builds, .int 0])), (zdkinds, .inr (4, [.ref zdk_word, .ref zdk_fields, .int 0])), (zdfunctions, .inr (3, [.ref zdf_word, .ref zdf_enter, .ref zdf_facts, .int 0])), (ztok, .inr (10, [.ref zt_sorts, .ref zt_places, .ref zt_words, .int 0, .int 0, .int 256, .int pl_2, .long wd_3]))] H := hP
  have hD : va_D A [(h0, .inr (7, [.ref ztok, .ref zp_needs, .ref zp_names, .int 0, .ref zp_built, .ref zdr, .int 0, .int 0, .int (-1)])), (zdr, .inr (9, [.ref zdcode, .ref zdarms, .ref zdkinds, .ref zdfunctions])), (zdcode, .inr (2, [.ref zdc_op, .ref zdc_a, .ref zdc_b, .ref zdc_place, .ref zdc_next, .ref zdc_needed, .int 0, .int (-1)])), (zdarms, .inr (0, [.ref zda_kind, .ref zda_next, .ref zda_before, .ref zda_leave, .ref zda_firstSlot, .ref zda_builds, .int 0])), (zdkinds, .inr (4, [.ref zdk_word, .ref zdk_fields, .int 0])), (zdfunctions, .inr (3, [.ref zdf_word, .ref zdf_enter, .ref zdf_facts, .int 0])), (ztok, .inr (10, [.ref zt_sorts, .ref zt_places, .ref zt_words, .int 0, .int 0, .int 256, .int pl_2, .long wd_3]))] := hD
  have hK : va_K (dC, dI) vwCl [] s := hK
  refine lv_aload_n hx hb dX7_reads_9 rfl (lv_at hl 0 rfl) ?_
  refine va_get (D := (dC, dI)) (ci := 7) (v := .ref zdr) (C := RX7) (T := TX7) (N := 9) hx hb hA zin_X7 hown hK hP 0 rfl rfl 5 (by decide) (hA _ wi_392) (fun _ h9 => h9) rfl dX7_reads_10 ?_
  have hPc := hP.sub (ws' := [(zdr, .inr (9, [.ref zdcode, .ref zdarms, .ref zdkinds, .ref zdfunctions])), (zdcode, .inr (2, [.ref zdc_op, .ref zdc_a, .ref zdc_b, .ref zdc_place, .ref zdc_next, .ref zdc_needed, .int 0, .int (-1)])), (zdarms, .inr (0, [.ref zda_kind, .ref zda_next, .ref zda_before, .ref zda_leave, .ref zda_firstSlot, .ref zda_builds, .int 0])), (zdkinds, .inr (4, [.ref zdk_word, .ref zdk_fields, .int 0])), (zdfunctions, .inr (3, [.ref zdf_word, .ref zdf_enter, .ref zdf_facts, .int 0]))]) [1, 2, 3, 4, 5] rfl
  have hDc := hD.sub (ws' := [(zdr, .inr (9, [.ref zdcode, .ref zdarms, .ref zdkinds, .ref zdfunctions])), (zdcode, .inr (2, [.ref zdc_op, .ref zdc_a, .ref zdc_b, .ref zdc_place, .ref zdc_next, .ref zdc_needed, .int 0, .int (-1)])), (zdarms, .inr (0, [.ref zda_kind, .ref zda_next, .ref zda_before, .ref zda_leave, .ref zda_firstSlot, .ref zda_builds, .int 0])), (zdkinds, .inr (4, [.ref zdk_word, .ref zdk_fields, .int 0])), (zdfunctions, .inr (3, [.ref zdf_word, .ref zdf_enter, .ref zdf_facts, .int 0]))]) [1, 2, 3, 4, 5] (by decide) rfl
  have hKc := hK.sub (tys' := []) [] rfl
  have hFc := va_free (wc := [(zdr, .inr (9, [.ref zdcode, .ref zdarms, .ref zdkinds, .ref zdfunctions])), (zdcode, .inr (2, [.ref zdc_op, .ref zdc_a, .ref zdc_b, .ref zdc_place, .ref zdc_next, .ref zdc_needed, .int 0, .int (-1)])), (zdarms, .inr (0, [.ref zda_kind, .ref zda_next, .ref zda_before, .ref zda_leave, .ref zda_firstSlot, .ref zda_builds, .int 0])), (zdkinds, .inr (4, [.ref zdk_word, .ref zdk_fields, .int 0])), (zdfunctions, .inr (3, [.ref zdf_word, .ref zdf_enter, .ref zdf_facts, .int 0]))]) hD hS hAA [1, 2, 3, 4, 5] rfl
  refine va_callv (va_runV (As := []) (rest := []) ⟨hx, hb, hml, hown, hA⟩ (c_X9_clear l dC dI zdr zdcode zdarms zdkinds zdfunctions zdc_op zdc_a zdc_b zdc_place zdc_next zdc_needed zda_kind zda_next zda_before zda_leave zda_firstSlot zda_builds zdk_word zdk_fields zdf_word zdf_enter zdf_facts H.size) (cwV 0 hA (zw_V wi_778 wi_779 wi_780 wi_131 (zw_good wi_781)) rfl rfl rfl (by decide +kernel) ⟨(Nat.le_of_ble_eq_true rfl), (Nat.le_of_ble_eq_true rfl)⟩) ⟨zP_blind, va_recv hKc hPc (ci := 9) (q0 := 0) rfl rfl, zz_pre hKc hPc hDc hN hT hS hFc⟩ rfl rfl hl.1 rfl (lv_room (Nat.le_of_ble_eq_true rfl)) dX7_reads_13 ⟨(Nat.le_of_ble_eq_true rfl), (Nat.le_of_ble_eq_true rfl)⟩) hS (fun q _ h => hFc q h) hFc (fun u t H1 locs ht hvm hw hB hz1 hk1 hS => ?_)
  obtain ⟨hP1, hK1, hD1⟩ := hB
  rw [ht] at hP1
  have hK1 := va_K.moved hvm.symm hK1
  obtain ⟨hP, hD⟩ := va_join (wr := [(h0, .inr (7, [.ref ztok, .ref zp_needs, .ref zp_names, .int 0, .ref zp_built, .ref zdr, .int 0, .int 0, .int (-1)])), (ztok, .inr (10, [.ref zt_sorts, .ref zt_places, .ref zt_words, .int 0, .int 0, .int 256, .int pl_2, .long wd_3]))]) (w1 := []) hP hD [1, 2, 3, 4, 5] [0, 6] rfl rfl (by decide) (by decide) hk1 hFc hP1 hD1
  have hK := (hK.sub (tys' := []) [] rfl).app hK1
  generalize H1 = H at hP hS ⊢
  have hP : va_P (dC, dI) vwCl [(h0, .inr (7, [.ref ztok, .ref zp_needs, .ref zp_names, .int 0, .ref zp_built, .ref zdr, .int 0, .int 0, .int (-1)])), (ztok, .inr (10, [.ref zt_sorts, .ref zt_places, .ref zt_words, .int 0, .int 0, .int 256, .int pl_2, .long wd_3]))] H := hP
  have hD : va_D A [(h0, .inr (7, [.ref ztok, .ref zp_needs, .ref zp_names, .int 0, .ref zp_built, .ref zdr, .int 0, .int 0, .int (-1)])), (ztok, .inr (10, [.ref zt_sorts, .ref zt_places, .ref zt_words, .int 0, .int 0, .int 256, .int pl_2, .long wd_3]))] := hD
  have hK : va_K (dC, dI) vwCl [] s := hK
  refine lv_aload_n hx hb dX7_reads_16 rfl (lv_at hl 0 rfl) ?_
  refine lv_iconst (v := 0) hx hb dX7_reads_17 (by decide) ?_
  refine va_put (D := (dC, dI)) (ci := 7) (v := .int 0) (ty := .int) (C := RX7) (T := TX7) (N := 9) hx hb hA zin_X7 tyX7 tyX7_ok nmX7 hown hK hP hD hS 0 rfl rfl 7 (by decide) (hA _ wi_395) (fun _ h9 => h9) rfl (by decide +kernel) rfl rfl (Nat.le_of_ble_eq_true rfl) dX7_reads_18 (fun H locs hP hD hS => ?_)
  have hP : va_P (dC, dI) vwCl [(h0, .inr (7, [.ref ztok, .ref zp_needs, .ref zp_names, .int 0, .ref zp_built, .ref zdr, .int 0, .int 0, .int (-1)])), (ztok, .inr (10, [.ref zt_sorts, .ref zt_places, .ref zt_words, .int 0, .int 0, .int 256, .int pl_2, .long wd_3]))] H := hP
  have hD : va_D A [(h0, .inr (7, [.ref ztok, .ref zp_needs, .ref zp_names, .int 0, .ref zp_built, .ref zdr, .int 0, .int 0, .int (-1)])), (ztok, .inr (10, [.ref zt_sorts, .ref zt_places, .ref zt_words, .int 0, .int 0, .int 256, .int pl_2, .long wd_3]))] := hD
  refine lv_aload_n hx hb dX7_reads_21 rfl (lv_at hl 0 rfl) ?_
  refine lv_iconst (v := (-1)) hx hb dX7_reads_22 (by decide) ?_
  refine va_put (D := (dC, dI)) (ci := 7) (v := .int (-1)) (ty := .int) (C := RX7) (T := TX7) (N := 9) hx hb hA zin_X7 tyX7 tyX7_ok nmX7 hown hK hP hD hS 0 rfl rfl 8 (by decide) (hA _ wi_397) (fun _ h9 => h9) rfl (by decide +kernel) rfl rfl (Nat.le_of_ble_eq_true rfl) dX7_reads_23 (fun H locs hP hD hS => ?_)
  have hP : va_P (dC, dI) vwCl [(h0, .inr (7, [.ref ztok, .ref zp_needs, .ref zp_names, .int 0, .ref zp_built, .ref zdr, .int 0, .int 0, .int (-1)])), (ztok, .inr (10, [.ref zt_sorts, .ref zt_places, .ref zt_words, .int 0, .int 0, .int 256, .int pl_2, .long wd_3]))] H := hP
  have hD : va_D A [(h0, .inr (7, [.ref ztok, .ref zp_needs, .ref zp_names, .int 0, .ref zp_built, .ref zdr, .int 0, .int 0, .int (-1)])), (ztok, .inr (10, [.ref zt_sorts, .ref zt_places, .ref zt_words, .int 0, .int 0, .int 256, .int pl_2, .long wd_3]))] := hD
  refine lv_iconst (v := 0) hx hb dX7_reads_26 (by decide) ?_
  refine lv_istore_n (lv' := [(3, .int 0), (0, .ref h0), (1, .ref tp), (2, .int 0)]) hx hb dX7_reads_27 rfl hl (by decide) rfl (fun ls hl => ?_)
  refine lv_iload_n hx hb dX7_reads_28 rfl (lv_at hl 0 rfl) ?_
  refine lv_bipush (v := 30) hx hb dX7_reads_29 (by decide) ?_
  refine lv_icmp_gt (tgt := 61) hx hb dX7_reads_31 (by decide) (fun c_0 => absurd c_0 (by decide)) (fun _ => ?_)
  refine lv_iload_n hx hb dX7_reads_34 rfl (lv_at hl 0 rfl) ?_
  refine lv_if_eq (tgt := 51) hx hb dX7_reads_35 (by decide) (fun _ => ?_) (fun c_0 => absurd (by decide) c_0)
  refine lv_aload_n hx hb dX7_reads_51 rfl (lv_at hl 1 rfl) ?_
  have hPc := hP.sub (ws' := [(h0, .inr (7, [.ref ztok, .ref zp_needs, .ref zp_names, .int 0, .ref zp_built, .ref zdr, .int 0, .int 0, .int (-1)])), (ztok, .inr (10, [.ref zt_sorts, .ref zt_places, .ref zt_words, .int 0, .int 0, .int 256, .int pl_2, .long wd_3]))]) [0, 1] rfl
  have hDc := hD.sub (ws' := [(h0, .inr (7, [.ref ztok, .ref zp_needs, .ref zp_names, .int 0, .ref zp_built, .ref zdr, .int 0, .int 0, .int (-1)])), (ztok, .inr (10, [.ref zt_sorts, .ref zt_places, .ref zt_words, .int 0, .int 0, .int 256, .int pl_2, .long wd_3]))]) [0, 1] (by decide) rfl
  have hKc := hK.sub (tys' := []) [] rfl
  have hFc := va_free (wc := [(h0, .inr (7, [.ref ztok, .ref zp_needs, .ref zp_names, .int 0, .ref zp_built, .ref zdr, .int 0, .int 0, .int (-1)])), (ztok, .inr (10, [.ref zt_sorts, .ref zt_places, .ref zt_words, .int 0, .int 0, .int 256, .int pl_2, .long wd_3]))]) hD hS hAA [0, 1] rfl
  refine vx_callv (vx_runV (As := []) (rest := []) ⟨hx, hb, hml, hown, hA⟩ (c_X7_definition l dC dI h0 ztok zp_needs zp_names zp_built zdr zt_sorts zt_places zt_words pl_2 wd_3 H.size hlt) (cwV 0 hA (zw_V wi_786 wi_788 wi_3 wi_136 (zw_good wi_789)) rfl rfl rfl (by decide +kernel) ⟨(Nat.le_of_ble_eq_true rfl), (Nat.le_of_ble_eq_true rfl)⟩) ⟨zP_blind, va_recv hKc hPc (ci := 7) (q0 := 0) rfl rfl, zz_pre hKc hPc hDc hN hT hS hFc⟩ rfl rfl hl.1 rfl (lv_room (Nat.le_of_ble_eq_true rfl)) dX7_reads_52 ⟨(Nat.le_of_ble_eq_true rfl), (Nat.le_of_ble_eq_true rfl)⟩) hS (fun q _ h => hFc q h) hFc (fun q _ h => hFc q h) (fun E9 ce9 q9 u t H1 locs ht hvm hw hB hz1 hk1 hS hcell hcv hcl => ?_) (fun u t H1 locs ht hvm hw hB hz1 hk1 hS => absurd hw id)
  obtain ⟨fn_6, fp_7⟩ := u
  obtain ⟨rfl, hP1, hK1, hD1⟩ := hB
  rw [ht] at hP1
  have hK1 := va_K.moved hvm.symm hK1
  obtain ⟨hP, hD⟩ := va_join (wr := []) (w1 := [(h0, .inr (7, [.ref ztok, .ref zp_needs, .ref zp_names, .int 0, .ref zp_built, .ref zdr, .int 0, .int fn_6, .int fp_7]))]) hP hD [0, 1] [] rfl rfl (by decide) (by decide) hk1 hFc hP1 hD1
  have hK := (hK.sub (tys' := []) [] rfl).app hK1
  clear hPc hDc hFc hP1 hD1 hk1 hz1 ht hvm
  generalize H1 = H at hP hS hcell ⊢
  have hP : va_P (dC, dI) vwCl [(h0, .inr (7, [.ref ztok, .ref zp_needs, .ref zp_names, .int 0, .ref zp_built, .ref zdr, .int 0, .int fn_6, .int fp_7]))] H := hP
  have hD : va_D A [(h0, .inr (7, [.ref ztok, .ref zp_needs, .ref zp_names, .int 0, .ref zp_built, .ref zdr, .int 0, .int fn_6, .int fp_7]))] := hD
  have hK : va_K (dC, dI) vwCl [] s := hK
  refine vx_widen (k := 1) (n := 6) (Nat.le_of_ble_eq_true rfl) (Nat.le_of_ble_eq_true rfl) ?_
  refine vx_catch hown [] ⟨26, 72, 75, 73⟩ [] ((vx_table (x := yX7_reads) B (hts _ List.mem_cons_self)).trans rfl) (fun z hz => nomatch hz) (by decide) (by decide) (hA _ wi_652) (va_Nw.use rfl (hN.2.2.1 ("java/lang/IllegalStateException", "java/lang/IllegalStateException") (by decide +kernel))) hcell hcv hcl ?_
  refine lv_astore_n (lv' := [(3, .ref q9), (0, .ref h0), (1, .ref tp), (2, .int 0)]) hx hb dX7_reads_75 rfl hl (by decide) rfl (fun ls hl => ?_)
  refine lv_iconst (v := 0) hx hb dX7_reads_76 (by decide) ?_
  have hP9 := hP.sub (ws' := [(h0, .inr (7, [.ref ztok, .ref zp_needs, .ref zp_names, .int 0, .ref zp_built, .ref zdr, .int 0, .int fn_6, .int fp_7]))]) [0] rfl
  have hD9 := hD.sub (ws' := [(h0, .inr (7, [.ref ztok, .ref zp_needs, .ref zp_names, .int 0, .ref zp_built, .ref zdr, .int 0, .int fn_6, .int fp_7]))]) [0] (by decide) rfl
  have hK9 := hK.sub (tys' := []) [] rfl
  exact vx_ret (W.zret (v := 0) hx hb hr rfl (fun t ht hW => ⟨⟨0, (fn_6, fp_7), rfl, rfl, by rw [ht]; exact hP9, va_K.moved hW.alike hK9, hD9⟩, hS.F ht⟩) hS.2.2 dX7_reads_77)
set_option maxHeartbeats 4000000 in
set_option maxRecDepth 100000 in
theorem c_X11_program (l : Launch) (dC : Nat → ClassId) (dI : Nat → Nat → Nat) (h0 : Nat) (xt : Nat) (xk : Nat) (xp : Nat) (xm : Nat) (xc : Nat) (xl : Nat) (xr : Nat) (xkt : ClassId) (ytok : Nat) (ydr : Nat) (yp_needs : Nat) (yp_names : Nat) (yp_built : Nat) (yt_sorts : Nat) (yt_places : Nat) (yt_words : Nat) (ydcode : Nat) (ydarms : Nat) (ydkinds : Nat) (ydfunctions : Nat) (ydc_op : Nat) (ydc_a : Nat) (ydc_b : Nat) (ydc_place : Nat) (ydc_next : Nat) (ydc_needed : Nat) (yda_kind : Nat) (yda_next : Nat) (yda_before : Nat) (yda_leave : Nat) (yda_firstSlot : Nat) (yda_builds : Nat) (ydk_word : Nat) (ydk_fields : Nat) (ydf_word : Nat) (ydf_enter : Nat) (ydf_facts : Nat) (yk_sorts : ClassId) (yk_places : ClassId) (yk_words : ClassId) (nn : Int32) (sz : Nat) (hlt : l.stackTraces = false) : vx_Met l yX11_program (Cond.code yX11_program cX11_program 3 (some .int) :: zw) ({ frames := 20, cells := 1, slots := 6, locals := 800 }) (va_Pc [.ref h0, .int nn] (zP dC dI sz [(xkt, .byte), (yk_sorts, .int), (yk_places, .int), (yk_words, .long)] [(h0, .inr (11, [.ref xt, .int 0, .ref xk, .ref xp, .ref xm, .ref xc, .ref xl, .ref xr, .int 0, .int (-1), .int 0, .int 0, .int 0, .int 0, .long 0, .int 0, .long 0])), (xt, .inl (xkt, 2000, .inl (fun _ => 0))), (xp, .inr (7, [.ref ytok, .ref yp_needs, .ref yp_names, .int 0, .ref yp_built, .ref ydr, .int 0, .int 0, .int (-1)])), (ytok, .inr (10, [.ref yt_sorts, .ref yt_places, .ref yt_words, .int 0, .int 0, .int 256, .int 0, .long 0])), (yt_sorts, .inl (yk_sorts, 2001, .inl (fun _ => 0))), (yt_places, .inl (yk_places, 2001, .inl (fun _ => 0))), (yt_words, .inl (yk_words, 2001, .inr (.inl (fun _ => 0)))), (ydr, .inr (9, [.ref ydcode, .ref ydarms, .ref ydkinds, .ref ydfunctions])), (ydcode, .inr (2, [.ref ydc_op, .ref ydc_a, .ref ydc_b, .ref ydc_place, .ref ydc_next, .ref ydc_needed, .int 0, .int (-1)])), (ydarms, .inr (0, [.ref yda_kind, .ref yda_next, .ref yda_before, .ref yda_leave, .ref yda_firstSlot, .ref yda_builds, .int 0])), (ydkinds, .inr (4, [.ref ydk_word, .ref ydk_fields, .int 0])), (ydfunctions, .inr (3, [.ref ydf_word, .ref ydf_enter, .ref ydf_facts, .int 0]))])) (va_Qi (fun (r : Int32) (u : Unit) => r = (-1)) (fun u => zQ dC dI (va_A [(h0, .inr (11, [.ref xt, .int 0, .ref xk, .ref xp, .ref xm, .ref xc, .ref xl, .ref xr, .int 0, .int (-1), .int 0, .int 0, .int 0, .int 0, .long 0, .int 0, .long 0])), (xt, .inl (xkt, 2000, .inl (fun _ => 0))), (xp, .inr (7, [.ref ytok, .ref yp_needs, .ref yp_names, .int 0, .ref yp_built, .ref ydr, .int 0, .int 0, .int (-1)])), (ytok, .inr (10, [.ref yt_sorts, .ref yt_places, .ref yt_words, .int 0, .int 0, .int 256, .int 0, .long 0])), (yt_sorts, .inl (yk_sorts, 2001, .inl (fun _ => 0))), (yt_places, .inl (yk_places, 2001, .inl (fun _ => 0))), (yt_words, .inl (yk_words, 2001, .inr (.inl (fun _ => 0)))), (ydr, .inr (9, [.ref ydcode, .ref ydarms, .ref ydkinds, .ref ydfunctions])), (ydcode, .inr (2, [.ref ydc_op, .ref ydc_a, .ref ydc_b, .ref ydc_place, .ref ydc_next, .ref ydc_needed, .int 0, .int (-1)])), (ydarms, .inr (0, [.ref yda_kind, .ref yda_next, .ref yda_before, .ref yda_leave, .ref yda_firstSlot, .ref yda_builds, .int 0])), (ydkinds, .inr (4, [.ref ydk_word, .ref ydk_fields, .int 0])), (ydfunctions, .inr (3, [.ref ydf_word, .ref ydf_enter, .ref ydf_facts, .int 0]))] sz) [] []) (va_A [(h0, .inr (11, [.ref xt, .int 0, .ref xk, .ref xp, .ref xm, .ref xc, .ref xl, .ref xr, .int 0, .int (-1), .int 0, .int 0, .int 0, .int 0, .long 0, .int 0, .long 0])), (xt, .inl (xkt, 2000, .inl (fun _ => 0))), (xp, .inr (7, [.ref ytok, .ref yp_needs, .ref yp_names, .int 0, .ref yp_built, .ref ydr, .int 0, .int 0, .int (-1)])), (ytok, .inr (10, [.ref yt_sorts, .ref yt_places, .ref yt_words, .int 0, .int 0, .int 256, .int 0, .long 0])), (yt_sorts, .inl (yk_sorts, 2001, .inl (fun _ => 0))), (yt_places, .inl (yk_places, 2001, .inl (fun _ => 0))), (yt_words, .inl (yk_words, 2001, .inr (.inl (fun _ => 0)))), (ydr, .inr (9, [.ref ydcode, .ref ydarms, .ref ydkinds, .ref ydfunctions])), (ydcode, .inr (2, [.ref ydc_op, .ref ydc_a, .ref ydc_b, .ref ydc_place, .ref ydc_next, .ref ydc_needed, .int 0, .int (-1)])), (ydarms, .inr (0, [.ref yda_kind, .ref yda_next, .ref yda_before, .ref yda_leave, .ref yda_firstSlot, .ref yda_builds, .int 0])), (ydkinds, .inr (4, [.ref ydk_word, .ref ydk_fields, .int 0])), (ydfunctions, .inr (3, [.ref ydf_word, .ref ydf_enter, .ref ydf_facts, .int 0]))] sz)) (vx_X (fun _ : Unit => False) (fun _ _ _ => True) (va_A [(h0, .inr (11, [.ref xt, .int 0, .ref xk, .ref xp, .ref xm, .ref xc, .ref xl, .ref xr, .int 0, .int (-1), .int 0, .int 0, .int 0, .int 0, .long 0, .int 0, .long 0])), (xt, .inl (xkt, 2000, .inl (fun _ => 0))), (xp, .inr (7, [.ref ytok, .ref yp_needs, .ref yp_names, .int 0, .ref yp_built, .ref ydr, .int 0, .int 0, .int (-1)])), (ytok, .inr (10, [.ref yt_sorts, .ref yt_places, .ref yt_words, .int 0, .int 0, .int 256, .int 0, .long 0])), (yt_sorts, .inl (yk_sorts, 2001, .inl (fun _ => 0))), (yt_places, .inl (yk_places, 2001, .inl (fun _ => 0))), (yt_words, .inl (yk_words, 2001, .inr (.inl (fun _ => 0)))), (ydr, .inr (9, [.ref ydcode, .ref ydarms, .ref ydkinds, .ref ydfunctions])), (ydcode, .inr (2, [.ref ydc_op, .ref ydc_a, .ref ydc_b, .ref ydc_place, .ref ydc_next, .ref ydc_needed, .int 0, .int (-1)])), (ydarms, .inr (0, [.ref yda_kind, .ref yda_next, .ref yda_before, .ref yda_leave, .ref yda_firstSlot, .ref yda_builds, .int 0])), (ydkinds, .inr (4, [.ref ydk_word, .ref ydk_fields, .int 0])), (ydfunctions, .inr (3, [.ref ydf_word, .ref ydf_enter, .ref ydf_facts, .int 0]))] sz)) 1 6 (va_A [(h0, .inr (11, [.ref xt, .int 0, .ref xk, .ref xp, .ref xm, .ref xc, .ref xl, .ref xr, .int 0, .int (-1), .int 0, .int 0, .int 0, .int 0, .long 0, .int 0, .long 0])), (xt, .inl (xkt, 2000, .inl (fun _ => 0))), (xp, .inr (7, [.ref ytok, .ref yp_needs, .ref yp_names, .int 0, .ref yp_built, .ref ydr, .int 0, .int 0, .int (-1)])), (ytok, .inr (10, [.ref yt_sorts, .ref yt_places, .ref yt_words, .int 0, .int 0, .int 256, .int 0, .long 0])), (yt_sorts, .inl (yk_sorts, 2001, .inl (fun _ => 0))), (yt_places, .inl (yk_places, 2001, .inl (fun _ => 0))), (yt_words, .inl (yk_words, 2001, .inr (.inl (fun _ => 0)))), (ydr, .inr (9, [.ref ydcode, .ref ydarms, .ref ydkinds, .ref ydfunctions])), (ydcode, .inr (2, [.ref ydc_op, .ref ydc_a, .ref ydc_b, .ref ydc_place, .ref ydc_next, .ref ydc_needed, .int 0, .int (-1)])), (ydarms, .inr (0, [.ref yda_kind, .ref yda_next, .ref yda_before, .ref yda_leave, .ref yda_firstSlot, .ref yda_builds, .int 0])), (ydkinds, .inr (4, [.ref ydk_word, .ref ydk_fields, .int 0])), (ydfunctions, .inr (3, [.ref ydf_word, .ref ydf_enter, .ref ydf_facts, .int 0]))] sz) := by
  refine vx_ofW (cc := cX11_program) (maxL := 3) (ret := (some .int)) (by decide) rfl ?_
  intro p e s m args below meth c s₁ B hml hnh hv
  obtain ⟨rfl, hsz, hP, hK, hD0, hN, hT⟩ := hv
  have hx := B.exec
  have hb := B.bytes
  have hr := B.returns
  have hts := atoms_spec (ws := Cond.code yX11_program cX11_program 3 (some .int) :: zw) B.pre
  have hA : ∀ w ∈ zw, w.before _ s = true := fun w h => hts w (List.mem_cons_of_mem _ h)
  have hown : s.vm.findClass RX11 = some m.cls := findClass_of_methodNamed B.named
  have hlocks := B.notSynchronized
  subst hsz
  have hD := hD0.self (sz := s.heap.size)
  generalize hAe : va_A [(h0, .inr (11, [.ref xt, .int 0, .ref xk, .ref xp, .ref xm, .ref xc, .ref xl, .ref xr, .int 0, .int (-1), .int 0, .int 0, .int 0, .int 0, .long 0, .int 0, .long 0])), (xt, .inl (xkt, 2000, .inl (fun _ => 0))), (xp, .inr (7, [.ref ytok, .ref yp_needs, .ref yp_names, .int 0, .ref yp_built, .ref ydr, .int 0, .int 0, .int (-1)])), (ytok, .inr (10, [.ref yt_sorts, .ref yt_places, .ref yt_words, .int 0, .int 0, .int 256, .int 0, .long 0])), (yt_sorts, .inl (yk_sorts, 2001, .inl (fun _ => 0))), (yt_places, .inl (yk_places, 2001, .inl (fun _ => 0))), (yt_words, .inl (yk_words, 2001, .inr (.inl (fun _ => 0)))), (ydr, .inr (9, [.ref ydcode, .ref ydarms, .ref ydkinds, .ref ydfunctions])), (ydcode, .inr (2, [.ref ydc_op, .ref ydc_a, .ref ydc_b, .ref ydc_place, .ref ydc_next, .ref ydc_needed, .int 0, .int (-1)])), (ydarms, .inr (0, [.ref yda_kind, .ref yda_next, .ref yda_before, .ref yda_leave, .ref yda_firstSlot, .ref yda_builds, .int 0])), (ydkinds, .inr (4, [.ref ydk_word, .ref ydk_fields, .int 0])), (ydfunctions, .inr (3, [.ref ydf_word, .ref ydf_enter, .ref ydf_facts, .int 0]))] s.heap.size = A at hD hT ⊢
  have hAA : ∀ q : Nat, s.heap.size ≤ q → A q := fun q h => by rw [← hAe]; exact Or.inr h
  have hS : va_S A s.heap s.heap [] := va_S.rf
  have hl := lv_entry ([.ref h0, .int nn]) (n := 3) (Nat.le_of_ble_eq_true rfl)
  rw [lg_entry_eq]
  generalize (lg_sl ([.ref h0, .int nn]) ++ List.replicate (3 - (lg_sl ([.ref h0, .int nn])).length) Slot.unset).toArray = ls at hl ⊢
  have hl : lv_has ls 3 [(0, .ref h0), (1, .int nn)] := hl
  refine lv_aload_n hx hb dX11_program_0 rfl (lv_at hl 0 rfl) ?_
  refine lv_iconst (v := (-1)) hx hb dX11_program_1 (by decide) ?_
  refine va_put (D := (dC, dI)) (ci := 11) (v := .int (-1)) (ty := .int) (C := RX11) (T := TX11) (N := 17) hx hb hA zin_X11 tyX11 tyX11_ok nmX11 hown hK hP hD hS 0 rfl rfl 9 (by decide) (hA _ wi_593) (fun _ h9 => h9) rfl (by decide +kernel) rfl rfl (Nat.le_of_ble_eq_true rfl) dX11_program_2 (fun H locs hP hD hS => ?_)
  have hP : va_P (dC, dI) vwCl [(h0, .inr (11, [.ref xt, .int 0, .ref xk, .ref xp, .ref xm, .ref xc, .ref xl, .ref xr, .int 0, .int (-1), .int 0, .int 0, .int 0, .int 0, .long 0, .int 0, .long 0])), (xt, .inl (xkt, 2000, .inl (fun _ => 0))), (xp, .inr (7, [.ref ytok, .ref yp_needs, .ref yp_names, .int 0, .ref yp_built, .ref ydr, .int 0, .int 0, .int (-1)])), (ytok, .inr (10, [.ref yt_sorts, .ref yt_places, .ref yt_words, .int 0, .int 0, .int 256, .int 0, .long 0])), (yt_sorts, .inl (yk_sorts, 2001, .inl (fun _ => 0))), (yt_places, .inl (yk_places, 2001, .inl (fun _ => 0))), (yt_words, .inl (yk_words, 2001, .inr (.inl (fun _ => 0)))), (ydr, .inr (9, [.ref ydcode, .ref ydarms, .ref ydkinds, .ref ydfunctions])), (ydcode, .inr (2, [.ref ydc_op, .ref ydc_a, .ref ydc_b, .ref ydc_place, .ref ydc_next, .ref ydc_needed, .int 0, .int (-1)])), (ydarms, .inr (0, [.ref yda_kind, .ref yda_next, .ref yda_before, .ref yda_leave, .ref yda_firstSlot, .ref yda_builds, .int 0])), (ydkinds, .inr (4, [.ref ydk_word, .ref ydk_fields, .int 0])), (ydfunctions, .inr (3, [.ref ydf_word, .ref ydf_enter, .ref ydf_facts, .int 0]))] H := hP
  have hD : va_D A [(h0, .inr (11, [.ref xt, .int 0, .ref xk, .ref xp, .ref xm, .ref xc, .ref xl, .ref xr, .int 0, .int (-1), .int 0, .int 0, .int 0, .int 0, .long 0, .int 0, .long 0])), (xt, .inl (xkt, 2000, .inl (fun _ => 0))), (xp, .inr (7, [.ref ytok, .ref yp_needs, .ref yp_names, .int 0, .ref yp_built, .ref ydr, .int 0, .int 0, .int (-1)])), (ytok, .inr (10, [.ref yt_sorts, .ref yt_places, .ref yt_words, .int 0, .int 0, .int 256, .int 0, .long 0])), (yt_sorts, .inl (yk_sorts, 2001, .inl (fun _ => 0))), (yt_places, .inl (yk_places, 2001, .inl (fun _ => 0))), (yt_words, .inl (yk_words, 2001, .inr (.inl (fun _ => 0)))), (ydr, .inr (9, [.ref ydcode, .ref ydarms, .ref ydkinds, .ref ydfunctions])), (ydcode, .inr (2, [.ref ydc_op, .ref ydc_a, .ref ydc_b, .ref ydc_place, .ref ydc_next, .ref ydc_needed, .int 0, .int (-1)])), (ydarms, .inr (0, [.ref yda_kind, .ref yda_next, .ref yda_before, .ref yda_leave, .ref yda_firstSlot, .ref yda_builds, .int 0])), (ydkinds, .inr (4, [.ref ydk_word, .ref ydk_fields, .int 0])), (ydfunctions, .inr (3, [.ref ydf_word, .ref ydf_enter, .ref ydf_facts, .int 0]))] := hD
  refine lv_aload_n hx hb dX11_program_5 rfl (lv_at hl 0 rfl) ?_
  refine lv_iconst (v := 0) hx hb dX11_program_6 (by decide) ?_
  refine va_put (D := (dC, dI)) (ci := 11) (v := .int 0) (ty := .int) (C := RX11) (T := TX11) (N := 17) hx hb hA zin_X11 tyX11 tyX11_ok nmX11 hown hK hP hD hS 0 rfl rfl 8 (by decide) (hA _ wi_592) (fun _ h9 => h9) rfl (by decide +kernel) rfl rfl (Nat.le_of_ble_eq_true rfl) dX11_program_7 (fun H locs hP hD hS => ?_)
  have hP : va_P (dC, dI) vwCl [(h0, .inr (11, [.ref xt, .int 0, .ref xk, .ref xp, .ref xm, .ref xc, .ref xl, .ref xr, .int 0, .int (-1), .int 0, .int 0, .int 0, .int 0, .long 0, .int 0, .long 0])), (xt, .inl (xkt, 2000, .inl (fun _ => 0))), (xp, .inr (7, [.ref ytok, .ref yp_needs, .ref yp_names, .int 0, .ref yp_built, .ref ydr, .int 0, .int 0, .int (-1)])), (ytok, .inr (10, [.ref yt_sorts, .ref yt_places, .ref yt_words, .int 0, .int 0, .int 256, .int 0, .long 0])), (yt_sorts, .inl (yk_sorts, 2001, .inl (fun _ => 0))), (yt_places, .inl (yk_places, 2001, .inl (fun _ => 0))), (yt_words, .inl (yk_words, 2001, .inr (.inl (fun _ => 0)))), (ydr, .inr (9, [.ref ydcode, .ref ydarms, .ref ydkinds, .ref ydfunctions])), (ydcode, .inr (2, [.ref ydc_op, .ref ydc_a, .ref ydc_b, .ref ydc_place, .ref ydc_next, .ref ydc_needed, .int 0, .int (-1)])), (ydarms, .inr (0, [.ref yda_kind, .ref yda_next, .ref yda_before, .ref yda_leave, .ref yda_firstSlot, .ref yda_builds, .int 0])), (ydkinds, .inr (4, [.ref ydk_word, .ref ydk_fields, .int 0])), (ydfunctions, .inr (3, [.ref ydf_word, .ref ydf_enter, .ref ydf_facts, .int 0]))] H := hP
  have hD : va_D A [(h0, .inr (11, [.ref xt, .int 0, .ref xk, .ref xp, .ref xm, .ref xc, .ref xl, .ref xr, .int 0, .int (-1), .int 0, .int 0, .int 0, .int 0, .long 0, .int 0, .long 0])), (xt, .inl (xkt, 2000, .inl (fun _ => 0))), (xp, .inr (7, [.ref ytok, .ref yp_needs, .ref yp_names, .int 0, .ref yp_built, .ref ydr, .int 0, .int 0, .int (-1)])), (ytok, .inr (10, [.ref yt_sorts, .ref yt_places, .ref yt_words, .int 0, .int 0, .int 256, .int 0, .long 0])), (yt_sorts, .inl (yk_sorts, 2001, .inl (fun _ => 0))), (yt_places, .inl (yk_places, 2001, .inl (fun _ => 0))), (yt_words, .inl (yk_words, 2001, .inr (.inl (fun _ => 0)))), (ydr, .inr (9, [.ref ydcode, .ref ydarms, .ref ydkinds, .ref ydfunctions])), (ydcode, .inr (2, [.ref ydc_op, .ref ydc_a, .ref ydc_b, .ref ydc_place, .ref ydc_next, .ref ydc_needed, .int 0, .int (-1)])), (ydarms, .inr (0, [.ref yda_kind, .ref yda_next, .ref yda_before, .ref yda_leave, .ref yda_firstSlot, .ref yda_builds, .int 0])), (ydkinds, .inr (4, [.ref ydk_word, .ref ydk_fields, .int 0])), (ydfunctions, .inr (3, [.ref ydf_word, .ref ydf_enter, .ref ydf_facts, .int 0]))] := hD
  refine lv_iload_n hx hb dX11_program_10 rfl (lv_at hl 1 rfl) ?_
  refine lv_if_lt (tgt := 22) hx hb dX11_program_11 (by decide) (fun c_1 => ?_) (fun c_1 => ?_)
  · refine lv_iconst (v := (-1)) hx hb dX11_program_22 (by decide) ?_
    have hP9 := hP.sub (ws' := []) [] rfl
    have hD9 := hD.sub (ws' := []) [] (by decide) rfl
    have hK9 := hK.sub (tys' := []) [] rfl
    refine W.widen (k := 1) (n := 6) (Nat.le_of_ble_eq_true rfl) (Nat.le_of_ble_eq_true rfl) ?_
    exact vx_ret (W.iret (v := (-1)) hx hb hr (fun t ht hW => ⟨⟨(-1), (), rfl, rfl, by rw [ht]; exact hP9, va_K.moved hW.alike hK9, hD9⟩, hS.F ht⟩) hS.2.2 dX11_program_23)
  · refine lv_iload_n hx hb dX11_program_14 rfl (lv_at hl 1 rfl) ?_
    refine lv_aload_n hx hb dX11_program_15 rfl (lv_at hl 0 rfl) ?_
    refine va_get (D := (dC, dI)) (ci := 11) (v := .int 0) (C := RX11) (T := TX11) (N := 17) hx hb hA zin_X11 hown hK hP 0 rfl rfl 1 (by decide) (hA _ wi_585) (fun _ h9 => h9) rfl dX11_program_16 ?_
    refine lv_icmp_le (tgt := 24) hx hb dX11_program_19 (by decide) (fun c_2 => ?_) (fun c_2 => ?_)
    · obtain rfl : nn = 0 := zz_00 c_1 c_2
      refine lv_aload_n hx hb dX11_program_24 rfl (lv_at hl 0 rfl) ?_
      refine lv_iconst (v := 0) hx hb dX11_program_25 (by decide) ?_
      refine va_put (D := (dC, dI)) (ci := 11) (v := .int 0) (ty := .int) (C := RX11) (T := TX11) (N := 17) hx hb hA zin_X11 tyX11 tyX11_ok nmX11 hown hK hP hD hS 0 rfl rfl 1 (by decide) (hA _ wi_585) (fun _ h9 => h9) rfl (by decide +kernel) rfl rfl (Nat.le_of_ble_eq_true rfl) dX11_program_26 (fun H locs hP hD hS => ?_)
      have hP : va_P (dC, dI) vwCl [(h0, .inr (11, [.ref xt, .int 0, .ref xk, .ref xp, .ref xm, .ref xc, .ref xl, .ref xr, .int 0, .int (-1), .int 0, .int 0, .int 0, .int 0, .long 0, .int 0, .long 0])), (xt, .inl (xkt, 2000, .inl (fun _ => 0))), (xp, .inr (7, [.ref ytok, .ref yp_needs, .ref yp_names, .int 0, .ref yp_built, .ref ydr, .int 0, .int 0, .int (-1)])), (ytok, .inr (10, [.ref yt_sorts, .ref yt_places, .ref yt_words, .int 0, .int 0, .int 256, .int 0, .long 0])), (yt_sorts, .inl (yk_sorts, 2001, .inl (fun _ => 0))), (yt_places, .inl (yk_places, 2001, .inl (fun _ => 0))), (yt_words, .inl (yk_words, 2001, .inr (.inl (fun _ => 0)))), (ydr, .inr (9, [.ref ydcode, .ref ydarms, .ref ydkinds, .ref ydfunctions])), (ydcode, .inr (2, [.ref ydc_op, .ref ydc_a, .ref ydc_b, .ref ydc_place, .ref ydc_next, .ref ydc_needed, .int 0, .int (-1)])), (ydarms, .inr (0, [.ref yda_kind, .ref yda_next, .ref yda_before, .ref yda_leave, .ref yda_firstSlot, .ref yda_builds, .int 0])), (ydkinds, .inr (4, [.ref ydk_word, .ref ydk_fields, .int 0])), (ydfunctions, .inr (3, [.ref ydf_word, .ref ydf_enter, .ref ydf_facts, .int 0]))] H := hP
      have hD : va_D A [(h0, .inr (11, [.ref xt, .int 0, .ref xk, .ref xp, .ref xm, .ref xc, .ref xl, .ref xr, .int 0, .int (-1), .int 0, .int 0, .int 0, .int 0, .long 0, .int 0, .long 0])), (xt, .inl (xkt, 2000, .inl (fun _ => 0))), (xp, .inr (7, [.ref ytok, .ref yp_needs, .ref yp_names, .int 0, .ref yp_built, .ref ydr, .int 0, .int 0, .int (-1)])), (ytok, .inr (10, [.ref yt_sorts, .ref yt_places, .ref yt_words, .int 0, .int 0, .int 256, .int 0, .long 0])), (yt_sorts, .inl (yk_sorts, 2001, .inl (fun _ => 0))), (yt_places, .inl (yk_places, 2001, .inl (fun _ => 0))), (yt_words, .inl (yk_words, 2001, .inr (.inl (fun _ => 0)))), (ydr, .inr (9, [.ref ydcode, .ref ydarms, .ref ydkinds, .ref ydfunctions])), (ydcode, .inr (2, [.ref ydc_op, .ref ydc_a, .ref ydc_b, .ref ydc_place, .ref ydc_next, .ref ydc_needed, .int 0, .int (-1)])), (ydarms, .inr (0, [.ref yda_kind, .ref yda_next, .ref yda_before, .ref yda_leave, .ref yda_firstSlot, .ref yda_builds, .int 0])), (ydkinds, .inr (4, [.ref ydk_word, .ref ydk_fields, .int 0])), (ydfunctions, .inr (3, [.ref ydf_word, .ref ydf_enter, .ref ydf_facts, .int 0]))] := hD
      refine lv_aload_n hx hb dX11_program_29 rfl (lv_at hl 0 rfl) ?_
      refine va_get (D := (dC, dI)) (ci := 11) (v := .ref xp) (C := RX11) (T := TX11) (N := 17) hx hb hA zin_X11 hown hK hP 0 rfl rfl 3 (by decide) (hA _ wi_587) (fun _ h9 => h9) rfl dX11_program_30 ?_
      refine lv_aload_n hx hb dX11_program_33 rfl (lv_at hl 0 rfl) ?_
      refine va_get (D := (dC, dI)) (ci := 11) (v := .ref xt) (C := RX11) (T := TX11) (N := 17) hx hb hA zin_X11 hown hK hP 0 rfl rfl 0 (by decide) (hA _ wi_584) (fun _ h9 => h9) rfl dX11_program_34 ?_
      refine lv_iload_n hx hb dX11_program_37 rfl (lv_at hl 1 rfl) ?_
      have hPc := hP.sub (ws' := [(xp, .inr (7, [.ref ytok, .ref yp_needs, .ref yp_names, .int 0, .ref yp_built, .ref ydr, .int 0, .int 0, .int (-1)])), (ytok, .inr (10, [.ref yt_sorts, .ref yt_places, .ref yt_words, .int 0, .int 0, .int 256, .int 0, .long 0])), (yt_sorts, .inl (yk_sorts, 2001, .inl (fun _ => 0))), (yt_places, .inl (yk_places, 2001, .inl (fun _ => 0))), (yt_words, .inl (yk_words, 2001, .inr (.inl (fun _ => 0)))), (ydr, .inr (9, [.ref ydcode, .ref ydarms, .ref ydkinds, .ref ydfunctions])), (ydcode, .inr (2, [.ref ydc_op, .ref ydc_a, .ref ydc_b, .ref ydc_place, .ref ydc_next, .ref ydc_needed, .int 0, .int (-1)])), (ydarms, .inr (0, [.ref yda_kind, .ref yda_next, .ref yda_before, .ref yda_leave, .ref yda_firstSlot, .ref yda_builds, .int 0])), (ydkinds, .inr (4, [.ref ydk_word, .ref ydk_fields, .int 0])), (ydfunctions, .inr (3, [.ref ydf_word, .ref ydf_enter, .ref ydf_facts, .int 0]))]) [2, 3, 4, 5, 6, 7, 8, 9, 10, 11] rfl
      have hDc := hD.sub (ws' := [(xp, .inr (7, [.ref ytok, .ref yp_needs, .ref yp_names, .int 0, .ref yp_built, .ref ydr, .int 0, .int 0, .int (-1)])), (ytok, .inr (10, [.ref yt_sorts, .ref yt_places, .ref yt_words, .int 0, .int 0, .int 256, .int 0, .long 0])), (yt_sorts, .inl (yk_sorts, 2001, .inl (fun _ => 0))), (yt_places, .inl (yk_places, 2001, .inl (fun _ => 0))), (yt_words, .inl (yk_words, 2001, .inr (.inl (fun _ => 0)))), (ydr, .inr (9, [.ref ydcode, .ref ydarms, .ref ydkinds, .ref ydfunctions])), (ydcode, .inr (2, [.ref ydc_op, .ref ydc_a, .ref ydc_b, .ref ydc_place, .ref ydc_next, .ref ydc_needed, .int 0, .int (-1)])), (ydarms, .inr (0, [.ref yda_kind, .ref yda_next, .ref yda_before, .ref yda_leave, .ref yda_firstSlot, .ref yda_builds, .int 0])), (ydkinds, .inr (4, [.ref ydk_word, .ref ydk_fields, .int 0])), (ydfunctions, .inr (3, [.ref ydf_word, .ref ydf_enter, .ref ydf_facts, .int 0]))]) [2, 3, 4, 5, 6, 7, 8, 9, 10, 11] (by decide) rfl
      have hKc := hK.sub (tys' := [(yk_sorts, .int), (yk_places, .int), (yk_words, .long)]) [1, 2, 3] rfl
      have hFc := va_free (wc := [(xp, .inr (7, [.ref ytok, .ref yp_needs, .ref yp_names, .int 0, .ref yp_built, .ref ydr, .int 0, .int 0, .int (-1)])), (ytok, .inr (10, [.ref yt_sorts, .ref yt_places, .ref yt_words, .int 0, .int 0, .int 256, .int 0, .long 0])), (yt_sorts, .inl (yk_sorts, 2001, .inl (fun _ => 0))), (yt_places, .inl (yk_places, 2001, .inl (fun _ => 0))), (yt_words, .inl (yk_words, 2001, .inr (.inl (fun _ => 0)))), (ydr, .inr (9, [.ref ydcode, .ref ydarms, .ref ydkinds, .ref ydfunctions])), (ydcode, .inr (2, [.ref ydc_op, .ref ydc_a, .ref ydc_b, .ref ydc_place, .ref ydc_next, .ref ydc_needed, .int 0, .int (-1)])), (ydarms, .inr (0, [.ref yda_kind, .ref yda_next, .ref yda_before, .ref yda_leave, .ref yda_firstSlot, .ref yda_builds, .int 0])), (ydkinds, .inr (4, [.ref ydk_word, .ref ydk_fields, .int 0])), (ydfunctions, .inr (3, [.ref ydf_word, .ref ydf_enter, .ref ydf_facts, .int 0]))]) hD hS hAA [2, 3, 4, 5, 6, 7, 8, 9, 10, 11] rfl
      refine vx_calli (vx_runVX (As := [.ref xt, .int 0]) (rest := []) ⟨hx, hb, hml, hown, hA⟩ (c_X7_reads l dC dI xp xt ytok ydr yp_needs yp_names yp_built yt_sorts yt_places yt_words ydcode ydarms ydkinds ydfunctions ydc_op ydc_a ydc_b ydc_place ydc_next ydc_needed yda_kind yda_next yda_before yda_leave yda_firstSlot yda_builds ydk_word ydk_fields ydf_word ydf_enter ydf_facts yk_sorts yk_places yk_words H.size hlt) (vx_cwVW 2 hA (zw_V wi_648 wi_649 wi_650 wi_136 (zw_good wi_651)) rfl rfl rfl (by decide +kernel) ⟨(Nat.le_of_ble_eq_true rfl), (Nat.le_of_ble_eq_true rfl)⟩) ⟨zP_blind, va_recv hKc hPc (ci := 7) (q0 := 0) rfl rfl, zz_pre hKc hPc hDc hN hT hS hFc⟩ rfl rfl hl.1 rfl (lv_room (Nat.le_of_ble_eq_true rfl)) dX11_program_38 ⟨(Nat.le_of_ble_eq_true rfl), (Nat.le_of_ble_eq_true rfl)⟩) hS (fun q _ h => hFc q h) hFc (fun q _ h => hFc q h) (fun E9 ce9 q9 u t H1 locs ht hvm hw hB hz1 hk1 hS hcell hcv hcl => absurd hw id) (fun r_3 u t H1 locs ht hvm hw hB hz1 hk1 hS => ?_)
      obtain ⟨fn_4, fp_5⟩ := u
      obtain ⟨hP1, hK1, hD1⟩ := hB
      rw [ht] at hP1
      have hK1 := va_K.moved hvm.symm hK1
      obtain ⟨hP, hD⟩ := va_join (wr := [(h0, .inr (11, [.ref xt, .int 0, .ref xk, .ref xp, .ref xm, .ref xc, .ref xl, .ref xr, .int 0, .int (-1), .int 0, .int 0, .int 0, .int 0, .long 0, .int 0, .long 0])), (xt, .inl (xkt, 2000, .inl (fun _ => 0)))]) (w1 := [(xp, .inr (7, [.ref ytok, .ref yp_needs, .ref yp_names, .int 0, .ref yp_built, .ref ydr, .int 0, .int fn_4, .int fp_5]))]) hP hD [2, 3, 4, 5, 6, 7, 8, 9, 10, 11] [0, 1] rfl rfl (by decide) (by decide) hk1 hFc hP1 hD1
      have hK := (hK.sub (tys' := [(xkt, .byte)]) [0] rfl).app hK1
      generalize H1 = H at hP hS ⊢
      have hP : va_P (dC, dI) vwCl [(h0, .inr (11, [.ref xt, .int 0, .ref xk, .ref xp, .ref xm, .ref xc, .ref xl, .ref xr, .int 0, .int (-1), .int 0, .int 0, .int 0, .int 0, .long 0, .int 0, .long 0])), (xt, .inl (xkt, 2000, .inl (fun _ => 0))), (xp, .inr (7, [.ref ytok, .ref yp_needs, .ref yp_names, .int 0, .ref yp_built, .ref ydr, .int 0, .int fn_4, .int fp_5]))] H := hP
      have hD : va_D A [(h0, .inr (11, [.ref xt, .int 0, .ref xk, .ref xp, .ref xm, .ref xc, .ref xl, .ref xr, .int 0, .int (-1), .int 0, .int 0, .int 0, .int 0, .long 0, .int 0, .long 0])), (xt, .inl (xkt, 2000, .inl (fun _ => 0))), (xp, .inr (7, [.ref ytok, .ref yp_needs, .ref yp_names, .int 0, .ref yp_built, .ref ydr, .int 0, .int fn_4, .int fp_5]))] := hD
      have hK : va_K (dC, dI) vwCl [(xkt, .byte)] s := hK
      refine W.widen (k := 1) (n := 6) (Nat.le_of_ble_eq_true rfl) (Nat.le_of_ble_eq_true rfl) ?_
      obtain rfl : r_3 = 0 := hw
      refine lv_if_ne (tgt := 68) hx hb dX11_program_41 (by decide) (fun c_0 => absurd c_0 (by decide)) (fun _ => ?_)
      refine lv_aload_n hx hb dX11_program_44 rfl (lv_at hl 0 rfl) ?_
      refine lv_aload_n hx hb dX11_program_45 rfl (lv_at hl 0 rfl) ?_
      refine va_get (D := (dC, dI)) (ci := 11) (v := .ref xp) (C := RX11) (T := TX11) (N := 17) hx hb hA zin_X11 hown hK hP 0 rfl rfl 3 (by decide) (hA _ wi_587) (fun _ h9 => h9) rfl dX11_program_46 ?_
      refine va_get (D := (dC, dI)) (ci := 7) (v := .int fn_4) (C := RX7) (T := TX7) (N := 9) hx hb hA zin_X7 hown hK hP 2 rfl rfl 7 (by decide) (hA _ wi_396) (fun _ h9 => h9) rfl dX11_program_49 ?_
      refine va_put (D := (dC, dI)) (ci := 11) (v := .int fn_4) (ty := .int) (C := RX11) (T := TX11) (N := 17) hx hb hA zin_X11 tyX11 tyX11_ok nmX11 hown hK hP hD hS 0 rfl rfl 8 (by decide) (hA _ wi_592) (fun _ h9 => h9) rfl (by decide +kernel) rfl rfl (Nat.le_of_ble_eq_true rfl) dX11_program_52 (fun H locs hP hD hS => ?_)
      have hP : va_P (dC, dI) vwCl [(h0, .inr (11, [.ref xt, .int 0, .ref xk, .ref xp, .ref xm, .ref xc, .ref xl, .ref xr, .int fn_4, .int (-1), .int 0, .int 0, .int 0, .int 0, .long 0, .int 0, .long 0])), (xt, .inl (xkt, 2000, .inl (fun _ => 0))), (xp, .inr (7, [.ref ytok, .ref yp_needs, .ref yp_names, .int 0, .ref yp_built, .ref ydr, .int 0, .int fn_4, .int fp_5]))] H := hP
      have hD : va_D A [(h0, .inr (11, [.ref xt, .int 0, .ref xk, .ref xp, .ref xm, .ref xc, .ref xl, .ref xr, .int fn_4, .int (-1), .int 0, .int 0, .int 0, .int 0, .long 0, .int 0, .long 0])), (xt, .inl (xkt, 2000, .inl (fun _ => 0))), (xp, .inr (7, [.ref ytok, .ref yp_needs, .ref yp_names, .int 0, .ref yp_built, .ref ydr, .int 0, .int fn_4, .int fp_5]))] := hD
      refine lv_aload_n hx hb dX11_program_55 rfl (lv_at hl 0 rfl) ?_
      refine lv_aload_n hx hb dX11_program_56 rfl (lv_at hl 0 rfl) ?_
      refine va_get (D := (dC, dI)) (ci := 11) (v := .ref xp) (C := RX11) (T := TX11) (N := 17) hx hb hA zin_X11 hown hK hP 0 rfl rfl 3 (by decide) (hA _ wi_587) (fun _ h9 => h9) rfl dX11_program_57 ?_
      refine va_get (D := (dC, dI)) (ci := 7) (v := .int fp_5) (C := RX7) (T := TX7) (N := 9) hx hb hA zin_X7 hown hK hP 2 rfl rfl 8 (by decide) (hA _ wi_398) (fun _ h9 => h9) rfl dX11_program_60 ?_
      refine va_put (D := (dC, dI)) (ci := 11) (v := .int fp_5) (ty := .int) (C := RX11) (T := TX11) (N := 17) hx hb hA zin_X11 tyX11 tyX11_ok nmX11 hown hK hP hD hS 0 rfl rfl 9 (by decide) (hA _ wi_593) (fun _ h9 => h9) rfl (by decide +kernel) rfl rfl (Nat.le_of_ble_eq_true rfl) dX11_program_63 (fun H locs hP hD hS => ?_)
      have hP : va_P (dC, dI) vwCl [(h0, .inr (11, [.ref xt, .int 0, .ref xk, .ref xp, .ref xm, .ref xc, .ref xl, .ref xr, .int fn_4, .int fp_5, .int 0, .int 0, .int 0, .int 0, .long 0, .int 0, .long 0])), (xt, .inl (xkt, 2000, .inl (fun _ => 0))), (xp, .inr (7, [.ref ytok, .ref yp_needs, .ref yp_names, .int 0, .ref yp_built, .ref ydr, .int 0, .int fn_4, .int fp_5]))] H := hP
      have hD : va_D A [(h0, .inr (11, [.ref xt, .int 0, .ref xk, .ref xp, .ref xm, .ref xc, .ref xl, .ref xr, .int fn_4, .int fp_5, .int 0, .int 0, .int 0, .int 0, .long 0, .int 0, .long 0])), (xt, .inl (xkt, 2000, .inl (fun _ => 0))), (xp, .inr (7, [.ref ytok, .ref yp_needs, .ref yp_names, .int 0, .ref yp_built, .ref ydr, .int 0, .int fn_4, .int fp_5]))] := hD
      refine lv_iconst (v := (-1)) hx hb dX11_program_66 (by decide) ?_
      have hP9 := hP.sub (ws' := []) [] rfl
      have hD9 := hD.sub (ws' := []) [] (by decide) rfl
      have hK9 := hK.sub (tys' := []) [] rfl
      exact vx_ret (W.iret (v := (-1)) hx hb hr (fun t ht hW => ⟨⟨(-1), (), rfl, rfl, by rw [ht]; exact hP9, va_K.moved hW.alike hK9, hD9⟩, hS.F ht⟩) hS.2.2 dX11_program_67)
    · refine lv_iconst (v := (-1)) hx hb dX11_program_22 (by decide) ?_
      have hP9 := hP.sub (ws' := []) [] rfl
      have hD9 := hD.sub (ws' := []) [] (by decide) rfl
      have hK9 := hK.sub (tys' := []) [] rfl
      refine W.widen (k := 1) (n := 6) (Nat.le_of_ble_eq_true rfl) (Nat.le_of_ble_eq_true rfl) ?_
      exact vx_ret (W.iret (v := (-1)) hx hb hr (fun t ht hW => ⟨⟨(-1), (), rfl, rfl, by rw [ht]; exact hP9, va_K.moved hW.alike hK9, hD9⟩, hS.F ht⟩) hS.2.2 dX11_program_23)
