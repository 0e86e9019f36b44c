section
theorem wi_494 : Cond.fieldLink RX5 36 "ReuseHouse$Machine" "open" "I" ∈ zw := zw_in (List.mem_of_getElem? (i := 494) (by decide +kernel)) (by decide +kernel)
theorem wi_1117 : Cond.methodLink RX5 208 yX3_has ∈ zw := zw_in (List.mem_of_getElem? (i := 1117) (by decide +kernel)) (by decide +kernel)
theorem wi_1119 : Cond.methodLink RX5 210 Lib.Math.max.name ∈ zw := zw_in (List.mem_of_getElem? (i := 1119) (by decide +kernel)) (by decide +kernel)
theorem wi_490 : Cond.fieldLink RX5 23 "ReuseHouse$Machine" "base" "I" ∈ zw := zw_in (List.mem_of_getElem? (i := 490) (by decide +kernel)) (by decide +kernel)
theorem wi_1120 : Cond.methodLink RX5 215 Lib.Math.min.name ∈ zw := zw_in (List.mem_of_getElem? (i := 1120) (by decide +kernel)) (by decide +kernel)
theorem wi_491 : Cond.fieldLink RX5 26 "ReuseHouse$Machine" "callBase" "[I" ∈ zw := zw_in (List.mem_of_getElem? (i := 491) (by decide +kernel)) (by decide +kernel)
theorem wi_492 : Cond.fieldLink RX5 30 "ReuseHouse$Machine" "callBack" "[I" ∈ zw := zw_in (List.mem_of_getElem? (i := 492) (by decide +kernel)) (by decide +kernel)
theorem wi_493 : Cond.fieldLink RX5 33 "ReuseHouse$Machine" "callShells" "[I" ∈ zw := zw_in (List.mem_of_getElem? (i := 493) (by decide +kernel)) (by decide +kernel)
theorem wi_496 : Cond.fieldLink RX5 42 "ReuseHouse$Machine" "shellTop" "I" ∈ zw := zw_in (List.mem_of_getElem? (i := 496) (by decide +kernel)) (by decide +kernel)
theorem wi_501 : Cond.fieldLink RX5 54 "ReuseHouse$Machine" "mostOpen" "I" ∈ zw := zw_in (List.mem_of_getElem? (i := 501) (by decide +kernel)) (by decide +kernel)
theorem wi_293 : Cond.fieldLink RX5 218 "ReuseHouse$Functions" "enter" "[I" ∈ zw := zw_in (List.mem_of_getElem? (i := 293) (by decide +kernel)) (by decide +kernel)
theorem wi_1116 : Cond.code yX5_openCall cX5_openCall 3 none ∈ zw := zw_in (List.mem_of_getElem? (i := 1116) (by decide +kernel)) (by decide +kernel)
theorem wi_1113 : Cond.methodLink RX5 87 yX5_openCall ∈ zw := zw_in (List.mem_of_getElem? (i := 1113) (by decide +kernel)) (by decide +kernel)
theorem wi_1115 : Cond.instanceMethod yX5_openCall ∈ zw := zw_in (List.mem_of_getElem? (i := 1115) (by decide +kernel)) (by decide +kernel)
theorem wi_41 : Cond.selects RX5 yX5_openCall yX5_openCall ∈ zw := zw_in (List.mem_of_getElem? (i := 41) (by decide +kernel)) (by decide +kernel)
theorem wi_1222 : Cond.code yX5_call cX5_call 2 none ∈ zw := zw_in (List.mem_of_getElem? (i := 1222) (by decide +kernel)) (by decide +kernel)
theorem wi_1219 : Cond.methodLink RX5 135 yX5_call ∈ zw := zw_in (List.mem_of_getElem? (i := 1219) (by decide +kernel)) (by decide +kernel)
theorem wi_1221 : Cond.instanceMethod yX5_call ∈ zw := zw_in (List.mem_of_getElem? (i := 1221) (by decide +kernel)) (by decide +kernel)
theorem wi_54 : Cond.selects RX5 yX5_call yX5_call ∈ zw := zw_in (List.mem_of_getElem? (i := 54) (by decide +kernel)) (by decide +kernel)
theorem wi_507 : Cond.fieldLink RX5 63 "ReuseHouse$Machine" "result" "J" ∈ zw := zw_in (List.mem_of_getElem? (i := 507) (by decide +kernel)) (by decide +kernel)
theorem wi_495 : Cond.fieldLink RX5 39 "ReuseHouse$Machine" "shells" "[I" ∈ zw := zw_in (List.mem_of_getElem? (i := 495) (by decide +kernel)) (by decide +kernel)
theorem dX5_call_0 : decode cX5_call 0 = .ok (.aload_n 0, 1) := by decide +kernel
theorem dX5_call_1 : decode cX5_call 1 = .ok (.getfield 36, 3) := by decide +kernel
theorem dX5_call_4 : decode cX5_call 4 = .ok (.bipush 100, 2) := by decide +kernel
theorem dX5_call_6 : decode cX5_call 6 = .ok (.if_icmp .lt 12, 3) := by decide +kernel
theorem dX5_call_9 : decode cX5_call 9 = .ok (.aload_n 0, 1) := by decide +kernel
theorem dX5_call_10 : decode cX5_call 10 = .ok (.iconst 4, 1) := by decide +kernel
theorem dX5_call_11 : decode cX5_call 11 = .ok (.iload_n 1, 1) := by decide +kernel
theorem dX5_call_12 : decode cX5_call 12 = .ok (.invokevirtual 162, 3) := by decide +kernel
theorem dX5_call_15 : decode cX5_call 15 = .ok (.goto 25, 3) := by decide +kernel
theorem dX5_call_18 : decode cX5_call 18 = .ok (.aload_n 0, 1) := by decide +kernel
theorem dX5_call_19 : decode cX5_call 19 = .ok (.aload_n 0, 1) := by decide +kernel
theorem dX5_call_20 : decode cX5_call 20 = .ok (.getfield 77, 3) := by decide +kernel
theorem dX5_call_23 : decode cX5_call 23 = .ok (.getfield 103, 3) := by decide +kernel
theorem dX5_call_26 : decode cX5_call 26 = .ok (.iload_n 1, 1) := by decide +kernel
theorem dX5_call_27 : decode cX5_call 27 = .ok (.iaload, 1) := by decide +kernel
theorem dX5_call_28 : decode cX5_call 28 = .ok (.aload_n 0, 1) := by decide +kernel
theorem dX5_call_29 : decode cX5_call 29 = .ok (.getfield 77, 3) := by decide +kernel
theorem dX5_call_32 : decode cX5_call 32 = .ok (.getfield 95, 3) := by decide +kernel
theorem dX5_call_35 : decode cX5_call 35 = .ok (.iload_n 1, 1) := by decide +kernel
theorem dX5_call_36 : decode cX5_call 36 = .ok (.iaload, 1) := by decide +kernel
theorem dX5_call_37 : decode cX5_call 37 = .ok (.invokevirtual 87, 3) := by decide +kernel
theorem dX5_call_40 : decode cX5_call 40 = .ok (.return_, 1) := by decide +kernel
theorem dX5_callAlone_0 : decode cX5_callAlone 0 = .ok (.aload_n 0, 1) := by decide +kernel
theorem dX5_callAlone_1 : decode cX5_callAlone 1 = .ok (.iload_n 1, 1) := by decide +kernel
theorem dX5_callAlone_2 : decode cX5_callAlone 2 = .ok (.invokevirtual 116, 3) := by decide +kernel
theorem dX5_callAlone_5 : decode cX5_callAlone 5 = .ok (.ifCond .eq 8, 3) := by decide +kernel
theorem dX5_callAlone_8 : decode cX5_callAlone 8 = .ok (.aload_n 0, 1) := by decide +kernel
theorem dX5_callAlone_9 : decode cX5_callAlone 9 = .ok (.iload_n 1, 1) := by decide +kernel
theorem dX5_callAlone_10 : decode cX5_callAlone 10 = .ok (.invokevirtual 135, 3) := by decide +kernel
theorem dX5_callAlone_13 : decode cX5_callAlone 13 = .ok (.return_, 1) := by decide +kernel
theorem dX5_closeCall_0 : decode cX5_closeCall 0 = .ok (.aload_n 0, 1) := by decide +kernel
theorem dX5_closeCall_1 : decode cX5_closeCall 1 = .ok (.invokevirtual 196, 3) := by decide +kernel
theorem dX5_closeCall_4 : decode cX5_closeCall 4 = .ok (.lstore_n 1, 1) := by decide +kernel
theorem dX5_closeCall_5 : decode cX5_closeCall 5 = .ok (.aload_n 0, 1) := by decide +kernel
theorem dX5_closeCall_6 : decode cX5_closeCall 6 = .ok (.getfield 36, 3) := by decide +kernel
theorem dX5_closeCall_9 : decode cX5_closeCall 9 = .ok (.iconst 1, 1) := by decide +kernel
theorem dX5_closeCall_10 : decode cX5_closeCall 10 = .ok (.if_icmp .gt 14, 3) := by decide +kernel
theorem dX5_closeCall_13 : decode cX5_closeCall 13 = .ok (.aload_n 0, 1) := by decide +kernel
theorem dX5_closeCall_14 : decode cX5_closeCall 14 = .ok (.lload_n 1, 1) := by decide +kernel
theorem dX5_closeCall_15 : decode cX5_closeCall 15 = .ok (.putfield 63, 3) := by decide +kernel
theorem dX5_closeCall_18 : decode cX5_closeCall 18 = .ok (.aload_n 0, 1) := by decide +kernel
theorem dX5_closeCall_19 : decode cX5_closeCall 19 = .ok (.iconst 1, 1) := by decide +kernel
theorem dX5_closeCall_20 : decode cX5_closeCall 20 = .ok (.putfield 57, 3) := by decide +kernel
theorem dX5_closeCall_23 : decode cX5_closeCall 23 = .ok (.return_, 1) := by decide +kernel
theorem dX5_closeCall_24 : decode cX5_closeCall 24 = .ok (.aload_n 0, 1) := by decide +kernel
theorem dX5_closeCall_25 : decode cX5_closeCall 25 = .ok (.dup, 1) := by decide +kernel
theorem dX5_closeCall_26 : decode cX5_closeCall 26 = .ok (.getfield 36, 3) := by decide +kernel
theorem dX5_closeCall_29 : decode cX5_closeCall 29 = .ok (.iconst 1, 1) := by decide +kernel
theorem dX5_closeCall_30 : decode cX5_closeCall 30 = .ok (.isub, 1) := by decide +kernel
theorem dX5_closeCall_31 : decode cX5_closeCall 31 = .ok (.putfield 36, 3) := by decide +kernel
theorem dX5_closeCall_34 : decode cX5_closeCall 34 = .ok (.aload_n 0, 1) := by decide +kernel
theorem dX5_closeCall_35 : decode cX5_closeCall 35 = .ok (.aload_n 0, 1) := by decide +kernel
theorem dX5_closeCall_36 : decode cX5_closeCall 36 = .ok (.getfield 23, 3) := by decide +kernel
theorem dX5_closeCall_39 : decode cX5_closeCall 39 = .ok (.putfield 19, 3) := by decide +kernel
theorem dX5_closeCall_42 : decode cX5_closeCall 42 = .ok (.aload_n 0, 1) := by decide +kernel
theorem dX5_closeCall_43 : decode cX5_closeCall 43 = .ok (.lload_n 1, 1) := by decide +kernel
theorem dX5_closeCall_44 : decode cX5_closeCall 44 = .ok (.invokevirtual 187, 3) := by decide +kernel
theorem dX5_closeCall_47 : decode cX5_closeCall 47 = .ok (.aload_n 0, 1) := by decide +kernel
theorem dX5_closeCall_48 : decode cX5_closeCall 48 = .ok (.aload_n 0, 1) := by decide +kernel
theorem dX5_closeCall_49 : decode cX5_closeCall 49 = .ok (.getfield 30, 3) := by decide +kernel
theorem dX5_closeCall_52 : decode cX5_closeCall 52 = .ok (.aload_n 0, 1) := by decide +kernel
theorem dX5_closeCall_53 : decode cX5_closeCall 53 = .ok (.getfield 36, 3) := by decide +kernel
theorem dX5_closeCall_56 : decode cX5_closeCall 56 = .ok (.iaload, 1) := by decide +kernel
theorem dX5_closeCall_57 : decode cX5_closeCall 57 = .ok (.putfield 45, 3) := by decide +kernel
theorem dX5_closeCall_60 : decode cX5_closeCall 60 = .ok (.aload_n 0, 1) := by decide +kernel
theorem dX5_closeCall_61 : decode cX5_closeCall 61 = .ok (.aload_n 0, 1) := by decide +kernel
theorem dX5_closeCall_62 : decode cX5_closeCall 62 = .ok (.getfield 26, 3) := by decide +kernel
theorem dX5_closeCall_65 : decode cX5_closeCall 65 = .ok (.aload_n 0, 1) := by decide +kernel
theorem dX5_closeCall_66 : decode cX5_closeCall 66 = .ok (.getfield 36, 3) := by decide +kernel
theorem dX5_closeCall_69 : decode cX5_closeCall 69 = .ok (.iconst 1, 1) := by decide +kernel
theorem dX5_closeCall_70 : decode cX5_closeCall 70 = .ok (.isub, 1) := by decide +kernel
theorem dX5_closeCall_71 : decode cX5_closeCall 71 = .ok (.iaload, 1) := by decide +kernel
theorem dX5_closeCall_72 : decode cX5_closeCall 72 = .ok (.putfield 23, 3) := by decide +kernel
theorem dX5_closeCall_75 : decode cX5_closeCall 75 = .ok (.return_, 1) := by decide +kernel
theorem dX5_keepShell_0 : decode cX5_keepShell 0 = .ok (.aload_n 0, 1) := by decide +kernel
theorem dX5_keepShell_1 : decode cX5_keepShell 1 = .ok (.getfield 42, 3) := by decide +kernel
theorem dX5_keepShell_4 : decode cX5_keepShell 4 = .ok (.sipush 3000, 3) := by decide +kernel
theorem dX5_keepShell_7 : decode cX5_keepShell 7 = .ok (.if_icmp .ge 23, 3) := by decide +kernel
theorem dX5_keepShell_10 : decode cX5_keepShell 10 = .ok (.aload_n 0, 1) := by decide +kernel
theorem dX5_keepShell_11 : decode cX5_keepShell 11 = .ok (.getfield 39, 3) := by decide +kernel
theorem dX5_keepShell_14 : decode cX5_keepShell 14 = .ok (.aload_n 0, 1) := by decide +kernel
theorem dX5_keepShell_15 : decode cX5_keepShell 15 = .ok (.getfield 42, 3) := by decide +kernel
theorem dX5_keepShell_18 : decode cX5_keepShell 18 = .ok (.iload_n 1, 1) := by decide +kernel
theorem dX5_keepShell_19 : decode cX5_keepShell 19 = .ok (.iastore, 1) := by decide +kernel
theorem dX5_keepShell_20 : decode cX5_keepShell 20 = .ok (.aload_n 0, 1) := by decide +kernel
theorem dX5_keepShell_21 : decode cX5_keepShell 21 = .ok (.dup, 1) := by decide +kernel
theorem dX5_keepShell_22 : decode cX5_keepShell 22 = .ok (.getfield 42, 3) := by decide +kernel
theorem dX5_keepShell_25 : decode cX5_keepShell 25 = .ok (.iconst 1, 1) := by decide +kernel
theorem dX5_keepShell_26 : decode cX5_keepShell 26 = .ok (.iadd, 1) := by decide +kernel
theorem dX5_keepShell_27 : decode cX5_keepShell 27 = .ok (.putfield 42, 3) := by decide +kernel
theorem dX5_keepShell_30 : decode cX5_keepShell 30 = .ok (.return_, 1) := by decide +kernel
theorem dX5_openCall_0 : decode cX5_openCall 0 = .ok (.aload_n 0, 1) := by decide +kernel
theorem dX5_openCall_1 : decode cX5_openCall 1 = .ok (.getfield 36, 3) := by decide +kernel
theorem dX5_openCall_4 : decode cX5_openCall 4 = .ok (.bipush 100, 2) := by decide +kernel
theorem dX5_openCall_6 : decode cX5_openCall 6 = .ok (.if_icmp .ge 17, 3) := by decide +kernel
theorem dX5_openCall_9 : decode cX5_openCall 9 = .ok (.aload_n 0, 1) := by decide +kernel
theorem dX5_openCall_10 : decode cX5_openCall 10 = .ok (.getfield 67, 3) := by decide +kernel
theorem dX5_openCall_13 : decode cX5_openCall 13 = .ok (.getfield 165, 3) := by decide +kernel
theorem dX5_openCall_16 : decode cX5_openCall 16 = .ok (.iload_n 1, 1) := by decide +kernel
theorem dX5_openCall_17 : decode cX5_openCall 17 = .ok (.invokevirtual 208, 3) := by decide +kernel
theorem dX5_openCall_20 : decode cX5_openCall 20 = .ok (.ifCond .ne 4, 3) := by decide +kernel
theorem dX5_openCall_24 : decode cX5_openCall 24 = .ok (.aload_n 0, 1) := by decide +kernel
theorem dX5_openCall_25 : decode cX5_openCall 25 = .ok (.iconst 0, 1) := by decide +kernel
theorem dX5_openCall_26 : decode cX5_openCall 26 = .ok (.aload_n 0, 1) := by decide +kernel
theorem dX5_openCall_27 : decode cX5_openCall 27 = .ok (.getfield 19, 3) := by decide +kernel
theorem dX5_openCall_30 : decode cX5_openCall 30 = .ok (.aload_n 0, 1) := by decide +kernel
theorem dX5_openCall_31 : decode cX5_openCall 31 = .ok (.getfield 67, 3) := by decide +kernel
theorem dX5_openCall_34 : decode cX5_openCall 34 = .ok (.getfield 165, 3) := by decide +kernel
theorem dX5_openCall_37 : decode cX5_openCall 37 = .ok (.iload_n 1, 1) := by decide +kernel
theorem dX5_openCall_38 : decode cX5_openCall 38 = .ok (.iconst 0, 1) := by decide +kernel
theorem dX5_openCall_39 : decode cX5_openCall 39 = .ok (.invokevirtual 169, 3) := by decide +kernel
theorem dX5_openCall_42 : decode cX5_openCall 42 = .ok (.isub, 1) := by decide +kernel
theorem dX5_openCall_43 : decode cX5_openCall 43 = .ok (.invokestatic 210, 3) := by decide +kernel
theorem dX5_openCall_46 : decode cX5_openCall 46 = .ok (.putfield 23, 3) := by decide +kernel
theorem dX5_openCall_49 : decode cX5_openCall 49 = .ok (.aload_n 0, 1) := by decide +kernel
theorem dX5_openCall_50 : decode cX5_openCall 50 = .ok (.sipush 22424, 3) := by decide +kernel
theorem dX5_openCall_53 : decode cX5_openCall 53 = .ok (.aload_n 0, 1) := by decide +kernel
theorem dX5_openCall_54 : decode cX5_openCall 54 = .ok (.getfield 23, 3) := by decide +kernel
theorem dX5_openCall_57 : decode cX5_openCall 57 = .ok (.aload_n 0, 1) := by decide +kernel
theorem dX5_openCall_58 : decode cX5_openCall 58 = .ok (.getfield 67, 3) := by decide +kernel
theorem dX5_openCall_61 : decode cX5_openCall 61 = .ok (.getfield 165, 3) := by decide +kernel
theorem dX5_openCall_64 : decode cX5_openCall 64 = .ok (.iload_n 1, 1) := by decide +kernel
theorem dX5_openCall_65 : decode cX5_openCall 65 = .ok (.iconst 1, 1) := by decide +kernel
theorem dX5_openCall_66 : decode cX5_openCall 66 = .ok (.invokevirtual 169, 3) := by decide +kernel
theorem dX5_openCall_69 : decode cX5_openCall 69 = .ok (.iadd, 1) := by decide +kernel
theorem dX5_openCall_70 : decode cX5_openCall 70 = .ok (.invokestatic 215, 3) := by decide +kernel
theorem dX5_openCall_73 : decode cX5_openCall 73 = .ok (.putfield 19, 3) := by decide +kernel
theorem dX5_openCall_76 : decode cX5_openCall 76 = .ok (.aload_n 0, 1) := by decide +kernel
theorem dX5_openCall_77 : decode cX5_openCall 77 = .ok (.getfield 26, 3) := by decide +kernel
theorem dX5_openCall_80 : decode cX5_openCall 80 = .ok (.aload_n 0, 1) := by decide +kernel
theorem dX5_openCall_81 : decode cX5_openCall 81 = .ok (.getfield 36, 3) := by decide +kernel
theorem dX5_openCall_84 : decode cX5_openCall 84 = .ok (.aload_n 0, 1) := by decide +kernel
theorem dX5_openCall_85 : decode cX5_openCall 85 = .ok (.getfield 23, 3) := by decide +kernel
theorem dX5_openCall_88 : decode cX5_openCall 88 = .ok (.iastore, 1) := by decide +kernel
theorem dX5_openCall_89 : decode cX5_openCall 89 = .ok (.aload_n 0, 1) := by decide +kernel
theorem dX5_openCall_90 : decode cX5_openCall 90 = .ok (.getfield 30, 3) := by decide +kernel
theorem dX5_openCall_93 : decode cX5_openCall 93 = .ok (.aload_n 0, 1) := by decide +kernel
theorem dX5_openCall_94 : decode cX5_openCall 94 = .ok (.getfield 36, 3) := by decide +kernel
theorem dX5_openCall_97 : decode cX5_openCall 97 = .ok (.iload_n 2, 1) := by decide +kernel
theorem dX5_openCall_98 : decode cX5_openCall 98 = .ok (.iastore, 1) := by decide +kernel
theorem dX5_openCall_99 : decode cX5_openCall 99 = .ok (.aload_n 0, 1) := by decide +kernel
theorem dX5_openCall_100 : decode cX5_openCall 100 = .ok (.getfield 33, 3) := by decide +kernel
theorem dX5_openCall_103 : decode cX5_openCall 103 = .ok (.aload_n 0, 1) := by decide +kernel
theorem dX5_openCall_104 : decode cX5_openCall 104 = .ok (.getfield 36, 3) := by decide +kernel
theorem dX5_openCall_107 : decode cX5_openCall 107 = .ok (.aload_n 0, 1) := by decide +kernel
theorem dX5_openCall_108 : decode cX5_openCall 108 = .ok (.getfield 42, 3) := by decide +kernel
theorem dX5_openCall_111 : decode cX5_openCall 111 = .ok (.iastore, 1) := by decide +kernel
theorem dX5_openCall_112 : decode cX5_openCall 112 = .ok (.aload_n 0, 1) := by decide +kernel
theorem dX5_openCall_113 : decode cX5_openCall 113 = .ok (.dup, 1) := by decide +kernel
theorem dX5_openCall_114 : decode cX5_openCall 114 = .ok (.getfield 36, 3) := by decide +kernel
theorem dX5_openCall_117 : decode cX5_openCall 117 = .ok (.iconst 1, 1) := by decide +kernel
theorem dX5_openCall_118 : decode cX5_openCall 118 = .ok (.iadd, 1) := by decide +kernel
theorem dX5_openCall_119 : decode cX5_openCall 119 = .ok (.putfield 36, 3) := by decide +kernel
theorem dX5_openCall_122 : decode cX5_openCall 122 = .ok (.aload_n 0, 1) := by decide +kernel
theorem dX5_openCall_123 : decode cX5_openCall 123 = .ok (.aload_n 0, 1) := by decide +kernel
theorem dX5_openCall_124 : decode cX5_openCall 124 = .ok (.getfield 54, 3) := by decide +kernel
theorem dX5_openCall_127 : decode cX5_openCall 127 = .ok (.aload_n 0, 1) := by decide +kernel
theorem dX5_openCall_128 : decode cX5_openCall 128 = .ok (.getfield 36, 3) := by decide +kernel
theorem dX5_openCall_131 : decode cX5_openCall 131 = .ok (.invokestatic 210, 3) := by decide +kernel
theorem dX5_openCall_134 : decode cX5_openCall 134 = .ok (.putfield 54, 3) := by decide +kernel
theorem dX5_openCall_137 : decode cX5_openCall 137 = .ok (.aload_n 0, 1) := by decide +kernel
theorem dX5_openCall_138 : decode cX5_openCall 138 = .ok (.aload_n 0, 1) := by decide +kernel
theorem dX5_openCall_139 : decode cX5_openCall 139 = .ok (.getfield 67, 3) := by decide +kernel
theorem dX5_openCall_142 : decode cX5_openCall 142 = .ok (.getfield 165, 3) := by decide +kernel
theorem dX5_openCall_145 : decode cX5_openCall 145 = .ok (.getfield 218, 3) := by decide +kernel
theorem dX5_openCall_148 : decode cX5_openCall 148 = .ok (.iload_n 1, 1) := by decide +kernel
theorem dX5_openCall_149 : decode cX5_openCall 149 = .ok (.iaload, 1) := by decide +kernel
theorem dX5_openCall_150 : decode cX5_openCall 150 = .ok (.putfield 45, 3) := by decide +kernel
theorem dX5_openCall_153 : decode cX5_openCall 153 = .ok (.return_, 1) := by decide +kernel
set_option maxHeartbeats 4000000 in
set_option maxRecDepth 100000 in
theorem c_X5_openCall (l : Launch) (dC : Nat → ClassId) (dI : Nat → Nat → Nat) (aK aV : Nat → Nat) (h0 : Nat) (mp : Nat) (gco : Nat) (mce : Nat) (sk : Nat) (kb : Nat) (kk : Nat) (ks : Nat) (sh : Nat) (mcn : Int32) (tp : Int32) (ba : Int32) (on : Int32) (sn : Int32) (mat : Int32) (alw : Int32) (st : Int32) (mo : Int32) (mh : Int32) (sp : Int32) (re : Int64) (gar : Nat) (gki : Nat) (gfu : Nat) (kb1 : ClassId) (kk1 : ClassId) (ks1 : ClassId) (gkb : Nat → Int32) (gkk : Nat → Int32) (gks : Nat → Int32) (fw : Nat) (fe : Nat) (ff : Nat) (f1 : ClassId) (f2 : ClassId) (f3 : ClassId) (fz : Int32) (fgw : Nat → Int64) (fge : Nat → Int32) (fgf : Nat → Int32) (fu : Int32) (bk : Int32) (td : Int) (nmz : Int) (sz : Nat) (hon0 : 0 ≤ on.toInt) (hfz0 : 0 ≤ fz.toInt) (hfz1 : fz.toInt ≤ 30) (htd0 : 0 ≤ td) (htd1 : td ≤ tp.toInt) (hnm0 : 0 ≤ nmz) (hnm1 : nmz ≤ 24) (htp1 : tp.toInt - td + nmz ≤ 22424) (hsn0 : 0 ≤ sn.toInt) (hon1 : on.toInt < 100) (hu0 : 0 ≤ fu.toInt) (hu1 : fu.toInt < fz.toInt) (htd : (fgf (5 * Int32.toNatClampNeg fu)).toInt = td) (hnm : (fgf (5 * Int32.toNatClampNeg fu + 1)).toInt = nmz) : Met l yX5_openCall (Cond.code yX5_openCall cX5_openCall 3 none :: zw) ({ frames := 12, cells := 0, slots := 0, locals := 400 }) (va_Pc [.ref h0, .int fu, .int bk] (zP dC dI aK aV sz [(kb1, .int), (kk1, .int), (ks1, .int), (f1, .long), (f2, .int), (f3, .int)] [(h0, .inr (5, [.ref mp, .ref gco, .ref mce, .int mcn, .ref sk, .int tp, .int ba, .ref kb, .ref kk, .ref ks, .int on, .ref sh, .int sn, .int mat, .int alw, .int st, .int mo, .int mh, .int sp, .long re])), (mp, .inr (9, [.ref gco, .ref gar, .ref gki, .ref gfu])), (kb, .inl (kb1, 100, .inl gkb)), (kk, .inl (kk1, 100, .inl gkk)), (ks, .inl (ks1, 100, .inl gks)), (gfu, .inr (3, [.ref fw, .ref fe, .ref ff, .int fz])), (fw, .inl (f1, 30, .inr (.inl fgw))), (fe, .inl (f2, 30, .inl fge)), (ff, .inl (f3, 150, .inl fgf))])) (va_Qv (fun u : Int32 × Int32 × Int32 × Int32 × Int32 × (Nat → Int32) × (Nat → Int32) × (Nat → Int32) => match u with | (on2, ba2, tp2, mat2, mo2, gkb2, gkk2, gks2) => (on2.toInt = on.toInt + 1) ∧ (ba2.toInt = tp.toInt - td) ∧ (tp2.toInt = ba2.toInt + nmz) ∧ (gkb2 = upd gkb (Int32.toNatClampNeg on) ba2) ∧ (gkk2 = upd gkk (Int32.toNatClampNeg on) bk) ∧ (gks2 = upd gks (Int32.toNatClampNeg on) sn) ∧ (mat2 = fge (Int32.toNatClampNeg fu))) (fun u => match u with | (on2, ba2, tp2, mat2, mo2, gkb2, gkk2, gks2) => zQ dC dI (va_A [(h0, .inr (5, [.ref mp, .ref gco, .ref mce, .int mcn, .ref sk, .int tp, .int ba, .ref kb, .ref kk, .ref ks, .int on, .ref sh, .int sn, .int mat, .int alw, .int st, .int mo, .int mh, .int sp, .long re])), (mp, .inr (9, [.ref gco, .ref gar, .ref gki, .ref gfu])), (kb, .inl (kb1, 100, .inl gkb)), (kk, .inl (kk1, 100, .inl gkk)), (ks, .inl (ks1, 100, .inl gks)), (gfu, .inr (3, [.ref fw, .ref fe, .ref ff, .int fz])), (fw, .inl (f1, 30, .inr (.inl fgw))), (fe, .inl (f2, 30, .inl fge)), (ff, .inl (f3, 150, .inl fgf))] sz) [(kb1, .int), (kk1, .int), (ks1, .int), (f1, .long), (f2, .int), (f3, .int)] [(h0, .inr (5, [.ref mp, .ref gco, .ref mce, .int mcn, .ref sk, .int tp2, .int ba2, .ref kb, .ref kk, .ref ks, .int on2, .ref sh, .int sn, .int mat2, .int alw, .int st, .int mo2, .int mh, .int sp, .long re])), (mp, .inr (9, [.ref gco, .ref gar, .ref gki, .ref gfu])), (kb, .inl (kb1, 100, .inl gkb2)), (kk, .inl (kk1, 100, .inl gkk2)), (ks, .inl (ks1, 100, .inl gks2)), (gfu, .inr (3, [.ref fw, .ref fe, .ref ff, .int fz])), (fw, .inl (f1, 30, .inr (.inl fgw))), (fe, .inl (f2, 30, .inl fge)), (ff, .inl (f3, 150, .inl fgf))]) (va_A [(h0, .inr (5, [.ref mp, .ref gco, .ref mce, .int mcn, .ref sk, .int tp, .int ba, .ref kb, .ref kk, .ref ks, .int on, .ref sh, .int sn, .int mat, .int alw, .int st, .int mo, .int mh, .int sp, .long re])), (mp, .inr (9, [.ref gco, .ref gar, .ref gki, .ref gfu])), (kb, .inl (kb1, 100, .inl gkb)), (kk, .inl (kk1, 100, .inl gkk)), (ks, .inl (ks1, 100, .inl gks)), (gfu, .inr (3, [.ref fw, .ref fe, .ref ff, .int fz])), (fw, .inl (f1, 30, .inr (.inl fgw))), (fe, .inl (f2, 30, .inl fge)), (ff, .inl (f3, 150, .inl fgf))] sz)) 0 0 (va_A [(h0, .inr (5, [.ref mp, .ref gco, .ref mce, .int mcn, .ref sk, .int tp, .int ba, .ref kb, .ref kk, .ref ks, .int on, .ref sh, .int sn, .int mat, .int alw, .int st, .int mo, .int mh, .int sp, .long re])), (mp, .inr (9, [.ref gco, .ref gar, .ref gki, .ref gfu])), (kb, .inl (kb1, 100, .inl gkb)), (kk, .inl (kk1, 100, .inl gkk)), (ks, .inl (ks1, 100, .inl gks)), (gfu, .inr (3, [.ref fw, .ref fe, .ref ff, .int fz])), (fw, .inl (f1, 30, .inr (.inl fgw))), (fe, .inl (f2, 30, .inl fge)), (ff, .inl (f3, 150, .inl fgf))] sz) := by
  refine Met.ofW (cc := cX5_openCall) (maxL := 3) (ret := none) (by decide) rfl ?_
  intro p e s m args below meth c s₁ B hml hv
  obtain ⟨rfl, hsz, hP, hK, hD0, hN, hT⟩ := hv
  have hx := B.exec
  have hb := B.bytes
  have hr := B.returns
  have hts := atoms_spec (ws := Cond.code yX5_openCall cX5_openCall 3 none :: zw) B.pre
  have hA : ∀ w ∈ zw, w.before _ s = true := fun w h => hts w (List.mem_cons_of_mem _ h)
  have hown : s.vm.findClass RX5 = some m.cls := findClass_of_methodNamed B.named
  have hlocks := B.notSynchronized
  subst hsz
  have hD := hD0.self (sz := s.heap.size)
  generalize hAe : va_A [(h0, .inr (5, [.ref mp, .ref gco, .ref mce, .int mcn, .ref sk, .int tp, .int ba, .ref kb, .ref kk, .ref ks, .int on, .ref sh, .int sn, .int mat, .int alw, .int st, .int mo, .int mh, .int sp, .long re])), (mp, .inr (9, [.ref gco, .ref gar, .ref gki, .ref gfu])), (kb, .inl (kb1, 100, .inl gkb)), (kk, .inl (kk1, 100, .inl gkk)), (ks, .inl (ks1, 100, .inl gks)), (gfu, .inr (3, [.ref fw, .ref fe, .ref ff, .int fz])), (fw, .inl (f1, 30, .inr (.inl fgw))), (fe, .inl (f2, 30, .inl fge)), (ff, .inl (f3, 150, .inl fgf))] s.heap.size = A at hD hT ⊢
  have hAA : ∀ q : Nat, s.heap.size ≤ q → A q := fun q h => by rw [← hAe]; exact Or.inr h
  have hS : va_S A s.heap s.heap [] := va_S.rf
  have hl := lv_entry ([.ref h0, .int fu, .int bk]) (n := 3) (Nat.le_of_ble_eq_true rfl)
  rw [lg_entry_eq]
  generalize (lg_sl ([.ref h0, .int fu, .int bk]) ++ List.replicate (3 - (lg_sl ([.ref h0, .int fu, .int bk])).length) Slot.unset).toArray = ls at hl ⊢
  have hl : lv_has ls 3 [(0, .ref h0), (1, .int fu), (2, .int bk)] := hl
  refine lv_aload_n hx hb dX5_openCall_0 rfl (lv_at hl 0 rfl) ?_
  refine va_get (D := (dC, dI)) (ci := 5) (v := .int on) (C := RX5) (T := TX5) (N := 20) hx hb hA zin_X5 hown hK hP 0 rfl rfl 10 (by decide) (hA _ wi_494) (fun _ h9 => h9) rfl dX5_openCall_1 ?_
  refine lv_bipush (v := 100) hx hb dX5_openCall_4 (by decide) ?_
  refine lv_icmp_ge (tgt := 23) hx hb dX5_openCall_6 (by decide) (fun c_1 => ?_) (fun c_1 => ?_)
  · have ic_1 : 100 ≤ on.toInt := zi_le c_1
    exfalso
    omega
  · have ic_1 : on.toInt < 100 := zi_nle c_1
    refine lv_aload_n hx hb dX5_openCall_9 rfl (lv_at hl 0 rfl) ?_
    refine va_get (D := (dC, dI)) (ci := 5) (v := .ref mp) (C := RX5) (T := TX5) (N := 20) hx hb hA zin_X5 hown hK hP 0 rfl rfl 0 (by decide) (hA _ wi_484) (fun _ h9 => h9) rfl dX5_openCall_10 ?_
    refine va_get (D := (dC, dI)) (ci := 9) (v := .ref gfu) (C := RX9) (T := TX9) (N := 4) hx hb hA zin_X9 hown hK hP 1 rfl rfl 3 (by decide) (hA _ wi_324) (fun _ h9 => h9) rfl dX5_openCall_13 ?_
    refine lv_iload_n hx hb dX5_openCall_16 rfl (lv_at hl 1 rfl) ?_
    have hPc := hP.sub (ws' := [(gfu, .inr (3, [.ref fw, .ref fe, .ref ff, .int fz]))]) [5] rfl
    have hDc := hD.sub (ws' := [(gfu, .inr (3, [.ref fw, .ref fe, .ref ff, .int fz]))]) [5] (by decide) rfl
    have hKc := hK.sub (tys' := []) [] rfl
    have hFc := va_free (wc := [(gfu, .inr (3, [.ref fw, .ref fe, .ref ff, .int fz]))]) hD hS hAA [5] rfl
    refine va_calli (va_runV (As := [.int fu]) (rest := []) ⟨hx, hb, hml, hown, hA⟩ (c_X3_has_x l dC dI aK aV gfu fw fe ff fz fu s.heap.size) (cwV 1 hA (zw_V wi_1117 wi_911 wi_912 wi_135 (zw_good wi_913)) rfl rfl rfl (by decide +kernel) ⟨(Nat.le_of_ble_eq_true rfl), (Nat.le_of_ble_eq_true rfl)⟩) ⟨zP_blind, va_recv hKc hPc (ci := 3) (q0 := 0) rfl rfl, zz_pre hKc hPc hDc hN hT hS hFc⟩ rfl rfl hl.1 rfl (lv_room (Nat.le_of_ble_eq_true rfl)) dX5_openCall_17 ⟨(Nat.le_of_ble_eq_true rfl), (Nat.le_of_ble_eq_true rfl)⟩) hS (fun q _ h => hFc q h) hFc (fun r_2 u t H1 locs ht hvm hw hB hz1 hk1 hS => ?_)
    obtain ⟨hP1, hK1, hD1⟩ := hB
    rw [ht] at hP1
    have hK1 := va_K.moved hvm.symm hK1
    obtain ⟨hP, hD⟩ := va_join (wr := [(h0, .inr (5, [.ref mp, .ref gco, .ref mce, .int mcn, .ref sk, .int tp, .int ba, .ref kb, .ref kk, .ref ks, .int on, .ref sh, .int sn, .int mat, .int alw, .int st, .int mo, .int mh, .int sp, .long re])), (mp, .inr (9, [.ref gco, .ref gar, .ref gki, .ref gfu])), (kb, .inl (kb1, 100, .inl gkb)), (kk, .inl (kk1, 100, .inl gkk)), (ks, .inl (ks1, 100, .inl gks)), (fw, .inl (f1, 30, .inr (.inl fgw))), (fe, .inl (f2, 30, .inl fge)), (ff, .inl (f3, 150, .inl fgf))]) (w1 := [(gfu, .inr (3, [.ref fw, .ref fe, .ref ff, .int fz]))]) hP hD [5] [0, 1, 2, 3, 4, 6, 7, 8] rfl rfl (by decide) (by decide) hk1 hFc hP1 hD1
    have hK := (hK.sub (tys' := [(kb1, .int), (kk1, .int), (ks1, .int), (f1, .long), (f2, .int), (f3, .int)]) [0, 1, 2, 3, 4, 5] rfl).app hK1
    generalize H1 = H at hP hS ⊢
    have hP : va_P (dC, dI) vwCl [(h0, .inr (5, [.ref mp, .ref gco, .ref mce, .int mcn, .ref sk, .int tp, .int ba, .ref kb, .ref kk, .ref ks, .int on, .ref sh, .int sn, .int mat, .int alw, .int st, .int mo, .int mh, .int sp, .long re])), (mp, .inr (9, [.ref gco, .ref gar, .ref gki, .ref gfu])), (kb, .inl (kb1, 100, .inl gkb)), (kk, .inl (kk1, 100, .inl gkk)), (ks, .inl (ks1, 100, .inl gks)), (fw, .inl (f1, 30, .inr (.inl fgw))), (fe, .inl (f2, 30, .inl fge)), (ff, .inl (f3, 150, .inl fgf)), (gfu, .inr (3, [.ref fw, .ref fe, .ref ff, .int fz]))] H := hP
    have hD : va_D A [(h0, .inr (5, [.ref mp, .ref gco, .ref mce, .int mcn, .ref sk, .int tp, .int ba, .ref kb, .ref kk, .ref ks, .int on, .ref sh, .int sn, .int mat, .int alw, .int st, .int mo, .int mh, .int sp, .long re])), (mp, .inr (9, [.ref gco, .ref gar, .ref gki, .ref gfu])), (kb, .inl (kb1, 100, .inl gkb)), (kk, .inl (kk1, 100, .inl gkk)), (ks, .inl (ks1, 100, .inl gks)), (fw, .inl (f1, 30, .inr (.inl fgw))), (fe, .inl (f2, 30, .inl fge)), (ff, .inl (f3, 150, .inl fgf)), (gfu, .inr (3, [.ref fw, .ref fe, .ref ff, .int fz]))] := hD
    have hK : va_K (dC, dI) vwCl [(kb1, .int), (kk1, .int), (ks1, .int), (f1, .long), (f2, .int), (f3, .int)] s := hK
    have hw_r_2 := hw
    try dsimp only at hw_r_2
    have hq_3 := hw
    refine lv_if_ne (tgt := 24) hx hb dX5_openCall_20 (by decide) (fun c_4 => ?_) (fun c_4 => ?_)
    · have ic_4 : r_2.toInt ≠ 0 := zi_ne c_4
      refine lv_aload_n hx hb dX5_openCall_24 rfl (lv_at hl 0 rfl) ?_
      refine lv_iconst (v := 0) hx hb dX5_openCall_25 (by decide) ?_
      refine lv_aload_n hx hb dX5_openCall_26 rfl (lv_at hl 0 rfl) ?_
      refine va_get (D := (dC, dI)) (ci := 5) (v := .int tp) (C := RX5) (T := TX5) (N := 20) hx hb hA zin_X5 hown hK hP 0 rfl rfl 5 (by decide) (hA _ wi_489) (fun _ h9 => h9) rfl dX5_openCall_27 ?_
      refine lv_aload_n hx hb dX5_openCall_30 rfl (lv_at hl 0 rfl) ?_
      refine va_get (D := (dC, dI)) (ci := 5) (v := .ref mp) (C := RX5) (T := TX5) (N := 20) hx hb hA zin_X5 hown hK hP 0 rfl rfl 0 (by decide) (hA _ wi_484) (fun _ h9 => h9) rfl dX5_openCall_31 ?_
      refine va_get (D := (dC, dI)) (ci := 9) (v := .ref gfu) (C := RX9) (T := TX9) (N := 4) hx hb hA zin_X9 hown hK hP 1 rfl rfl 3 (by decide) (hA _ wi_324) (fun _ h9 => h9) rfl dX5_openCall_34 ?_
      refine lv_iload_n hx hb dX5_openCall_37 rfl (lv_at hl 1 rfl) ?_
      refine lv_iconst (v := 0) hx hb dX5_openCall_38 (by decide) ?_
      have hPc := hP.sub (ws' := [(gfu, .inr (3, [.ref fw, .ref fe, .ref ff, .int fz])), (fw, .inl (f1, 30, .inr (.inl fgw))), (fe, .inl (f2, 30, .inl fge)), (ff, .inl (f3, 150, .inl fgf))]) [8, 5, 6, 7] rfl
      have hDc := hD.sub (ws' := [(gfu, .inr (3, [.ref fw, .ref fe, .ref ff, .int fz])), (fw, .inl (f1, 30, .inr (.inl fgw))), (fe, .inl (f2, 30, .inl fge)), (ff, .inl (f3, 150, .inl fgf))]) [8, 5, 6, 7] (by decide) rfl
      have hKc := hK.sub (tys' := [(f1, .long), (f2, .int), (f3, .int)]) [3, 4, 5] rfl
      have hFc := va_free (wc := [(gfu, .inr (3, [.ref fw, .ref fe, .ref ff, .int fz])), (fw, .inl (f1, 30, .inr (.inl fgw))), (fe, .inl (f2, 30, .inl fge)), (ff, .inl (f3, 150, .inl fgf))]) hD hS hAA [8, 5, 6, 7] rfl
      refine va_calli (va_runV (As := [.int fu, .int 0]) (rest := [.int tp, .int 0, .ref h0]) ⟨hx, hb, hml, hown, hA⟩ (c_X3_fact_x l dC dI aK aV gfu fw fe ff f1 f2 f3 fz fgw fge fgf fu 0 H.size (by omega) (by omega) (by omega) (by omega) (by have h9_0 : Int32.toInt 0 = 0 := (by decide); omega) (by have h9_0 : Int32.toInt 0 = 0 := (by decide); omega)) (cwV 2 hA (zw_V wi_1118 wi_907 wi_908 wi_135 (zw_good wi_909)) rfl rfl rfl (by decide +kernel) ⟨(Nat.le_of_ble_eq_true rfl), (Nat.le_of_ble_eq_true rfl)⟩) ⟨zP_blind, va_recv hKc hPc (ci := 3) (q0 := 0) rfl rfl, zz_pre hKc hPc hDc hN hT hS hFc⟩ rfl rfl hl.1 rfl (lv_room (Nat.le_of_ble_eq_true rfl)) dX5_openCall_39 ⟨(Nat.le_of_ble_eq_true rfl), (Nat.le_of_ble_eq_true rfl)⟩) hS (fun q _ h => hFc q h) hFc (fun r_5 u t H1 locs ht hvm hw hB hz1 hk1 hS => ?_)
      obtain ⟨hP1, hK1, hD1⟩ := hB
      rw [ht] at hP1
      have hK1 := va_K.moved hvm.symm hK1
      obtain ⟨hP, hD⟩ := va_join (wr := [(h0, .inr (5, [.ref mp, .ref gco, .ref mce, .int mcn, .ref sk, .int tp, .int ba, .ref kb, .ref kk, .ref ks, .int on, .ref sh, .int sn, .int mat, .int alw, .int st, .int mo, .int mh, .int sp, .long re])), (mp, .inr (9, [.ref gco, .ref gar, .ref gki, .ref gfu])), (kb, .inl (kb1, 100, .inl gkb)), (kk, .inl (kk1, 100, .inl gkk)), (ks, .inl (ks1, 100, .inl gks))]) (w1 := [(gfu, .inr (3, [.ref fw, .ref fe, .ref ff, .int fz])), (fw, .inl (f1, 30, .inr (.inl fgw))), (fe, .inl (f2, 30, .inl fge)), (ff, .inl (f3, 150, .inl fgf))]) hP hD [8, 5, 6, 7] [0, 1, 2, 3, 4] rfl rfl (by decide) (by decide) hk1 hFc hP1 hD1
      have hK := (hK.sub (tys' := [(kb1, .int), (kk1, .int), (ks1, .int)]) [0, 1, 2] rfl).app hK1
      generalize H1 = H at hP hS ⊢
      have hP : va_P (dC, dI) vwCl [(h0, .inr (5, [.ref mp, .ref gco, .ref mce, .int mcn, .ref sk, .int tp, .int ba, .ref kb, .ref kk, .ref ks, .int on, .ref sh, .int sn, .int mat, .int alw, .int st, .int mo, .int mh, .int sp, .long re])), (mp, .inr (9, [.ref gco, .ref gar, .ref gki, .ref gfu])), (kb, .inl (kb1, 100, .inl gkb)), (kk, .inl (kk1, 100, .inl gkk)), (ks, .inl (ks1, 100, .inl gks)), (gfu, .inr (3, [.ref fw, .ref fe, .ref ff, .int fz])), (fw, .inl (f1, 30, .inr (.inl fgw))), (fe, .inl (f2, 30, .inl fge)), (ff, .inl (f3, 150, .inl fgf))] H := hP
      have hD : va_D A [(h0, .inr (5, [.ref mp, .ref gco, .ref mce, .int mcn, .ref sk, .int tp, .int ba, .ref kb, .ref kk, .ref ks, .int on, .ref sh, .int sn, .int mat, .int alw, .int st, .int mo, .int mh, .int sp, .long re])), (mp, .inr (9, [.ref gco, .ref gar, .ref gki, .ref gfu])), (kb, .inl (kb1, 100, .inl gkb)), (kk, .inl (kk1, 100, .inl gkk)), (ks, .inl (ks1, 100, .inl gks)), (gfu, .inr (3, [.ref fw, .ref fe, .ref ff, .int fz])), (fw, .inl (f1, 30, .inr (.inl fgw))), (fe, .inl (f2, 30, .inl fge)), (ff, .inl (f3, 150, .inl fgf))] := hD
      have hK : va_K (dC, dI) vwCl [(kb1, .int), (kk1, .int), (ks1, .int), (f1, .long), (f2, .int), (f3, .int)] s := hK
      have hw_r_5 := hw
      try dsimp only at hw_r_5
      have hq_6 := hw
      have htd9 : r_5.toInt = td := by rw [hq_6, ← htd]; exact congrArg (fun x => (fgf x).toInt) (by have h9 : Int32.toNatClampNeg 0 = 0 := (by decide); omega)
      refine lv_isub hx hb dX5_openCall_42 ?_
      refine lv_topi (fun x_7 ex_7 => ?_)
      have ix_7 : x_7.toInt = tp.toInt - r_5.toInt := by rw [ex_7]; exact zi_subc rfl (by omega) (by omega)
      refine va_mmax hx hb (by rw [hml]; exact hl.1.symm) hown (hA _ wi_1119) (hA _ wi_431) (hA _ wi_141) (hA _ wi_432) (Nat.le_of_ble_eq_true rfl) (Nat.le_of_ble_eq_true rfl) (Nat.le_of_ble_eq_true rfl) (Nat.le_of_ble_eq_true rfl) dX5_openCall_43 ?_
      refine lv_topi (fun x_8 ex_8 => ?_)
      have ix_8 : x_8.toInt ≥ 0 ∧ x_8.toInt ≥ x_7.toInt ∧ (x_8.toInt = 0 ∨ x_8.toInt = x_7.toInt) := zi_max ex_8 (by decide) rfl
      refine va_put (D := (dC, dI)) (ci := 5) (v := .int x_8) (ty := .int) (C := RX5) (T := TX5) (N := 20) hx hb hA zin_X5 tyX5 tyX5_ok nmX5 hown hK hP hD hS 0 rfl rfl 6 (by decide) (hA _ wi_490) (fun _ h9 => h9) rfl (by decide +kernel) rfl rfl (Nat.le_of_ble_eq_true rfl) dX5_openCall_46 (fun H locs hP hD hS => ?_)
      have hP : va_P (dC, dI) vwCl [(h0, .inr (5, [.ref mp, .ref gco, .ref mce, .int mcn, .ref sk, .int tp, .int x_8, .ref kb, .ref kk, .ref ks, .int on, .ref sh, .int sn, .int mat, .int alw, .int st, .int mo, .int mh, .int sp, .long re])), (mp, .inr (9, [.ref gco, .ref gar, .ref gki, .ref gfu])), (kb, .inl (kb1, 100, .inl gkb)), (kk, .inl (kk1, 100, .inl gkk)), (ks, .inl (ks1, 100, .inl gks)), (gfu, .inr (3, [.ref fw, .ref fe, .ref ff, .int fz])), (fw, .inl (f1, 30, .inr (.inl fgw))), (fe, .inl (f2, 30, .inl fge)), (ff, .inl (f3, 150, .inl fgf))] H := hP
      have hD : va_D A [(h0, .inr (5, [.ref mp, .ref gco, .ref mce, .int mcn, .ref sk, .int tp, .int x_8, .ref kb, .ref kk, .ref ks, .int on, .ref sh, .int sn, .int mat, .int alw, .int st, .int mo, .int mh, .int sp, .long re])), (mp, .inr (9, [.ref gco, .ref gar, .ref gki, .ref gfu])), (kb, .inl (kb1, 100, .inl gkb)), (kk, .inl (kk1, 100, .inl gkk)), (ks, .inl (ks1, 100, .inl gks)), (gfu, .inr (3, [.ref fw, .ref fe, .ref ff, .int fz])), (fw, .inl (f1, 30, .inr (.inl fgw))), (fe, .inl (f2, 30, .inl fge)), (ff, .inl (f3, 150, .inl fgf))] := hD
      refine lv_aload_n hx hb dX5_openCall_49 rfl (lv_at hl 0 rfl) ?_
      refine lv_sipush (v := 22424) hx hb dX5_openCall_50 (by decide) ?_
      refine lv_aload_n hx hb dX5_openCall_53 rfl (lv_at hl 0 rfl) ?_
      refine va_get (D := (dC, dI)) (ci := 5) (v := .int x_8) (C := RX5) (T := TX5) (N := 20) hx hb hA zin_X5 hown hK hP 0 rfl rfl 6 (by decide) (hA _ wi_490) (fun _ h9 => h9) rfl dX5_openCall_54 ?_
      refine lv_aload_n hx hb dX5_openCall_57 rfl (lv_at hl 0 rfl) ?_
      refine va_get (D := (dC, dI)) (ci := 5) (v := .ref mp) (C := RX5) (T := TX5) (N := 20) hx hb hA zin_X5 hown hK hP 0 rfl rfl 0 (by decide) (hA _ wi_484) (fun _ h9 => h9) rfl dX5_openCall_58 ?_
      refine va_get (D := (dC, dI)) (ci := 9) (v := .ref gfu) (C := RX9) (T := TX9) (N := 4) hx hb hA zin_X9 hown hK hP 1 rfl rfl 3 (by decide) (hA _ wi_324) (fun _ h9 => h9) rfl dX5_openCall_61 ?_
      refine lv_iload_n hx hb dX5_openCall_64 rfl (lv_at hl 1 rfl) ?_
      refine lv_iconst (v := 1) hx hb dX5_openCall_65 (by decide) ?_
      have hPc := hP.sub (ws' := [(gfu, .inr (3, [.ref fw, .ref fe, .ref ff, .int fz])), (fw, .inl (f1, 30, .inr (.inl fgw))), (fe, .inl (f2, 30, .inl fge)), (ff, .inl (f3, 150, .inl fgf))]) [5, 6, 7, 8] rfl
      have hDc := hD.sub (ws' := [(gfu, .inr (3, [.ref fw, .ref fe, .ref ff, .int fz])), (fw, .inl (f1, 30, .inr (.inl fgw))), (fe, .inl (f2, 30, .inl fge)), (ff, .inl (f3, 150, .inl fgf))]) [5, 6, 7, 8] (by decide) rfl
      have hKc := hK.sub (tys' := [(f1, .long), (f2, .int), (f3, .int)]) [3, 4, 5] rfl
      have hFc := va_free (wc := [(gfu, .inr (3, [.ref fw, .ref fe, .ref ff, .int fz])), (fw, .inl (f1, 30, .inr (.inl fgw))), (fe, .inl (f2, 30, .inl fge)), (ff, .inl (f3, 150, .inl fgf))]) hD hS hAA [5, 6, 7, 8] rfl
      refine va_calli (va_runV (As := [.int fu, .int 1]) (rest := [.int x_8, .int 22424, .ref h0]) ⟨hx, hb, hml, hown, hA⟩ (c_X3_fact_x l dC dI aK aV gfu fw fe ff f1 f2 f3 fz fgw fge fgf fu 1 H.size (by omega) (by omega) (by omega) (by omega) (by have h9_0 : Int32.toInt 1 = 1 := (by decide); omega) (by have h9_0 : Int32.toInt 1 = 1 := (by decide); omega)) (cwV 2 hA (zw_V wi_1118 wi_907 wi_908 wi_135 (zw_good wi_909)) rfl rfl rfl (by decide +kernel) ⟨(Nat.le_of_ble_eq_true rfl), (Nat.le_of_ble_eq_true rfl)⟩) ⟨zP_blind, va_recv hKc hPc (ci := 3) (q0 := 0) rfl rfl, zz_pre hKc hPc hDc hN hT hS hFc⟩ rfl rfl hl.1 rfl (lv_room (Nat.le_of_ble_eq_true rfl)) dX5_openCall_66 ⟨(Nat.le_of_ble_eq_true rfl), (Nat.le_of_ble_eq_true rfl)⟩) hS (fun q _ h => hFc q h) hFc (fun r_9 u t H1 locs ht hvm hw hB hz1 hk1 hS => ?_)
      obtain ⟨hP1, hK1, hD1⟩ := hB
      rw [ht] at hP1
      have hK1 := va_K.moved hvm.symm hK1
      obtain ⟨hP, hD⟩ := va_join (wr := [(h0, .inr (5, [.ref mp, .ref gco, .ref mce, .int mcn, .ref sk, .int tp, .int x_8, .ref kb, .ref kk, .ref ks, .int on, .ref sh, .int sn, .int mat, .int alw, .int st, .int mo, .int mh, .int sp, .long re])), (mp, .inr (9, [.ref gco, .ref gar, .ref gki, .ref gfu])), (kb, .inl (kb1, 100, .inl gkb)), (kk, .inl (kk1, 100, .inl gkk)), (ks, .inl (ks1, 100, .inl gks))]) (w1 := [(gfu, .inr (3, [.ref fw, .ref fe, .ref ff, .int fz])), (fw, .inl (f1, 30, .inr (.inl fgw))), (fe, .inl (f2, 30, .inl fge)), (ff, .inl (f3, 150, .inl fgf))]) hP hD [5, 6, 7, 8] [0, 1, 2, 3, 4] rfl rfl (by decide) (by decide) hk1 hFc hP1 hD1
      have hK := (hK.sub (tys' := [(kb1, .int), (kk1, .int), (ks1, .int)]) [0, 1, 2] rfl).app hK1
      generalize H1 = H at hP hS ⊢
      have hP : va_P (dC, dI) vwCl [(h0, .inr (5, [.ref mp, .ref gco, .ref mce, .int mcn, .ref sk, .int tp, .int x_8, .ref kb, .ref kk, .ref ks, .int on, .ref sh, .int sn, .int mat, .int alw, .int st, .int mo, .int mh, .int sp, .long re])), (mp, .inr (9, [.ref gco, .ref gar, .ref gki, .ref gfu])), (kb, .inl (kb1, 100, .inl gkb)), (kk, .inl (kk1, 100, .inl gkk)), (ks, .inl (ks1, 100, .inl gks)), (gfu, .inr (3, [.ref fw, .ref fe, .ref ff, .int fz])), (fw, .inl (f1, 30, .inr (.inl fgw))), (fe, .inl (f2, 30, .inl fge)), (ff, .inl (f3, 150, .inl fgf))] H := hP
      have hD : va_D A [(h0, .inr (5, [.ref mp, .ref gco, .ref mce, .int mcn, .ref sk, .int tp, .int x_8, .ref kb, .ref kk, .ref ks, .int on, .ref sh, .int sn, .int mat, .int alw, .int st, .int mo, .int mh, .int sp, .long re])), (mp, .inr (9, [.ref gco, .ref gar, .ref gki, .ref gfu])), (kb, .inl (kb1, 100, .inl gkb)), (kk, .inl (kk1, 100, .inl gkk)), (ks, .inl (ks1, 100, .inl gks)), (gfu, .inr (3, [.ref fw, .ref fe, .ref ff, .int fz])), (fw, .inl (f1, 30, .inr (.inl fgw))), (fe, .inl (f2, 30, .inl fge)), (ff, .inl (f3, 150, .inl fgf))] := hD
      have hK : va_K (dC, dI) vwCl [(kb1, .int), (kk1, .int), (ks1, .int), (f1, .long), (f2, .int), (f3, .int)] s := hK
      have hw_r_9 := hw
      try dsimp only at hw_r_9
      have hq_10 := hw
      have hnm9 : r_9.toInt = nmz := by rw [hq_10, ← hnm]; exact congrArg (fun x => (fgf x).toInt) (by have h9 : Int32.toNatClampNeg 1 = 1 := (by decide); omega)
      refine lv_iadd hx hb dX5_openCall_69 ?_
      refine lv_topi (fun x_11 ex_11 => ?_)
      have ix_11 : x_11.toInt = x_8.toInt + r_9.toInt := by rw [ex_11]; exact zi_addc rfl (by omega) (by omega)
      refine va_mmin hx hb (by rw [hml]; exact hl.1.symm) hown (hA _ wi_1120) (hA _ wi_658) (hA _ wi_141) (hA _ wi_659) (Nat.le_of_ble_eq_true rfl) (Nat.le_of_ble_eq_true rfl) (Nat.le_of_ble_eq_true rfl) (Nat.le_of_ble_eq_true rfl) dX5_openCall_70 ?_
      refine lv_topi (fun x_12 ex_12 => ?_)
      have ix_12 : x_12.toInt ≤ 22424 ∧ x_12.toInt ≤ x_11.toInt ∧ (x_12.toInt = 22424 ∨ x_12.toInt = x_11.toInt) := zi_min ex_12 (by decide) rfl
      refine va_put (D := (dC, dI)) (ci := 5) (v := .int x_12) (ty := .int) (C := RX5) (T := TX5) (N := 20) hx hb hA zin_X5 tyX5 tyX5_ok nmX5 hown hK hP hD hS 0 rfl rfl 5 (by decide) (hA _ wi_489) (fun _ h9 => h9) rfl (by decide +kernel) rfl rfl (Nat.le_of_ble_eq_true rfl) dX5_openCall_73 (fun H locs hP hD hS => ?_)
      have hP : va_P (dC, dI) vwCl [(h0, .inr (5, [.ref mp, .ref gco, .ref mce, .int mcn, .ref sk, .int x_12, .int x_8, .ref kb, .ref kk, .ref ks, .int on, .ref sh, .int sn, .int mat, .int alw, .int st, .int mo, .int mh, .int sp, .long re])), (mp, .inr (9, [.ref gco, .ref gar, .ref gki, .ref gfu])), (kb, .inl (kb1, 100, .inl gkb)), (kk, .inl (kk1, 100, .inl gkk)), (ks, .inl (ks1, 100, .inl gks)), (gfu, .inr (3, [.ref fw, .ref fe, .ref ff, .int fz])), (fw, .inl (f1, 30, .inr (.inl fgw))), (fe, .inl (f2, 30, .inl fge)), (ff, .inl (f3, 150, .inl fgf))] H := hP
      have hD : va_D A [(h0, .inr (5, [.ref mp, .ref gco, .ref mce, .int mcn, .ref sk, .int x_12, .int x_8, .ref kb, .ref kk, .ref ks, .int on, .ref sh, .int sn, .int mat, .int alw, .int st, .int mo, .int mh, .int sp, .long re])), (mp, .inr (9, [.ref gco, .ref gar, .ref gki, .ref gfu])), (kb, .inl (kb1, 100, .inl gkb)), (kk, .inl (kk1, 100, .inl gkk)), (ks, .inl (ks1, 100, .inl gks)), (gfu, .inr (3, [.ref fw, .ref fe, .ref ff, .int fz])), (fw, .inl (f1, 30, .inr (.inl fgw))), (fe, .inl (f2, 30, .inl fge)), (ff, .inl (f3, 150, .inl fgf))] := hD
      refine lv_aload_n hx hb dX5_openCall_76 rfl (lv_at hl 0 rfl) ?_
      refine va_get (D := (dC, dI)) (ci := 5) (v := .ref kb) (C := RX5) (T := TX5) (N := 20) hx hb hA zin_X5 hown hK hP 0 rfl rfl 7 (by decide) (hA _ wi_491) (fun _ h9 => h9) rfl dX5_openCall_77 ?_
      refine lv_aload_n hx hb dX5_openCall_80 rfl (lv_at hl 0 rfl) ?_
      refine va_get (D := (dC, dI)) (ci := 5) (v := .int on) (C := RX5) (T := TX5) (N := 20) hx hb hA zin_X5 hown hK hP 0 rfl rfl 10 (by decide) (hA _ wi_494) (fun _ h9 => h9) rfl dX5_openCall_81 ?_
      refine lv_aload_n hx hb dX5_openCall_84 rfl (lv_at hl 0 rfl) ?_
      refine va_get (D := (dC, dI)) (ci := 5) (v := .int x_8) (C := RX5) (T := TX5) (N := 20) hx hb hA zin_X5 hown hK hP 0 rfl rfl 6 (by decide) (hA _ wi_490) (fun _ h9 => h9) rfl dX5_openCall_85 ?_
      refine va_iast hx hb hK hP hD hS 2 0 rfl rfl (vp_in_iff.mpr ⟨by omega, by omega⟩) dX5_openCall_88 (fun H locs hP hD hS => ?_)
      obtain ⟨f_13, ef_13⟩ : ∃ gz9 : Nat → Int32, gz9 = upd gkb (Int32.toNatClampNeg on) x_8 := ⟨_, rfl⟩
      rw [← ef_13] at hP hD
      have hP : va_P (dC, dI) vwCl [(h0, .inr (5, [.ref mp, .ref gco, .ref mce, .int mcn, .ref sk, .int x_12, .int x_8, .ref kb, .ref kk, .ref ks, .int on, .ref sh, .int sn, .int mat, .int alw, .int st, .int mo, .int mh, .int sp, .long re])), (mp, .inr (9, [.ref gco, .ref gar, .ref gki, .ref gfu])), (kb, .inl (kb1, 100, .inl f_13)), (kk, .inl (kk1, 100, .inl gkk)), (ks, .inl (ks1, 100, .inl gks)), (gfu, .inr (3, [.ref fw, .ref fe, .ref ff, .int fz])), (fw, .inl (f1, 30, .inr (.inl fgw))), (fe, .inl (f2, 30, .inl fge)), (ff, .inl (f3, 150, .inl fgf))] H := hP
      have hD : va_D A [(h0, .inr (5, [.ref mp, .ref gco, .ref mce, .int mcn, .ref sk, .int x_12, .int x_8, .ref kb, .ref kk, .ref ks, .int on, .ref sh, .int sn, .int mat, .int alw, .int st, .int mo, .int mh, .int sp, .long re])), (mp, .inr (9, [.ref gco, .ref gar, .ref gki, .ref gfu])), (kb, .inl (kb1, 100, .inl f_13)), (kk, .inl (kk1, 100, .inl gkk)), (ks, .inl (ks1, 100, .inl gks)), (gfu, .inr (3, [.ref fw, .ref fe, .ref ff, .int fz])), (fw, .inl (f1, 30, .inr (.inl fgw))), (fe, .inl (f2, 30, .inl fge)), (ff, .inl (f3, 150, .inl fgf))] := hD
      refine lv_aload_n hx hb dX5_openCall_89 rfl (lv_at hl 0 rfl) ?_
      refine va_get (D := (dC, dI)) (ci := 5) (v := .ref kk) (C := RX5) (T := TX5) (N := 20) hx hb hA zin_X5 hown hK hP 0 rfl rfl 8 (by decide) (hA _ wi_492) (fun _ h9 => h9) rfl dX5_openCall_90 ?_
      refine lv_aload_n hx hb dX5_openCall_93 rfl (lv_at hl 0 rfl) ?_
      refine va_get (D := (dC, dI)) (ci := 5) (v := .int on) (C := RX5) (T := TX5) (N := 20) hx hb hA zin_X5 hown hK hP 0 rfl rfl 10 (by decide) (hA _ wi_494) (fun _ h9 => h9) rfl dX5_openCall_94 ?_
      refine lv_iload_n hx hb dX5_openCall_97 rfl (lv_at hl 2 rfl) ?_
      refine va_iast hx hb hK hP hD hS 3 1 rfl rfl (vp_in_iff.mpr ⟨by omega, by omega⟩) dX5_openCall_98 (fun H locs hP hD hS => ?_)
      obtain ⟨f_14, ef_14⟩ : ∃ gz9 : Nat → Int32, gz9 = upd gkk (Int32.toNatClampNeg on) bk := ⟨_, rfl⟩
      rw [← ef_14] at hP hD
      have hP : va_P (dC, dI) vwCl [(h0, .inr (5, [.ref mp, .ref gco, .ref mce, .int mcn, .ref sk, .int x_12, .int x_8, .ref kb, .ref kk, .ref ks, .int on, .ref sh, .int sn, .int mat, .int alw, .int st, .int mo, .int mh, .int sp, .long re])), (mp, .inr (9, [.ref gco, .ref gar, .ref gki, .ref gfu])), (kb, .inl (kb1, 100, .inl f_13)), (kk, .inl (kk1, 100, .inl f_14)), (ks, .inl (ks1, 100, .inl gks)), (gfu, .inr (3, [.ref fw, .ref fe, .ref ff, .int fz])), (fw, .inl (f1, 30, .inr (.inl fgw))), (fe, .inl (f2, 30, .inl fge)), (ff, .inl (f3, 150, .inl fgf))] H := hP
      have hD : va_D A [(h0, .inr (5, [.ref mp, .ref gco, .ref mce, .int mcn, .ref sk, .int x_12, .int x_8, .ref kb, .ref kk, .ref ks, .int on, .ref sh, .int sn, .int mat, .int alw, .int st, .int mo, .int mh, .int sp, .long re])), (mp, .inr (9, [.ref gco, .ref gar, .ref gki, .ref gfu])), (kb, .inl (kb1, 100, .inl f_13)), (kk, .inl (kk1, 100, .inl f_14)), (ks, .inl (ks1, 100, .inl gks)), (gfu, .inr (3, [.ref fw, .ref fe, .ref ff, .int fz])), (fw, .inl (f1, 30, .inr (.inl fgw))), (fe, .inl (f2, 30, .inl fge)), (ff, .inl (f3, 150, .inl fgf))] := hD
      refine lv_aload_n hx hb dX5_openCall_99 rfl (lv_at hl 0 rfl) ?_
      refine va_get (D := (dC, dI)) (ci := 5) (v := .ref ks) (C := RX5) (T := TX5) (N := 20) hx hb hA zin_X5 hown hK hP 0 rfl rfl 9 (by decide) (hA _ wi_493) (fun _ h9 => h9) rfl dX5_openCall_100 ?_
      refine lv_aload_n hx hb dX5_openCall_103 rfl (lv_at hl 0 rfl) ?_
      refine va_get (D := (dC, dI)) (ci := 5) (v := .int on) (C := RX5) (T := TX5) (N := 20) hx hb hA zin_X5 hown hK hP 0 rfl rfl 10 (by decide) (hA _ wi_494) (fun _ h9 => h9) rfl dX5_openCall_104 ?_
      refine lv_aload_n hx hb dX5_openCall_107 rfl (lv_at hl 0 rfl) ?_
      refine va_get (D := (dC, dI)) (ci := 5) (v := .int sn) (C := RX5) (T := TX5) (N := 20) hx hb hA zin_X5 hown hK hP 0 rfl rfl 12 (by decide) (hA _ wi_496) (fun _ h9 => h9) rfl dX5_openCall_108 ?_
      refine va_iast hx hb hK hP hD hS 4 2 rfl rfl (vp_in_iff.mpr ⟨by omega, by omega⟩) dX5_openCall_111 (fun H locs hP hD hS => ?_)
      obtain ⟨f_15, ef_15⟩ : ∃ gz9 : Nat → Int32, gz9 = upd gks (Int32.toNatClampNeg on) sn := ⟨_, rfl⟩
      rw [← ef_15] at hP hD
      have hP : va_P (dC, dI) vwCl [(h0, .inr (5, [.ref mp, .ref gco, .ref mce, .int mcn, .ref sk, .int x_12, .int x_8, .ref kb, .ref kk, .ref ks, .int on, .ref sh, .int sn, .int mat, .int alw, .int st, .int mo, .int mh, .int sp, .long re])), (mp, .inr (9, [.ref gco, .ref gar, .ref gki, .ref gfu])), (kb, .inl (kb1, 100, .inl f_13)), (kk, .inl (kk1, 100, .inl f_14)), (ks, .inl (ks1, 100, .inl f_15)), (gfu, .inr (3, [.ref fw, .ref fe, .ref ff, .int fz])), (fw, .inl (f1, 30, .inr (.inl fgw))), (fe, .inl (f2, 30, .inl fge)), (ff, .inl (f3, 150, .inl fgf))] H := hP
      have hD : va_D A [(h0, .inr (5, [.ref mp, .ref gco, .ref mce, .int mcn, .ref sk, .int x_12, .int x_8, .ref kb, .ref kk, .ref ks, .int on, .ref sh, .int sn, .int mat, .int alw, .int st, .int mo, .int mh, .int sp, .long re])), (mp, .inr (9, [.ref gco, .ref gar, .ref gki, .ref gfu])), (kb, .inl (kb1, 100, .inl f_13)), (kk, .inl (kk1, 100, .inl f_14)), (ks, .inl (ks1, 100, .inl f_15)), (gfu, .inr (3, [.ref fw, .ref fe, .ref ff, .int fz])), (fw, .inl (f1, 30, .inr (.inl fgw))), (fe, .inl (f2, 30, .inl fge)), (ff, .inl (f3, 150, .inl fgf))] := hD
      refine lv_aload_n hx hb dX5_openCall_112 rfl (lv_at hl 0 rfl) ?_
      refine lv_dup hx hb dX5_openCall_113 rfl ?_
      refine va_get (D := (dC, dI)) (ci := 5) (v := .int on) (C := RX5) (T := TX5) (N := 20) hx hb hA zin_X5 hown hK hP 0 rfl rfl 10 (by decide) (hA _ wi_494) (fun _ h9 => h9) rfl dX5_openCall_114 ?_
      refine lv_iconst (v := 1) hx hb dX5_openCall_117 (by decide) ?_
      refine lv_iadd hx hb dX5_openCall_118 ?_
      refine lv_topi (fun x_16 ex_16 => ?_)
      have ix_16 : x_16.toInt = on.toInt + 1 := by rw [ex_16]; exact zi_addc (by decide) (by omega) (by omega)
      refine va_put (D := (dC, dI)) (ci := 5) (v := .int x_16) (ty := .int) (C := RX5) (T := TX5) (N := 20) hx hb hA zin_X5 tyX5 tyX5_ok nmX5 hown hK hP hD hS 0 rfl rfl 10 (by decide) (hA _ wi_494) (fun _ h9 => h9) rfl (by decide +kernel) rfl rfl (Nat.le_of_ble_eq_true rfl) dX5_openCall_119 (fun H locs hP hD hS => ?_)
      have hP : va_P (dC, dI) vwCl [(h0, .inr (5, [.ref mp, .ref gco, .ref mce, .int mcn, .ref sk, .int x_12, .int x_8, .ref kb, .ref kk, .ref ks, .int x_16, .ref sh, .int sn, .int mat, .int alw, .int st, .int mo, .int mh, .int sp, .long re])), (mp, .inr (9, [.ref gco, .ref gar, .ref gki, .ref gfu])), (kb, .inl (kb1, 100, .inl f_13)), (kk, .inl (kk1, 100, .inl f_14)), (ks, .inl (ks1, 100, .inl f_15)), (gfu, .inr (3, [.ref fw, .ref fe, .ref ff, .int fz])), (fw, .inl (f1, 30, .inr (.inl fgw))), (fe, .inl (f2, 30, .inl fge)), (ff, .inl (f3, 150, .inl fgf))] H := hP
      have hD : va_D A [(h0, .inr (5, [.ref mp, .ref gco, .ref mce, .int mcn, .ref sk, .int x_12, .int x_8, .ref kb, .ref kk, .ref ks, .int x_16, .ref sh, .int sn, .int mat, .int alw, .int st, .int mo, .int mh, .int sp, .long re])), (mp, .inr (9, [.ref gco, .ref gar, .ref gki, .ref gfu])), (kb, .inl (kb1, 100, .inl f_13)), (kk, .inl (kk1, 100, .inl f_14)), (ks, .inl (ks1, 100, .inl f_15)), (gfu, .inr (3, [.ref fw, .ref fe, .ref ff, .int fz])), (fw, .inl (f1, 30, .inr (.inl fgw))), (fe, .inl (f2, 30, .inl fge)), (ff, .inl (f3, 150, .inl fgf))] := hD
      refine lv_aload_n hx hb dX5_openCall_122 rfl (lv_at hl 0 rfl) ?_
      refine lv_aload_n hx hb dX5_openCall_123 rfl (lv_at hl 0 rfl) ?_
      refine va_get (D := (dC, dI)) (ci := 5) (v := .int mo) (C := RX5) (T := TX5) (N := 20) hx hb hA zin_X5 hown hK hP 0 rfl rfl 16 (by decide) (hA _ wi_501) (fun _ h9 => h9) rfl dX5_openCall_124 ?_
      refine lv_aload_n hx hb dX5_openCall_127 rfl (lv_at hl 0 rfl) ?_
      refine va_get (D := (dC, dI)) (ci := 5) (v := .int x_16) (C := RX5) (T := TX5) (N := 20) hx hb hA zin_X5 hown hK hP 0 rfl rfl 10 (by decide) (hA _ wi_494) (fun _ h9 => h9) rfl dX5_openCall_128 ?_
      refine va_mmax hx hb (by rw [hml]; exact hl.1.symm) hown (hA _ wi_1119) (hA _ wi_431) (hA _ wi_141) (hA _ wi_432) (Nat.le_of_ble_eq_true rfl) (Nat.le_of_ble_eq_true rfl) (Nat.le_of_ble_eq_true rfl) (Nat.le_of_ble_eq_true rfl) dX5_openCall_131 ?_
      refine lv_topi (fun x_17 ex_17 => ?_)
      have ix_17 : x_17.toInt ≥ mo.toInt ∧ x_17.toInt ≥ x_16.toInt ∧ (x_17.toInt = mo.toInt ∨ x_17.toInt = x_16.toInt) := zi_max ex_17 rfl rfl
      refine va_put (D := (dC, dI)) (ci := 5) (v := .int x_17) (ty := .int) (C := RX5) (T := TX5) (N := 20) hx hb hA zin_X5 tyX5 tyX5_ok nmX5 hown hK hP hD hS 0 rfl rfl 16 (by decide) (hA _ wi_501) (fun _ h9 => h9) rfl (by decide +kernel) rfl rfl (Nat.le_of_ble_eq_true rfl) dX5_openCall_134 (fun H locs hP hD hS => ?_)
      have hP : va_P (dC, dI) vwCl [(h0, .inr (5, [.ref mp, .ref gco, .ref mce, .int mcn, .ref sk, .int x_12, .int x_8, .ref kb, .ref kk, .ref ks, .int x_16, .ref sh, .int sn, .int mat, .int alw, .int st, .int x_17, .int mh, .int sp, .long re])), (mp, .inr (9, [.ref gco, .ref gar, .ref gki, .ref gfu])), (kb, .inl (kb1, 100, .inl f_13)), (kk, .inl (kk1, 100, .inl f_14)), (ks, .inl (ks1, 100, .inl f_15)), (gfu, .inr (3, [.ref fw, .ref fe, .ref ff, .int fz])), (fw, .inl (f1, 30, .inr (.inl fgw))), (fe, .inl (f2, 30, .inl fge)), (ff, .inl (f3, 150, .inl fgf))] H := hP
      have hD : va_D A [(h0, .inr (5, [.ref mp, .ref gco, .ref mce, .int mcn, .ref sk, .int x_12, .int x_8, .ref kb, .ref kk, .ref ks, .int x_16, .ref sh, .int sn, .int mat, .int alw, .int st, .int x_17, .int mh, .int sp, .long re])), (mp, .inr (9, [.ref gco, .ref gar, .ref gki, .ref gfu])), (kb, .inl (kb1, 100, .inl f_13)), (kk, .inl (kk1, 100, .inl f_14)), (ks, .inl (ks1, 100, .inl f_15)), (gfu, .inr (3, [.ref fw, .ref fe, .ref ff, .int fz])), (fw, .inl (f1, 30, .inr (.inl fgw))), (fe, .inl (f2, 30, .inl fge)), (ff, .inl (f3, 150, .inl fgf))] := hD
      refine lv_aload_n hx hb dX5_openCall_137 rfl (lv_at hl 0 rfl) ?_
      refine lv_aload_n hx hb dX5_openCall_138 rfl (lv_at hl 0 rfl) ?_
      refine va_get (D := (dC, dI)) (ci := 5) (v := .ref mp) (C := RX5) (T := TX5) (N := 20) hx hb hA zin_X5 hown hK hP 0 rfl rfl 0 (by decide) (hA _ wi_484) (fun _ h9 => h9) rfl dX5_openCall_139 ?_
      refine va_get (D := (dC, dI)) (ci := 9) (v := .ref gfu) (C := RX9) (T := TX9) (N := 4) hx hb hA zin_X9 hown hK hP 1 rfl rfl 3 (by decide) (hA _ wi_324) (fun _ h9 => h9) rfl dX5_openCall_142 ?_
      refine va_get (D := (dC, dI)) (ci := 3) (v := .ref fe) (C := RX3) (T := TX3) (N := 4) hx hb hA zin_X3 hown hK hP 5 rfl rfl 1 (by decide) (hA _ wi_293) (fun _ h9 => h9) rfl dX5_openCall_145 ?_
      refine lv_iload_n hx hb dX5_openCall_148 rfl (lv_at hl 1 rfl) ?_
      refine va_iald hx hb hK hP 7 4 rfl rfl (vp_in_iff.mpr ⟨by omega, by omega⟩) dX5_openCall_149 ?_
      refine lv_topi (fun x_18 ex_18 => ?_)
      refine va_put (D := (dC, dI)) (ci := 5) (v := .int x_18) (ty := .int) (C := RX5) (T := TX5) (N := 20) hx hb hA zin_X5 tyX5 tyX5_ok nmX5 hown hK hP hD hS 0 rfl rfl 13 (by decide) (hA _ wi_497) (fun _ h9 => h9) rfl (by decide +kernel) rfl rfl (Nat.le_of_ble_eq_true rfl) dX5_openCall_150 (fun H locs hP hD hS => ?_)
      have hP : va_P (dC, dI) vwCl [(h0, .inr (5, [.ref mp, .ref gco, .ref mce, .int mcn, .ref sk, .int x_12, .int x_8, .ref kb, .ref kk, .ref ks, .int x_16, .ref sh, .int sn, .int x_18, .int alw, .int st, .int x_17, .int mh, .int sp, .long re])), (mp, .inr (9, [.ref gco, .ref gar, .ref gki, .ref gfu])), (kb, .inl (kb1, 100, .inl f_13)), (kk, .inl (kk1, 100, .inl f_14)), (ks, .inl (ks1, 100, .inl f_15)), (gfu, .inr (3, [.ref fw, .ref fe, .ref ff, .int fz])), (fw, .inl (f1, 30, .inr (.inl fgw))), (fe, .inl (f2, 30, .inl fge)), (ff, .inl (f3, 150, .inl fgf))] H := hP
      have hD : va_D A [(h0, .inr (5, [.ref mp, .ref gco, .ref mce, .int mcn, .ref sk, .int x_12, .int x_8, .ref kb, .ref kk, .ref ks, .int x_16, .ref sh, .int sn, .int x_18, .int alw, .int st, .int x_17, .int mh, .int sp, .long re])), (mp, .inr (9, [.ref gco, .ref gar, .ref gki, .ref gfu])), (kb, .inl (kb1, 100, .inl f_13)), (kk, .inl (kk1, 100, .inl f_14)), (ks, .inl (ks1, 100, .inl f_15)), (gfu, .inr (3, [.ref fw, .ref fe, .ref ff, .int fz])), (fw, .inl (f1, 30, .inr (.inl fgw))), (fe, .inl (f2, 30, .inl fge)), (ff, .inl (f3, 150, .inl fgf))] := hD
      have hP9 := hP.sub (ws' := [(h0, .inr (5, [.ref mp, .ref gco, .ref mce, .int mcn, .ref sk, .int x_12, .int x_8, .ref kb, .ref kk, .ref ks, .int x_16, .ref sh, .int sn, .int x_18, .int alw, .int st, .int x_17, .int mh, .int sp, .long re])), (mp, .inr (9, [.ref gco, .ref gar, .ref gki, .ref gfu])), (kb, .inl (kb1, 100, .inl f_13)), (kk, .inl (kk1, 100, .inl f_14)), (ks, .inl (ks1, 100, .inl f_15)), (gfu, .inr (3, [.ref fw, .ref fe, .ref ff, .int fz])), (fw, .inl (f1, 30, .inr (.inl fgw))), (fe, .inl (f2, 30, .inl fge)), (ff, .inl (f3, 150, .inl fgf))]) [0, 1, 2, 3, 4, 5, 6, 7, 8] rfl
      have hD9 := hD.sub (ws' := [(h0, .inr (5, [.ref mp, .ref gco, .ref mce, .int mcn, .ref sk, .int x_12, .int x_8, .ref kb, .ref kk, .ref ks, .int x_16, .ref sh, .int sn, .int x_18, .int alw, .int st, .int x_17, .int mh, .int sp, .long re])), (mp, .inr (9, [.ref gco, .ref gar, .ref gki, .ref gfu])), (kb, .inl (kb1, 100, .inl f_13)), (kk, .inl (kk1, 100, .inl f_14)), (ks, .inl (ks1, 100, .inl f_15)), (gfu, .inr (3, [.ref fw, .ref fe, .ref ff, .int fz])), (fw, .inl (f1, 30, .inr (.inl fgw))), (fe, .inl (f2, 30, .inl fge)), (ff, .inl (f3, 150, .inl fgf))]) [0, 1, 2, 3, 4, 5, 6, 7, 8] (by decide) rfl
      have hK9 := hK.sub (tys' := [(kb1, .int), (kk1, .int), (ks1, .int), (f1, .long), (f2, .int), (f3, .int)]) [0, 1, 2, 3, 4, 5] rfl
      exact W.vret hx hb hr (fun t ht hW => ⟨⟨(x_16, x_8, x_12, x_18, x_17, f_13, f_14, f_15), rfl, ⟨by omega, by omega, by omega, ef_13, ef_14, ef_15, ex_18⟩, by rw [ht]; exact hP9, va_K.moved hW.alike hK9, hD9⟩, hS.F ht⟩) hS.2.2 dX5_openCall_153
    · have ic_4 : r_2.toInt = 0 := zi_eq c_4
      exfalso
      omega
set_option maxHeartbeats 4000000 in
set_option maxRecDepth 100000 in
theorem c_X5_call (l : Launch) (dC : Nat → ClassId) (dI : Nat → Nat → Nat) (aK aV : Nat → Nat) (h0 : Nat) (mp : Nat) (gco : Nat) (mce : Nat) (sk : Nat) (kb : Nat) (kk : Nat) (ks : Nat) (sh : Nat) (mcn : Int32) (tp : Int32) (ba : Int32) (on : Int32) (sn : Int32) (mat : Int32) (alw : Int32) (st : Int32) (mo : Int32) (mh : Int32) (sp : Int32) (re : Int64) (gar : Nat) (gki : Nat) (gfu : Nat) (kb1 : ClassId) (kk1 : ClassId) (ks1 : ClassId) (gkb : Nat → Int32) (gkk : Nat → Int32) (gks : Nat → Int32) (fw : Nat) (fe : Nat) (ff : Nat) (f1 : ClassId) (f2 : ClassId) (f3 : ClassId) (fz : Int32) (fgw : Nat → Int64) (fge : Nat → Int32) (fgf : Nat → Int32) (cop : Nat) (ca : Nat) (cb : Nat) (cplace : Nat) (cnext : Nat) (cneeded : Nat) (cz : Int32) (ct : Int32) (cka : ClassId) (ckplace : ClassId) (cknext : ClassId) (cga : Nat → Int32) (cgplace : Nat → Int32) (cgnext : Nat → Int32) (ro : Int32) (td : Int) (nmz : Int) (sz : Nat) (hr0 : 0 ≤ ro.toInt) (hr1 : ro.toInt < 3000) (hon0 : 0 ≤ on.toInt) (hfz0 : 0 ≤ fz.toInt) (hfz1 : fz.toInt ≤ 30) (htd0 : 0 ≤ td) (htd1 : td ≤ tp.toInt) (hnm0 : 0 ≤ nmz) (hnm1 : nmz ≤ 24) (htp1 : tp.toInt - td + nmz ≤ 22424) (hsn0 : 0 ≤ sn.toInt) (hu : 0 ≤ (cga (Int32.toNatClampNeg ro)).toInt ∧ (cga (Int32.toNatClampNeg ro)).toInt < fz.toInt) (htd : (fgf (5 * Int32.toNatClampNeg (cga (Int32.toNatClampNeg ro)))).toInt = td) (hnm : (fgf (5 * Int32.toNatClampNeg (cga (Int32.toNatClampNeg ro)) + 1)).toInt = nmz) : Met l yX5_call (Cond.code yX5_call cX5_call 2 none :: zw) ({ frames := 14, cells := 0, slots := 0, locals := 500 }) (va_Pc [.ref h0, .int ro] (zP dC dI aK aV sz [(kb1, .int), (kk1, .int), (ks1, .int), (f1, .long), (f2, .int), (f3, .int), (cka, .int), (ckplace, .int), (cknext, .int)] [(h0, .inr (5, [.ref mp, .ref gco, .ref mce, .int mcn, .ref sk, .int tp, .int ba, .ref kb, .ref kk, .ref ks, .int on, .ref sh, .int sn, .int mat, .int alw, .int st, .int mo, .int mh, .int sp, .long re])), (mp, .inr (9, [.ref gco, .ref gar, .ref gki, .ref gfu])), (kb, .inl (kb1, 100, .inl gkb)), (kk, .inl (kk1, 100, .inl gkk)), (ks, .inl (ks1, 100, .inl gks)), (gfu, .inr (3, [.ref fw, .ref fe, .ref ff, .int fz])), (fw, .inl (f1, 30, .inr (.inl fgw))), (fe, .inl (f2, 30, .inl fge)), (ff, .inl (f3, 150, .inl fgf)), (gco, .inr (2, [.ref cop, .ref ca, .ref cb, .ref cplace, .ref cnext, .ref cneeded, .int cz, .int ct])), (ca, .inl (cka, 3000, .inl cga)), (cplace, .inl (ckplace, 3000, .inl cgplace)), (cnext, .inl (cknext, 3000, .inl cgnext))])) (va_Qv (fun u : Int32 × Int32 × Int32 × Int32 × Int32 × Int32 × Int32 × (Nat → Int32) × (Nat → Int32) × (Nat → Int32) => match u with | (mh2, sp2, on2, ba2, tp2, mat2, mo2, gkb2, gkk2, gks2) => (mh2.toInt = 4 ∧ 100 ≤ on.toInt ∨ (mh2.toInt = mh.toInt ∧ on.toInt < 100 ∧ on2.toInt = on.toInt + 1 ∧ ba2.toInt = tp.toInt - td ∧ tp2.toInt = ba2.toInt + nmz) ∧ gkb2 = upd gkb (Int32.toNatClampNeg on) ba2 ∧ gkk2 = upd gkk (Int32.toNatClampNeg on) (cgnext (Int32.toNatClampNeg ro)) ∧ gks2 = upd gks (Int32.toNatClampNeg on) sn ∧ mat2 = fge (Int32.toNatClampNeg (cga (Int32.toNatClampNeg ro)))) ∧ (cSpl (cgplace (Int32.toNatClampNeg ro)) sp mh sp2 mh2)) (fun u => match u with | (mh2, sp2, on2, ba2, tp2, mat2, mo2, gkb2, gkk2, gks2) => zQ dC dI (va_A [(h0, .inr (5, [.ref mp, .ref gco, .ref mce, .int mcn, .ref sk, .int tp, .int ba, .ref kb, .ref kk, .ref ks, .int on, .ref sh, .int sn, .int mat, .int alw, .int st, .int mo, .int mh, .int sp, .long re])), (mp, .inr (9, [.ref gco, .ref gar, .ref gki, .ref gfu])), (kb, .inl (kb1, 100, .inl gkb)), (kk, .inl (kk1, 100, .inl gkk)), (ks, .inl (ks1, 100, .inl gks)), (gfu, .inr (3, [.ref fw, .ref fe, .ref ff, .int fz])), (fw, .inl (f1, 30, .inr (.inl fgw))), (fe, .inl (f2, 30, .inl fge)), (ff, .inl (f3, 150, .inl fgf)), (gco, .inr (2, [.ref cop, .ref ca, .ref cb, .ref cplace, .ref cnext, .ref cneeded, .int cz, .int ct])), (ca, .inl (cka, 3000, .inl cga)), (cplace, .inl (ckplace, 3000, .inl cgplace)), (cnext, .inl (cknext, 3000, .inl cgnext))] sz) [(kb1, .int), (kk1, .int), (ks1, .int), (f1, .long), (f2, .int), (f3, .int), (cka, .int), (ckplace, .int), (cknext, .int)] [(h0, .inr (5, [.ref mp, .ref gco, .ref mce, .int mcn, .ref sk, .int tp2, .int ba2, .ref kb, .ref kk, .ref ks, .int on2, .ref sh, .int sn, .int mat2, .int alw, .int st, .int mo2, .int mh2, .int sp2, .long re])), (mp, .inr (9, [.ref gco, .ref gar, .ref gki, .ref gfu])), (kb, .inl (kb1, 100, .inl gkb2)), (kk, .inl (kk1, 100, .inl gkk2)), (ks, .inl (ks1, 100, .inl gks2)), (gfu, .inr (3, [.ref fw, .ref fe, .ref ff, .int fz])), (fw, .inl (f1, 30, .inr (.inl fgw))), (fe, .inl (f2, 30, .inl fge)), (ff, .inl (f3, 150, .inl fgf)), (gco, .inr (2, [.ref cop, .ref ca, .ref cb, .ref cplace, .ref cnext, .ref cneeded, .int cz, .int ct])), (ca, .inl (cka, 3000, .inl cga)), (cplace, .inl (ckplace, 3000, .inl cgplace)), (cnext, .inl (cknext, 3000, .inl cgnext))]) (va_A [(h0, .inr (5, [.ref mp, .ref gco, .ref mce, .int mcn, .ref sk, .int tp, .int ba, .ref kb, .ref kk, .ref ks, .int on, .ref sh, .int sn, .int mat, .int alw, .int st, .int mo, .int mh, .int sp, .long re])), (mp, .inr (9, [.ref gco, .ref gar, .ref gki, .ref gfu])), (kb, .inl (kb1, 100, .inl gkb)), (kk, .inl (kk1, 100, .inl gkk)), (ks, .inl (ks1, 100, .inl gks)), (gfu, .inr (3, [.ref fw, .ref fe, .ref ff, .int fz])), (fw, .inl (f1, 30, .inr (.inl fgw))), (fe, .inl (f2, 30, .inl fge)), (ff, .inl (f3, 150, .inl fgf)), (gco, .inr (2, [.ref cop, .ref ca, .ref cb, .ref cplace, .ref cnext, .ref cneeded, .int cz, .int ct])), (ca, .inl (cka, 3000, .inl cga)), (cplace, .inl (ckplace, 3000, .inl cgplace)), (cnext, .inl (cknext, 3000, .inl cgnext))] sz)) 0 0 (va_A [(h0, .inr (5, [.ref mp, .ref gco, .ref mce, .int mcn, .ref sk, .int tp, .int ba, .ref kb, .ref kk, .ref ks, .int on, .ref sh, .int sn, .int mat, .int alw, .int st, .int mo, .int mh, .int sp, .long re])), (mp, .inr (9, [.ref gco, .ref gar, .ref gki, .ref gfu])), (kb, .inl (kb1, 100, .inl gkb)), (kk, .inl (kk1, 100, .inl gkk)), (ks, .inl (ks1, 100, .inl gks)), (gfu, .inr (3, [.ref fw, .ref fe, .ref ff, .int fz])), (fw, .inl (f1, 30, .inr (.inl fgw))), (fe, .inl (f2, 30, .inl fge)), (ff, .inl (f3, 150, .inl fgf)), (gco, .inr (2, [.ref cop, .ref ca, .ref cb, .ref cplace, .ref cnext, .ref cneeded, .int cz, .int ct])), (ca, .inl (cka, 3000, .inl cga)), (cplace, .inl (ckplace, 3000, .inl cgplace)), (cnext, .inl (cknext, 3000, .inl cgnext))] sz) := by
  refine Met.ofW (cc := cX5_call) (maxL := 2) (ret := none) (by decide) rfl ?_
  intro p e s m args below meth c s₁ B hml hv
  obtain ⟨rfl, hsz, hP, hK, hD0, hN, hT⟩ := hv
  have hx := B.exec
  have hb := B.bytes
  have hr := B.returns
  have hts := atoms_spec (ws := Cond.code yX5_call cX5_call 2 none :: zw) B.pre
  have hA : ∀ w ∈ zw, w.before _ s = true := fun w h => hts w (List.mem_cons_of_mem _ h)
  have hown : s.vm.findClass RX5 = some m.cls := findClass_of_methodNamed B.named
  have hlocks := B.notSynchronized
  subst hsz
  have hD := hD0.self (sz := s.heap.size)
  generalize hAe : va_A [(h0, .inr (5, [.ref mp, .ref gco, .ref mce, .int mcn, .ref sk, .int tp, .int ba, .ref kb, .ref kk, .ref ks, .int on, .ref sh, .int sn, .int mat, .int alw, .int st, .int mo, .int mh, .int sp, .long re])), (mp, .inr (9, [.ref gco, .ref gar, .ref gki, .ref gfu])), (kb, .inl (kb1, 100, .inl gkb)), (kk, .inl (kk1, 100, .inl gkk)), (ks, .inl (ks1, 100, .inl gks)), (gfu, .inr (3, [.ref fw, .ref fe, .ref ff, .int fz])), (fw, .inl (f1, 30, .inr (.inl fgw))), (fe, .inl (f2, 30, .inl fge)), (ff, .inl (f3, 150, .inl fgf)), (gco, .inr (2, [.ref cop, .ref ca, .ref cb, .ref cplace, .ref cnext, .ref cneeded, .int cz, .int ct])), (ca, .inl (cka, 3000, .inl cga)), (cplace, .inl (ckplace, 3000, .inl cgplace)), (cnext, .inl (cknext, 3000, .inl cgnext))] s.heap.size = A at hD hT ⊢
  have hAA : ∀ q : Nat, s.heap.size ≤ q → A q := fun q h => by rw [← hAe]; exact Or.inr h
  have hS : va_S A s.heap s.heap [] := va_S.rf
  have hl := lv_entry ([.ref h0, .int ro]) (n := 2) (Nat.le_of_ble_eq_true rfl)
  rw [lg_entry_eq]
  generalize (lg_sl ([.ref h0, .int ro]) ++ List.replicate (2 - (lg_sl ([.ref h0, .int ro])).length) Slot.unset).toArray = ls at hl ⊢
  have hl : lv_has ls 2 [(0, .ref h0), (1, .int ro)] := hl
  refine lv_aload_n hx hb dX5_call_0 rfl (lv_at hl 0 rfl) ?_
  refine va_get (D := (dC, dI)) (ci := 5) (v := .int on) (C := RX5) (T := TX5) (N := 20) hx hb hA zin_X5 hown hK hP 0 rfl rfl 10 (by decide) (hA _ wi_494) (fun _ h9 => h9) rfl dX5_call_1 ?_
  refine lv_bipush (v := 100) hx hb dX5_call_4 (by decide) ?_
  refine lv_icmp_lt (tgt := 18) hx hb dX5_call_6 (by decide) (fun c_1 => ?_) (fun c_1 => ?_)
  · have ic_1 : on.toInt < 100 := zi_lt c_1
    refine lv_aload_n hx hb dX5_call_18 rfl (lv_at hl 0 rfl) ?_
    refine lv_aload_n hx hb dX5_call_19 rfl (lv_at hl 0 rfl) ?_
    refine va_get (D := (dC, dI)) (ci := 5) (v := .ref gco) (C := RX5) (T := TX5) (N := 20) hx hb hA zin_X5 hown hK hP 0 rfl rfl 1 (by decide) (hA _ wi_485) (fun _ h9 => h9) rfl dX5_call_20 ?_
    refine va_get (D := (dC, dI)) (ci := 2) (v := .ref ca) (C := RX2) (T := TX2) (N := 8) hx hb hA zin_X2 hown hK hP 9 rfl rfl 1 (by decide) (hA _ wi_182) (fun _ h9 => h9) rfl dX5_call_23 ?_
    refine lv_iload_n hx hb dX5_call_26 rfl (lv_at hl 1 rfl) ?_
    refine va_iald hx hb hK hP 10 6 rfl rfl (vp_in_iff.mpr ⟨by omega, by omega⟩) dX5_call_27 ?_
    refine lv_topi (fun x_2 ex_2 => ?_)
    have ix_2 : 0 ≤ x_2.toInt ∧ x_2.toInt < fz.toInt := by rw [ex_2]; exact hu
    refine lv_aload_n hx hb dX5_call_28 rfl (lv_at hl 0 rfl) ?_
    refine va_get (D := (dC, dI)) (ci := 5) (v := .ref gco) (C := RX5) (T := TX5) (N := 20) hx hb hA zin_X5 hown hK hP 0 rfl rfl 1 (by decide) (hA _ wi_485) (fun _ h9 => h9) rfl dX5_call_29 ?_
    refine va_get (D := (dC, dI)) (ci := 2) (v := .ref cnext) (C := RX2) (T := TX2) (N := 8) hx hb hA zin_X2 hown hK hP 9 rfl rfl 4 (by decide) (hA _ wi_193) (fun _ h9 => h9) rfl dX5_call_32 ?_
    refine lv_iload_n hx hb dX5_call_35 rfl (lv_at hl 1 rfl) ?_
    refine va_iald hx hb hK hP 12 8 rfl rfl (vp_in_iff.mpr ⟨by omega, by omega⟩) dX5_call_36 ?_
    refine lv_topi (fun x_3 ex_3 => ?_)
    have hPc := hP.sub (ws' := [(h0, .inr (5, [.ref mp, .ref gco, .ref mce, .int mcn, .ref sk, .int tp, .int ba, .ref kb, .ref kk, .ref ks, .int on, .ref sh, .int sn, .int mat, .int alw, .int st, .int mo, .int mh, .int sp, .long re])), (mp, .inr (9, [.ref gco, .ref gar, .ref gki, .ref gfu])), (kb, .inl (kb1, 100, .inl gkb)), (kk, .inl (kk1, 100, .inl gkk)), (ks, .inl (ks1, 100, .inl gks)), (gfu, .inr (3, [.ref fw, .ref fe, .ref ff, .int fz])), (fw, .inl (f1, 30, .inr (.inl fgw))), (fe, .inl (f2, 30, .inl fge)), (ff, .inl (f3, 150, .inl fgf))]) [0, 1, 2, 3, 4, 5, 6, 7, 8] rfl
    have hDc := hD.sub (ws' := [(h0, .inr (5, [.ref mp, .ref gco, .ref mce, .int mcn, .ref sk, .int tp, .int ba, .ref kb, .ref kk, .ref ks, .int on, .ref sh, .int sn, .int mat, .int alw, .int st, .int mo, .int mh, .int sp, .long re])), (mp, .inr (9, [.ref gco, .ref gar, .ref gki, .ref gfu])), (kb, .inl (kb1, 100, .inl gkb)), (kk, .inl (kk1, 100, .inl gkk)), (ks, .inl (ks1, 100, .inl gks)), (gfu, .inr (3, [.ref fw, .ref fe, .ref ff, .int fz])), (fw, .inl (f1, 30, .inr (.inl fgw))), (fe, .inl (f2, 30, .inl fge)), (ff, .inl (f3, 150, .inl fgf))]) [0, 1, 2, 3, 4, 5, 6, 7, 8] (by decide) rfl
    have hKc := hK.sub (tys' := [(kb1, .int), (kk1, .int), (ks1, .int), (f1, .long), (f2, .int), (f3, .int)]) [0, 1, 2, 3, 4, 5] rfl
    have hFc := va_free (wc := [(h0, .inr (5, [.ref mp, .ref gco, .ref mce, .int mcn, .ref sk, .int tp, .int ba, .ref kb, .ref kk, .ref ks, .int on, .ref sh, .int sn, .int mat, .int alw, .int st, .int mo, .int mh, .int sp, .long re])), (mp, .inr (9, [.ref gco, .ref gar, .ref gki, .ref gfu])), (kb, .inl (kb1, 100, .inl gkb)), (kk, .inl (kk1, 100, .inl gkk)), (ks, .inl (ks1, 100, .inl gks)), (gfu, .inr (3, [.ref fw, .ref fe, .ref ff, .int fz])), (fw, .inl (f1, 30, .inr (.inl fgw))), (fe, .inl (f2, 30, .inl fge)), (ff, .inl (f3, 150, .inl fgf))]) hD hS hAA [0, 1, 2, 3, 4, 5, 6, 7, 8] rfl
    refine va_callv (va_runV (As := [.int x_2, .int x_3]) (rest := []) ⟨hx, hb, hml, hown, hA⟩ (c_X5_openCall l dC dI aK aV h0 mp gco mce sk kb kk ks sh mcn tp ba on sn mat alw st mo mh sp re gar gki gfu kb1 kk1 ks1 gkb gkk gks fw fe ff f1 f2 f3 fz fgw fge fgf x_2 x_3 td nmz s.heap.size (by omega) (by omega) (by omega) (by omega) (by omega) (by omega) (by omega) (by omega) (by omega) (by omega) (by omega) (by omega) (by rw [ex_2]; exact htd) (by rw [ex_2]; exact hnm)) (cwV 2 hA (zw_V wi_1113 wi_1115 wi_41 wi_139 (zw_good wi_1116)) rfl rfl rfl (by decide +kernel) ⟨(Nat.le_of_ble_eq_true rfl), (Nat.le_of_ble_eq_true rfl)⟩) ⟨zP_blind, va_recv hKc hPc (ci := 5) (q0 := 0) rfl rfl, zz_pre hKc hPc hDc hN hT hS hFc⟩ rfl rfl hl.1 rfl (lv_room (Nat.le_of_ble_eq_true rfl)) dX5_call_37 ⟨(Nat.le_of_ble_eq_true rfl), (Nat.le_of_ble_eq_true rfl)⟩) hS (fun q _ h => hFc q h) hFc (fun u t H1 locs ht hvm hw hB hz1 hk1 hS => ?_)
    obtain ⟨on_5, ba_6, tp_7, mat_8, mo_9, gkb_10, gkk_11, gks_12⟩ := u
    obtain ⟨hP1, hK1, hD1⟩ := hB
    rw [ht] at hP1
    have hK1 := va_K.moved hvm.symm hK1
    obtain ⟨hP, hD⟩ := va_join (wr := [(gco, .inr (2, [.ref cop, .ref ca, .ref cb, .ref cplace, .ref cnext, .ref cneeded, .int cz, .int ct])), (ca, .inl (cka, 3000, .inl cga)), (cplace, .inl (ckplace, 3000, .inl cgplace)), (cnext, .inl (cknext, 3000, .inl cgnext))]) (w1 := [(h0, .inr (5, [.ref mp, .ref gco, .ref mce, .int mcn, .ref sk, .int tp_7, .int ba_6, .ref kb, .ref kk, .ref ks, .int on_5, .ref sh, .int sn, .int mat_8, .int alw, .int st, .int mo_9, .int mh, .int sp, .long re])), (mp, .inr (9, [.ref gco, .ref gar, .ref gki, .ref gfu])), (kb, .inl (kb1, 100, .inl gkb_10)), (kk, .inl (kk1, 100, .inl gkk_11)), (ks, .inl (ks1, 100, .inl gks_12)), (gfu, .inr (3, [.ref fw, .ref fe, .ref ff, .int fz])), (fw, .inl (f1, 30, .inr (.inl fgw))), (fe, .inl (f2, 30, .inl fge)), (ff, .inl (f3, 150, .inl fgf))]) hP hD [0, 1, 2, 3, 4, 5, 6, 7, 8] [9, 10, 11, 12] rfl rfl (by decide) (by decide) hk1 hFc hP1 hD1
    have hK := (hK.sub (tys' := [(cka, .int), (ckplace, .int), (cknext, .int)]) [6, 7, 8] rfl).app hK1
    generalize H1 = H at hP hS ⊢
    have hP : va_P (dC, dI) vwCl [(gco, .inr (2, [.ref cop, .ref ca, .ref cb, .ref cplace, .ref cnext, .ref cneeded, .int cz, .int ct])), (ca, .inl (cka, 3000, .inl cga)), (cplace, .inl (ckplace, 3000, .inl cgplace)), (cnext, .inl (cknext, 3000, .inl cgnext)), (h0, .inr (5, [.ref mp, .ref gco, .ref mce, .int mcn, .ref sk, .int tp_7, .int ba_6, .ref kb, .ref kk, .ref ks, .int on_5, .ref sh, .int sn, .int mat_8, .int alw, .int st, .int mo_9, .int mh, .int sp, .long re])), (mp, .inr (9, [.ref gco, .ref gar, .ref gki, .ref gfu])), (kb, .inl (kb1, 100, .inl gkb_10)), (kk, .inl (kk1, 100, .inl gkk_11)), (ks, .inl (ks1, 100, .inl gks_12)), (gfu, .inr (3, [.ref fw, .ref fe, .ref ff, .int fz])), (fw, .inl (f1, 30, .inr (.inl fgw))), (fe, .inl (f2, 30, .inl fge)), (ff, .inl (f3, 150, .inl fgf))] H := hP
    have hD : va_D A [(gco, .inr (2, [.ref cop, .ref ca, .ref cb, .ref cplace, .ref cnext, .ref cneeded, .int cz, .int ct])), (ca, .inl (cka, 3000, .inl cga)), (cplace, .inl (ckplace, 3000, .inl cgplace)), (cnext, .inl (cknext, 3000, .inl cgnext)), (h0, .inr (5, [.ref mp, .ref gco, .ref mce, .int mcn, .ref sk, .int tp_7, .int ba_6, .ref kb, .ref kk, .ref ks, .int on_5, .ref sh, .int sn, .int mat_8, .int alw, .int st, .int mo_9, .int mh, .int sp, .long re])), (mp, .inr (9, [.ref gco, .ref gar, .ref gki, .ref gfu])), (kb, .inl (kb1, 100, .inl gkb_10)), (kk, .inl (kk1, 100, .inl gkk_11)), (ks, .inl (ks1, 100, .inl gks_12)), (gfu, .inr (3, [.ref fw, .ref fe, .ref ff, .int fz])), (fw, .inl (f1, 30, .inr (.inl fgw))), (fe, .inl (f2, 30, .inl fge)), (ff, .inl (f3, 150, .inl fgf))] := hD
    have hK : va_K (dC, dI) vwCl [(cka, .int), (ckplace, .int), (cknext, .int), (kb1, .int), (kk1, .int), (ks1, .int), (f1, .long), (f2, .int), (f3, .int)] s := hK
    obtain ⟨hq_13, hq_14, hq_15, hq_16, hq_17, hq_18, hq_19⟩ := hw
    have hP9 := hP.sub (ws' := [(h0, .inr (5, [.ref mp, .ref gco, .ref mce, .int mcn, .ref sk, .int tp_7, .int ba_6, .ref kb, .ref kk, .ref ks, .int on_5, .ref sh, .int sn, .int mat_8, .int alw, .int st, .int mo_9, .int mh, .int sp, .long re])), (mp, .inr (9, [.ref gco, .ref gar, .ref gki, .ref gfu])), (kb, .inl (kb1, 100, .inl gkb_10)), (kk, .inl (kk1, 100, .inl gkk_11)), (ks, .inl (ks1, 100, .inl gks_12)), (gfu, .inr (3, [.ref fw, .ref fe, .ref ff, .int fz])), (fw, .inl (f1, 30, .inr (.inl fgw))), (fe, .inl (f2, 30, .inl fge)), (ff, .inl (f3, 150, .inl fgf)), (gco, .inr (2, [.ref cop, .ref ca, .ref cb, .ref cplace, .ref cnext, .ref cneeded, .int cz, .int ct])), (ca, .inl (cka, 3000, .inl cga)), (cplace, .inl (ckplace, 3000, .inl cgplace)), (cnext, .inl (cknext, 3000, .inl cgnext))]) [4, 5, 6, 7, 8, 9, 10, 11, 12, 0, 1, 2, 3] rfl
    have hD9 := hD.sub (ws' := [(h0, .inr (5, [.ref mp, .ref gco, .ref mce, .int mcn, .ref sk, .int tp_7, .int ba_6, .ref kb, .ref kk, .ref ks, .int on_5, .ref sh, .int sn, .int mat_8, .int alw, .int st, .int mo_9, .int mh, .int sp, .long re])), (mp, .inr (9, [.ref gco, .ref gar, .ref gki, .ref gfu])), (kb, .inl (kb1, 100, .inl gkb_10)), (kk, .inl (kk1, 100, .inl gkk_11)), (ks, .inl (ks1, 100, .inl gks_12)), (gfu, .inr (3, [.ref fw, .ref fe, .ref ff, .int fz])), (fw, .inl (f1, 30, .inr (.inl fgw))), (fe, .inl (f2, 30, .inl fge)), (ff, .inl (f3, 150, .inl fgf)), (gco, .inr (2, [.ref cop, .ref ca, .ref cb, .ref cplace, .ref cnext, .ref cneeded, .int cz, .int ct])), (ca, .inl (cka, 3000, .inl cga)), (cplace, .inl (ckplace, 3000, .inl cgplace)), (cnext, .inl (cknext, 3000, .inl cgnext))]) [4, 5, 6, 7, 8, 9, 10, 11, 12, 0, 1, 2, 3] (by decide) rfl
    have hK9 := hK.sub (tys' := [(kb1, .int), (kk1, .int), (ks1, .int), (f1, .long), (f2, .int), (f3, .int), (cka, .int), (ckplace, .int), (cknext, .int)]) [3, 4, 5, 6, 7, 8, 0, 1, 2] rfl
    exact W.vret hx hb hr (fun t ht hW => ⟨⟨(mh, sp, on_5, ba_6, tp_7, mat_8, mo_9, gkb_10, gkk_11, gks_12), rfl, ⟨(Or.inr ⟨⟨by omega, by omega, hq_13, hq_14, hq_15⟩, hq_16, by rw [hq_17, ex_3], hq_18, by rw [hq_19, ex_2]⟩), cSpl_0⟩, by rw [ht]; exact hP9, va_K.moved hW.alike hK9, hD9⟩, hS.F ht⟩) hS.2.2 dX5_call_40
  · have ic_1 : 100 ≤ on.toInt := zi_nlt c_1
    refine lv_aload_n hx hb dX5_call_9 rfl (lv_at hl 0 rfl) ?_
    refine lv_iconst (v := 4) hx hb dX5_call_10 (by decide) ?_
    refine lv_iload_n hx hb dX5_call_11 rfl (lv_at hl 1 rfl) ?_
    have hPc := hP.sub (ws' := [(h0, .inr (5, [.ref mp, .ref gco, .ref mce, .int mcn, .ref sk, .int tp, .int ba, .ref kb, .ref kk, .ref ks, .int on, .ref sh, .int sn, .int mat, .int alw, .int st, .int mo, .int mh, .int sp, .long re])), (gco, .inr (2, [.ref cop, .ref ca, .ref cb, .ref cplace, .ref cnext, .ref cneeded, .int cz, .int ct])), (cplace, .inl (ckplace, 3000, .inl cgplace))]) [0, 9, 11] rfl
    have hDc := hD.sub (ws' := [(h0, .inr (5, [.ref mp, .ref gco, .ref mce, .int mcn, .ref sk, .int tp, .int ba, .ref kb, .ref kk, .ref ks, .int on, .ref sh, .int sn, .int mat, .int alw, .int st, .int mo, .int mh, .int sp, .long re])), (gco, .inr (2, [.ref cop, .ref ca, .ref cb, .ref cplace, .ref cnext, .ref cneeded, .int cz, .int ct])), (cplace, .inl (ckplace, 3000, .inl cgplace))]) [0, 9, 11] (by decide) rfl
    have hKc := hK.sub (tys' := [(ckplace, .int)]) [7] rfl
    have hFc := va_free (wc := [(h0, .inr (5, [.ref mp, .ref gco, .ref mce, .int mcn, .ref sk, .int tp, .int ba, .ref kb, .ref kk, .ref ks, .int on, .ref sh, .int sn, .int mat, .int alw, .int st, .int mo, .int mh, .int sp, .long re])), (gco, .inr (2, [.ref cop, .ref ca, .ref cb, .ref cplace, .ref cnext, .ref cneeded, .int cz, .int ct])), (cplace, .inl (ckplace, 3000, .inl cgplace))]) hD hS hAA [0, 9, 11] rfl
    refine va_callv (va_runV (As := [.int 4, .int ro]) (rest := []) ⟨hx, hb, hml, hown, hA⟩ (c_X5_stop l dC dI aK aV h0 mp gco mce sk kb kk ks sh mcn tp ba on sn mat alw st mo mh sp re cop ca cb cplace cnext cneeded cz ct ckplace cgplace 4 ro s.heap.size (by omega) (by omega) (by have h9_0 : Int32.toInt 4 = 4 := (by decide); omega) (by have h9_0 : Int32.toInt 4 = 4 := (by decide); omega)) (cwV 2 hA (zw_V wi_1167 wi_1169 wi_47 wi_139 (zw_good wi_1170)) rfl rfl rfl (by decide +kernel) ⟨(Nat.le_of_ble_eq_true rfl), (Nat.le_of_ble_eq_true rfl)⟩) ⟨zP_blind, va_recv hKc hPc (ci := 5) (q0 := 0) rfl rfl, zz_pre hKc hPc hDc hN hT hS hFc⟩ rfl rfl hl.1 rfl (lv_room (Nat.le_of_ble_eq_true rfl)) dX5_call_12 ⟨(Nat.le_of_ble_eq_true rfl), (Nat.le_of_ble_eq_true rfl)⟩) hS (fun q _ h => hFc q h) hFc (fun u t H1 locs ht hvm hw hB hz1 hk1 hS => ?_)
    obtain ⟨sp_21, rfl⟩ : ∃ z, z = u := ⟨_, rfl⟩
    obtain ⟨hP1, hK1, hD1⟩ := hB
    rw [ht] at hP1
    have hK1 := va_K.moved hvm.symm hK1
    obtain ⟨hP, hD⟩ := va_join (wr := [(mp, .inr (9, [.ref gco, .ref gar, .ref gki, .ref gfu])), (kb, .inl (kb1, 100, .inl gkb)), (kk, .inl (kk1, 100, .inl gkk)), (ks, .inl (ks1, 100, .inl gks)), (gfu, .inr (3, [.ref fw, .ref fe, .ref ff, .int fz])), (fw, .inl (f1, 30, .inr (.inl fgw))), (fe, .inl (f2, 30, .inl fge)), (ff, .inl (f3, 150, .inl fgf)), (ca, .inl (cka, 3000, .inl cga)), (cnext, .inl (cknext, 3000, .inl cgnext))]) (w1 := [(h0, .inr (5, [.ref mp, .ref gco, .ref mce, .int mcn, .ref sk, .int tp, .int ba, .ref kb, .ref kk, .ref ks, .int on, .ref sh, .int sn, .int mat, .int alw, .int st, .int mo, .int 4, .int sp_21, .long re])), (gco, .inr (2, [.ref cop, .ref ca, .ref cb, .ref cplace, .ref cnext, .ref cneeded, .int cz, .int ct])), (cplace, .inl (ckplace, 3000, .inl cgplace))]) hP hD [0, 9, 11] [1, 2, 3, 4, 5, 6, 7, 8, 10, 12] rfl rfl (by decide) (by decide) hk1 hFc hP1 hD1
    have hK := (hK.sub (tys' := [(kb1, .int), (kk1, .int), (ks1, .int), (f1, .long), (f2, .int), (f3, .int), (cka, .int), (cknext, .int)]) [0, 1, 2, 3, 4, 5, 6, 8] rfl).app hK1
    generalize H1 = H at hP hS ⊢
    have hP : va_P (dC, dI) vwCl [(mp, .inr (9, [.ref gco, .ref gar, .ref gki, .ref gfu])), (kb, .inl (kb1, 100, .inl gkb)), (kk, .inl (kk1, 100, .inl gkk)), (ks, .inl (ks1, 100, .inl gks)), (gfu, .inr (3, [.ref fw, .ref fe, .ref ff, .int fz])), (fw, .inl (f1, 30, .inr (.inl fgw))), (fe, .inl (f2, 30, .inl fge)), (ff, .inl (f3, 150, .inl fgf)), (ca, .inl (cka, 3000, .inl cga)), (cnext, .inl (cknext, 3000, .inl cgnext)), (h0, .inr (5, [.ref mp, .ref gco, .ref mce, .int mcn, .ref sk, .int tp, .int ba, .ref kb, .ref kk, .ref ks, .int on, .ref sh, .int sn, .int mat, .int alw, .int st, .int mo, .int 4, .int sp_21, .long re])), (gco, .inr (2, [.ref cop, .ref ca, .ref cb, .ref cplace, .ref cnext, .ref cneeded, .int cz, .int ct])), (cplace, .inl (ckplace, 3000, .inl cgplace))] H := hP
    have hD : va_D A [(mp, .inr (9, [.ref gco, .ref gar, .ref gki, .ref gfu])), (kb, .inl (kb1, 100, .inl gkb)), (kk, .inl (kk1, 100, .inl gkk)), (ks, .inl (ks1, 100, .inl gks)), (gfu, .inr (3, [.ref fw, .ref fe, .ref ff, .int fz])), (fw, .inl (f1, 30, .inr (.inl fgw))), (fe, .inl (f2, 30, .inl fge)), (ff, .inl (f3, 150, .inl fgf)), (ca, .inl (cka, 3000, .inl cga)), (cnext, .inl (cknext, 3000, .inl cgnext)), (h0, .inr (5, [.ref mp, .ref gco, .ref mce, .int mcn, .ref sk, .int tp, .int ba, .ref kb, .ref kk, .ref ks, .int on, .ref sh, .int sn, .int mat, .int alw, .int st, .int mo, .int 4, .int sp_21, .long re])), (gco, .inr (2, [.ref cop, .ref ca, .ref cb, .ref cplace, .ref cnext, .ref cneeded, .int cz, .int ct])), (cplace, .inl (ckplace, 3000, .inl cgplace))] := hD
    have hK : va_K (dC, dI) vwCl [(kb1, .int), (kk1, .int), (ks1, .int), (f1, .long), (f2, .int), (f3, .int), (cka, .int), (cknext, .int), (ckplace, .int)] s := hK
    have hq_22 := hw
    have h94 : Int32.toInt 4 = 4 := by decide
    refine lv_goto (tgt := 40) hx hb dX5_call_15 (by decide) ?_
    have hP9 := hP.sub (ws' := [(h0, .inr (5, [.ref mp, .ref gco, .ref mce, .int mcn, .ref sk, .int tp, .int ba, .ref kb, .ref kk, .ref ks, .int on, .ref sh, .int sn, .int mat, .int alw, .int st, .int mo, .int 4, .int sp_21, .long re])), (mp, .inr (9, [.ref gco, .ref gar, .ref gki, .ref gfu])), (kb, .inl (kb1, 100, .inl gkb)), (kk, .inl (kk1, 100, .inl gkk)), (ks, .inl (ks1, 100, .inl gks)), (gfu, .inr (3, [.ref fw, .ref fe, .ref ff, .int fz])), (fw, .inl (f1, 30, .inr (.inl fgw))), (fe, .inl (f2, 30, .inl fge)), (ff, .inl (f3, 150, .inl fgf)), (gco, .inr (2, [.ref cop, .ref ca, .ref cb, .ref cplace, .ref cnext, .ref cneeded, .int cz, .int ct])), (ca, .inl (cka, 3000, .inl cga)), (cplace, .inl (ckplace, 3000, .inl cgplace)), (cnext, .inl (cknext, 3000, .inl cgnext))]) [10, 0, 1, 2, 3, 4, 5, 6, 7, 11, 8, 12, 9] rfl
    have hD9 := hD.sub (ws' := [(h0, .inr (5, [.ref mp, .ref gco, .ref mce, .int mcn, .ref sk, .int tp, .int ba, .ref kb, .ref kk, .ref ks, .int on, .ref sh, .int sn, .int mat, .int alw, .int st, .int mo, .int 4, .int sp_21, .long re])), (mp, .inr (9, [.ref gco, .ref gar, .ref gki, .ref gfu])), (kb, .inl (kb1, 100, .inl gkb)), (kk, .inl (kk1, 100, .inl gkk)), (ks, .inl (ks1, 100, .inl gks)), (gfu, .inr (3, [.ref fw, .ref fe, .ref ff, .int fz])), (fw, .inl (f1, 30, .inr (.inl fgw))), (fe, .inl (f2, 30, .inl fge)), (ff, .inl (f3, 150, .inl fgf)), (gco, .inr (2, [.ref cop, .ref ca, .ref cb, .ref cplace, .ref cnext, .ref cneeded, .int cz, .int ct])), (ca, .inl (cka, 3000, .inl cga)), (cplace, .inl (ckplace, 3000, .inl cgplace)), (cnext, .inl (cknext, 3000, .inl cgnext))]) [10, 0, 1, 2, 3, 4, 5, 6, 7, 11, 8, 12, 9] (by decide) rfl
    have hK9 := hK.sub (tys' := [(kb1, .int), (kk1, .int), (ks1, .int), (f1, .long), (f2, .int), (f3, .int), (cka, .int), (ckplace, .int), (cknext, .int)]) [0, 1, 2, 3, 4, 5, 6, 8, 7] rfl
    exact W.vret hx hb hr (fun t ht hW => ⟨⟨(4, sp_21, on, ba, tp, mat, mo, gkb, gkk, gks), rfl, ⟨(Or.inl ⟨by omega, by omega⟩), hq_22⟩, by rw [ht]; exact hP9, va_K.moved hW.alike hK9, hD9⟩, hS.F ht⟩) hS.2.2 dX5_call_40
set_option maxHeartbeats 4000000 in
set_option maxRecDepth 100000 in
theorem c_X5_callAlone (l : Launch) (dC : Nat → ClassId) (dI : Nat → Nat → Nat) (aK aV : Nat → Nat) (h0 : Nat) (mp : Nat) (gco : Nat) (mce : Nat) (sk : Nat) (kb : Nat) (kk : Nat) (ks : Nat) (sh : Nat) (mcn : Int32) (tp : Int32) (ba : Int32) (on : Int32) (sn : Int32) (mat : Int32) (alw : Int32) (st : Int32) (mo : Int32) (mh : Int32) (sp : Int32) (re : Int64) (gar : Nat) (gki : Nat) (gfu : Nat) (kb1 : ClassId) (kk1 : ClassId) (ks1 : ClassId) (gkb : Nat → Int32) (gkk : Nat → Int32) (gks : Nat → Int32) (fw : Nat) (fe : Nat) (ff : Nat) (f1 : ClassId) (f2 : ClassId) (f3 : ClassId) (fz : Int32) (fgw : Nat → Int64) (fge : Nat → Int32) (fgf : Nat → Int32) (cop : Nat) (ca : Nat) (cb : Nat) (cplace : Nat) (cnext : Nat) (cneeded : Nat) (cz : Int32) (ct : Int32) (cka : ClassId) (ckplace : ClassId) (cknext : ClassId) (cga : Nat → Int32) (cgplace : Nat → Int32) (cgnext : Nat → Int32) (ro : Int32) (td : Int) (nmz : Int) (sz : Nat) (hr0 : 0 ≤ ro.toInt) (hr1 : ro.toInt < 3000) (hon0 : 0 ≤ on.toInt) (hfz0 : 0 ≤ fz.toInt) (hfz1 : fz.toInt ≤ 30) (htd0 : 0 ≤ td) (htd1 : td ≤ tp.toInt) (hnm0 : 0 ≤ nmz) (hnm1 : nmz ≤ 24) (htp1 : tp.toInt - td + nmz ≤ 22424) (hsn0 : 0 ≤ sn.toInt) (hu : 0 ≤ (cga (Int32.toNatClampNeg ro)).toInt ∧ (cga (Int32.toNatClampNeg ro)).toInt < fz.toInt) (htd : (fgf (5 * Int32.toNatClampNeg (cga (Int32.toNatClampNeg ro)))).toInt = td) (hnm : (fgf (5 * Int32.toNatClampNeg (cga (Int32.toNatClampNeg ro)) + 1)).toInt = nmz) (hst : 0 ≤ st.toInt) (hal : alw.toInt ≤ 20000) : Met l yX5_callAlone (Cond.code yX5_callAlone cX5_callAlone 2 none :: zw) ({ frames := 16, cells := 0, slots := 0, locals := 600 }) (va_Pc [.ref h0, .int ro] (zP dC dI aK aV sz [(kb1, .int), (kk1, .int), (ks1, .int), (f1, .long), (f2, .int), (f3, .int), (cka, .int), (ckplace, .int), (cknext, .int)] [(h0, .inr (5, [.ref mp, .ref gco, .ref mce, .int mcn, .ref sk, .int tp, .int ba, .ref kb, .ref kk, .ref ks, .int on, .ref sh, .int sn, .int mat, .int alw, .int st, .int mo, .int mh, .int sp, .long re])), (mp, .inr (9, [.ref gco, .ref gar, .ref gki, .ref gfu])), (kb, .inl (kb1, 100, .inl gkb)), (kk, .inl (kk1, 100, .inl gkk)), (ks, .inl (ks1, 100, .inl gks)), (gfu, .inr (3, [.ref fw, .ref fe, .ref ff, .int fz])), (fw, .inl (f1, 30, .inr (.inl fgw))), (fe, .inl (f2, 30, .inl fge)), (ff, .inl (f3, 150, .inl fgf)), (gco, .inr (2, [.ref cop, .ref ca, .ref cb, .ref cplace, .ref cnext, .ref cneeded, .int cz, .int ct])), (ca, .inl (cka, 3000, .inl cga)), (cplace, .inl (ckplace, 3000, .inl cgplace)), (cnext, .inl (cknext, 3000, .inl cgnext))])) (va_Qv (fun u : Int32 × Int32 × Int32 × Int32 × Int32 × Int32 × Int32 × Int32 × (Nat → Int32) × (Nat → Int32) × (Nat → Int32) => match u with | (st2, mh2, sp2, on2, ba2, tp2, mat2, mo2, gkb2, gkk2, gks2) => (mh2.toInt = 5 ∧ alw.toInt ≤ st.toInt ∨ st2.toInt = st.toInt + 1 ∧ st2.toInt ≤ alw.toInt ∧ (mh2.toInt = 4 ∧ 100 ≤ on.toInt ∨ (mh2.toInt = mh.toInt ∧ on.toInt < 100 ∧ on2.toInt = on.toInt + 1 ∧ ba2.toInt = tp.toInt - td ∧ tp2.toInt = ba2.toInt + nmz) ∧ gkb2 = upd gkb (Int32.toNatClampNeg on) ba2 ∧ gkk2 = upd gkk (Int32.toNatClampNeg on) (cgnext (Int32.toNatClampNeg ro)) ∧ gks2 = upd gks (Int32.toNatClampNeg on) sn ∧ mat2 = fge (Int32.toNatClampNeg (cga (Int32.toNatClampNeg ro))))) ∧ (cSpl (cgplace (Int32.toNatClampNeg ro)) sp mh sp2 mh2)) (fun u => match u with | (st2, mh2, sp2, on2, ba2, tp2, mat2, mo2, gkb2, gkk2, gks2) => zQ dC dI (va_A [(h0, .inr (5, [.ref mp, .ref gco, .ref mce, .int mcn, .ref sk, .int tp, .int ba, .ref kb, .ref kk, .ref ks, .int on, .ref sh, .int sn, .int mat, .int alw, .int st, .int mo, .int mh, .int sp, .long re])), (mp, .inr (9, [.ref gco, .ref gar, .ref gki, .ref gfu])), (kb, .inl (kb1, 100, .inl gkb)), (kk, .inl (kk1, 100, .inl gkk)), (ks, .inl (ks1, 100, .inl gks)), (gfu, .inr (3, [.ref fw, .ref fe, .ref ff, .int fz])), (fw, .inl (f1, 30, .inr (.inl fgw))), (fe, .inl (f2, 30, .inl fge)), (ff, .inl (f3, 150, .inl fgf)), (gco, .inr (2, [.ref cop, .ref ca, .ref cb, .ref cplace, .ref cnext, .ref cneeded, .int cz, .int ct])), (ca, .inl (cka, 3000, .inl cga)), (cplace, .inl (ckplace, 3000, .inl cgplace)), (cnext, .inl (cknext, 3000, .inl cgnext))] sz) [(kb1, .int), (kk1, .int), (ks1, .int), (f1, .long), (f2, .int), (f3, .int), (cka, .int), (ckplace, .int), (cknext, .int)] [(h0, .inr (5, [.ref mp, .ref gco, .ref mce, .int mcn, .ref sk, .int tp2, .int ba2, .ref kb, .ref kk, .ref ks, .int on2, .ref sh, .int sn, .int mat2, .int alw, .int st2, .int mo2, .int mh2, .int sp2, .long re])), (mp, .inr (9, [.ref gco, .ref gar, .ref gki, .ref gfu])), (kb, .inl (kb1, 100, .inl gkb2)), (kk, .inl (kk1, 100, .inl gkk2)), (ks, .inl (ks1, 100, .inl gks2)), (gfu, .inr (3, [.ref fw, .ref fe, .ref ff, .int fz])), (fw, .inl (f1, 30, .inr (.inl fgw))), (fe, .inl (f2, 30, .inl fge)), (ff, .inl (f3, 150, .inl fgf)), (gco, .inr (2, [.ref cop, .ref ca, .ref cb, .ref cplace, .ref cnext, .ref cneeded, .int cz, .int ct])), (ca, .inl (cka, 3000, .inl cga)), (cplace, .inl (ckplace, 3000, .inl cgplace)), (cnext, .inl (cknext, 3000, .inl cgnext))]) (va_A [(h0, .inr (5, [.ref mp, .ref gco, .ref mce, .int mcn, .ref sk, .int tp, .int ba, .ref kb, .ref kk, .ref ks, .int on, .ref sh, .int sn, .int mat, .int alw, .int st, .int mo, .int mh, .int sp, .long re])), (mp, .inr (9, [.ref gco, .ref gar, .ref gki, .ref gfu])), (kb, .inl (kb1, 100, .inl gkb)), (kk, .inl (kk1, 100, .inl gkk)), (ks, .inl (ks1, 100, .inl gks)), (gfu, .inr (3, [.ref fw, .ref fe, .ref ff, .int fz])), (fw, .inl (f1, 30, .inr (.inl fgw))), (fe, .inl (f2, 30, .inl fge)), (ff, .inl (f3, 150, .inl fgf)), (gco, .inr (2, [.ref cop, .ref ca, .ref cb, .ref cplace, .ref cnext, .ref cneeded, .int cz, .int ct])), (ca, .inl (cka, 3000, .inl cga)), (cplace, .inl (ckplace, 3000, .inl cgplace)), (cnext, .inl (cknext, 3000, .inl cgnext))] sz)) 0 0 (va_A [(h0, .inr (5, [.ref mp, .ref gco, .ref mce, .int mcn, .ref sk, .int tp, .int ba, .ref kb, .ref kk, .ref ks, .int on, .ref sh, .int sn, .int mat, .int alw, .int st, .int mo, .int mh, .int sp, .long re])), (mp, .inr (9, [.ref gco, .ref gar, .ref gki, .ref gfu])), (kb, .inl (kb1, 100, .inl gkb)), (kk, .inl (kk1, 100, .inl gkk)), (ks, .inl (ks1, 100, .inl gks)), (gfu, .inr (3, [.ref fw, .ref fe, .ref ff, .int fz])), (fw, .inl (f1, 30, .inr (.inl fgw))), (fe, .inl (f2, 30, .inl fge)), (ff, .inl (f3, 150, .inl fgf)), (gco, .inr (2, [.ref cop, .ref ca, .ref cb, .ref cplace, .ref cnext, .ref cneeded, .int cz, .int ct])), (ca, .inl (cka, 3000, .inl cga)), (cplace, .inl (ckplace, 3000, .inl cgplace)), (cnext, .inl (cknext, 3000, .inl cgnext))] sz) := by
  refine Met.ofW (cc := cX5_callAlone) (maxL := 2) (ret := none) (by decide) rfl ?_
  intro p e s m args below meth c s₁ B hml hv
  obtain ⟨rfl, hsz, hP, hK, hD0, hN, hT⟩ := hv
  have hx := B.exec
  have hb := B.bytes
  have hr := B.returns
  have hts := atoms_spec (ws := Cond.code yX5_callAlone cX5_callAlone 2 none :: zw) B.pre
  have hA : ∀ w ∈ zw, w.before _ s = true := fun w h => hts w (List.mem_cons_of_mem _ h)
  have hown : s.vm.findClass RX5 = some m.cls := findClass_of_methodNamed B.named
  have hlocks := B.notSynchronized
  subst hsz
  have hD := hD0.self (sz := s.heap.size)
  generalize hAe : va_A [(h0, .inr (5, [.ref mp, .ref gco, .ref mce, .int mcn, .ref sk, .int tp, .int ba, .ref kb, .ref kk, .ref ks, .int on, .ref sh, .int sn, .int mat, .int alw, .int st, .int mo, .int mh, .int sp, .long re])), (mp, .inr (9, [.ref gco, .ref gar, .ref gki, .ref gfu])), (kb, .inl (kb1, 100, .inl gkb)), (kk, .inl (kk1, 100, .inl gkk)), (ks, .inl (ks1, 100, .inl gks)), (gfu, .inr (3, [.ref fw, .ref fe, .ref ff, .int fz])), (fw, .inl (f1, 30, .inr (.inl fgw))), (fe, .inl (f2, 30, .inl fge)), (ff, .inl (f3, 150, .inl fgf)), (gco, .inr (2, [.ref cop, .ref ca, .ref cb, .ref cplace, .ref cnext, .ref cneeded, .int cz, .int ct])), (ca, .inl (cka, 3000, .inl cga)), (cplace, .inl (ckplace, 3000, .inl cgplace)), (cnext, .inl (cknext, 3000, .inl cgnext))] s.heap.size = A at hD hT ⊢
  have hAA : ∀ q : Nat, s.heap.size ≤ q → A q := fun q h => by rw [← hAe]; exact Or.inr h
  have hS : va_S A s.heap s.heap [] := va_S.rf
  have hl := lv_entry ([.ref h0, .int ro]) (n := 2) (Nat.le_of_ble_eq_true rfl)
  rw [lg_entry_eq]
  generalize (lg_sl ([.ref h0, .int ro]) ++ List.replicate (2 - (lg_sl ([.ref h0, .int ro])).length) Slot.unset).toArray = ls at hl ⊢
  have hl : lv_has ls 2 [(0, .ref h0), (1, .int ro)] := hl
  refine lv_aload_n hx hb dX5_callAlone_0 rfl (lv_at hl 0 rfl) ?_
  refine lv_iload_n hx hb dX5_callAlone_1 rfl (lv_at hl 1 rfl) ?_
  have hPc := hP.sub (ws' := [(h0, .inr (5, [.ref mp, .ref gco, .ref mce, .int mcn, .ref sk, .int tp, .int ba, .ref kb, .ref kk, .ref ks, .int on, .ref sh, .int sn, .int mat, .int alw, .int st, .int mo, .int mh, .int sp, .long re])), (gco, .inr (2, [.ref cop, .ref ca, .ref cb, .ref cplace, .ref cnext, .ref cneeded, .int cz, .int ct])), (cplace, .inl (ckplace, 3000, .inl cgplace))]) [0, 9, 11] rfl
  have hDc := hD.sub (ws' := [(h0, .inr (5, [.ref mp, .ref gco, .ref mce, .int mcn, .ref sk, .int tp, .int ba, .ref kb, .ref kk, .ref ks, .int on, .ref sh, .int sn, .int mat, .int alw, .int st, .int mo, .int mh, .int sp, .long re])), (gco, .inr (2, [.ref cop, .ref ca, .ref cb, .ref cplace, .ref cnext, .ref cneeded, .int cz, .int ct])), (cplace, .inl (ckplace, 3000, .inl cgplace))]) [0, 9, 11] (by decide) rfl
  have hKc := hK.sub (tys' := [(ckplace, .int)]) [7] rfl
  have hFc := va_free (wc := [(h0, .inr (5, [.ref mp, .ref gco, .ref mce, .int mcn, .ref sk, .int tp, .int ba, .ref kb, .ref kk, .ref ks, .int on, .ref sh, .int sn, .int mat, .int alw, .int st, .int mo, .int mh, .int sp, .long re])), (gco, .inr (2, [.ref cop, .ref ca, .ref cb, .ref cplace, .ref cnext, .ref cneeded, .int cz, .int ct])), (cplace, .inl (ckplace, 3000, .inl cgplace))]) hD hS hAA [0, 9, 11] rfl
  refine va_calli (va_runV (As := [.int ro]) (rest := []) ⟨hx, hb, hml, hown, hA⟩ (c_X5_step l dC dI aK aV h0 mp gco mce sk kb kk ks sh mcn tp ba on sn mat alw st mo mh sp re cop ca cb cplace cnext cneeded cz ct ckplace cgplace ro s.heap.size (by omega) (by omega) (by omega) (by omega)) (cwV 1 hA (zw_V wi_1163 wi_1165 wi_46 wi_139 (zw_good wi_1166)) rfl rfl rfl (by decide +kernel) ⟨(Nat.le_of_ble_eq_true rfl), (Nat.le_of_ble_eq_true rfl)⟩) ⟨zP_blind, va_recv hKc hPc (ci := 5) (q0 := 0) rfl rfl, zz_pre hKc hPc hDc hN hT hS hFc⟩ rfl rfl hl.1 rfl (lv_room (Nat.le_of_ble_eq_true rfl)) dX5_callAlone_2 ⟨(Nat.le_of_ble_eq_true rfl), (Nat.le_of_ble_eq_true rfl)⟩) hS (fun q _ h => hFc q h) hFc (fun r_1 u t H1 locs ht hvm hw hB hz1 hk1 hS => ?_)
  obtain ⟨st_2, mh_3, sp_4⟩ := u
  obtain ⟨hP1, hK1, hD1⟩ := hB
  rw [ht] at hP1
  have hK1 := va_K.moved hvm.symm hK1
  obtain ⟨hP, hD⟩ := va_join (wr := [(mp, .inr (9, [.ref gco, .ref gar, .ref gki, .ref gfu])), (kb, .inl (kb1, 100, .inl gkb)), (kk, .inl (kk1, 100, .inl gkk)), (ks, .inl (ks1, 100, .inl gks)), (gfu, .inr (3, [.ref fw, .ref fe, .ref ff, .int fz])), (fw, .inl (f1, 30, .inr (.inl fgw))), (fe, .inl (f2, 30, .inl fge)), (ff, .inl (f3, 150, .inl fgf)), (ca, .inl (cka, 3000, .inl cga)), (cnext, .inl (cknext, 3000, .inl cgnext))]) (w1 := [(h0, .inr (5, [.ref mp, .ref gco, .ref mce, .int mcn, .ref sk, .int tp, .int ba, .ref kb, .ref kk, .ref ks, .int on, .ref sh, .int sn, .int mat, .int alw, .int st_2, .int mo, .int mh_3, .int sp_4, .long re])), (gco, .inr (2, [.ref cop, .ref ca, .ref cb, .ref cplace, .ref cnext, .ref cneeded, .int cz, .int ct])), (cplace, .inl (ckplace, 3000, .inl cgplace))]) hP hD [0, 9, 11] [1, 2, 3, 4, 5, 6, 7, 8, 10, 12] rfl rfl (by decide) (by decide) hk1 hFc hP1 hD1
  have hK := (hK.sub (tys' := [(kb1, .int), (kk1, .int), (ks1, .int), (f1, .long), (f2, .int), (f3, .int), (cka, .int), (cknext, .int)]) [0, 1, 2, 3, 4, 5, 6, 8] rfl).app hK1
  generalize H1 = H at hP hS ⊢
  have hP : va_P (dC, dI) vwCl [(mp, .inr (9, [.ref gco, .ref gar, .ref gki, .ref gfu])), (kb, .inl (kb1, 100, .inl gkb)), (kk, .inl (kk1, 100, .inl gkk)), (ks, .inl (ks1, 100, .inl gks)), (gfu, .inr (3, [.ref fw, .ref fe, .ref ff, .int fz])), (fw, .inl (f1, 30, .inr (.inl fgw))), (fe, .inl (f2, 30, .inl fge)), (ff, .inl (f3, 150, .inl fgf)), (ca, .inl (cka, 3000, .inl cga)), (cnext, .inl (cknext, 3000, .inl cgnext)), (h0, .inr (5, [.ref mp, .ref gco, .ref mce, .int mcn, .ref sk, .int tp, .int ba, .ref kb, .ref kk, .ref ks, .int on, .ref sh, .int sn, .int mat, .int alw, .int st_2, .int mo, .int mh_3, .int sp_4, .long re])), (gco, .inr (2, [.ref cop, .ref ca, .ref cb, .ref cplace, .ref cnext, .ref cneeded, .int cz, .int ct])), (cplace, .inl (ckplace, 3000, .inl cgplace))] H := hP
  have hD : va_D A [(mp, .inr (9, [.ref gco, .ref gar, .ref gki, .ref gfu])), (kb, .inl (kb1, 100, .inl gkb)), (kk, .inl (kk1, 100, .inl gkk)), (ks, .inl (ks1, 100, .inl gks)), (gfu, .inr (3, [.ref fw, .ref fe, .ref ff, .int fz])), (fw, .inl (f1, 30, .inr (.inl fgw))), (fe, .inl (f2, 30, .inl fge)), (ff, .inl (f3, 150, .inl fgf)), (ca, .inl (cka, 3000, .inl cga)), (cnext, .inl (cknext, 3000, .inl cgnext)), (h0, .inr (5, [.ref mp, .ref gco, .ref mce, .int mcn, .ref sk, .int tp, .int ba, .ref kb, .ref kk, .ref ks, .int on, .ref sh, .int sn, .int mat, .int alw, .int st_2, .int mo, .int mh_3, .int sp_4, .long re])), (gco, .inr (2, [.ref cop, .ref ca, .ref cb, .ref cplace, .ref cnext, .ref cneeded, .int cz, .int ct])), (cplace, .inl (ckplace, 3000, .inl cgplace))] := hD
  have hK : va_K (dC, dI) vwCl [(kb1, .int), (kk1, .int), (ks1, .int), (f1, .long), (f2, .int), (f3, .int), (cka, .int), (cknext, .int), (ckplace, .int)] s := hK
  have hw_r_1 := hw
  try dsimp only at hw_r_1
  obtain ⟨hq_5, hq_6⟩ := hw
  refine lv_if_eq (tgt := 13) hx hb dX5_callAlone_5 (by decide) (fun c_7 => ?_) (fun c_7 => ?_)
  · have ic_7 : r_1.toInt = 0 := zi_eq c_7
    have hP9 := hP.sub (ws' := [(h0, .inr (5, [.ref mp, .ref gco, .ref mce, .int mcn, .ref sk, .int tp, .int ba, .ref kb, .ref kk, .ref ks, .int on, .ref sh, .int sn, .int mat, .int alw, .int st_2, .int mo, .int mh_3, .int sp_4, .long re])), (mp, .inr (9, [.ref gco, .ref gar, .ref gki, .ref gfu])), (kb, .inl (kb1, 100, .inl gkb)), (kk, .inl (kk1, 100, .inl gkk)), (ks, .inl (ks1, 100, .inl gks)), (gfu, .inr (3, [.ref fw, .ref fe, .ref ff, .int fz])), (fw, .inl (f1, 30, .inr (.inl fgw))), (fe, .inl (f2, 30, .inl fge)), (ff, .inl (f3, 150, .inl fgf)), (gco, .inr (2, [.ref cop, .ref ca, .ref cb, .ref cplace, .ref cnext, .ref cneeded, .int cz, .int ct])), (ca, .inl (cka, 3000, .inl cga)), (cplace, .inl (ckplace, 3000, .inl cgplace)), (cnext, .inl (cknext, 3000, .inl cgnext))]) [10, 0, 1, 2, 3, 4, 5, 6, 7, 11, 8, 12, 9] rfl
    have hD9 := hD.sub (ws' := [(h0, .inr (5, [.ref mp, .ref gco, .ref mce, .int mcn, .ref sk, .int tp, .int ba, .ref kb, .ref kk, .ref ks, .int on, .ref sh, .int sn, .int mat, .int alw, .int st_2, .int mo, .int mh_3, .int sp_4, .long re])), (mp, .inr (9, [.ref gco, .ref gar, .ref gki, .ref gfu])), (kb, .inl (kb1, 100, .inl gkb)), (kk, .inl (kk1, 100, .inl gkk)), (ks, .inl (ks1, 100, .inl gks)), (gfu, .inr (3, [.ref fw, .ref fe, .ref ff, .int fz])), (fw, .inl (f1, 30, .inr (.inl fgw))), (fe, .inl (f2, 30, .inl fge)), (ff, .inl (f3, 150, .inl fgf)), (gco, .inr (2, [.ref cop, .ref ca, .ref cb, .ref cplace, .ref cnext, .ref cneeded, .int cz, .int ct])), (ca, .inl (cka, 3000, .inl cga)), (cplace, .inl (ckplace, 3000, .inl cgplace)), (cnext, .inl (cknext, 3000, .inl cgnext))]) [10, 0, 1, 2, 3, 4, 5, 6, 7, 11, 8, 12, 9] (by decide) rfl
    have hK9 := hK.sub (tys' := [(kb1, .int), (kk1, .int), (ks1, .int), (f1, .long), (f2, .int), (f3, .int), (cka, .int), (ckplace, .int), (cknext, .int)]) [0, 1, 2, 3, 4, 5, 6, 8, 7] rfl
    exact W.vret hx hb hr (fun t ht hW => ⟨⟨(st_2, mh_3, sp_4, on, ba, tp, mat, mo, gkb, gkk, gks), rfl, ⟨(Or.inl ⟨by omega, by omega⟩), hq_6⟩, by rw [ht]; exact hP9, va_K.moved hW.alike hK9, hD9⟩, hS.F ht⟩) hS.2.2 dX5_callAlone_13
  · have ic_7 : r_1.toInt ≠ 0 := zi_ne c_7
    refine lv_aload_n hx hb dX5_callAlone_8 rfl (lv_at hl 0 rfl) ?_
    refine lv_iload_n hx hb dX5_callAlone_9 rfl (lv_at hl 1 rfl) ?_
    have hPc := hP.sub (ws' := [(h0, .inr (5, [.ref mp, .ref gco, .ref mce, .int mcn, .ref sk, .int tp, .int ba, .ref kb, .ref kk, .ref ks, .int on, .ref sh, .int sn, .int mat, .int alw, .int st_2, .int mo, .int mh_3, .int sp_4, .long re])), (mp, .inr (9, [.ref gco, .ref gar, .ref gki, .ref gfu])), (kb, .inl (kb1, 100, .inl gkb)), (kk, .inl (kk1, 100, .inl gkk)), (ks, .inl (ks1, 100, .inl gks)), (gfu, .inr (3, [.ref fw, .ref fe, .ref ff, .int fz])), (fw, .inl (f1, 30, .inr (.inl fgw))), (fe, .inl (f2, 30, .inl fge)), (ff, .inl (f3, 150, .inl fgf)), (gco, .inr (2, [.ref cop, .ref ca, .ref cb, .ref cplace, .ref cnext, .ref cneeded, .int cz, .int ct])), (ca, .inl (cka, 3000, .inl cga)), (cplace, .inl (ckplace, 3000, .inl cgplace)), (cnext, .inl (cknext, 3000, .inl cgnext))]) [10, 0, 1, 2, 3, 4, 5, 6, 7, 11, 8, 12, 9] rfl
    have hDc := hD.sub (ws' := [(h0, .inr (5, [.ref mp, .ref gco, .ref mce, .int mcn, .ref sk, .int tp, .int ba, .ref kb, .ref kk, .ref ks, .int on, .ref sh, .int sn, .int mat, .int alw, .int st_2, .int mo, .int mh_3, .int sp_4, .long re])), (mp, .inr (9, [.ref gco, .ref gar, .ref gki, .ref gfu])), (kb, .inl (kb1, 100, .inl gkb)), (kk, .inl (kk1, 100, .inl gkk)), (ks, .inl (ks1, 100, .inl gks)), (gfu, .inr (3, [.ref fw, .ref fe, .ref ff, .int fz])), (fw, .inl (f1, 30, .inr (.inl fgw))), (fe, .inl (f2, 30, .inl fge)), (ff, .inl (f3, 150, .inl fgf)), (gco, .inr (2, [.ref cop, .ref ca, .ref cb, .ref cplace, .ref cnext, .ref cneeded, .int cz, .int ct])), (ca, .inl (cka, 3000, .inl cga)), (cplace, .inl (ckplace, 3000, .inl cgplace)), (cnext, .inl (cknext, 3000, .inl cgnext))]) [10, 0, 1, 2, 3, 4, 5, 6, 7, 11, 8, 12, 9] (by decide) rfl
    have hKc := hK.sub (tys' := [(kb1, .int), (kk1, .int), (ks1, .int), (f1, .long), (f2, .int), (f3, .int), (cka, .int), (ckplace, .int), (cknext, .int)]) [0, 1, 2, 3, 4, 5, 6, 8, 7] rfl
    have hFc := va_free (wc := [(h0, .inr (5, [.ref mp, .ref gco, .ref mce, .int mcn, .ref sk, .int tp, .int ba, .ref kb, .ref kk, .ref ks, .int on, .ref sh, .int sn, .int mat, .int alw, .int st_2, .int mo, .int mh_3, .int sp_4, .long re])), (mp, .inr (9, [.ref gco, .ref gar, .ref gki, .ref gfu])), (kb, .inl (kb1, 100, .inl gkb)), (kk, .inl (kk1, 100, .inl gkk)), (ks, .inl (ks1, 100, .inl gks)), (gfu, .inr (3, [.ref fw, .ref fe, .ref ff, .int fz])), (fw, .inl (f1, 30, .inr (.inl fgw))), (fe, .inl (f2, 30, .inl fge)), (ff, .inl (f3, 150, .inl fgf)), (gco, .inr (2, [.ref cop, .ref ca, .ref cb, .ref cplace, .ref cnext, .ref cneeded, .int cz, .int ct])), (ca, .inl (cka, 3000, .inl cga)), (cplace, .inl (ckplace, 3000, .inl cgplace)), (cnext, .inl (cknext, 3000, .inl cgnext))]) hD hS hAA [10, 0, 1, 2, 3, 4, 5, 6, 7, 11, 8, 12, 9] rfl
    refine va_callv (va_runV (As := [.int ro]) (rest := []) ⟨hx, hb, hml, hown, hA⟩ (c_X5_call l dC dI aK aV h0 mp gco mce sk kb kk ks sh mcn tp ba on sn mat alw st_2 mo mh_3 sp_4 re gar gki gfu kb1 kk1 ks1 gkb gkk gks fw fe ff f1 f2 f3 fz fgw fge fgf cop ca cb cplace cnext cneeded cz ct cka ckplace cknext cga cgplace cgnext ro td nmz H.size (by omega) (by omega) (by omega) (by omega) (by omega) (by omega) (by omega) (by omega) (by omega) (by omega) (by omega) hu htd hnm) (cwV 1 hA (zw_V wi_1219 wi_1221 wi_54 wi_139 (zw_good wi_1222)) rfl rfl rfl (by decide +kernel) ⟨(Nat.le_of_ble_eq_true rfl), (Nat.le_of_ble_eq_true rfl)⟩) ⟨zP_blind, va_recv hKc hPc (ci := 5) (q0 := 0) rfl rfl, zz_pre hKc hPc hDc hN hT hS hFc⟩ rfl rfl hl.1 rfl (lv_room (Nat.le_of_ble_eq_true rfl)) dX5_callAlone_10 ⟨(Nat.le_of_ble_eq_true rfl), (Nat.le_of_ble_eq_true rfl)⟩) hS (fun q _ h => hFc q h) hFc (fun u t H1 locs ht hvm hw hB hz1 hk1 hS => ?_)
    obtain ⟨mh_9, sp_10, on_11, ba_12, tp_13, mat_14, mo_15, gkb_16, gkk_17, gks_18⟩ := u
    obtain ⟨hP1, hK1, hD1⟩ := hB
    rw [ht] at hP1
    have hK1 := va_K.moved hvm.symm hK1
    obtain ⟨hP, hD⟩ := va_join (wr := []) (w1 := [(h0, .inr (5, [.ref mp, .ref gco, .ref mce, .int mcn, .ref sk, .int tp_13, .int ba_12, .ref kb, .ref kk, .ref ks, .int on_11, .ref sh, .int sn, .int mat_14, .int alw, .int st_2, .int mo_15, .int mh_9, .int sp_10, .long re])), (mp, .inr (9, [.ref gco, .ref gar, .ref gki, .ref gfu])), (kb, .inl (kb1, 100, .inl gkb_16)), (kk, .inl (kk1, 100, .inl gkk_17)), (ks, .inl (ks1, 100, .inl gks_18)), (gfu, .inr (3, [.ref fw, .ref fe, .ref ff, .int fz])), (fw, .inl (f1, 30, .inr (.inl fgw))), (fe, .inl (f2, 30, .inl fge)), (ff, .inl (f3, 150, .inl fgf)), (gco, .inr (2, [.ref cop, .ref ca, .ref cb, .ref cplace, .ref cnext, .ref cneeded, .int cz, .int ct])), (ca, .inl (cka, 3000, .inl cga)), (cplace, .inl (ckplace, 3000, .inl cgplace)), (cnext, .inl (cknext, 3000, .inl cgnext))]) hP hD [10, 0, 1, 2, 3, 4, 5, 6, 7, 11, 8, 12, 9] [] rfl rfl (by decide) (by decide) hk1 hFc hP1 hD1
    have hK := (hK.sub (tys' := []) [] rfl).app hK1
    generalize H1 = H at hP hS ⊢
    have hP : va_P (dC, dI) vwCl [(h0, .inr (5, [.ref mp, .ref gco, .ref mce, .int mcn, .ref sk, .int tp_13, .int ba_12, .ref kb, .ref kk, .ref ks, .int on_11, .ref sh, .int sn, .int mat_14, .int alw, .int st_2, .int mo_15, .int mh_9, .int sp_10, .long re])), (mp, .inr (9, [.ref gco, .ref gar, .ref gki, .ref gfu])), (kb, .inl (kb1, 100, .inl gkb_16)), (kk, .inl (kk1, 100, .inl gkk_17)), (ks, .inl (ks1, 100, .inl gks_18)), (gfu, .inr (3, [.ref fw, .ref fe, .ref ff, .int fz])), (fw, .inl (f1, 30, .inr (.inl fgw))), (fe, .inl (f2, 30, .inl fge)), (ff, .inl (f3, 150, .inl fgf)), (gco, .inr (2, [.ref cop, .ref ca, .ref cb, .ref cplace, .ref cnext, .ref cneeded, .int cz, .int ct])), (ca, .inl (cka, 3000, .inl cga)), (cplace, .inl (ckplace, 3000, .inl cgplace)), (cnext, .inl (cknext, 3000, .inl cgnext))] H := hP
    have hD : va_D A [(h0, .inr (5, [.ref mp, .ref gco, .ref mce, .int mcn, .ref sk, .int tp_13, .int ba_12, .ref kb, .ref kk, .ref ks, .int on_11, .ref sh, .int sn, .int mat_14, .int alw, .int st_2, .int mo_15, .int mh_9, .int sp_10, .long re])), (mp, .inr (9, [.ref gco, .ref gar, .ref gki, .ref gfu])), (kb, .inl (kb1, 100, .inl gkb_16)), (kk, .inl (kk1, 100, .inl gkk_17)), (ks, .inl (ks1, 100, .inl gks_18)), (gfu, .inr (3, [.ref fw, .ref fe, .ref ff, .int fz])), (fw, .inl (f1, 30, .inr (.inl fgw))), (fe, .inl (f2, 30, .inl fge)), (ff, .inl (f3, 150, .inl fgf)), (gco, .inr (2, [.ref cop, .ref ca, .ref cb, .ref cplace, .ref cnext, .ref cneeded, .int cz, .int ct])), (ca, .inl (cka, 3000, .inl cga)), (cplace, .inl (ckplace, 3000, .inl cgplace)), (cnext, .inl (cknext, 3000, .inl cgnext))] := hD
    have hK : va_K (dC, dI) vwCl [(kb1, .int), (kk1, .int), (ks1, .int), (f1, .long), (f2, .int), (f3, .int), (cka, .int), (ckplace, .int), (cknext, .int)] s := hK
    obtain ⟨hq_19, hq_20⟩ := hw
    have hP9 := hP.sub (ws' := [(h0, .inr (5, [.ref mp, .ref gco, .ref mce, .int mcn, .ref sk, .int tp_13, .int ba_12, .ref kb, .ref kk, .ref ks, .int on_11, .ref sh, .int sn, .int mat_14, .int alw, .int st_2, .int mo_15, .int mh_9, .int sp_10, .long re])), (mp, .inr (9, [.ref gco, .ref gar, .ref gki, .ref gfu])), (kb, .inl (kb1, 100, .inl gkb_16)), (kk, .inl (kk1, 100, .inl gkk_17)), (ks, .inl (ks1, 100, .inl gks_18)), (gfu, .inr (3, [.ref fw, .ref fe, .ref ff, .int fz])), (fw, .inl (f1, 30, .inr (.inl fgw))), (fe, .inl (f2, 30, .inl fge)), (ff, .inl (f3, 150, .inl fgf)), (gco, .inr (2, [.ref cop, .ref ca, .ref cb, .ref cplace, .ref cnext, .ref cneeded, .int cz, .int ct])), (ca, .inl (cka, 3000, .inl cga)), (cplace, .inl (ckplace, 3000, .inl cgplace)), (cnext, .inl (cknext, 3000, .inl cgnext))]) [0, 1, 2, 3, 4, 5, 6, 7, 8, 9, 10, 11, 12] rfl
    have hD9 := hD.sub (ws' := [(h0, .inr (5, [.ref mp, .ref gco, .ref mce, .int mcn, .ref sk, .int tp_13, .int ba_12, .ref kb, .ref kk, .ref ks, .int on_11, .ref sh, .int sn, .int mat_14, .int alw, .int st_2, .int mo_15, .int mh_9, .int sp_10, .long re])), (mp, .inr (9, [.ref gco, .ref gar, .ref gki, .ref gfu])), (kb, .inl (kb1, 100, .inl gkb_16)), (kk, .inl (kk1, 100, .inl gkk_17)), (ks, .inl (ks1, 100, .inl gks_18)), (gfu, .inr (3, [.ref fw, .ref fe, .ref ff, .int fz])), (fw, .inl (f1, 30, .inr (.inl fgw))), (fe, .inl (f2, 30, .inl fge)), (ff, .inl (f3, 150, .inl fgf)), (gco, .inr (2, [.ref cop, .ref ca, .ref cb, .ref cplace, .ref cnext, .ref cneeded, .int cz, .int ct])), (ca, .inl (cka, 3000, .inl cga)), (cplace, .inl (ckplace, 3000, .inl cgplace)), (cnext, .inl (cknext, 3000, .inl cgnext))]) [0, 1, 2, 3, 4, 5, 6, 7, 8, 9, 10, 11, 12] (by decide) rfl
    have hK9 := hK.sub (tys' := [(kb1, .int), (kk1, .int), (ks1, .int), (f1, .long), (f2, .int), (f3, .int), (cka, .int), (ckplace, .int), (cknext, .int)]) [0, 1, 2, 3, 4, 5, 6, 7, 8] rfl
    exact W.vret hx hb hr (fun t ht hW => ⟨⟨(st_2, mh_9, sp_10, on_11, ba_12, tp_13, mat_14, mo_15, gkb_16, gkk_17, gks_18), rfl, ⟨(Or.inr ⟨by omega, by omega, hq_19.elim Or.inl (fun u => Or.inr ⟨⟨by omega, u.1.2⟩, u.2⟩)⟩), (cSpl_t hq_6 hq_20)⟩, by rw [ht]; exact hP9, va_K.moved hW.alike hK9, hD9⟩, hS.F ht⟩) hS.2.2 dX5_callAlone_13
set_option maxHeartbeats 4000000 in
set_option maxRecDepth 100000 in
theorem c_X5_closeCall (l : Launch) (dC : Nat → ClassId) (dI : Nat → Nat → Nat) (aK aV : Nat → Nat) (h0 : Nat) (mp : Nat) (gco : Nat) (mce : Nat) (sk : Nat) (kb : Nat) (kk : Nat) (ks : Nat) (sh : Nat) (mcn : Int32) (tp : Int32) (ba : Int32) (on : Int32) (sn : Int32) (mat : Int32) (alw : Int32) (st : Int32) (mo : Int32) (mh : Int32) (sp : Int32) (re : Int64) (sk1 : ClassId) (gs : Nat → Int64) (kb1 : ClassId) (kk1 : ClassId) (gkb : Nat → Int32) (gkk : Nat → Int32) (sz : Nat) (ht0 : 1 ≤ tp.toInt) (ht1 : tp.toInt ≤ 22424) (hon1 : on.toInt ≤ 100) (hba0 : 0 ≤ ba.toInt) (hba1 : ba.toInt < 22424) : Met l yX5_closeCall (Cond.code yX5_closeCall cX5_closeCall 3 none :: zw) ({ frames := 10, cells := 0, slots := 0, locals := 300 }) (va_Pc [.ref h0] (zP dC dI aK aV sz [(sk1, .long), (kb1, .int), (kk1, .int)] [(h0, .inr (5, [.ref mp, .ref gco, .ref mce, .int mcn, .ref sk, .int tp, .int ba, .ref kb, .ref kk, .ref ks, .int on, .ref sh, .int sn, .int mat, .int alw, .int st, .int mo, .int mh, .int sp, .long re])), (sk, .inl (sk1, 22424, .inr (.inl gs))), (kb, .inl (kb1, 100, .inl gkb)), (kk, .inl (kk1, 100, .inl gkk))])) (va_Qv (fun u : Int32 × Int32 × Int32 × Int32 × Int32 × Int64 × (Nat → Int64) => match u with | (mh2, on2, tp2, mat2, ba2, re2, gs2) => (on.toInt ≤ 1 ∧ mh2.toInt = 1 ∧ re2 = gs (Int32.toNatClampNeg tp - 1) ∨ 1 < on.toInt ∧ mh2.toInt = mh.toInt ∧ on2.toInt = on.toInt - 1 ∧ tp2.toInt = ba.toInt + 1 ∧ gs2 = vp_updL gs (Int32.toNatClampNeg ba) (gs (Int32.toNatClampNeg tp - 1)) ∧ mat2 = gkk (Int32.toNatClampNeg on2) ∧ ba2 = gkb (Int32.toNatClampNeg on2 - 1))) (fun u => match u with | (mh2, on2, tp2, mat2, ba2, re2, gs2) => zQ dC dI (va_A [(h0, .inr (5, [.ref mp, .ref gco, .ref mce, .int mcn, .ref sk, .int tp, .int ba, .ref kb, .ref kk, .ref ks, .int on, .ref sh, .int sn, .int mat, .int alw, .int st, .int mo, .int mh, .int sp, .long re])), (sk, .inl (sk1, 22424, .inr (.inl gs))), (kb, .inl (kb1, 100, .inl gkb)), (kk, .inl (kk1, 100, .inl gkk))] sz) [(sk1, .long), (kb1, .int), (kk1, .int)] [(h0, .inr (5, [.ref mp, .ref gco, .ref mce, .int mcn, .ref sk, .int tp2, .int ba2, .ref kb, .ref kk, .ref ks, .int on2, .ref sh, .int sn, .int mat2, .int alw, .int st, .int mo, .int mh2, .int sp, .long re2])), (sk, .inl (sk1, 22424, .inr (.inl gs2))), (kb, .inl (kb1, 100, .inl gkb)), (kk, .inl (kk1, 100, .inl gkk))]) (va_A [(h0, .inr (5, [.ref mp, .ref gco, .ref mce, .int mcn, .ref sk, .int tp, .int ba, .ref kb, .ref kk, .ref ks, .int on, .ref sh, .int sn, .int mat, .int alw, .int st, .int mo, .int mh, .int sp, .long re])), (sk, .inl (sk1, 22424, .inr (.inl gs))), (kb, .inl (kb1, 100, .inl gkb)), (kk, .inl (kk1, 100, .inl gkk))] sz)) 0 0 (va_A [(h0, .inr (5, [.ref mp, .ref gco, .ref mce, .int mcn, .ref sk, .int tp, .int ba, .ref kb, .ref kk, .ref ks, .int on, .ref sh, .int sn, .int mat, .int alw, .int st, .int mo, .int mh, .int sp, .long re])), (sk, .inl (sk1, 22424, .inr (.inl gs))), (kb, .inl (kb1, 100, .inl gkb)), (kk, .inl (kk1, 100, .inl gkk))] sz) := by
  refine Met.ofW (cc := cX5_closeCall) (maxL := 3) (ret := none) (by decide) rfl ?_
  intro p e s m args below meth c s₁ B hml hv
  obtain ⟨rfl, hsz, hP, hK, hD0, hN, hT⟩ := hv
  have hx := B.exec
  have hb := B.bytes
  have hr := B.returns
  have hts := atoms_spec (ws := Cond.code yX5_closeCall cX5_closeCall 3 none :: zw) B.pre
  have hA : ∀ w ∈ zw, w.before _ s = true := fun w h => hts w (List.mem_cons_of_mem _ h)
  have hown : s.vm.findClass RX5 = some m.cls := findClass_of_methodNamed B.named
  have hlocks := B.notSynchronized
  subst hsz
  have hD := hD0.self (sz := s.heap.size)
  generalize hAe : va_A [(h0, .inr (5, [.ref mp, .ref gco, .ref mce, .int mcn, .ref sk, .int tp, .int ba, .ref kb, .ref kk, .ref ks, .int on, .ref sh, .int sn, .int mat, .int alw, .int st, .int mo, .int mh, .int sp, .long re])), (sk, .inl (sk1, 22424, .inr (.inl gs))), (kb, .inl (kb1, 100, .inl gkb)), (kk, .inl (kk1, 100, .inl gkk))] s.heap.size = A at hD hT ⊢
  have hAA : ∀ q : Nat, s.heap.size ≤ q → A q := fun q h => by rw [← hAe]; exact Or.inr h
  have hS : va_S A s.heap s.heap [] := va_S.rf
  have hl := lv_entry ([.ref h0]) (n := 3) (Nat.le_of_ble_eq_true rfl)
  rw [lg_entry_eq]
  generalize (lg_sl ([.ref h0]) ++ List.replicate (3 - (lg_sl ([.ref h0])).length) Slot.unset).toArray = ls at hl ⊢
  have hl : lv_has ls 3 [(0, .ref h0)] := hl
  refine lv_aload_n hx hb dX5_closeCall_0 rfl (lv_at hl 0 rfl) ?_
  have hPc := hP.sub (ws' := [(h0, .inr (5, [.ref mp, .ref gco, .ref mce, .int mcn, .ref sk, .int tp, .int ba, .ref kb, .ref kk, .ref ks, .int on, .ref sh, .int sn, .int mat, .int alw, .int st, .int mo, .int mh, .int sp, .long re])), (sk, .inl (sk1, 22424, .inr (.inl gs)))]) [0, 1] rfl
  have hDc := hD.sub (ws' := [(h0, .inr (5, [.ref mp, .ref gco, .ref mce, .int mcn, .ref sk, .int tp, .int ba, .ref kb, .ref kk, .ref ks, .int on, .ref sh, .int sn, .int mat, .int alw, .int st, .int mo, .int mh, .int sp, .long re])), (sk, .inl (sk1, 22424, .inr (.inl gs)))]) [0, 1] (by decide) rfl
  have hKc := hK.sub (tys' := [(sk1, .long)]) [0] rfl
  have hFc := va_free (wc := [(h0, .inr (5, [.ref mp, .ref gco, .ref mce, .int mcn, .ref sk, .int tp, .int ba, .ref kb, .ref kk, .ref ks, .int on, .ref sh, .int sn, .int mat, .int alw, .int st, .int mo, .int mh, .int sp, .long re])), (sk, .inl (sk1, 22424, .inr (.inl gs)))]) hD hS hAA [0, 1] rfl
  refine va_calll (va_runV (As := []) (rest := []) ⟨hx, hb, hml, hown, hA⟩ (c_X5_pop l dC dI aK aV h0 mp gco mce sk kb kk ks sh mcn tp ba on sn mat alw st mo mh sp re sk1 gs s.heap.size (by omega) (by omega)) (cwV 0 hA (zw_V wi_1227 wi_1229 wi_56 wi_139 (zw_good wi_1230)) rfl rfl rfl (by decide +kernel) ⟨(Nat.le_of_ble_eq_true rfl), (Nat.le_of_ble_eq_true rfl)⟩) ⟨zP_blind, va_recv hKc hPc (ci := 5) (q0 := 0) rfl rfl, zz_pre hKc hPc hDc hN hT hS hFc⟩ rfl rfl hl.1 rfl (lv_room (Nat.le_of_ble_eq_true rfl)) dX5_closeCall_1 ⟨(Nat.le_of_ble_eq_true rfl), (Nat.le_of_ble_eq_true rfl)⟩) hS (fun q _ h => hFc q h) hFc (fun r_1 u t H1 locs ht hvm hw hB hz1 hk1 hS => ?_)
  obtain ⟨tp_2, rfl⟩ : ∃ z, z = u := ⟨_, rfl⟩
  obtain ⟨hP1, hK1, hD1⟩ := hB
  rw [ht] at hP1
  have hK1 := va_K.moved hvm.symm hK1
  obtain ⟨hP, hD⟩ := va_join (wr := [(kb, .inl (kb1, 100, .inl gkb)), (kk, .inl (kk1, 100, .inl gkk))]) (w1 := [(h0, .inr (5, [.ref mp, .ref gco, .ref mce, .int mcn, .ref sk, .int tp_2, .int ba, .ref kb, .ref kk, .ref ks, .int on, .ref sh, .int sn, .int mat, .int alw, .int st, .int mo, .int mh, .int sp, .long re])), (sk, .inl (sk1, 22424, .inr (.inl gs)))]) hP hD [0, 1] [2, 3] rfl rfl (by decide) (by decide) hk1 hFc hP1 hD1
  have hK := (hK.sub (tys' := [(kb1, .int), (kk1, .int)]) [1, 2] rfl).app hK1
  generalize H1 = H at hP hS ⊢
  have hP : va_P (dC, dI) vwCl [(kb, .inl (kb1, 100, .inl gkb)), (kk, .inl (kk1, 100, .inl gkk)), (h0, .inr (5, [.ref mp, .ref gco, .ref mce, .int mcn, .ref sk, .int tp_2, .int ba, .ref kb, .ref kk, .ref ks, .int on, .ref sh, .int sn, .int mat, .int alw, .int st, .int mo, .int mh, .int sp, .long re])), (sk, .inl (sk1, 22424, .inr (.inl gs)))] H := hP
  have hD : va_D A [(kb, .inl (kb1, 100, .inl gkb)), (kk, .inl (kk1, 100, .inl gkk)), (h0, .inr (5, [.ref mp, .ref gco, .ref mce, .int mcn, .ref sk, .int tp_2, .int ba, .ref kb, .ref kk, .ref ks, .int on, .ref sh, .int sn, .int mat, .int alw, .int st, .int mo, .int mh, .int sp, .long re])), (sk, .inl (sk1, 22424, .inr (.inl gs)))] := hD
  have hK : va_K (dC, dI) vwCl [(kb1, .int), (kk1, .int), (sk1, .long)] s := hK
  obtain ⟨hq_3, hq_4⟩ := hw
  have hpv9 : r_1 = gs (Int32.toNatClampNeg tp - 1) := by rw [hq_4]; exact congrArg gs (by have := zn_nat (x := tp) (by omega); have := zn_nat (x := tp_2) (by omega); omega)
  refine lv_lstore_n (lv' := [(1, .long r_1), (0, .ref h0)]) hx hb dX5_closeCall_4 rfl hl (by decide) rfl (fun ls hl => ?_)
  refine lv_aload_n hx hb dX5_closeCall_5 rfl (lv_at hl 1 rfl) ?_
  refine va_get (D := (dC, dI)) (ci := 5) (v := .int on) (C := RX5) (T := TX5) (N := 20) hx hb hA zin_X5 hown hK hP 2 rfl rfl 10 (by decide) (hA _ wi_494) (fun _ h9 => h9) rfl dX5_closeCall_6 ?_
  refine lv_iconst (v := 1) hx hb dX5_closeCall_9 (by decide) ?_
  refine lv_icmp_gt (tgt := 24) hx hb dX5_closeCall_10 (by decide) (fun c_5 => ?_) (fun c_5 => ?_)
  · have ic_5 : 1 < on.toInt := zi_lt c_5
    refine lv_aload_n hx hb dX5_closeCall_24 rfl (lv_at hl 1 rfl) ?_
    refine lv_dup hx hb dX5_closeCall_25 rfl ?_
    refine va_get (D := (dC, dI)) (ci := 5) (v := .int on) (C := RX5) (T := TX5) (N := 20) hx hb hA zin_X5 hown hK hP 2 rfl rfl 10 (by decide) (hA _ wi_494) (fun _ h9 => h9) rfl dX5_closeCall_26 ?_
    refine lv_iconst (v := 1) hx hb dX5_closeCall_29 (by decide) ?_
    refine lv_isub hx hb dX5_closeCall_30 ?_
    refine lv_topi (fun x_6 ex_6 => ?_)
    have ix_6 : x_6.toInt = on.toInt - 1 := by rw [ex_6]; exact zi_subc (by decide) (by omega) (by omega)
    refine va_put (D := (dC, dI)) (ci := 5) (v := .int x_6) (ty := .int) (C := RX5) (T := TX5) (N := 20) hx hb hA zin_X5 tyX5 tyX5_ok nmX5 hown hK hP hD hS 2 rfl rfl 10 (by decide) (hA _ wi_494) (fun _ h9 => h9) rfl (by decide +kernel) rfl rfl (Nat.le_of_ble_eq_true rfl) dX5_closeCall_31 (fun H locs hP hD hS => ?_)
    have hP : va_P (dC, dI) vwCl [(kb, .inl (kb1, 100, .inl gkb)), (kk, .inl (kk1, 100, .inl gkk)), (h0, .inr (5, [.ref mp, .ref gco, .ref mce, .int mcn, .ref sk, .int tp_2, .int ba, .ref kb, .ref kk, .ref ks, .int x_6, .ref sh, .int sn, .int mat, .int alw, .int st, .int mo, .int mh, .int sp, .long re])), (sk, .inl (sk1, 22424, .inr (.inl gs)))] H := hP
    have hD : va_D A [(kb, .inl (kb1, 100, .inl gkb)), (kk, .inl (kk1, 100, .inl gkk)), (h0, .inr (5, [.ref mp, .ref gco, .ref mce, .int mcn, .ref sk, .int tp_2, .int ba, .ref kb, .ref kk, .ref ks, .int x_6, .ref sh, .int sn, .int mat, .int alw, .int st, .int mo, .int mh, .int sp, .long re])), (sk, .inl (sk1, 22424, .inr (.inl gs)))] := hD
    refine lv_aload_n hx hb dX5_closeCall_34 rfl (lv_at hl 1 rfl) ?_
    refine lv_aload_n hx hb dX5_closeCall_35 rfl (lv_at hl 1 rfl) ?_
    refine va_get (D := (dC, dI)) (ci := 5) (v := .int ba) (C := RX5) (T := TX5) (N := 20) hx hb hA zin_X5 hown hK hP 2 rfl rfl 6 (by decide) (hA _ wi_490) (fun _ h9 => h9) rfl dX5_closeCall_36 ?_
    refine va_put (D := (dC, dI)) (ci := 5) (v := .int ba) (ty := .int) (C := RX5) (T := TX5) (N := 20) hx hb hA zin_X5 tyX5 tyX5_ok nmX5 hown hK hP hD hS 2 rfl rfl 5 (by decide) (hA _ wi_489) (fun _ h9 => h9) rfl (by decide +kernel) rfl rfl (Nat.le_of_ble_eq_true rfl) dX5_closeCall_39 (fun H locs hP hD hS => ?_)
    have hP : va_P (dC, dI) vwCl [(kb, .inl (kb1, 100, .inl gkb)), (kk, .inl (kk1, 100, .inl gkk)), (h0, .inr (5, [.ref mp, .ref gco, .ref mce, .int mcn, .ref sk, .int ba, .int ba, .ref kb, .ref kk, .ref ks, .int x_6, .ref sh, .int sn, .int mat, .int alw, .int st, .int mo, .int mh, .int sp, .long re])), (sk, .inl (sk1, 22424, .inr (.inl gs)))] H := hP
    have hD : va_D A [(kb, .inl (kb1, 100, .inl gkb)), (kk, .inl (kk1, 100, .inl gkk)), (h0, .inr (5, [.ref mp, .ref gco, .ref mce, .int mcn, .ref sk, .int ba, .int ba, .ref kb, .ref kk, .ref ks, .int x_6, .ref sh, .int sn, .int mat, .int alw, .int st, .int mo, .int mh, .int sp, .long re])), (sk, .inl (sk1, 22424, .inr (.inl gs)))] := hD
    refine lv_aload_n hx hb dX5_closeCall_42 rfl (lv_at hl 1 rfl) ?_
    refine lv_lload_n hx hb dX5_closeCall_43 rfl (lv_at hl 0 rfl) ?_
    have hPc := hP.sub (ws' := [(h0, .inr (5, [.ref mp, .ref gco, .ref mce, .int mcn, .ref sk, .int ba, .int ba, .ref kb, .ref kk, .ref ks, .int x_6, .ref sh, .int sn, .int mat, .int alw, .int st, .int mo, .int mh, .int sp, .long re])), (sk, .inl (sk1, 22424, .inr (.inl gs)))]) [2, 3] rfl
    have hDc := hD.sub (ws' := [(h0, .inr (5, [.ref mp, .ref gco, .ref mce, .int mcn, .ref sk, .int ba, .int ba, .ref kb, .ref kk, .ref ks, .int x_6, .ref sh, .int sn, .int mat, .int alw, .int st, .int mo, .int mh, .int sp, .long re])), (sk, .inl (sk1, 22424, .inr (.inl gs)))]) [2, 3] (by decide) rfl
    have hKc := hK.sub (tys' := [(sk1, .long)]) [2] rfl
    have hFc := va_free (wc := [(h0, .inr (5, [.ref mp, .ref gco, .ref mce, .int mcn, .ref sk, .int ba, .int ba, .ref kb, .ref kk, .ref ks, .int x_6, .ref sh, .int sn, .int mat, .int alw, .int st, .int mo, .int mh, .int sp, .long re])), (sk, .inl (sk1, 22424, .inr (.inl gs)))]) hD hS hAA [2, 3] rfl
    refine va_callv (va_runV (As := [.long r_1]) (rest := []) ⟨hx, hb, hml, hown, hA⟩ (c_X5_push l dC dI aK aV h0 mp gco mce sk kb kk ks sh mcn ba ba x_6 sn mat alw st mo mh sp re sk1 gs r_1 H.size (by omega) (by omega)) (cwV 1 hA (zw_V wi_1176 wi_1106 wi_1107 wi_139 (zw_good wi_1108)) rfl rfl rfl (by decide +kernel) ⟨(Nat.le_of_ble_eq_true rfl), (Nat.le_of_ble_eq_true rfl)⟩) ⟨zP_blind, va_recv hKc hPc (ci := 5) (q0 := 0) rfl rfl, zz_pre hKc hPc hDc hN hT hS hFc⟩ rfl rfl hl.1 rfl (lv_room (Nat.le_of_ble_eq_true rfl)) dX5_closeCall_44 ⟨(Nat.le_of_ble_eq_true rfl), (Nat.le_of_ble_eq_true rfl)⟩) hS (fun q _ h => hFc q h) hFc (fun u t H1 locs ht hvm hw hB hz1 hk1 hS => ?_)
    obtain ⟨tp_8, gs_9⟩ := u
    obtain ⟨hP1, hK1, hD1⟩ := hB
    rw [ht] at hP1
    have hK1 := va_K.moved hvm.symm hK1
    obtain ⟨hP, hD⟩ := va_join (wr := [(kb, .inl (kb1, 100, .inl gkb)), (kk, .inl (kk1, 100, .inl gkk))]) (w1 := [(h0, .inr (5, [.ref mp, .ref gco, .ref mce, .int mcn, .ref sk, .int tp_8, .int ba, .ref kb, .ref kk, .ref ks, .int x_6, .ref sh, .int sn, .int mat, .int alw, .int st, .int mo, .int mh, .int sp, .long re])), (sk, .inl (sk1, 22424, .inr (.inl gs_9)))]) hP hD [2, 3] [0, 1] rfl rfl (by decide) (by decide) hk1 hFc hP1 hD1
    have hK := (hK.sub (tys' := [(kb1, .int), (kk1, .int)]) [0, 1] rfl).app hK1
    generalize H1 = H at hP hS ⊢
    have hP : va_P (dC, dI) vwCl [(kb, .inl (kb1, 100, .inl gkb)), (kk, .inl (kk1, 100, .inl gkk)), (h0, .inr (5, [.ref mp, .ref gco, .ref mce, .int mcn, .ref sk, .int tp_8, .int ba, .ref kb, .ref kk, .ref ks, .int x_6, .ref sh, .int sn, .int mat, .int alw, .int st, .int mo, .int mh, .int sp, .long re])), (sk, .inl (sk1, 22424, .inr (.inl gs_9)))] H := hP
    have hD : va_D A [(kb, .inl (kb1, 100, .inl gkb)), (kk, .inl (kk1, 100, .inl gkk)), (h0, .inr (5, [.ref mp, .ref gco, .ref mce, .int mcn, .ref sk, .int tp_8, .int ba, .ref kb, .ref kk, .ref ks, .int x_6, .ref sh, .int sn, .int mat, .int alw, .int st, .int mo, .int mh, .int sp, .long re])), (sk, .inl (sk1, 22424, .inr (.inl gs_9)))] := hD
    have hK : va_K (dC, dI) vwCl [(kb1, .int), (kk1, .int), (sk1, .long)] s := hK
    obtain ⟨hq_10, hq_11⟩ := hw
    refine lv_aload_n hx hb dX5_closeCall_47 rfl (lv_at hl 1 rfl) ?_
    refine lv_aload_n hx hb dX5_closeCall_48 rfl (lv_at hl 1 rfl) ?_
    refine va_get (D := (dC, dI)) (ci := 5) (v := .ref kk) (C := RX5) (T := TX5) (N := 20) hx hb hA zin_X5 hown hK hP 2 rfl rfl 8 (by decide) (hA _ wi_492) (fun _ h9 => h9) rfl dX5_closeCall_49 ?_
    refine lv_aload_n hx hb dX5_closeCall_52 rfl (lv_at hl 1 rfl) ?_
    refine va_get (D := (dC, dI)) (ci := 5) (v := .int x_6) (C := RX5) (T := TX5) (N := 20) hx hb hA zin_X5 hown hK hP 2 rfl rfl 10 (by decide) (hA _ wi_494) (fun _ h9 => h9) rfl dX5_closeCall_53 ?_
    refine va_iald hx hb hK hP 1 1 rfl rfl (vp_in_iff.mpr ⟨by omega, by omega⟩) dX5_closeCall_56 ?_
    refine lv_topi (fun x_12 ex_12 => ?_)
    refine va_put (D := (dC, dI)) (ci := 5) (v := .int x_12) (ty := .int) (C := RX5) (T := TX5) (N := 20) hx hb hA zin_X5 tyX5 tyX5_ok nmX5 hown hK hP hD hS 2 rfl rfl 13 (by decide) (hA _ wi_497) (fun _ h9 => h9) rfl (by decide +kernel) rfl rfl (Nat.le_of_ble_eq_true rfl) dX5_closeCall_57 (fun H locs hP hD hS => ?_)
    have hP : va_P (dC, dI) vwCl [(kb, .inl (kb1, 100, .inl gkb)), (kk, .inl (kk1, 100, .inl gkk)), (h0, .inr (5, [.ref mp, .ref gco, .ref mce, .int mcn, .ref sk, .int tp_8, .int ba, .ref kb, .ref kk, .ref ks, .int x_6, .ref sh, .int sn, .int x_12, .int alw, .int st, .int mo, .int mh, .int sp, .long re])), (sk, .inl (sk1, 22424, .inr (.inl gs_9)))] H := hP
    have hD : va_D A [(kb, .inl (kb1, 100, .inl gkb)), (kk, .inl (kk1, 100, .inl gkk)), (h0, .inr (5, [.ref mp, .ref gco, .ref mce, .int mcn, .ref sk, .int tp_8, .int ba, .ref kb, .ref kk, .ref ks, .int x_6, .ref sh, .int sn, .int x_12, .int alw, .int st, .int mo, .int mh, .int sp, .long re])), (sk, .inl (sk1, 22424, .inr (.inl gs_9)))] := hD
    refine lv_aload_n hx hb dX5_closeCall_60 rfl (lv_at hl 1 rfl) ?_
    refine lv_aload_n hx hb dX5_closeCall_61 rfl (lv_at hl 1 rfl) ?_
    refine va_get (D := (dC, dI)) (ci := 5) (v := .ref kb) (C := RX5) (T := TX5) (N := 20) hx hb hA zin_X5 hown hK hP 2 rfl rfl 7 (by decide) (hA _ wi_491) (fun _ h9 => h9) rfl dX5_closeCall_62 ?_
    refine lv_aload_n hx hb dX5_closeCall_65 rfl (lv_at hl 1 rfl) ?_
    refine va_get (D := (dC, dI)) (ci := 5) (v := .int x_6) (C := RX5) (T := TX5) (N := 20) hx hb hA zin_X5 hown hK hP 2 rfl rfl 10 (by decide) (hA _ wi_494) (fun _ h9 => h9) rfl dX5_closeCall_66 ?_
    refine lv_iconst (v := 1) hx hb dX5_closeCall_69 (by decide) ?_
    refine lv_isub hx hb dX5_closeCall_70 ?_
    refine lv_topi (fun x_13 ex_13 => ?_)
    have ix_13 : x_13.toInt = x_6.toInt - 1 := by rw [ex_13]; exact zi_subc (by decide) (by omega) (by omega)
    refine va_iald hx hb hK hP 0 0 rfl rfl (vp_in_iff.mpr ⟨by omega, by omega⟩) dX5_closeCall_71 ?_
    refine lv_topi (fun x_14 ex_14 => ?_)
    refine va_put (D := (dC, dI)) (ci := 5) (v := .int x_14) (ty := .int) (C := RX5) (T := TX5) (N := 20) hx hb hA zin_X5 tyX5 tyX5_ok nmX5 hown hK hP hD hS 2 rfl rfl 6 (by decide) (hA _ wi_490) (fun _ h9 => h9) rfl (by decide +kernel) rfl rfl (Nat.le_of_ble_eq_true rfl) dX5_closeCall_72 (fun H locs hP hD hS => ?_)
    have hP : va_P (dC, dI) vwCl [(kb, .inl (kb1, 100, .inl gkb)), (kk, .inl (kk1, 100, .inl gkk)), (h0, .inr (5, [.ref mp, .ref gco, .ref mce, .int mcn, .ref sk, .int tp_8, .int x_14, .ref kb, .ref kk, .ref ks, .int x_6, .ref sh, .int sn, .int x_12, .int alw, .int st, .int mo, .int mh, .int sp, .long re])), (sk, .inl (sk1, 22424, .inr (.inl gs_9)))] H := hP
    have hD : va_D A [(kb, .inl (kb1, 100, .inl gkb)), (kk, .inl (kk1, 100, .inl gkk)), (h0, .inr (5, [.ref mp, .ref gco, .ref mce, .int mcn, .ref sk, .int tp_8, .int x_14, .ref kb, .ref kk, .ref ks, .int x_6, .ref sh, .int sn, .int x_12, .int alw, .int st, .int mo, .int mh, .int sp, .long re])), (sk, .inl (sk1, 22424, .inr (.inl gs_9)))] := hD
    have hP9 := hP.sub (ws' := [(h0, .inr (5, [.ref mp, .ref gco, .ref mce, .int mcn, .ref sk, .int tp_8, .int x_14, .ref kb, .ref kk, .ref ks, .int x_6, .ref sh, .int sn, .int x_12, .int alw, .int st, .int mo, .int mh, .int sp, .long re])), (sk, .inl (sk1, 22424, .inr (.inl gs_9))), (kb, .inl (kb1, 100, .inl gkb)), (kk, .inl (kk1, 100, .inl gkk))]) [2, 3, 0, 1] rfl
    have hD9 := hD.sub (ws' := [(h0, .inr (5, [.ref mp, .ref gco, .ref mce, .int mcn, .ref sk, .int tp_8, .int x_14, .ref kb, .ref kk, .ref ks, .int x_6, .ref sh, .int sn, .int x_12, .int alw, .int st, .int mo, .int mh, .int sp, .long re])), (sk, .inl (sk1, 22424, .inr (.inl gs_9))), (kb, .inl (kb1, 100, .inl gkb)), (kk, .inl (kk1, 100, .inl gkk))]) [2, 3, 0, 1] (by decide) rfl
    have hK9 := hK.sub (tys' := [(sk1, .long), (kb1, .int), (kk1, .int)]) [2, 0, 1] rfl
    exact W.vret hx hb hr (fun t ht hW => ⟨⟨(mh, x_6, tp_8, x_12, x_14, re, gs_9), rfl, (Or.inr ⟨by omega, rfl, by omega, hq_10, by rw [hq_11, hpv9], ex_12, by rw [ex_14]; exact congrArg gkb (by have := zn_nat (x := x_6) (by omega); have := zn_nat (x := x_13) (by omega); omega)⟩), by rw [ht]; exact hP9, va_K.moved hW.alike hK9, hD9⟩, hS.F ht⟩) hS.2.2 dX5_closeCall_75
  · have ic_5 : on.toInt ≤ 1 := zi_nlt c_5
    refine lv_aload_n hx hb dX5_closeCall_13 rfl (lv_at hl 1 rfl) ?_
    refine lv_lload_n hx hb dX5_closeCall_14 rfl (lv_at hl 0 rfl) ?_
    refine va_put (D := (dC, dI)) (ci := 5) (v := .long r_1) (ty := .long) (C := RX5) (T := TX5) (N := 20) hx hb hA zin_X5 tyX5 tyX5_ok nmX5 hown hK hP hD hS 2 rfl rfl 19 (by decide) (hA _ wi_507) (fun _ h9 => h9) rfl (by decide +kernel) rfl rfl (Nat.le_of_ble_eq_true rfl) dX5_closeCall_15 (fun H locs hP hD hS => ?_)
    have hP : va_P (dC, dI) vwCl [(kb, .inl (kb1, 100, .inl gkb)), (kk, .inl (kk1, 100, .inl gkk)), (h0, .inr (5, [.ref mp, .ref gco, .ref mce, .int mcn, .ref sk, .int tp_2, .int ba, .ref kb, .ref kk, .ref ks, .int on, .ref sh, .int sn, .int mat, .int alw, .int st, .int mo, .int mh, .int sp, .long r_1])), (sk, .inl (sk1, 22424, .inr (.inl gs)))] H := hP
    have hD : va_D A [(kb, .inl (kb1, 100, .inl gkb)), (kk, .inl (kk1, 100, .inl gkk)), (h0, .inr (5, [.ref mp, .ref gco, .ref mce, .int mcn, .ref sk, .int tp_2, .int ba, .ref kb, .ref kk, .ref ks, .int on, .ref sh, .int sn, .int mat, .int alw, .int st, .int mo, .int mh, .int sp, .long r_1])), (sk, .inl (sk1, 22424, .inr (.inl gs)))] := hD
    refine lv_aload_n hx hb dX5_closeCall_18 rfl (lv_at hl 1 rfl) ?_
    refine lv_iconst (v := 1) hx hb dX5_closeCall_19 (by decide) ?_
    refine va_put (D := (dC, dI)) (ci := 5) (v := .int 1) (ty := .int) (C := RX5) (T := TX5) (N := 20) hx hb hA zin_X5 tyX5 tyX5_ok nmX5 hown hK hP hD hS 2 rfl rfl 17 (by decide) (hA _ wi_503) (fun _ h9 => h9) rfl (by decide +kernel) rfl rfl (Nat.le_of_ble_eq_true rfl) dX5_closeCall_20 (fun H locs hP hD hS => ?_)
    have hP : va_P (dC, dI) vwCl [(kb, .inl (kb1, 100, .inl gkb)), (kk, .inl (kk1, 100, .inl gkk)), (h0, .inr (5, [.ref mp, .ref gco, .ref mce, .int mcn, .ref sk, .int tp_2, .int ba, .ref kb, .ref kk, .ref ks, .int on, .ref sh, .int sn, .int mat, .int alw, .int st, .int mo, .int 1, .int sp, .long r_1])), (sk, .inl (sk1, 22424, .inr (.inl gs)))] H := hP
    have hD : va_D A [(kb, .inl (kb1, 100, .inl gkb)), (kk, .inl (kk1, 100, .inl gkk)), (h0, .inr (5, [.ref mp, .ref gco, .ref mce, .int mcn, .ref sk, .int tp_2, .int ba, .ref kb, .ref kk, .ref ks, .int on, .ref sh, .int sn, .int mat, .int alw, .int st, .int mo, .int 1, .int sp, .long r_1])), (sk, .inl (sk1, 22424, .inr (.inl gs)))] := hD
    have hP9 := hP.sub (ws' := [(h0, .inr (5, [.ref mp, .ref gco, .ref mce, .int mcn, .ref sk, .int tp_2, .int ba, .ref kb, .ref kk, .ref ks, .int on, .ref sh, .int sn, .int mat, .int alw, .int st, .int mo, .int 1, .int sp, .long r_1])), (sk, .inl (sk1, 22424, .inr (.inl gs))), (kb, .inl (kb1, 100, .inl gkb)), (kk, .inl (kk1, 100, .inl gkk))]) [2, 3, 0, 1] rfl
    have hD9 := hD.sub (ws' := [(h0, .inr (5, [.ref mp, .ref gco, .ref mce, .int mcn, .ref sk, .int tp_2, .int ba, .ref kb, .ref kk, .ref ks, .int on, .ref sh, .int sn, .int mat, .int alw, .int st, .int mo, .int 1, .int sp, .long r_1])), (sk, .inl (sk1, 22424, .inr (.inl gs))), (kb, .inl (kb1, 100, .inl gkb)), (kk, .inl (kk1, 100, .inl gkk))]) [2, 3, 0, 1] (by decide) rfl
    have hK9 := hK.sub (tys' := [(sk1, .long), (kb1, .int), (kk1, .int)]) [2, 0, 1] rfl
    exact W.vret hx hb hr (fun t ht hW => ⟨⟨(1, on, tp_2, mat, ba, r_1, gs), rfl, (Or.inl ⟨by omega, by decide, hpv9⟩), by rw [ht]; exact hP9, va_K.moved hW.alike hK9, hD9⟩, hS.F ht⟩) hS.2.2 dX5_closeCall_23
set_option maxHeartbeats 4000000 in
set_option maxRecDepth 100000 in
theorem c_X5_keepShell (l : Launch) (dC : Nat → ClassId) (dI : Nat → Nat → Nat) (aK aV : Nat → Nat) (h0 : Nat) (mp : Nat) (gco : Nat) (mce : Nat) (sk : Nat) (kb : Nat) (kk : Nat) (ks : Nat) (sh : Nat) (mcn : Int32) (tp : Int32) (ba : Int32) (on : Int32) (sn : Int32) (mat : Int32) (alw : Int32) (st : Int32) (mo : Int32) (mh : Int32) (sp : Int32) (re : Int64) (sh1 : ClassId) (gsh : Nat → Int32) (ce : Int32) (sz : Nat) (hsn0 : 0 ≤ sn.toInt) (hsn1 : sn.toInt ≤ 3000) : Met l yX5_keepShell (Cond.code yX5_keepShell cX5_keepShell 2 none :: zw) ({ frames := 8, cells := 0, slots := 0, locals := 200 }) (va_Pc [.ref h0, .int ce] (zP dC dI aK aV sz [(sh1, .int)] [(h0, .inr (5, [.ref mp, .ref gco, .ref mce, .int mcn, .ref sk, .int tp, .int ba, .ref kb, .ref kk, .ref ks, .int on, .ref sh, .int sn, .int mat, .int alw, .int st, .int mo, .int mh, .int sp, .long re])), (sh, .inl (sh1, 3000, .inl gsh))])) (va_Qv (fun u : Int32 × (Nat → Int32) => match u with | (sn2, gsh2) => (0 ≤ sn2.toInt) ∧ (sn2.toInt ≤ 3000) ∧ (0 ≤ sn.toInt ∧ sn.toInt < 3000 ∧ sn2.toInt = sn.toInt + 1 ∧ gsh2 = upd gsh (Int32.toNatClampNeg sn) ce ∨ sn2.toInt = sn.toInt ∧ gsh2 = gsh)) (fun u => match u with | (sn2, gsh2) => zQ dC dI (va_A [(h0, .inr (5, [.ref mp, .ref gco, .ref mce, .int mcn, .ref sk, .int tp, .int ba, .ref kb, .ref kk, .ref ks, .int on, .ref sh, .int sn, .int mat, .int alw, .int st, .int mo, .int mh, .int sp, .long re])), (sh, .inl (sh1, 3000, .inl gsh))] sz) [(sh1, .int)] [(h0, .inr (5, [.ref mp, .ref gco, .ref mce, .int mcn, .ref sk, .int tp, .int ba, .ref kb, .ref kk, .ref ks, .int on, .ref sh, .int sn2, .int mat, .int alw, .int st, .int mo, .int mh, .int sp, .long re])), (sh, .inl (sh1, 3000, .inl gsh2))]) (va_A [(h0, .inr (5, [.ref mp, .ref gco, .ref mce, .int mcn, .ref sk, .int tp, .int ba, .ref kb, .ref kk, .ref ks, .int on, .ref sh, .int sn, .int mat, .int alw, .int st, .int mo, .int mh, .int sp, .long re])), (sh, .inl (sh1, 3000, .inl gsh))] sz)) 0 0 (va_A [(h0, .inr (5, [.ref mp, .ref gco, .ref mce, .int mcn, .ref sk, .int tp, .int ba, .ref kb, .ref kk, .ref ks, .int on, .ref sh, .int sn, .int mat, .int alw, .int st, .int mo, .int mh, .int sp, .long re])), (sh, .inl (sh1, 3000, .inl gsh))] sz) := by
  refine Met.ofW (cc := cX5_keepShell) (maxL := 2) (ret := none) (by decide) rfl ?_
  intro p e s m args below meth c s₁ B hml hv
  obtain ⟨rfl, hsz, hP, hK, hD0, hN, hT⟩ := hv
  have hx := B.exec
  have hb := B.bytes
  have hr := B.returns
  have hts := atoms_spec (ws := Cond.code yX5_keepShell cX5_keepShell 2 none :: zw) B.pre
  have hA : ∀ w ∈ zw, w.before _ s = true := fun w h => hts w (List.mem_cons_of_mem _ h)
  have hown : s.vm.findClass RX5 = some m.cls := findClass_of_methodNamed B.named
  have hlocks := B.notSynchronized
  subst hsz
  have hD := hD0.self (sz := s.heap.size)
  generalize hAe : va_A [(h0, .inr (5, [.ref mp, .ref gco, .ref mce, .int mcn, .ref sk, .int tp, .int ba, .ref kb, .ref kk, .ref ks, .int on, .ref sh, .int sn, .int mat, .int alw, .int st, .int mo, .int mh, .int sp, .long re])), (sh, .inl (sh1, 3000, .inl gsh))] s.heap.size = A at hD hT ⊢
  have hAA : ∀ q : Nat, s.heap.size ≤ q → A q := fun q h => by rw [← hAe]; exact Or.inr h
  have hS : va_S A s.heap s.heap [] := va_S.rf
  have hl := lv_entry ([.ref h0, .int ce]) (n := 2) (Nat.le_of_ble_eq_true rfl)
  rw [lg_entry_eq]
  generalize (lg_sl ([.ref h0, .int ce]) ++ List.replicate (2 - (lg_sl ([.ref h0, .int ce])).length) Slot.unset).toArray = ls at hl ⊢
  have hl : lv_has ls 2 [(0, .ref h0), (1, .int ce)] := hl
  refine lv_aload_n hx hb dX5_keepShell_0 rfl (lv_at hl 0 rfl) ?_
  refine va_get (D := (dC, dI)) (ci := 5) (v := .int sn) (C := RX5) (T := TX5) (N := 20) hx hb hA zin_X5 hown hK hP 0 rfl rfl 12 (by decide) (hA _ wi_496) (fun _ h9 => h9) rfl dX5_keepShell_1 ?_
  refine lv_sipush (v := 3000) hx hb dX5_keepShell_4 (by decide) ?_
  refine lv_icmp_ge (tgt := 30) hx hb dX5_keepShell_7 (by decide) (fun c_1 => ?_) (fun c_1 => ?_)
  · have ic_1 : 3000 ≤ sn.toInt := zi_le c_1
    have hP9 := hP.sub (ws' := [(h0, .inr (5, [.ref mp, .ref gco, .ref mce, .int mcn, .ref sk, .int tp, .int ba, .ref kb, .ref kk, .ref ks, .int on, .ref sh, .int sn, .int mat, .int alw, .int st, .int mo, .int mh, .int sp, .long re])), (sh, .inl (sh1, 3000, .inl gsh))]) [0, 1] rfl
    have hD9 := hD.sub (ws' := [(h0, .inr (5, [.ref mp, .ref gco, .ref mce, .int mcn, .ref sk, .int tp, .int ba, .ref kb, .ref kk, .ref ks, .int on, .ref sh, .int sn, .int mat, .int alw, .int st, .int mo, .int mh, .int sp, .long re])), (sh, .inl (sh1, 3000, .inl gsh))]) [0, 1] (by decide) rfl
    have hK9 := hK.sub (tys' := [(sh1, .int)]) [0] rfl
    exact W.vret hx hb hr (fun t ht hW => ⟨⟨(sn, gsh), rfl, ⟨by omega, by omega, (Or.inr ⟨rfl, rfl⟩)⟩, by rw [ht]; exact hP9, va_K.moved hW.alike hK9, hD9⟩, hS.F ht⟩) hS.2.2 dX5_keepShell_30
  · have ic_1 : sn.toInt < 3000 := zi_nle c_1
    refine lv_aload_n hx hb dX5_keepShell_10 rfl (lv_at hl 0 rfl) ?_
    refine va_get (D := (dC, dI)) (ci := 5) (v := .ref sh) (C := RX5) (T := TX5) (N := 20) hx hb hA zin_X5 hown hK hP 0 rfl rfl 11 (by decide) (hA _ wi_495) (fun _ h9 => h9) rfl dX5_keepShell_11 ?_
    refine lv_aload_n hx hb dX5_keepShell_14 rfl (lv_at hl 0 rfl) ?_
    refine va_get (D := (dC, dI)) (ci := 5) (v := .int sn) (C := RX5) (T := TX5) (N := 20) hx hb hA zin_X5 hown hK hP 0 rfl rfl 12 (by decide) (hA _ wi_496) (fun _ h9 => h9) rfl dX5_keepShell_15 ?_
    refine lv_iload_n hx hb dX5_keepShell_18 rfl (lv_at hl 1 rfl) ?_
    refine va_iast hx hb hK hP hD hS 1 0 rfl rfl (vp_in_iff.mpr ⟨by omega, by omega⟩) dX5_keepShell_19 (fun H locs hP hD hS => ?_)
    obtain ⟨f_2, ef_2⟩ : ∃ gz9 : Nat → Int32, gz9 = upd gsh (Int32.toNatClampNeg sn) ce := ⟨_, rfl⟩
    rw [← ef_2] at hP hD
    have hP : va_P (dC, dI) vwCl [(h0, .inr (5, [.ref mp, .ref gco, .ref mce, .int mcn, .ref sk, .int tp, .int ba, .ref kb, .ref kk, .ref ks, .int on, .ref sh, .int sn, .int mat, .int alw, .int st, .int mo, .int mh, .int sp, .long re])), (sh, .inl (sh1, 3000, .inl f_2))] H := hP
    have hD : va_D A [(h0, .inr (5, [.ref mp, .ref gco, .ref mce, .int mcn, .ref sk, .int tp, .int ba, .ref kb, .ref kk, .ref ks, .int on, .ref sh, .int sn, .int mat, .int alw, .int st, .int mo, .int mh, .int sp, .long re])), (sh, .inl (sh1, 3000, .inl f_2))] := hD
    refine lv_aload_n hx hb dX5_keepShell_20 rfl (lv_at hl 0 rfl) ?_
    refine lv_dup hx hb dX5_keepShell_21 rfl ?_
    refine va_get (D := (dC, dI)) (ci := 5) (v := .int sn) (C := RX5) (T := TX5) (N := 20) hx hb hA zin_X5 hown hK hP 0 rfl rfl 12 (by decide) (hA _ wi_496) (fun _ h9 => h9) rfl dX5_keepShell_22 ?_
    refine lv_iconst (v := 1) hx hb dX5_keepShell_25 (by decide) ?_
    refine lv_iadd hx hb dX5_keepShell_26 ?_
    refine lv_topi (fun x_3 ex_3 => ?_)
    have ix_3 : x_3.toInt = sn.toInt + 1 := by rw [ex_3]; exact zi_addc (by decide) (by omega) (by omega)
    refine va_put (D := (dC, dI)) (ci := 5) (v := .int x_3) (ty := .int) (C := RX5) (T := TX5) (N := 20) hx hb hA zin_X5 tyX5 tyX5_ok nmX5 hown hK hP hD hS 0 rfl rfl 12 (by decide) (hA _ wi_496) (fun _ h9 => h9) rfl (by decide +kernel) rfl rfl (Nat.le_of_ble_eq_true rfl) dX5_keepShell_27 (fun H locs hP hD hS => ?_)
    have hP : va_P (dC, dI) vwCl [(h0, .inr (5, [.ref mp, .ref gco, .ref mce, .int mcn, .ref sk, .int tp, .int ba, .ref kb, .ref kk, .ref ks, .int on, .ref sh, .int x_3, .int mat, .int alw, .int st, .int mo, .int mh, .int sp, .long re])), (sh, .inl (sh1, 3000, .inl f_2))] H := hP
    have hD : va_D A [(h0, .inr (5, [.ref mp, .ref gco, .ref mce, .int mcn, .ref sk, .int tp, .int ba, .ref kb, .ref kk, .ref ks, .int on, .ref sh, .int x_3, .int mat, .int alw, .int st, .int mo, .int mh, .int sp, .long re])), (sh, .inl (sh1, 3000, .inl f_2))] := hD
    have hP9 := hP.sub (ws' := [(h0, .inr (5, [.ref mp, .ref gco, .ref mce, .int mcn, .ref sk, .int tp, .int ba, .ref kb, .ref kk, .ref ks, .int on, .ref sh, .int x_3, .int mat, .int alw, .int st, .int mo, .int mh, .int sp, .long re])), (sh, .inl (sh1, 3000, .inl f_2))]) [0, 1] rfl
    have hD9 := hD.sub (ws' := [(h0, .inr (5, [.ref mp, .ref gco, .ref mce, .int mcn, .ref sk, .int tp, .int ba, .ref kb, .ref kk, .ref ks, .int on, .ref sh, .int x_3, .int mat, .int alw, .int st, .int mo, .int mh, .int sp, .long re])), (sh, .inl (sh1, 3000, .inl f_2))]) [0, 1] (by decide) rfl
    have hK9 := hK.sub (tys' := [(sh1, .int)]) [0] rfl
    exact W.vret hx hb hr (fun t ht hW => ⟨⟨(x_3, f_2), rfl, ⟨by omega, by omega, (Or.inl ⟨by omega, by omega, by omega, ef_2⟩)⟩, by rw [ht]; exact hP9, va_K.moved hW.alike hK9, hD9⟩, hS.F ht⟩) hS.2.2 dX5_keepShell_30

end
section
theorem wi_315 : Cond.fieldLink RX5 260 "ReuseHouse$Program" "arms" "LReuseHouse$Arms;" ∈ zw := zw_in (List.mem_of_getElem? (i := 315) (by decide +kernel)) (by decide +kernel)
theorem wi_230 : Cond.fieldLink RX5 276 "ReuseHouse$Arms" "kind" "[I" ∈ zw := zw_in (List.mem_of_getElem? (i := 230) (by decide +kernel)) (by decide +kernel)
theorem wi_234 : Cond.fieldLink RX5 289 "ReuseHouse$Arms" "next" "[I" ∈ zw := zw_in (List.mem_of_getElem? (i := 234) (by decide +kernel)) (by decide +kernel)
theorem dX5_fittingArm_0 : decode cX5_fittingArm 0 = .ok (.iload_n 1, 1) := by decide +kernel
theorem dX5_fittingArm_1 : decode cX5_fittingArm 1 = .ok (.istore_n 3, 1) := by decide +kernel
theorem dX5_fittingArm_2 : decode cX5_fittingArm 2 = .ok (.iconst 0, 1) := by decide +kernel
theorem dX5_fittingArm_3 : decode cX5_fittingArm 3 = .ok (.istore 4, 2) := by decide +kernel
theorem dX5_fittingArm_5 : decode cX5_fittingArm 5 = .ok (.iload 4, 2) := by decide +kernel
theorem dX5_fittingArm_7 : decode cX5_fittingArm 7 = .ok (.bipush 8, 2) := by decide +kernel
theorem dX5_fittingArm_9 : decode cX5_fittingArm 9 = .ok (.if_icmp .ge 56, 3) := by decide +kernel
theorem dX5_fittingArm_12 : decode cX5_fittingArm 12 = .ok (.iload_n 3, 1) := by decide +kernel
theorem dX5_fittingArm_13 : decode cX5_fittingArm 13 = .ok (.iconst (-1), 1) := by decide +kernel
theorem dX5_fittingArm_14 : decode cX5_fittingArm 14 = .ok (.if_icmp .eq 51, 3) := by decide +kernel
theorem dX5_fittingArm_17 : decode cX5_fittingArm 17 = .ok (.aload_n 0, 1) := by decide +kernel
theorem dX5_fittingArm_18 : decode cX5_fittingArm 18 = .ok (.getfield 67, 3) := by decide +kernel
theorem dX5_fittingArm_21 : decode cX5_fittingArm 21 = .ok (.getfield 260, 3) := by decide +kernel
theorem dX5_fittingArm_24 : decode cX5_fittingArm 24 = .ok (.getfield 276, 3) := by decide +kernel
theorem dX5_fittingArm_27 : decode cX5_fittingArm 27 = .ok (.iload_n 3, 1) := by decide +kernel
theorem dX5_fittingArm_28 : decode cX5_fittingArm 28 = .ok (.iaload, 1) := by decide +kernel
theorem dX5_fittingArm_29 : decode cX5_fittingArm 29 = .ok (.istore 5, 2) := by decide +kernel
theorem dX5_fittingArm_31 : decode cX5_fittingArm 31 = .ok (.iload 5, 2) := by decide +kernel
theorem dX5_fittingArm_33 : decode cX5_fittingArm 33 = .ok (.bipush (-2), 2) := by decide +kernel
theorem dX5_fittingArm_35 : decode cX5_fittingArm 35 = .ok (.if_icmp .eq 9, 3) := by decide +kernel
theorem dX5_fittingArm_38 : decode cX5_fittingArm 38 = .ok (.iload 5, 2) := by decide +kernel
theorem dX5_fittingArm_40 : decode cX5_fittingArm 40 = .ok (.iload_n 2, 1) := by decide +kernel
theorem dX5_fittingArm_41 : decode cX5_fittingArm 41 = .ok (.if_icmp .ne 5, 3) := by decide +kernel
theorem dX5_fittingArm_44 : decode cX5_fittingArm 44 = .ok (.iload_n 3, 1) := by decide +kernel
theorem dX5_fittingArm_45 : decode cX5_fittingArm 45 = .ok (.ireturn, 1) := by decide +kernel
theorem dX5_fittingArm_46 : decode cX5_fittingArm 46 = .ok (.aload_n 0, 1) := by decide +kernel
theorem dX5_fittingArm_47 : decode cX5_fittingArm 47 = .ok (.getfield 67, 3) := by decide +kernel
theorem dX5_fittingArm_50 : decode cX5_fittingArm 50 = .ok (.getfield 260, 3) := by decide +kernel
theorem dX5_fittingArm_53 : decode cX5_fittingArm 53 = .ok (.getfield 289, 3) := by decide +kernel
theorem dX5_fittingArm_56 : decode cX5_fittingArm 56 = .ok (.iload_n 3, 1) := by decide +kernel
theorem dX5_fittingArm_57 : decode cX5_fittingArm 57 = .ok (.iaload, 1) := by decide +kernel
theorem dX5_fittingArm_58 : decode cX5_fittingArm 58 = .ok (.istore_n 3, 1) := by decide +kernel
theorem dX5_fittingArm_59 : decode cX5_fittingArm 59 = .ok (.iinc 4 1, 3) := by decide +kernel
theorem dX5_fittingArm_62 : decode cX5_fittingArm 62 = .ok (.goto (-57), 3) := by decide +kernel
theorem dX5_fittingArm_65 : decode cX5_fittingArm 65 = .ok (.iconst (-1), 1) := by decide +kernel
theorem dX5_fittingArm_66 : decode cX5_fittingArm 66 = .ok (.ireturn, 1) := by decide +kernel
set_option maxHeartbeats 4000000 in
set_option maxRecDepth 100000 in
theorem c_X5_fittingArm (l : Launch) (dC : Nat → ClassId) (dI : Nat → Nat → Nat) (aK aV : Nat → Nat) (h0 : Nat) (mp : Nat) (gco : Nat) (mce : Nat) (sk : Nat) (kb : Nat) (kk : Nat) (ks : Nat) (sh : Nat) (mcn : Int32) (tp : Int32) (ba : Int32) (on : Int32) (sn : Int32) (mat : Int32) (alw : Int32) (st : Int32) (mo : Int32) (mh : Int32) (sp : Int32) (re : Int64) (gar : Nat) (gki : Nat) (gfu : Nat) (akind : Nat) (anext : Nat) (abefore : Nat) (aleave : Nat) (afirstSlot : Nat) (abuilds : Nat) (az : Int32) (akkind : ClassId) (aknext : ClassId) (agkind : Nat → Int32) (agnext : Nat → Int32) (fr : Int32) (kd : Int32) (gA : List Nat) (sz : Nat) (hli : zli agnext fr gA) (hrg : ∀ m ∈ gA, m < 400) : Met l yX5_fittingArm (Cond.code yX5_fittingArm cX5_fittingArm 6 (some .int) :: zw) ({ frames := 8, cells := 0, slots := 0, locals := 200 }) (va_Pc [.ref h0, .int fr, .int kd] (zP dC dI aK aV sz [(akkind, .int), (aknext, .int)] [(h0, .inr (5, [.ref mp, .ref gco, .ref mce, .int mcn, .ref sk, .int tp, .int ba, .ref kb, .ref kk, .ref ks, .int on, .ref sh, .int sn, .int mat, .int alw, .int st, .int mo, .int mh, .int sp, .long re])), (mp, .inr (9, [.ref gco, .ref gar, .ref gki, .ref gfu])), (gar, .inr (0, [.ref akind, .ref anext, .ref abefore, .ref aleave, .ref afirstSlot, .ref abuilds, .int az])), (akind, .inl (akkind, 400, .inl agkind)), (anext, .inl (aknext, 400, .inl agnext))])) (va_Qi (fun (r : Int32) (u : Unit) => (r.toInt = -1 ∨ 0 ≤ r.toInt ∧ r.toInt < 400 ∧ Int32.toNatClampNeg r ∈ gA ∧ ((agkind (Int32.toNatClampNeg r)).toInt = -2 ∨ agkind (Int32.toNatClampNeg r) = kd)) ∧ (r = cfa agkind agnext kd 8 fr)) (fun u => zQ dC dI (va_A [(h0, .inr (5, [.ref mp, .ref gco, .ref mce, .int mcn, .ref sk, .int tp, .int ba, .ref kb, .ref kk, .ref ks, .int on, .ref sh, .int sn, .int mat, .int alw, .int st, .int mo, .int mh, .int sp, .long re])), (mp, .inr (9, [.ref gco, .ref gar, .ref gki, .ref gfu])), (gar, .inr (0, [.ref akind, .ref anext, .ref abefore, .ref aleave, .ref afirstSlot, .ref abuilds, .int az])), (akind, .inl (akkind, 400, .inl agkind)), (anext, .inl (aknext, 400, .inl agnext))] sz) [(akkind, .int), (aknext, .int)] [(h0, .inr (5, [.ref mp, .ref gco, .ref mce, .int mcn, .ref sk, .int tp, .int ba, .ref kb, .ref kk, .ref ks, .int on, .ref sh, .int sn, .int mat, .int alw, .int st, .int mo, .int mh, .int sp, .long re])), (mp, .inr (9, [.ref gco, .ref gar, .ref gki, .ref gfu])), (gar, .inr (0, [.ref akind, .ref anext, .ref abefore, .ref aleave, .ref afirstSlot, .ref abuilds, .int az])), (akind, .inl (akkind, 400, .inl agkind)), (anext, .inl (aknext, 400, .inl agnext))]) (va_A [(h0, .inr (5, [.ref mp, .ref gco, .ref mce, .int mcn, .ref sk, .int tp, .int ba, .ref kb, .ref kk, .ref ks, .int on, .ref sh, .int sn, .int mat, .int alw, .int st, .int mo, .int mh, .int sp, .long re])), (mp, .inr (9, [.ref gco, .ref gar, .ref gki, .ref gfu])), (gar, .inr (0, [.ref akind, .ref anext, .ref abefore, .ref aleave, .ref afirstSlot, .ref abuilds, .int az])), (akind, .inl (akkind, 400, .inl agkind)), (anext, .inl (aknext, 400, .inl agnext))] sz)) 0 0 (va_A [(h0, .inr (5, [.ref mp, .ref gco, .ref mce, .int mcn, .ref sk, .int tp, .int ba, .ref kb, .ref kk, .ref ks, .int on, .ref sh, .int sn, .int mat, .int alw, .int st, .int mo, .int mh, .int sp, .long re])), (mp, .inr (9, [.ref gco, .ref gar, .ref gki, .ref gfu])), (gar, .inr (0, [.ref akind, .ref anext, .ref abefore, .ref aleave, .ref afirstSlot, .ref abuilds, .int az])), (akind, .inl (akkind, 400, .inl agkind)), (anext, .inl (aknext, 400, .inl agnext))] sz) := by
  refine Met.ofW (cc := cX5_fittingArm) (maxL := 6) (ret := (some .int)) (by decide) rfl ?_
  intro p e s m args below meth c s₁ B hml hv
  obtain ⟨rfl, hsz, hP, hK, hD0, hN, hT⟩ := hv
  have hx := B.exec
  have hb := B.bytes
  have hr := B.returns
  have hts := atoms_spec (ws := Cond.code yX5_fittingArm cX5_fittingArm 6 (some .int) :: zw) B.pre
  have hA : ∀ w ∈ zw, w.before _ s = true := fun w h => hts w (List.mem_cons_of_mem _ h)
  have hown : s.vm.findClass RX5 = some m.cls := findClass_of_methodNamed B.named
  have hlocks := B.notSynchronized
  subst hsz
  have hD := hD0.self (sz := s.heap.size)
  generalize hAe : va_A [(h0, .inr (5, [.ref mp, .ref gco, .ref mce, .int mcn, .ref sk, .int tp, .int ba, .ref kb, .ref kk, .ref ks, .int on, .ref sh, .int sn, .int mat, .int alw, .int st, .int mo, .int mh, .int sp, .long re])), (mp, .inr (9, [.ref gco, .ref gar, .ref gki, .ref gfu])), (gar, .inr (0, [.ref akind, .ref anext, .ref abefore, .ref aleave, .ref afirstSlot, .ref abuilds, .int az])), (akind, .inl (akkind, 400, .inl agkind)), (anext, .inl (aknext, 400, .inl agnext))] s.heap.size = A at hD hT ⊢
  have hAA : ∀ q : Nat, s.heap.size ≤ q → A q := fun q h => by rw [← hAe]; exact Or.inr h
  have hS : va_S A s.heap s.heap [] := va_S.rf
  have hl := lv_entry ([.ref h0, .int fr, .int kd]) (n := 6) (Nat.le_of_ble_eq_true rfl)
  rw [lg_entry_eq]
  generalize (lg_sl ([.ref h0, .int fr, .int kd]) ++ List.replicate (6 - (lg_sl ([.ref h0, .int fr, .int kd])).length) Slot.unset).toArray = ls at hl ⊢
  have hl : lv_has ls 6 [(0, .ref h0), (1, .int fr), (2, .int kd)] := hl
  refine lv_iload_n hx hb dX5_fittingArm_0 rfl (lv_at hl 1 rfl) ?_
  refine lv_istore_n (lv' := [(3, .int fr), (0, .ref h0), (1, .int fr), (2, .int kd)]) hx hb dX5_fittingArm_1 rfl hl (by decide) rfl (fun ls hl => ?_)
  refine lv_iconst (v := 0) hx hb dX5_fittingArm_2 (by decide) ?_
  refine lv_istore (lv' := [(4, .int 0), (3, .int fr), (0, .ref h0), (1, .int fr), (2, .int kd)]) hx hb dX5_fittingArm_3 hl (by decide) rfl (fun ls hl => ?_)
  have loop_5 : ∀ (n9 : Nat) (am : Int32) (i : Int32) (H : Heap) (locs : List Loc) (ls : Array Slot), (8 - i.toInt + 1).toNat ≤ n9 → 0 ≤ i.toInt → i.toInt ≤ 8 → (∃ A2 : List Nat, zli agnext am A2 ∧ ∀ m ∈ A2, m ∈ gA) → cfa agkind agnext kd (8 - Int32.toNatClampNeg i) am = cfa agkind agnext kd 8 fr → va_P (dC, dI) vwCl [(h0, .inr (5, [.ref mp, .ref gco, .ref mce, .int mcn, .ref sk, .int tp, .int ba, .ref kb, .ref kk, .ref ks, .int on, .ref sh, .int sn, .int mat, .int alw, .int st, .int mo, .int mh, .int sp, .long re])), (mp, .inr (9, [.ref gco, .ref gar, .ref gki, .ref gfu])), (gar, .inr (0, [.ref akind, .ref anext, .ref abefore, .ref aleave, .ref afirstSlot, .ref abuilds, .int az])), (akind, .inl (akkind, 400, .inl agkind)), (anext, .inl (aknext, 400, .inl agnext))] H → va_D A [(h0, .inr (5, [.ref mp, .ref gco, .ref mce, .int mcn, .ref sk, .int tp, .int ba, .ref kb, .ref kk, .ref ks, .int on, .ref sh, .int sn, .int mat, .int alw, .int st, .int mo, .int mh, .int sp, .long re])), (mp, .inr (9, [.ref gco, .ref gar, .ref gki, .ref gfu])), (gar, .inr (0, [.ref akind, .ref anext, .ref abefore, .ref aleave, .ref afirstSlot, .ref abuilds, .int az])), (akind, .inl (akkind, 400, .inl agkind)), (anext, .inl (aknext, 400, .inl agnext))] → va_S A s.heap H locs → lv_has ls 6 [(4, .int i), (3, .int am), (0, .ref h0), (1, .int fr), (2, .int kd)] → W p l e (headSpec (Cond.code yX5_fittingArm cX5_fittingArm 6 (some .int) :: zw) ({ frames := 8, cells := 0, slots := 0, locals := 200 })).room s m #[.ref h0, .int fr, .int kd] below meth c H locs 0 0 (MQ below (va_Qi (fun (r : Int32) (u : Unit) => (r.toInt = -1 ∨ 0 ≤ r.toInt ∧ r.toInt < 400 ∧ Int32.toNatClampNeg r ∈ gA ∧ ((agkind (Int32.toNatClampNeg r)).toInt = -2 ∨ agkind (Int32.toNatClampNeg r) = kd)) ∧ (r = cfa agkind agnext kd 8 fr)) (fun u => zQ dC dI A [(akkind, .int), (aknext, .int)] [(h0, .inr (5, [.ref mp, .ref gco, .ref mce, .int mcn, .ref sk, .int tp, .int ba, .ref kb, .ref kk, .ref ks, .int on, .ref sh, .int sn, .int mat, .int alw, .int st, .int mo, .int mh, .int sp, .long re])), (mp, .inr (9, [.ref gco, .ref gar, .ref gki, .ref gfu])), (gar, .inr (0, [.ref akind, .ref anext, .ref abefore, .ref aleave, .ref afirstSlot, .ref abuilds, .int az])), (akind, .inl (akkind, 400, .inl agkind)), (anext, .inl (aknext, 400, .inl agnext))]) A) #[.ref h0, .int fr, .int kd] s 0 0 A) (F0 m 5 ls []) := by
    intro n9
    induction n9 with
    | zero => intro am i H locs ls hm hi0 hi1 hla hcf; exfalso; omega
    | succ n9 ih =>
      intro am i H locs ls hm hi0 hi1 hla hcf hP hD hS hl
      refine lv_iload hx hb dX5_fittingArm_5 (lv_at hl 0 rfl) ?_
      refine lv_bipush (v := 8) hx hb dX5_fittingArm_7 (by decide) ?_
      refine lv_icmp_ge (tgt := 65) hx hb dX5_fittingArm_9 (by decide) (fun c_1 => ?_) (fun c_1 => ?_)
      · have ic_1 : 8 ≤ i.toInt := zi_le c_1
        refine lv_iconst (v := (-1)) hx hb dX5_fittingArm_65 (by decide) ?_
        have hlit : Int32.toInt (-1) = (-1) := by decide
        have hP9 := hP.sub (ws' := [(h0, .inr (5, [.ref mp, .ref gco, .ref mce, .int mcn, .ref sk, .int tp, .int ba, .ref kb, .ref kk, .ref ks, .int on, .ref sh, .int sn, .int mat, .int alw, .int st, .int mo, .int mh, .int sp, .long re])), (mp, .inr (9, [.ref gco, .ref gar, .ref gki, .ref gfu])), (gar, .inr (0, [.ref akind, .ref anext, .ref abefore, .ref aleave, .ref afirstSlot, .ref abuilds, .int az])), (akind, .inl (akkind, 400, .inl agkind)), (anext, .inl (aknext, 400, .inl agnext))]) [0, 1, 2, 3, 4] rfl
        have hD9 := hD.sub (ws' := [(h0, .inr (5, [.ref mp, .ref gco, .ref mce, .int mcn, .ref sk, .int tp, .int ba, .ref kb, .ref kk, .ref ks, .int on, .ref sh, .int sn, .int mat, .int alw, .int st, .int mo, .int mh, .int sp, .long re])), (mp, .inr (9, [.ref gco, .ref gar, .ref gki, .ref gfu])), (gar, .inr (0, [.ref akind, .ref anext, .ref abefore, .ref aleave, .ref afirstSlot, .ref abuilds, .int az])), (akind, .inl (akkind, 400, .inl agkind)), (anext, .inl (aknext, 400, .inl agnext))]) [0, 1, 2, 3, 4] (by decide) rfl
        have hK9 := hK.sub (tys' := [(akkind, .int), (aknext, .int)]) [0, 1] rfl
        exact W.iret (v := (-1)) hx hb hr (fun t ht hW => ⟨⟨(-1), (), rfl, ⟨(Or.inl (by decide)), (by rw [← hcf]; exact (cfa_no (by have := zn_nat (x := i) (by omega); omega)).symm)⟩, by rw [ht]; exact hP9, va_K.moved hW.alike hK9, hD9⟩, hS.F ht⟩) hS.2.2 dX5_fittingArm_66
      · have ic_1 : i.toInt < 8 := zi_nle c_1
        refine lv_iload_n hx hb dX5_fittingArm_12 rfl (lv_at hl 1 rfl) ?_
        refine lv_iconst (v := (-1)) hx hb dX5_fittingArm_13 (by decide) ?_
        refine lv_icmp_eq (tgt := 65) hx hb dX5_fittingArm_14 (by decide) (fun c_2 => ?_) (fun c_2 => ?_)
        · have ic_2 : am.toInt = (-1) := zi_eq c_2
          refine lv_iconst (v := (-1)) hx hb dX5_fittingArm_65 (by decide) ?_
          have hlit : Int32.toInt (-1) = (-1) := by decide
          have hP9 := hP.sub (ws' := [(h0, .inr (5, [.ref mp, .ref gco, .ref mce, .int mcn, .ref sk, .int tp, .int ba, .ref kb, .ref kk, .ref ks, .int on, .ref sh, .int sn, .int mat, .int alw, .int st, .int mo, .int mh, .int sp, .long re])), (mp, .inr (9, [.ref gco, .ref gar, .ref gki, .ref gfu])), (gar, .inr (0, [.ref akind, .ref anext, .ref abefore, .ref aleave, .ref afirstSlot, .ref abuilds, .int az])), (akind, .inl (akkind, 400, .inl agkind)), (anext, .inl (aknext, 400, .inl agnext))]) [0, 1, 2, 3, 4] rfl
          have hD9 := hD.sub (ws' := [(h0, .inr (5, [.ref mp, .ref gco, .ref mce, .int mcn, .ref sk, .int tp, .int ba, .ref kb, .ref kk, .ref ks, .int on, .ref sh, .int sn, .int mat, .int alw, .int st, .int mo, .int mh, .int sp, .long re])), (mp, .inr (9, [.ref gco, .ref gar, .ref gki, .ref gfu])), (gar, .inr (0, [.ref akind, .ref anext, .ref abefore, .ref aleave, .ref afirstSlot, .ref abuilds, .int az])), (akind, .inl (akkind, 400, .inl agkind)), (anext, .inl (aknext, 400, .inl agnext))]) [0, 1, 2, 3, 4] (by decide) rfl
          have hK9 := hK.sub (tys' := [(akkind, .int), (aknext, .int)]) [0, 1] rfl
          exact W.iret (v := (-1)) hx hb hr (fun t ht hW => ⟨⟨(-1), (), rfl, ⟨(Or.inl (by decide)), (by rw [← hcf]; exact (cfa_no (by have := zn_nat (x := i) (by omega); omega)).symm)⟩, by rw [ht]; exact hP9, va_K.moved hW.alike hK9, hD9⟩, hS.F ht⟩) hS.2.2 dX5_fittingArm_66
        · have ic_2 : am.toInt ≠ (-1) := zi_ne c_2
          obtain ⟨A3, hZ9, hA9⟩ := hla
          obtain ⟨y9, A4, hL9, hx9, hT9⟩ := zli_c hZ9 (by omega)
          have hrg9 := hrg y9 (hA9 _ (by rw [hL9]; exact List.mem_cons_self))
          have hy9 : Int32.toNatClampNeg am = y9 := by have := zn_nat (x := am) (by omega); omega
          refine lv_aload_n hx hb dX5_fittingArm_17 rfl (lv_at hl 2 rfl) ?_
          refine va_get (D := (dC, dI)) (ci := 5) (v := .ref mp) (C := RX5) (T := TX5) (N := 20) hx hb hA zin_X5 hown hK hP 0 rfl rfl 0 (by decide) (hA _ wi_484) (fun _ h9 => h9) rfl dX5_fittingArm_18 ?_
          refine va_get (D := (dC, dI)) (ci := 9) (v := .ref gar) (C := RX9) (T := TX9) (N := 4) hx hb hA zin_X9 hown hK hP 1 rfl rfl 1 (by decide) (hA _ wi_315) (fun _ h9 => h9) rfl dX5_fittingArm_21 ?_
          refine va_get (D := (dC, dI)) (ci := 0) (v := .ref akind) (C := RX0) (T := TX0) (N := 7) hx hb hA zin_X0 hown hK hP 2 rfl rfl 0 (by decide) (hA _ wi_230) (fun _ h9 => h9) rfl dX5_fittingArm_24 ?_
          refine lv_iload_n hx hb dX5_fittingArm_27 rfl (lv_at hl 1 rfl) ?_
          refine va_iald hx hb hK hP 3 0 rfl rfl (vp_in_iff.mpr ⟨by omega, by omega⟩) dX5_fittingArm_28 ?_
          refine lv_topi (fun x_3 ex_3 => ?_)
          refine lv_istore (lv' := [(5, .int x_3), (4, .int i), (3, .int am), (0, .ref h0), (1, .int fr), (2, .int kd)]) hx hb dX5_fittingArm_29 hl (by decide) rfl (fun ls hl => ?_)
          refine lv_iload hx hb dX5_fittingArm_31 (lv_at hl 0 rfl) ?_
          refine lv_bipush (v := (-2)) hx hb dX5_fittingArm_33 (by decide) ?_
          refine lv_icmp_eq (tgt := 44) hx hb dX5_fittingArm_35 (by decide) (fun c_4 => ?_) (fun c_4 => ?_)
          · have ic_4 : x_3.toInt = (-2) := zi_eq c_4
            refine lv_iload_n hx hb dX5_fittingArm_44 rfl (lv_at hl 2 rfl) ?_
            have hP9 := hP.sub (ws' := [(h0, .inr (5, [.ref mp, .ref gco, .ref mce, .int mcn, .ref sk, .int tp, .int ba, .ref kb, .ref kk, .ref ks, .int on, .ref sh, .int sn, .int mat, .int alw, .int st, .int mo, .int mh, .int sp, .long re])), (mp, .inr (9, [.ref gco, .ref gar, .ref gki, .ref gfu])), (gar, .inr (0, [.ref akind, .ref anext, .ref abefore, .ref aleave, .ref afirstSlot, .ref abuilds, .int az])), (akind, .inl (akkind, 400, .inl agkind)), (anext, .inl (aknext, 400, .inl agnext))]) [0, 1, 2, 3, 4] rfl
            have hD9 := hD.sub (ws' := [(h0, .inr (5, [.ref mp, .ref gco, .ref mce, .int mcn, .ref sk, .int tp, .int ba, .ref kb, .ref kk, .ref ks, .int on, .ref sh, .int sn, .int mat, .int alw, .int st, .int mo, .int mh, .int sp, .long re])), (mp, .inr (9, [.ref gco, .ref gar, .ref gki, .ref gfu])), (gar, .inr (0, [.ref akind, .ref anext, .ref abefore, .ref aleave, .ref afirstSlot, .ref abuilds, .int az])), (akind, .inl (akkind, 400, .inl agkind)), (anext, .inl (aknext, 400, .inl agnext))]) [0, 1, 2, 3, 4] (by decide) rfl
            have hK9 := hK.sub (tys' := [(akkind, .int), (aknext, .int)]) [0, 1] rfl
            exact W.iret (v := am) hx hb hr (fun t ht hW => ⟨⟨am, (), rfl, ⟨(Or.inr ⟨by omega, by omega, by rw [hy9]; exact hA9 _ (by rw [hL9]; exact List.mem_cons_self), Or.inl (by rw [← ex_3]; omega)⟩), (by rw [← hcf, show 8 - Int32.toNatClampNeg i = (7 - Int32.toNatClampNeg i) + 1 from by have := zn_nat (x := i) (by omega); omega]; exact (cfa_hit (by omega) (Or.inl (by rw [← ex_3]; omega))).symm)⟩, by rw [ht]; exact hP9, va_K.moved hW.alike hK9, hD9⟩, hS.F ht⟩) hS.2.2 dX5_fittingArm_45
          · have ic_4 : x_3.toInt ≠ (-2) := zi_ne c_4
            refine lv_iload hx hb dX5_fittingArm_38 (lv_at hl 0 rfl) ?_
            refine lv_iload_n hx hb dX5_fittingArm_40 rfl (lv_at hl 5 rfl) ?_
            refine lv_icmp_ne (tgt := 46) hx hb dX5_fittingArm_41 (by decide) (fun c_5 => ?_) (fun c_5 => ?_)
            · have ic_5 : x_3.toInt ≠ kd.toInt := zi_ne c_5
              refine lv_aload_n hx hb dX5_fittingArm_46 rfl (lv_at hl 3 rfl) ?_
              refine va_get (D := (dC, dI)) (ci := 5) (v := .ref mp) (C := RX5) (T := TX5) (N := 20) hx hb hA zin_X5 hown hK hP 0 rfl rfl 0 (by decide) (hA _ wi_484) (fun _ h9 => h9) rfl dX5_fittingArm_47 ?_
              refine va_get (D := (dC, dI)) (ci := 9) (v := .ref gar) (C := RX9) (T := TX9) (N := 4) hx hb hA zin_X9 hown hK hP 1 rfl rfl 1 (by decide) (hA _ wi_315) (fun _ h9 => h9) rfl dX5_fittingArm_50 ?_
              refine va_get (D := (dC, dI)) (ci := 0) (v := .ref anext) (C := RX0) (T := TX0) (N := 7) hx hb hA zin_X0 hown hK hP 2 rfl rfl 1 (by decide) (hA _ wi_234) (fun _ h9 => h9) rfl dX5_fittingArm_53 ?_
              refine lv_iload_n hx hb dX5_fittingArm_56 rfl (lv_at hl 2 rfl) ?_
              refine va_iald hx hb hK hP 4 1 rfl rfl (vp_in_iff.mpr ⟨by omega, by omega⟩) dX5_fittingArm_57 ?_
              refine lv_topi (fun x_6 ex_6 => ?_)
              refine lv_istore_n (lv' := [(3, .int x_6), (5, .int x_3), (4, .int i), (0, .ref h0), (1, .int fr), (2, .int kd)]) hx hb dX5_fittingArm_58 rfl hl (by decide) rfl (fun ls hl => ?_)
              obtain ⟨x_7, ex_7⟩ : ∃ y : Int32, y = i + Int32.ofInt 1 := ⟨_, rfl⟩
              refine lv_iinc (v := x_7) (lv' := [(4, .int x_7), (3, .int x_6), (5, .int x_3), (0, .ref h0), (1, .int fr), (2, .int kd)]) hx hb dX5_fittingArm_59 hl (k := 2) rfl (by rw [ex_7]) (by decide) rfl (fun ls hl => ?_)
              have ix_7 : x_7.toInt = i.toInt + 1 := by rw [ex_7]; exact zi_addc (by decide) (by omega) (by omega)
              refine lv_goto (tgt := 5) hx hb dX5_fittingArm_62 (by decide) ?_
              have hla_8 : ∃ A2 : List Nat, zli agnext x_6 A2 ∧ ∀ m ∈ A2, m ∈ gA := ⟨A4, by rw [ex_6, hy9]; exact hT9, fun m hm => hA9 m (by rw [hL9]; exact List.mem_cons_of_mem _ hm)⟩
              have hcf_9 : cfa agkind agnext kd (8 - Int32.toNatClampNeg x_7) x_6 = cfa agkind agnext kd 8 fr := by rw [← hcf, show 8 - Int32.toNatClampNeg i = (8 - Int32.toNatClampNeg x_7) + 1 from by have := zn_nat (x := i) (by omega); have := zn_nat (x := x_7) (by omega); omega, ex_6]; exact (cfa_st (by omega) (by rw [← ex_3]; omega) (fun g => by rw [← ex_3] at g; have := congrArg Int32.toInt g; omega)).symm
              exact ih x_6 x_7 _ _ _ (by omega) (by omega) (by omega) hla_8 hcf_9 (hP.sub [0, 1, 2, 3, 4] rfl) (hD.sub [0, 1, 2, 3, 4] (by decide) rfl) hS (lv_sub hl [0, 1, 3, 4, 5] rfl)
            · have ic_5 : x_3.toInt = kd.toInt := zi_eq c_5
              refine lv_iload_n hx hb dX5_fittingArm_44 rfl (lv_at hl 2 rfl) ?_
              have hP9 := hP.sub (ws' := [(h0, .inr (5, [.ref mp, .ref gco, .ref mce, .int mcn, .ref sk, .int tp, .int ba, .ref kb, .ref kk, .ref ks, .int on, .ref sh, .int sn, .int mat, .int alw, .int st, .int mo, .int mh, .int sp, .long re])), (mp, .inr (9, [.ref gco, .ref gar, .ref gki, .ref gfu])), (gar, .inr (0, [.ref akind, .ref anext, .ref abefore, .ref aleave, .ref afirstSlot, .ref abuilds, .int az])), (akind, .inl (akkind, 400, .inl agkind)), (anext, .inl (aknext, 400, .inl agnext))]) [0, 1, 2, 3, 4] rfl
              have hD9 := hD.sub (ws' := [(h0, .inr (5, [.ref mp, .ref gco, .ref mce, .int mcn, .ref sk, .int tp, .int ba, .ref kb, .ref kk, .ref ks, .int on, .ref sh, .int sn, .int mat, .int alw, .int st, .int mo, .int mh, .int sp, .long re])), (mp, .inr (9, [.ref gco, .ref gar, .ref gki, .ref gfu])), (gar, .inr (0, [.ref akind, .ref anext, .ref abefore, .ref aleave, .ref afirstSlot, .ref abuilds, .int az])), (akind, .inl (akkind, 400, .inl agkind)), (anext, .inl (aknext, 400, .inl agnext))]) [0, 1, 2, 3, 4] (by decide) rfl
              have hK9 := hK.sub (tys' := [(akkind, .int), (aknext, .int)]) [0, 1] rfl
              exact W.iret (v := am) hx hb hr (fun t ht hW => ⟨⟨am, (), rfl, ⟨(Or.inr ⟨by omega, by omega, by rw [hy9]; exact hA9 _ (by rw [hL9]; exact List.mem_cons_self), Or.inr (by rw [← ex_3]; exact Int32.toInt_inj.mp (by omega))⟩), (by rw [← hcf, show 8 - Int32.toNatClampNeg i = (7 - Int32.toNatClampNeg i) + 1 from by have := zn_nat (x := i) (by omega); omega]; exact (cfa_hit (by omega) (Or.inr (by rw [← ex_3]; exact Int32.toInt_inj.mp (by omega)))).symm)⟩, by rw [ht]; exact hP9, va_K.moved hW.alike hK9, hD9⟩, hS.F ht⟩) hS.2.2 dX5_fittingArm_45
  have hla_10 : ∃ A2 : List Nat, zli agnext fr A2 ∧ ∀ m ∈ A2, m ∈ gA := ⟨gA, hli, fun _ h => h⟩
  have hcf_11 : cfa agkind agnext kd (8 - Int32.toNatClampNeg 0) fr = cfa agkind agnext kd 8 fr := rfl
  exact loop_5 _ fr 0 _ _ _ (Nat.le_refl _) (by have h9_0 : Int32.toInt 0 = 0 := (by decide); omega) (by have h9_0 : Int32.toInt 0 = 0 := (by decide); omega) hla_10 hcf_11 (hP.sub [0, 1, 2, 3, 4] rfl) (hD.sub [0, 1, 2, 3, 4] (by decide) rfl) hS (lv_sub hl [0, 1, 2, 3, 4] rfl)

end
section
theorem wi_487 : Cond.fieldLink RX5 9 "ReuseHouse$Machine" "counted" "Z" ∈ zw := zw_in (List.mem_of_getElem? (i := 487) (by decide +kernel)) (by decide +kernel)
theorem wi_1137 : Cond.code yX5_has cX5_has 2 (some .boolean) ∈ zw := zw_in (List.mem_of_getElem? (i := 1137) (by decide +kernel)) (by decide +kernel)
theorem wi_1135 : Cond.methodLink RX5 175 yX5_has ∈ zw := zw_in (List.mem_of_getElem? (i := 1135) (by decide +kernel)) (by decide +kernel)
theorem wi_1136 : Cond.static yX5_has ∈ zw := zw_in (List.mem_of_getElem? (i := 1136) (by decide +kernel)) (by decide +kernel)
theorem wi_486 : Cond.fieldLink RX5 83 "ReuseHouse$Machine" "cells" "LReuseHouse$Cells;" ∈ zw := zw_in (List.mem_of_getElem? (i := 486) (by decide +kernel)) (by decide +kernel)
theorem wi_1141 : Cond.code yX1_drop cX1_drop 7 none ∈ zw := zw_in (List.mem_of_getElem? (i := 1141) (by decide +kernel)) (by decide +kernel)
theorem wi_1138 : Cond.methodLink RX5 179 yX1_drop ∈ zw := zw_in (List.mem_of_getElem? (i := 1138) (by decide +kernel)) (by decide +kernel)
theorem wi_1139 : Cond.instanceMethod yX1_drop ∈ zw := zw_in (List.mem_of_getElem? (i := 1139) (by decide +kernel)) (by decide +kernel)
theorem wi_1140 : Cond.selects RX1 yX1_drop yX1_drop ∈ zw := zw_in (List.mem_of_getElem? (i := 1140) (by decide +kernel)) (by decide +kernel)
theorem dX5_dropNames_0 : decode cX5_dropNames 0 = .ok (.aload_n 0, 1) := by decide +kernel
theorem dX5_dropNames_1 : decode cX5_dropNames 1 = .ok (.getfield 9, 3) := by decide +kernel
theorem dX5_dropNames_4 : decode cX5_dropNames 4 = .ok (.ifCond .ne 4, 3) := by decide +kernel
theorem dX5_dropNames_7 : decode cX5_dropNames 7 = .ok (.return_, 1) := by decide +kernel
theorem dX5_dropNames_8 : decode cX5_dropNames 8 = .ok (.iconst 0, 1) := by decide +kernel
theorem dX5_dropNames_9 : decode cX5_dropNames 9 = .ok (.istore_n 2, 1) := by decide +kernel
theorem dX5_dropNames_10 : decode cX5_dropNames 10 = .ok (.iload_n 2, 1) := by decide +kernel
theorem dX5_dropNames_11 : decode cX5_dropNames 11 = .ok (.bipush 24, 2) := by decide +kernel
theorem dX5_dropNames_13 : decode cX5_dropNames 13 = .ok (.if_icmp .ge 41, 3) := by decide +kernel
theorem dX5_dropNames_16 : decode cX5_dropNames 16 = .ok (.iload_n 1, 1) := by decide +kernel
theorem dX5_dropNames_17 : decode cX5_dropNames 17 = .ok (.iload_n 2, 1) := by decide +kernel
theorem dX5_dropNames_18 : decode cX5_dropNames 18 = .ok (.ishr, 1) := by decide +kernel
theorem dX5_dropNames_19 : decode cX5_dropNames 19 = .ok (.ifCond .eq 35, 3) := by decide +kernel
theorem dX5_dropNames_22 : decode cX5_dropNames 22 = .ok (.iload_n 1, 1) := by decide +kernel
theorem dX5_dropNames_23 : decode cX5_dropNames 23 = .ok (.iload_n 2, 1) := by decide +kernel
theorem dX5_dropNames_24 : decode cX5_dropNames 24 = .ok (.invokestatic 175, 3) := by decide +kernel
theorem dX5_dropNames_27 : decode cX5_dropNames 27 = .ok (.ifCond .eq 21, 3) := by decide +kernel
theorem dX5_dropNames_30 : decode cX5_dropNames 30 = .ok (.aload_n 0, 1) := by decide +kernel
theorem dX5_dropNames_31 : decode cX5_dropNames 31 = .ok (.getfield 83, 3) := by decide +kernel
theorem dX5_dropNames_34 : decode cX5_dropNames 34 = .ok (.aload_n 0, 1) := by decide +kernel
theorem dX5_dropNames_35 : decode cX5_dropNames 35 = .ok (.getfield 15, 3) := by decide +kernel
theorem dX5_dropNames_38 : decode cX5_dropNames 38 = .ok (.aload_n 0, 1) := by decide +kernel
theorem dX5_dropNames_39 : decode cX5_dropNames 39 = .ok (.getfield 23, 3) := by decide +kernel
theorem dX5_dropNames_42 : decode cX5_dropNames 42 = .ok (.iload_n 2, 1) := by decide +kernel
theorem dX5_dropNames_43 : decode cX5_dropNames 43 = .ok (.iadd, 1) := by decide +kernel
theorem dX5_dropNames_44 : decode cX5_dropNames 44 = .ok (.laload, 1) := by decide +kernel
theorem dX5_dropNames_45 : decode cX5_dropNames 45 = .ok (.invokevirtual 179, 3) := by decide +kernel
theorem dX5_dropNames_48 : decode cX5_dropNames 48 = .ok (.iinc 2 1, 3) := by decide +kernel
theorem dX5_dropNames_51 : decode cX5_dropNames 51 = .ok (.goto (-41), 3) := by decide +kernel
theorem dX5_dropNames_54 : decode cX5_dropNames 54 = .ok (.return_, 1) := by decide +kernel
set_option maxHeartbeats 4000000 in
set_option maxRecDepth 100000 in
theorem c_X5_dropNames_p (l : Launch) (dC : Nat → ClassId) (dI : Nat → Nat → Nat) (aK aV : Nat → Nat) (h0 : Nat) (mp : Nat) (gco : Nat) (mce : Nat) (sk : Nat) (kb : Nat) (kk : Nat) (ks : Nat) (sh : Nat) (mcn : Int32) (tp : Int32) (ba : Int32) (on : Int32) (sn : Int32) (mat : Int32) (alw : Int32) (st : Int32) (mo : Int32) (mh : Int32) (sp : Int32) (re : Int64) (na : Int32) (sz : Nat) (hcn : mcn.toInt = 0) : Met l yX5_dropNames (Cond.code yX5_dropNames cX5_dropNames 3 none :: zw) ({ frames := 16, cells := 0, slots := 0, locals := 600 }) (va_Pc [.ref h0, .int na] (zP dC dI aK aV sz [] [(h0, .inr (5, [.ref mp, .ref gco, .ref mce, .int mcn, .ref sk, .int tp, .int ba, .ref kb, .ref kk, .ref ks, .int on, .ref sh, .int sn, .int mat, .int alw, .int st, .int mo, .int mh, .int sp, .long re]))])) (va_Qv (fun u : Unit => True) (fun u => zQ dC dI (va_A [(h0, .inr (5, [.ref mp, .ref gco, .ref mce, .int mcn, .ref sk, .int tp, .int ba, .ref kb, .ref kk, .ref ks, .int on, .ref sh, .int sn, .int mat, .int alw, .int st, .int mo, .int mh, .int sp, .long re]))] sz) [] [(h0, .inr (5, [.ref mp, .ref gco, .ref mce, .int mcn, .ref sk, .int tp, .int ba, .ref kb, .ref kk, .ref ks, .int on, .ref sh, .int sn, .int mat, .int alw, .int st, .int mo, .int mh, .int sp, .long re]))]) (va_A [(h0, .inr (5, [.ref mp, .ref gco, .ref mce, .int mcn, .ref sk, .int tp, .int ba, .ref kb, .ref kk, .ref ks, .int on, .ref sh, .int sn, .int mat, .int alw, .int st, .int mo, .int mh, .int sp, .long re]))] sz)) 0 0 (va_A [(h0, .inr (5, [.ref mp, .ref gco, .ref mce, .int mcn, .ref sk, .int tp, .int ba, .ref kb, .ref kk, .ref ks, .int on, .ref sh, .int sn, .int mat, .int alw, .int st, .int mo, .int mh, .int sp, .long re]))] sz) := by
  refine Met.ofW (cc := cX5_dropNames) (maxL := 3) (ret := none) (by decide) rfl ?_
  intro p e s m args below meth c s₁ B hml hv
  obtain ⟨rfl, hsz, hP, hK, hD0, hN, hT⟩ := hv
  have hx := B.exec
  have hb := B.bytes
  have hr := B.returns
  have hts := atoms_spec (ws := Cond.code yX5_dropNames cX5_dropNames 3 none :: zw) B.pre
  have hA : ∀ w ∈ zw, w.before _ s = true := fun w h => hts w (List.mem_cons_of_mem _ h)
  have hown : s.vm.findClass RX5 = some m.cls := findClass_of_methodNamed B.named
  have hlocks := B.notSynchronized
  subst hsz
  have hD := hD0.self (sz := s.heap.size)
  generalize hAe : va_A [(h0, .inr (5, [.ref mp, .ref gco, .ref mce, .int mcn, .ref sk, .int tp, .int ba, .ref kb, .ref kk, .ref ks, .int on, .ref sh, .int sn, .int mat, .int alw, .int st, .int mo, .int mh, .int sp, .long re]))] s.heap.size = A at hD hT ⊢
  have hAA : ∀ q : Nat, s.heap.size ≤ q → A q := fun q h => by rw [← hAe]; exact Or.inr h
  have hS : va_S A s.heap s.heap [] := va_S.rf
  have hl := lv_entry ([.ref h0, .int na]) (n := 3) (Nat.le_of_ble_eq_true rfl)
  rw [lg_entry_eq]
  generalize (lg_sl ([.ref h0, .int na]) ++ List.replicate (3 - (lg_sl ([.ref h0, .int na])).length) Slot.unset).toArray = ls at hl ⊢
  have hl : lv_has ls 3 [(0, .ref h0), (1, .int na)] := hl
  refine lv_aload_n hx hb dX5_dropNames_0 rfl (lv_at hl 0 rfl) ?_
  refine va_get (D := (dC, dI)) (ci := 5) (v := .int mcn) (C := RX5) (T := TX5) (N := 20) hx hb hA zin_X5 hown hK hP 0 rfl rfl 3 (by decide) (hA _ wi_487) (fun _ h9 => h9) rfl dX5_dropNames_1 ?_
  refine lv_if_ne (tgt := 8) hx hb dX5_dropNames_4 (by decide) (fun c_1 => ?_) (fun c_1 => ?_)
  · have ic_1 : mcn.toInt ≠ 0 := zi_ne c_1
    exfalso
    omega
  · have ic_1 : mcn.toInt = 0 := zi_eq c_1
    have hP9 := hP.sub (ws' := [(h0, .inr (5, [.ref mp, .ref gco, .ref mce, .int mcn, .ref sk, .int tp, .int ba, .ref kb, .ref kk, .ref ks, .int on, .ref sh, .int sn, .int mat, .int alw, .int st, .int mo, .int mh, .int sp, .long re]))]) [0] rfl
    have hD9 := hD.sub (ws' := [(h0, .inr (5, [.ref mp, .ref gco, .ref mce, .int mcn, .ref sk, .int tp, .int ba, .ref kb, .ref kk, .ref ks, .int on, .ref sh, .int sn, .int mat, .int alw, .int st, .int mo, .int mh, .int sp, .long re]))]) [0] (by decide) rfl
    have hK9 := hK.sub (tys' := []) [] rfl
    exact W.vret hx hb hr (fun t ht hW => ⟨⟨(), rfl, trivial, by rw [ht]; exact hP9, va_K.moved hW.alike hK9, hD9⟩, hS.F ht⟩) hS.2.2 dX5_dropNames_7

end
section
set_option maxHeartbeats 4000000 in
set_option maxRecDepth 100000 in
theorem c_X5_dropNames_z (l : Launch) (dC : Nat → ClassId) (dI : Nat → Nat → Nat) (aK aV : Nat → Nat) (h0 : Nat) (mp : Nat) (gco : Nat) (mce : Nat) (sk : Nat) (kb : Nat) (kk : Nat) (ks : Nat) (sh : Nat) (mcn : Int32) (tp : Int32) (ba : Int32) (on : Int32) (sn : Int32) (mat : Int32) (alw : Int32) (st : Int32) (mo : Int32) (mh : Int32) (sp : Int32) (re : Int64) (sk1 : ClassId) (gs : Nat → Int64) (ek : Nat) (ec : Nat) (ef : Nat) (gki : Nat) (e1 : ClassId) (e2 : ClassId) (e3 : ClassId) (e_limit : Int32) (e_fresh : Int32) (e_firstFree : Int32) (e_held : Int32) (e_mostHeld : Int32) (e_made : Int32) (e_reused : Int32) (e_freed : Int32) (e_doubled : Int32) (gk : Nat → Int32) (gc : Nat → Int32) (gv : Nat → Int64) (kw : Nat) (kf : Nat) (k1 : ClassId) (k2 : ClassId) (kz : Int32) (kgw : Nat → Int64) (kgf : Nat → Int32) (na : Int32) (gsh : Nat → Int32) (nS : Nat) (pp : Nat → Bool) (ph : Nat → Nat) (lA : Nat → Bool) (gA : Nat → Int) (nc : Nat) (wA : Nat → Nat) (kA : Nat → Int32) (cA : Nat → Int64) (SI : List Nat) (R2A : Nat → Int) (ev : Nat → Int64) (sz : Nat) (hcn : mcn.toInt = 1) (hdb : e_doubled.toInt < 999990) (hkz0 : 0 ≤ kz.toInt) (hkz1 : kz.toInt ≤ 20) (hkf : zx 4 kgf) (hnS : nS = 22424) (hba0 : 0 ≤ ba.toInt) (hba1 : ba.toInt + 24 ≤ 22424) (hmd : zMD nS kz kgf gk gc gv e_fresh e_firstFree e_held e_doubled gs pp gsh sn) (hpm : ∀ k, k < 24 → zbit na k = true → pp (Int32.toNatClampNeg ba + k) = true) (hZA : hZ ph lA gA nc wA kA cA (fun x => R2A x + zNb (fun j => zbit na j) ev x) SI gk gc gv) (hKA : ∃ FL : List Nat, zli gc e_firstFree FL ∧ hKf ph lA nc SI FL (Int32.toInt e_fresh) (Int32.toInt e_held)) (h2A : ∀ x, 0 ≤ R2A x) (hve : ∀ k, k < 24 → zbit na k = true → vr ph (ev k) (gs (Int32.toNatClampNeg ba + k))) (hwA : ∀ x, x < nc → wA x = (zfk kz kgf (kA x)).toNat) (hfd0 : 0 ≤ e_freed.toInt) (hfd1 : e_freed.toInt + e_held.toInt ≤ 1000000) : Met l yX5_dropNames (Cond.code yX5_dropNames cX5_dropNames 3 none :: zw) ({ frames := 16, cells := 0, slots := 0, locals := 600 }) (va_Pc [.ref h0, .int na] (zP dC dI aK aV sz [(sk1, .long), (e1, .int), (e2, .int), (e3, .long), (k1, .long), (k2, .int)] [(h0, .inr (5, [.ref mp, .ref gco, .ref mce, .int mcn, .ref sk, .int tp, .int ba, .ref kb, .ref kk, .ref ks, .int on, .ref sh, .int sn, .int mat, .int alw, .int st, .int mo, .int mh, .int sp, .long re])), (sk, .inl (sk1, 22424, .inr (.inl gs))), (mce, .inr (1, [.ref ek, .ref ec, .ref ef, .ref gki, .int e_limit, .int e_fresh, .int e_firstFree, .int e_held, .int e_mostHeld, .int e_made, .int e_reused, .int e_freed, .int e_doubled])), (ek, .inl (e1, 400, .inl gk)), (ec, .inl (e2, 400, .inl gc)), (ef, .inl (e3, 1200, .inr (.inl gv))), (gki, .inr (4, [.ref kw, .ref kf, .int kz])), (kw, .inl (k1, 20, .inr (.inl kgw))), (kf, .inl (k2, 20, .inl kgf))])) (va_Qv (fun u : (Nat → Int32) × Int32 × Int32 × Int32 => match u with | (gc2, ff2, he2, fd2) => (∃ p2, zMD nS kz kgf gk gc2 gv e_fresh ff2 he2 e_doubled gs p2 gsh sn ∧ ∀ j : Nat, pp j = true → (∀ k, k < 24 → zbit na k = true → j ≠ Int32.toNatClampNeg ba + k) → p2 j = true) ∧ (∃ (lA2 : Nat → Bool) (gA2 : Nat → Int), hZ ph lA2 gA2 nc wA kA cA R2A SI gk gc2 gv ∧ ∃ FL : List Nat, zli gc2 ff2 FL ∧ hKf ph lA2 nc SI FL (Int32.toInt e_fresh) (Int32.toInt he2)) ∧ (fd2.toInt = e_freed.toInt + (e_held.toInt - he2.toInt)) ∧ (he2.toInt ≤ e_held.toInt)) (fun u => match u with | (gc2, ff2, he2, fd2) => zQ dC dI (va_A [(h0, .inr (5, [.ref mp, .ref gco, .ref mce, .int mcn, .ref sk, .int tp, .int ba, .ref kb, .ref kk, .ref ks, .int on, .ref sh, .int sn, .int mat, .int alw, .int st, .int mo, .int mh, .int sp, .long re])), (sk, .inl (sk1, 22424, .inr (.inl gs))), (mce, .inr (1, [.ref ek, .ref ec, .ref ef, .ref gki, .int e_limit, .int e_fresh, .int e_firstFree, .int e_held, .int e_mostHeld, .int e_made, .int e_reused, .int e_freed, .int e_doubled])), (ek, .inl (e1, 400, .inl gk)), (ec, .inl (e2, 400, .inl gc)), (ef, .inl (e3, 1200, .inr (.inl gv))), (gki, .inr (4, [.ref kw, .ref kf, .int kz])), (kw, .inl (k1, 20, .inr (.inl kgw))), (kf, .inl (k2, 20, .inl kgf))] sz) [(sk1, .long), (e1, .int), (e2, .int), (e3, .long), (k1, .long), (k2, .int)] [(h0, .inr (5, [.ref mp, .ref gco, .ref mce, .int mcn, .ref sk, .int tp, .int ba, .ref kb, .ref kk, .ref ks, .int on, .ref sh, .int sn, .int mat, .int alw, .int st, .int mo, .int mh, .int sp, .long re])), (sk, .inl (sk1, 22424, .inr (.inl gs))), (mce, .inr (1, [.ref ek, .ref ec, .ref ef, .ref gki, .int e_limit, .int e_fresh, .int ff2, .int he2, .int e_mostHeld, .int e_made, .int e_reused, .int fd2, .int e_doubled])), (ek, .inl (e1, 400, .inl gk)), (ec, .inl (e2, 400, .inl gc2)), (ef, .inl (e3, 1200, .inr (.inl gv))), (gki, .inr (4, [.ref kw, .ref kf, .int kz])), (kw, .inl (k1, 20, .inr (.inl kgw))), (kf, .inl (k2, 20, .inl kgf))]) (va_A [(h0, .inr (5, [.ref mp, .ref gco, .ref mce, .int mcn, .ref sk, .int tp, .int ba, .ref kb, .ref kk, .ref ks, .int on, .ref sh, .int sn, .int mat, .int alw, .int st, .int mo, .int mh, .int sp, .long re])), (sk, .inl (sk1, 22424, .inr (.inl gs))), (mce, .inr (1, [.ref ek, .ref ec, .ref ef, .ref gki, .int e_limit, .int e_fresh, .int e_firstFree, .int e_held, .int e_mostHeld, .int e_made, .int e_reused, .int e_freed, .int e_doubled])), (ek, .inl (e1, 400, .inl gk)), (ec, .inl (e2, 400, .inl gc)), (ef, .inl (e3, 1200, .inr (.inl gv))), (gki, .inr (4, [.ref kw, .ref kf, .int kz])), (kw, .inl (k1, 20, .inr (.inl kgw))), (kf, .inl (k2, 20, .inl kgf))] sz)) 0 0 (va_A [(h0, .inr (5, [.ref mp, .ref gco, .ref mce, .int mcn, .ref sk, .int tp, .int ba, .ref kb, .ref kk, .ref ks, .int on, .ref sh, .int sn, .int mat, .int alw, .int st, .int mo, .int mh, .int sp, .long re])), (sk, .inl (sk1, 22424, .inr (.inl gs))), (mce, .inr (1, [.ref ek, .ref ec, .ref ef, .ref gki, .int e_limit, .int e_fresh, .int e_firstFree, .int e_held, .int e_mostHeld, .int e_made, .int e_reused, .int e_freed, .int e_doubled])), (ek, .inl (e1, 400, .inl gk)), (ec, .inl (e2, 400, .inl gc)), (ef, .inl (e3, 1200, .inr (.inl gv))), (gki, .inr (4, [.ref kw, .ref kf, .int kz])), (kw, .inl (k1, 20, .inr (.inl kgw))), (kf, .inl (k2, 20, .inl kgf))] sz) := by
  refine Met.ofW (cc := cX5_dropNames) (maxL := 3) (ret := none) (by decide) rfl ?_
  intro p e s m args below meth c s₁ B hml hv
  obtain ⟨rfl, hsz, hP, hK, hD0, hN, hT⟩ := hv
  have hx := B.exec
  have hb := B.bytes
  have hr := B.returns
  have hts := atoms_spec (ws := Cond.code yX5_dropNames cX5_dropNames 3 none :: zw) B.pre
  have hA : ∀ w ∈ zw, w.before _ s = true := fun w h => hts w (List.mem_cons_of_mem _ h)
  have hown : s.vm.findClass RX5 = some m.cls := findClass_of_methodNamed B.named
  have hlocks := B.notSynchronized
  subst hsz
  have hD := hD0.self (sz := s.heap.size)
  generalize hAe : va_A [(h0, .inr (5, [.ref mp, .ref gco, .ref mce, .int mcn, .ref sk, .int tp, .int ba, .ref kb, .ref kk, .ref ks, .int on, .ref sh, .int sn, .int mat, .int alw, .int st, .int mo, .int mh, .int sp, .long re])), (sk, .inl (sk1, 22424, .inr (.inl gs))), (mce, .inr (1, [.ref ek, .ref ec, .ref ef, .ref gki, .int e_limit, .int e_fresh, .int e_firstFree, .int e_held, .int e_mostHeld, .int e_made, .int e_reused, .int e_freed, .int e_doubled])), (ek, .inl (e1, 400, .inl gk)), (ec, .inl (e2, 400, .inl gc)), (ef, .inl (e3, 1200, .inr (.inl gv))), (gki, .inr (4, [.ref kw, .ref kf, .int kz])), (kw, .inl (k1, 20, .inr (.inl kgw))), (kf, .inl (k2, 20, .inl kgf))] s.heap.size = A at hD hT ⊢
  have hAA : ∀ q : Nat, s.heap.size ≤ q → A q := fun q h => by rw [← hAe]; exact Or.inr h
  have hS : va_S A s.heap s.heap [] := va_S.rf
  have hl := lv_entry ([.ref h0, .int na]) (n := 3) (Nat.le_of_ble_eq_true rfl)
  rw [lg_entry_eq]
  generalize (lg_sl ([.ref h0, .int na]) ++ List.replicate (3 - (lg_sl ([.ref h0, .int na])).length) Slot.unset).toArray = ls at hl ⊢
  have hl : lv_has ls 3 [(0, .ref h0), (1, .int na)] := hl
  refine lv_aload_n hx hb dX5_dropNames_0 rfl (lv_at hl 0 rfl) ?_
  refine va_get (D := (dC, dI)) (ci := 5) (v := .int mcn) (C := RX5) (T := TX5) (N := 20) hx hb hA zin_X5 hown hK hP 0 rfl rfl 3 (by decide) (hA _ wi_487) (fun _ h9 => h9) rfl dX5_dropNames_1 ?_
  refine lv_if_ne (tgt := 8) hx hb dX5_dropNames_4 (by decide) (fun c_1 => ?_) (fun c_1 => ?_)
  · have ic_1 : mcn.toInt ≠ 0 := zi_ne c_1
    refine lv_iconst (v := 0) hx hb dX5_dropNames_8 (by decide) ?_
    refine lv_istore_n (lv' := [(2, .int 0), (0, .ref h0), (1, .int na)]) hx hb dX5_dropNames_9 rfl hl (by decide) rfl (fun ls hl => ?_)
    have loop_10 : ∀ (n9 : Nat) (i : Int32) (lff : Int32) (lhe : Int32) (lfd : Int32) (lgc : Nat → Int32) (H : Heap) (locs : List Loc) (ls : Array Slot), (24 - i.toInt + 1).toNat ≤ n9 → 0 ≤ i.toInt → i.toInt ≤ 24 → lfd.toInt = e_freed.toInt + (e_held.toInt - lhe.toInt) → lhe.toInt ≤ e_held.toInt → (∃ p2, zMD nS kz kgf gk lgc gv e_fresh lff lhe e_doubled gs p2 gsh sn ∧ ∀ j : Nat, pp j = true → (∀ k, k < Int32.toNatClampNeg i → zbit na k = true → j ≠ Int32.toNatClampNeg ba + k) → p2 j = true) → (∃ (lB : Nat → Bool) (gB : Nat → Int), hZ ph lB gB nc wA kA cA (fun x => R2A x + zNr na (Int32.toNatClampNeg i) ev x) SI gk lgc gv ∧ ∃ FL : List Nat, zli lgc lff FL ∧ hKf ph lB nc SI FL (Int32.toInt e_fresh) (Int32.toInt lhe)) → va_P (dC, dI) vwCl [(h0, .inr (5, [.ref mp, .ref gco, .ref mce, .int mcn, .ref sk, .int tp, .int ba, .ref kb, .ref kk, .ref ks, .int on, .ref sh, .int sn, .int mat, .int alw, .int st, .int mo, .int mh, .int sp, .long re])), (sk, .inl (sk1, 22424, .inr (.inl gs))), (mce, .inr (1, [.ref ek, .ref ec, .ref ef, .ref gki, .int e_limit, .int e_fresh, .int lff, .int lhe, .int e_mostHeld, .int e_made, .int e_reused, .int lfd, .int e_doubled])), (ek, .inl (e1, 400, .inl gk)), (ec, .inl (e2, 400, .inl lgc)), (ef, .inl (e3, 1200, .inr (.inl gv))), (gki, .inr (4, [.ref kw, .ref kf, .int kz])), (kw, .inl (k1, 20, .inr (.inl kgw))), (kf, .inl (k2, 20, .inl kgf))] H → va_D A [(h0, .inr (5, [.ref mp, .ref gco, .ref mce, .int mcn, .ref sk, .int tp, .int ba, .ref kb, .ref kk, .ref ks, .int on, .ref sh, .int sn, .int mat, .int alw, .int st, .int mo, .int mh, .int sp, .long re])), (sk, .inl (sk1, 22424, .inr (.inl gs))), (mce, .inr (1, [.ref ek, .ref ec, .ref ef, .ref gki, .int e_limit, .int e_fresh, .int lff, .int lhe, .int e_mostHeld, .int e_made, .int e_reused, .int lfd, .int e_doubled])), (ek, .inl (e1, 400, .inl gk)), (ec, .inl (e2, 400, .inl lgc)), (ef, .inl (e3, 1200, .inr (.inl gv))), (gki, .inr (4, [.ref kw, .ref kf, .int kz])), (kw, .inl (k1, 20, .inr (.inl kgw))), (kf, .inl (k2, 20, .inl kgf))] → va_S A s.heap H locs → lv_has ls 3 [(2, .int i), (0, .ref h0), (1, .int na)] → W p l e (headSpec (Cond.code yX5_dropNames cX5_dropNames 3 none :: zw) ({ frames := 16, cells := 0, slots := 0, locals := 600 })).room s m #[.ref h0, .int na] below meth c H locs 0 0 (MQ below (va_Qv (fun u : (Nat → Int32) × Int32 × Int32 × Int32 => match u with | (gc2, ff2, he2, fd2) => (∃ p2, zMD nS kz kgf gk gc2 gv e_fresh ff2 he2 e_doubled gs p2 gsh sn ∧ ∀ j : Nat, pp j = true → (∀ k, k < 24 → zbit na k = true → j ≠ Int32.toNatClampNeg ba + k) → p2 j = true) ∧ (∃ (lA2 : Nat → Bool) (gA2 : Nat → Int), hZ ph lA2 gA2 nc wA kA cA R2A SI gk gc2 gv ∧ ∃ FL : List Nat, zli gc2 ff2 FL ∧ hKf ph lA2 nc SI FL (Int32.toInt e_fresh) (Int32.toInt he2)) ∧ (fd2.toInt = e_freed.toInt + (e_held.toInt - he2.toInt)) ∧ (he2.toInt ≤ e_held.toInt)) (fun u => match u with | (gc2, ff2, he2, fd2) => zQ dC dI A [(sk1, .long), (e1, .int), (e2, .int), (e3, .long), (k1, .long), (k2, .int)] [(h0, .inr (5, [.ref mp, .ref gco, .ref mce, .int mcn, .ref sk, .int tp, .int ba, .ref kb, .ref kk, .ref ks, .int on, .ref sh, .int sn, .int mat, .int alw, .int st, .int mo, .int mh, .int sp, .long re])), (sk, .inl (sk1, 22424, .inr (.inl gs))), (mce, .inr (1, [.ref ek, .ref ec, .ref ef, .ref gki, .int e_limit, .int e_fresh, .int ff2, .int he2, .int e_mostHeld, .int e_made, .int e_reused, .int fd2, .int e_doubled])), (ek, .inl (e1, 400, .inl gk)), (ec, .inl (e2, 400, .inl gc2)), (ef, .inl (e3, 1200, .inr (.inl gv))), (gki, .inr (4, [.ref kw, .ref kf, .int kz])), (kw, .inl (k1, 20, .inr (.inl kgw))), (kf, .inl (k2, 20, .inl kgf))]) A) #[.ref h0, .int na] s 0 0 A) (F0 m 10 ls []) := by
      intro n9
      induction n9 with
      | zero => intro i lff lhe lfd lgc H locs ls hm hi0 hi1 hlf hlh hlc hlz; exfalso; omega
      | succ n9 ih =>
        intro i lff lhe lfd lgc H locs ls hm hi0 hi1 hlf hlh hlc hlz hP hD hS hl
        refine lv_iload_n hx hb dX5_dropNames_10 rfl (lv_at hl 0 rfl) ?_
        refine lv_bipush (v := 24) hx hb dX5_dropNames_11 (by decide) ?_
        refine lv_icmp_ge (tgt := 54) hx hb dX5_dropNames_13 (by decide) (fun c_2 => ?_) (fun c_2 => ?_)
        · have ic_2 : 24 ≤ i.toInt := zi_le c_2
          have hP9 := hP.sub (ws' := [(h0, .inr (5, [.ref mp, .ref gco, .ref mce, .int mcn, .ref sk, .int tp, .int ba, .ref kb, .ref kk, .ref ks, .int on, .ref sh, .int sn, .int mat, .int alw, .int st, .int mo, .int mh, .int sp, .long re])), (sk, .inl (sk1, 22424, .inr (.inl gs))), (mce, .inr (1, [.ref ek, .ref ec, .ref ef, .ref gki, .int e_limit, .int e_fresh, .int lff, .int lhe, .int e_mostHeld, .int e_made, .int e_reused, .int lfd, .int e_doubled])), (ek, .inl (e1, 400, .inl gk)), (ec, .inl (e2, 400, .inl lgc)), (ef, .inl (e3, 1200, .inr (.inl gv))), (gki, .inr (4, [.ref kw, .ref kf, .int kz])), (kw, .inl (k1, 20, .inr (.inl kgw))), (kf, .inl (k2, 20, .inl kgf))]) [0, 1, 2, 3, 4, 5, 6, 7, 8] rfl
          have hD9 := hD.sub (ws' := [(h0, .inr (5, [.ref mp, .ref gco, .ref mce, .int mcn, .ref sk, .int tp, .int ba, .ref kb, .ref kk, .ref ks, .int on, .ref sh, .int sn, .int mat, .int alw, .int st, .int mo, .int mh, .int sp, .long re])), (sk, .inl (sk1, 22424, .inr (.inl gs))), (mce, .inr (1, [.ref ek, .ref ec, .ref ef, .ref gki, .int e_limit, .int e_fresh, .int lff, .int lhe, .int e_mostHeld, .int e_made, .int e_reused, .int lfd, .int e_doubled])), (ek, .inl (e1, 400, .inl gk)), (ec, .inl (e2, 400, .inl lgc)), (ef, .inl (e3, 1200, .inr (.inl gv))), (gki, .inr (4, [.ref kw, .ref kf, .int kz])), (kw, .inl (k1, 20, .inr (.inl kgw))), (kf, .inl (k2, 20, .inl kgf))]) [0, 1, 2, 3, 4, 5, 6, 7, 8] (by decide) rfl
          have hK9 := hK.sub (tys' := [(sk1, .long), (e1, .int), (e2, .int), (e3, .long), (k1, .long), (k2, .int)]) [0, 1, 2, 3, 4, 5] rfl
          exact W.vret hx hb hr (fun t ht hW => ⟨⟨(lgc, lff, lhe, lfd), rfl, ⟨(by obtain ⟨p2, u1, u2⟩ := hlc; exact ⟨p2, u1, fun j hj h => u2 j hj (fun k hk => h k (by have := zn_nat (x := i) (by omega); omega))⟩), (by obtain ⟨lB, gB, u1, u2⟩ := hlz; exact ⟨lB, gB, hZ_R u1 (fun x => by rw [zNr_e (by first | exact (fun j hj hk => by have := zn_nat (x := i) (by omega); omega) | exact (fun j hj hk => zsr_0 (v := na) (y := i) (by omega) (by omega) (by rw [← ‹(_ : Int32) = na >>> (i &&& 31)›]; exact Int32.toInt_inj.mp (by have : Int32.toInt 0 = 0 := (by decide); omega)) j (by omega) hk))]; omega), u2⟩), by omega, by omega⟩, by rw [ht]; exact hP9, va_K.moved hW.alike hK9, hD9⟩, hS.F ht⟩) hS.2.2 dX5_dropNames_54
        · have ic_2 : i.toInt < 24 := zi_nle c_2
          refine lv_iload_n hx hb dX5_dropNames_16 rfl (lv_at hl 2 rfl) ?_
          refine lv_iload_n hx hb dX5_dropNames_17 rfl (lv_at hl 0 rfl) ?_
          refine lv_ishr hx hb dX5_dropNames_18 ?_
          refine lv_topi (fun x_3 ex_3 => ?_)
          refine lv_if_eq (tgt := 54) hx hb dX5_dropNames_19 (by decide) (fun c_4 => ?_) (fun c_4 => ?_)
          · have ic_4 : x_3.toInt = 0 := zi_eq c_4
            have hP9 := hP.sub (ws' := [(h0, .inr (5, [.ref mp, .ref gco, .ref mce, .int mcn, .ref sk, .int tp, .int ba, .ref kb, .ref kk, .ref ks, .int on, .ref sh, .int sn, .int mat, .int alw, .int st, .int mo, .int mh, .int sp, .long re])), (sk, .inl (sk1, 22424, .inr (.inl gs))), (mce, .inr (1, [.ref ek, .ref ec, .ref ef, .ref gki, .int e_limit, .int e_fresh, .int lff, .int lhe, .int e_mostHeld, .int e_made, .int e_reused, .int lfd, .int e_doubled])), (ek, .inl (e1, 400, .inl gk)), (ec, .inl (e2, 400, .inl lgc)), (ef, .inl (e3, 1200, .inr (.inl gv))), (gki, .inr (4, [.ref kw, .ref kf, .int kz])), (kw, .inl (k1, 20, .inr (.inl kgw))), (kf, .inl (k2, 20, .inl kgf))]) [0, 1, 2, 3, 4, 5, 6, 7, 8] rfl
            have hD9 := hD.sub (ws' := [(h0, .inr (5, [.ref mp, .ref gco, .ref mce, .int mcn, .ref sk, .int tp, .int ba, .ref kb, .ref kk, .ref ks, .int on, .ref sh, .int sn, .int mat, .int alw, .int st, .int mo, .int mh, .int sp, .long re])), (sk, .inl (sk1, 22424, .inr (.inl gs))), (mce, .inr (1, [.ref ek, .ref ec, .ref ef, .ref gki, .int e_limit, .int e_fresh, .int lff, .int lhe, .int e_mostHeld, .int e_made, .int e_reused, .int lfd, .int e_doubled])), (ek, .inl (e1, 400, .inl gk)), (ec, .inl (e2, 400, .inl lgc)), (ef, .inl (e3, 1200, .inr (.inl gv))), (gki, .inr (4, [.ref kw, .ref kf, .int kz])), (kw, .inl (k1, 20, .inr (.inl kgw))), (kf, .inl (k2, 20, .inl kgf))]) [0, 1, 2, 3, 4, 5, 6, 7, 8] (by decide) rfl
            have hK9 := hK.sub (tys' := [(sk1, .long), (e1, .int), (e2, .int), (e3, .long), (k1, .long), (k2, .int)]) [0, 1, 2, 3, 4, 5] rfl
            exact W.vret hx hb hr (fun t ht hW => ⟨⟨(lgc, lff, lhe, lfd), rfl, ⟨(by obtain ⟨p2, u1, u2⟩ := hlc; exact ⟨p2, u1, fun j hj h => u2 j hj (fun k hk => h k (by have := zn_nat (x := i) (by omega); omega))⟩), (by obtain ⟨lB, gB, u1, u2⟩ := hlz; exact ⟨lB, gB, hZ_R u1 (fun x => by rw [zNr_e (by first | exact (fun j hj hk => by have := zn_nat (x := i) (by omega); omega) | exact (fun j hj hk => zsr_0 (v := na) (y := i) (by omega) (by omega) (by rw [← ‹(_ : Int32) = na >>> (i &&& 31)›]; exact Int32.toInt_inj.mp (by have : Int32.toInt 0 = 0 := (by decide); omega)) j (by omega) hk))]; omega), u2⟩), by omega, by omega⟩, by rw [ht]; exact hP9, va_K.moved hW.alike hK9, hD9⟩, hS.F ht⟩) hS.2.2 dX5_dropNames_54
          · have ic_4 : x_3.toInt ≠ 0 := zi_ne c_4
            refine lv_iload_n hx hb dX5_dropNames_22 rfl (lv_at hl 2 rfl) ?_
            refine lv_iload_n hx hb dX5_dropNames_23 rfl (lv_at hl 0 rfl) ?_
            have hPc := hP.sub (ws' := []) [] rfl
            have hDc := hD.sub (ws' := []) [] (by decide) rfl
            have hKc := hK.sub (tys' := []) [] rfl
            have hFc := va_free (wc := []) hD hS hAA [] rfl
            refine va_calli (va_runS (As := [.int na, .int i]) (rest := []) ⟨hx, hb, hml, hown, hA⟩ (c_X5_has l dC dI aK aV na i H.size (by omega) (by omega)) (va_cwS 2 hA (zw_S wi_1135 wi_1136 wi_139 (zw_good wi_1137)) rfl rfl rfl (by decide +kernel) ⟨(Nat.le_of_ble_eq_true rfl), (Nat.le_of_ble_eq_true rfl)⟩) ⟨zP_blind, zz_pre hKc hPc hDc hN hT hS hFc⟩ rfl rfl hl.1 rfl (lv_room (Nat.le_of_ble_eq_true rfl)) dX5_dropNames_24 ⟨(Nat.le_of_ble_eq_true rfl), (Nat.le_of_ble_eq_true rfl)⟩) hS (fun q _ h => hFc q h) hFc (fun r_5 u t H1 locs ht hvm hw hB hz1 hk1 hS => ?_)
            obtain ⟨hP1, hK1, hD1⟩ := hB
            rw [ht] at hP1
            have hK1 := va_K.moved hvm.symm hK1
            obtain ⟨hP, hD⟩ := va_join (wr := [(h0, .inr (5, [.ref mp, .ref gco, .ref mce, .int mcn, .ref sk, .int tp, .int ba, .ref kb, .ref kk, .ref ks, .int on, .ref sh, .int sn, .int mat, .int alw, .int st, .int mo, .int mh, .int sp, .long re])), (sk, .inl (sk1, 22424, .inr (.inl gs))), (mce, .inr (1, [.ref ek, .ref ec, .ref ef, .ref gki, .int e_limit, .int e_fresh, .int lff, .int lhe, .int e_mostHeld, .int e_made, .int e_reused, .int lfd, .int e_doubled])), (ek, .inl (e1, 400, .inl gk)), (ec, .inl (e2, 400, .inl lgc)), (ef, .inl (e3, 1200, .inr (.inl gv))), (gki, .inr (4, [.ref kw, .ref kf, .int kz])), (kw, .inl (k1, 20, .inr (.inl kgw))), (kf, .inl (k2, 20, .inl kgf))]) (w1 := []) hP hD [] [0, 1, 2, 3, 4, 5, 6, 7, 8] rfl rfl (by decide) (by decide) hk1 hFc hP1 hD1
            have hK := (hK.sub (tys' := [(sk1, .long), (e1, .int), (e2, .int), (e3, .long), (k1, .long), (k2, .int)]) [0, 1, 2, 3, 4, 5] rfl).app hK1
            generalize H1 = H at hP hS ⊢
            have hP : va_P (dC, dI) vwCl [(h0, .inr (5, [.ref mp, .ref gco, .ref mce, .int mcn, .ref sk, .int tp, .int ba, .ref kb, .ref kk, .ref ks, .int on, .ref sh, .int sn, .int mat, .int alw, .int st, .int mo, .int mh, .int sp, .long re])), (sk, .inl (sk1, 22424, .inr (.inl gs))), (mce, .inr (1, [.ref ek, .ref ec, .ref ef, .ref gki, .int e_limit, .int e_fresh, .int lff, .int lhe, .int e_mostHeld, .int e_made, .int e_reused, .int lfd, .int e_doubled])), (ek, .inl (e1, 400, .inl gk)), (ec, .inl (e2, 400, .inl lgc)), (ef, .inl (e3, 1200, .inr (.inl gv))), (gki, .inr (4, [.ref kw, .ref kf, .int kz])), (kw, .inl (k1, 20, .inr (.inl kgw))), (kf, .inl (k2, 20, .inl kgf))] H := hP
            have hD : va_D A [(h0, .inr (5, [.ref mp, .ref gco, .ref mce, .int mcn, .ref sk, .int tp, .int ba, .ref kb, .ref kk, .ref ks, .int on, .ref sh, .int sn, .int mat, .int alw, .int st, .int mo, .int mh, .int sp, .long re])), (sk, .inl (sk1, 22424, .inr (.inl gs))), (mce, .inr (1, [.ref ek, .ref ec, .ref ef, .ref gki, .int e_limit, .int e_fresh, .int lff, .int lhe, .int e_mostHeld, .int e_made, .int e_reused, .int lfd, .int e_doubled])), (ek, .inl (e1, 400, .inl gk)), (ec, .inl (e2, 400, .inl lgc)), (ef, .inl (e3, 1200, .inr (.inl gv))), (gki, .inr (4, [.ref kw, .ref kf, .int kz])), (kw, .inl (k1, 20, .inr (.inl kgw))), (kf, .inl (k2, 20, .inl kgf))] := hD
            have hK : va_K (dC, dI) vwCl [(sk1, .long), (e1, .int), (e2, .int), (e3, .long), (k1, .long), (k2, .int)] s := hK
            have hw_r_5 := hw
            try dsimp only at hw_r_5
            have hq_6 := hw
            refine lv_if_eq (tgt := 48) hx hb dX5_dropNames_27 (by decide) (fun c_7 => ?_) (fun c_7 => ?_)
            · have ic_7 : r_5.toInt = 0 := zi_eq c_7
              obtain ⟨x_8, ex_8⟩ : ∃ y : Int32, y = i + Int32.ofInt 1 := ⟨_, rfl⟩
              refine lv_iinc (v := x_8) (lv' := [(2, .int x_8), (0, .ref h0), (1, .int na)]) hx hb dX5_dropNames_48 hl (k := 0) rfl (by rw [ex_8]) (by decide) rfl (fun ls hl => ?_)
              have ix_8 : x_8.toInt = i.toInt + 1 := by rw [ex_8]; exact zi_addc (by decide) (by omega) (by omega)
              refine lv_goto (tgt := 10) hx hb dX5_dropNames_51 (by decide) ?_
              have hlc_9 : ∃ p2, zMD nS kz kgf gk lgc gv e_fresh lff lhe e_doubled gs p2 gsh sn ∧ ∀ j : Nat, pp j = true → (∀ k, k < Int32.toNatClampNeg x_8 → zbit na k = true → j ≠ Int32.toNatClampNeg ba + k) → p2 j = true := by obtain ⟨p2, u1, u2⟩ := hlc; exact ⟨p2, u1, fun j hj h => u2 j hj (fun k hk => h k (by have := zn_nat (x := i) (by omega); have := zn_nat (x := x_8) (by omega); omega))⟩
              have hlz_10 : ∃ (lB : Nat → Bool) (gB : Nat → Int), hZ ph lB gB nc wA kA cA (fun x => R2A x + zNr na (Int32.toNatClampNeg x_8) ev x) SI gk lgc gv ∧ ∃ FL : List Nat, zli lgc lff FL ∧ hKf ph lB nc SI FL (Int32.toInt e_fresh) (Int32.toInt lhe) := by obtain ⟨lB, gB, u1, u2⟩ := hlz; exact ⟨lB, gB, hZ_R u1 (fun x => by rw [zNr_n (k := Int32.toNatClampNeg i) (k2 := Int32.toNatClampNeg x_8) (hq_6.elim (fun g => absurd g.1 (by omega)) (fun g => g.2)) (by have := zn_nat (x := i) (by omega); have := zn_nat (x := x_8) (by omega); omega)]), u2⟩
              exact ih x_8 lff lhe lfd lgc _ _ _ (by omega) (by omega) (by omega) (by omega) (by omega) hlc_9 hlz_10 (hP.sub [0, 1, 2, 3, 4, 5, 6, 7, 8] rfl) (hD.sub [0, 1, 2, 3, 4, 5, 6, 7, 8] (by decide) rfl) hS (lv_sub hl [0, 1, 2] rfl)
            · have ic_7 : r_5.toInt ≠ 0 := zi_ne c_7
              have hb9 : zbit na (Int32.toNatClampNeg i) = true := hq_6.elim (fun g => g.2) (fun g => absurd g.1 (by omega))
              obtain ⟨p9, ⟨lv9, FL9, hm9⟩, hp9⟩ := hlc
              have hni9 := zn_nat (x := i) (by omega)
              have hnb9 := zn_nat (x := ba) (by omega)
              have hpj9 : p9 (Int32.toNatClampNeg ba + Int32.toNatClampNeg i) = true := hp9 _ (hpm _ (by omega) hb9) (fun k hk _ => by omega)
              obtain ⟨lB9, gB9, hzB9, FLB9, hli9, hkB9⟩ := hlz
              obtain rfl := zli_u hli9 hm9.1.2.2.2.2.2.1
              have hhe9 := zCS_held hm9.1
              refine lv_aload_n hx hb dX5_dropNames_30 rfl (lv_at hl 1 rfl) ?_
              refine va_get (D := (dC, dI)) (ci := 5) (v := .ref mce) (C := RX5) (T := TX5) (N := 20) hx hb hA zin_X5 hown hK hP 0 rfl rfl 2 (by decide) (hA _ wi_486) (fun _ h9 => h9) rfl dX5_dropNames_31 ?_
              refine lv_aload_n hx hb dX5_dropNames_34 rfl (lv_at hl 1 rfl) ?_
              refine va_get (D := (dC, dI)) (ci := 5) (v := .ref sk) (C := RX5) (T := TX5) (N := 20) hx hb hA zin_X5 hown hK hP 0 rfl rfl 4 (by decide) (hA _ wi_488) (fun _ h9 => h9) rfl dX5_dropNames_35 ?_
              refine lv_aload_n hx hb dX5_dropNames_38 rfl (lv_at hl 1 rfl) ?_
              refine va_get (D := (dC, dI)) (ci := 5) (v := .int ba) (C := RX5) (T := TX5) (N := 20) hx hb hA zin_X5 hown hK hP 0 rfl rfl 6 (by decide) (hA _ wi_490) (fun _ h9 => h9) rfl dX5_dropNames_39 ?_
              refine lv_iload_n hx hb dX5_dropNames_42 rfl (lv_at hl 0 rfl) ?_
              refine lv_iadd hx hb dX5_dropNames_43 ?_
              refine lv_topi (fun x_11 ex_11 => ?_)
              have ix_11 : x_11.toInt = ba.toInt + i.toInt := by rw [ex_11]; exact zi_addc rfl (by omega) (by omega)
              refine va_lald hx hb hK hP 1 0 rfl rfl (vp_in_iff.mpr ⟨by omega, by omega⟩) dX5_dropNames_44 ?_
              refine lv_topl (fun x_12 ex_12 => ?_)
              have hv9 : x_12 = gs (Int32.toNatClampNeg ba + Int32.toNatClampNeg i) := by rw [ex_12]; exact congrArg gs (by have := zn_nat (x := x_11) (by omega); omega)
              have ht9 := zMx_tk hm9 hpj9 hv9
              have hPc := hP.sub (ws' := [(mce, .inr (1, [.ref ek, .ref ec, .ref ef, .ref gki, .int e_limit, .int e_fresh, .int lff, .int lhe, .int e_mostHeld, .int e_made, .int e_reused, .int lfd, .int e_doubled])), (ek, .inl (e1, 400, .inl gk)), (ec, .inl (e2, 400, .inl lgc)), (ef, .inl (e3, 1200, .inr (.inl gv))), (gki, .inr (4, [.ref kw, .ref kf, .int kz])), (kw, .inl (k1, 20, .inr (.inl kgw))), (kf, .inl (k2, 20, .inl kgf))]) [2, 3, 4, 5, 6, 7, 8] rfl
              have hDc := hD.sub (ws' := [(mce, .inr (1, [.ref ek, .ref ec, .ref ef, .ref gki, .int e_limit, .int e_fresh, .int lff, .int lhe, .int e_mostHeld, .int e_made, .int e_reused, .int lfd, .int e_doubled])), (ek, .inl (e1, 400, .inl gk)), (ec, .inl (e2, 400, .inl lgc)), (ef, .inl (e3, 1200, .inr (.inl gv))), (gki, .inr (4, [.ref kw, .ref kf, .int kz])), (kw, .inl (k1, 20, .inr (.inl kgw))), (kf, .inl (k2, 20, .inl kgf))]) [2, 3, 4, 5, 6, 7, 8] (by decide) rfl
              have hKc := hK.sub (tys' := [(e1, .int), (e2, .int), (e3, .long), (k1, .long), (k2, .int)]) [1, 2, 3, 4, 5] rfl
              have hFc := va_free (wc := [(mce, .inr (1, [.ref ek, .ref ec, .ref ef, .ref gki, .int e_limit, .int e_fresh, .int lff, .int lhe, .int e_mostHeld, .int e_made, .int e_reused, .int lfd, .int e_doubled])), (ek, .inl (e1, 400, .inl gk)), (ec, .inl (e2, 400, .inl lgc)), (ef, .inl (e3, 1200, .inr (.inl gv))), (gki, .inr (4, [.ref kw, .ref kf, .int kz])), (kw, .inl (k1, 20, .inr (.inl kgw))), (kf, .inl (k2, 20, .inl kgf))]) hD hS hAA [2, 3, 4, 5, 6, 7, 8] rfl
              refine va_callv (va_runV (As := [.long x_12]) (rest := []) ⟨hx, hb, hml, hown, hA⟩ (c_X1_drop_z l dC dI aK aV mce ek ec ef gki e1 e2 e3 e_limit e_fresh lff lhe e_mostHeld e_made e_reused lfd e_doubled gk lgc gv kw kf k1 k2 kz kgw kgf x_12 lv9 (fun c => zRS nS gs (zpR p9 (Int32.toNatClampNeg ba + Int32.toNatClampNeg i)) c + zr x_12 c) (fun c => zRS nS gs (zpR p9 (Int32.toNatClampNeg ba + Int32.toNatClampNeg i)) c) FLB9 ph lB9 gB9 nc wA kA cA SI (fun x => R2A x + zNr na (Int32.toNatClampNeg i + 1) ev x) (ev (Int32.toNatClampNeg i)) H.size (by omega) (by omega) hkf ht9.1 ht9.2 (fun _ => rfl) (fun _ => zRS_0) (by omega) (hZ_R hzB9 (fun x => by show (R2A x + zNr na (Int32.toNatClampNeg i + 1) ev x) + zr (ev (Int32.toNatClampNeg i)) x = R2A x + zNr na (Int32.toNatClampNeg i) ev x; rw [zNr_s (k := Int32.toNatClampNeg i) (by omega) hb9 rfl]; omega)) hkB9 (fun x => by have h7 := h2A x; have h8 := zNr_p (na := na) (k := Int32.toNatClampNeg i + 1) (e := ev) (x := x); show 0 ≤ R2A x + zNr na (Int32.toNatClampNeg i + 1) ev x; omega) (by rw [hv9]; exact hve _ (by omega) hb9) (fun x hx => hwA x (hZ_at hzB9 hx).1) (by omega) (by omega)) (cwV 1 hA (zw_V wi_1138 wi_1139 wi_1140 wi_140 (zw_good wi_1141)) rfl rfl rfl (by decide +kernel) ⟨(Nat.le_of_ble_eq_true rfl), (Nat.le_of_ble_eq_true rfl)⟩) ⟨zP_blind, va_recv hKc hPc (ci := 1) (q0 := 0) rfl rfl, zz_pre hKc hPc hDc hN hT hS hFc⟩ rfl rfl hl.1 rfl (lv_room (Nat.le_of_ble_eq_true rfl)) dX5_dropNames_45 ⟨(Nat.le_of_ble_eq_true rfl), (Nat.le_of_ble_eq_true rfl)⟩) hS (fun q _ h => hFc q h) hFc (fun u t H1 locs ht hvm hw hB hz1 hk1 hS => ?_)
              obtain ⟨gc_14, ff_15, he_16, fd_17⟩ := u
              obtain ⟨hP1, hK1, hD1⟩ := hB
              rw [ht] at hP1
              have hK1 := va_K.moved hvm.symm hK1
              obtain ⟨hP, hD⟩ := va_join (wr := [(h0, .inr (5, [.ref mp, .ref gco, .ref mce, .int mcn, .ref sk, .int tp, .int ba, .ref kb, .ref kk, .ref ks, .int on, .ref sh, .int sn, .int mat, .int alw, .int st, .int mo, .int mh, .int sp, .long re])), (sk, .inl (sk1, 22424, .inr (.inl gs)))]) (w1 := [(mce, .inr (1, [.ref ek, .ref ec, .ref ef, .ref gki, .int e_limit, .int e_fresh, .int ff_15, .int he_16, .int e_mostHeld, .int e_made, .int e_reused, .int fd_17, .int e_doubled])), (ek, .inl (e1, 400, .inl gk)), (ec, .inl (e2, 400, .inl gc_14)), (ef, .inl (e3, 1200, .inr (.inl gv))), (gki, .inr (4, [.ref kw, .ref kf, .int kz])), (kw, .inl (k1, 20, .inr (.inl kgw))), (kf, .inl (k2, 20, .inl kgf))]) hP hD [2, 3, 4, 5, 6, 7, 8] [0, 1] rfl rfl (by decide) (by decide) hk1 hFc hP1 hD1
              have hK := (hK.sub (tys' := [(sk1, .long)]) [0] rfl).app hK1
              generalize H1 = H at hP hS ⊢
              have hP : va_P (dC, dI) vwCl [(h0, .inr (5, [.ref mp, .ref gco, .ref mce, .int mcn, .ref sk, .int tp, .int ba, .ref kb, .ref kk, .ref ks, .int on, .ref sh, .int sn, .int mat, .int alw, .int st, .int mo, .int mh, .int sp, .long re])), (sk, .inl (sk1, 22424, .inr (.inl gs))), (mce, .inr (1, [.ref ek, .ref ec, .ref ef, .ref gki, .int e_limit, .int e_fresh, .int ff_15, .int he_16, .int e_mostHeld, .int e_made, .int e_reused, .int fd_17, .int e_doubled])), (ek, .inl (e1, 400, .inl gk)), (ec, .inl (e2, 400, .inl gc_14)), (ef, .inl (e3, 1200, .inr (.inl gv))), (gki, .inr (4, [.ref kw, .ref kf, .int kz])), (kw, .inl (k1, 20, .inr (.inl kgw))), (kf, .inl (k2, 20, .inl kgf))] H := hP
              have hD : va_D A [(h0, .inr (5, [.ref mp, .ref gco, .ref mce, .int mcn, .ref sk, .int tp, .int ba, .ref kb, .ref kk, .ref ks, .int on, .ref sh, .int sn, .int mat, .int alw, .int st, .int mo, .int mh, .int sp, .long re])), (sk, .inl (sk1, 22424, .inr (.inl gs))), (mce, .inr (1, [.ref ek, .ref ec, .ref ef, .ref gki, .int e_limit, .int e_fresh, .int ff_15, .int he_16, .int e_mostHeld, .int e_made, .int e_reused, .int fd_17, .int e_doubled])), (ek, .inl (e1, 400, .inl gk)), (ec, .inl (e2, 400, .inl gc_14)), (ef, .inl (e3, 1200, .inr (.inl gv))), (gki, .inr (4, [.ref kw, .ref kf, .int kz])), (kw, .inl (k1, 20, .inr (.inl kgw))), (kf, .inl (k2, 20, .inl kgf))] := hD
              have hK : va_K (dC, dI) vwCl [(sk1, .long), (e1, .int), (e2, .int), (e3, .long), (k1, .long), (k2, .int)] s := hK
              obtain ⟨hq_18, hq_19, hq_20⟩ := hw
              obtain ⟨lv8, FL8, lB7, gB7, ⟨hz9, hl9, hf9⟩, hzB7, hkB7⟩ := hq_18
              obtain ⟨x_21, ex_21⟩ : ∃ y : Int32, y = i + Int32.ofInt 1 := ⟨_, rfl⟩
              refine lv_iinc (v := x_21) (lv' := [(2, .int x_21), (0, .ref h0), (1, .int na)]) hx hb dX5_dropNames_48 hl (k := 0) rfl (by rw [ex_21]) (by decide) rfl (fun ls hl => ?_)
              have ix_21 : x_21.toInt = i.toInt + 1 := by rw [ex_21]; exact zi_addc (by decide) (by omega) (by omega)
              refine lv_goto (tgt := 10) hx hb dX5_dropNames_51 (by decide) ?_
              have hlc_22 : ∃ p2, zMD nS kz kgf gk gc_14 gv e_fresh ff_15 he_16 e_doubled gs p2 gsh sn ∧ ∀ j : Nat, pp j = true → (∀ k, k < Int32.toNatClampNeg x_21 → zbit na k = true → j ≠ Int32.toNatClampNeg ba + k) → p2 j = true := ⟨_, zMx_dn hm9 hz9 hl9 hf9, fun j hj h => by have hx9 := zn_nat (x := i) (by omega); have hy9 := zn_nat (x := x_21) (by omega); exact (zpR_n (show j ≠ Int32.toNatClampNeg ba + Int32.toNatClampNeg i from h _ (by omega) hb9)).trans (hp9 j hj (fun k hk => h k (by omega)))⟩
              have hlz_23 : ∃ (lB : Nat → Bool) (gB : Nat → Int), hZ ph lB gB nc wA kA cA (fun x => R2A x + zNr na (Int32.toNatClampNeg x_21) ev x) SI gk gc_14 gv ∧ ∃ FL : List Nat, zli gc_14 ff_15 FL ∧ hKf ph lB nc SI FL (Int32.toInt e_fresh) (Int32.toInt he_16) := ⟨lB7, gB7, hZ_R hzB7 (fun x => by show R2A x + zNr na (Int32.toNatClampNeg x_21) ev x = R2A x + zNr na (Int32.toNatClampNeg i + 1) ev x; rw [show Int32.toNatClampNeg x_21 = Int32.toNatClampNeg i + 1 from by have := zn_nat (x := i) (by omega); have := zn_nat (x := x_21) (by omega); omega]), FL8, hz9.2.2.2.2.2.1, hkB7⟩
              exact ih x_21 ff_15 he_16 fd_17 gc_14 _ _ _ (by omega) (by omega) (by omega) (by omega) (by omega) hlc_22 hlz_23 (hP.sub [0, 1, 2, 3, 4, 5, 6, 7, 8] rfl) (hD.sub [0, 1, 2, 3, 4, 5, 6, 7, 8] (by decide) rfl) hS (lv_sub hl [0, 1, 2] rfl)
    have hlc_24 : ∃ p2, zMD nS kz kgf gk gc gv e_fresh e_firstFree e_held e_doubled gs p2 gsh sn ∧ ∀ j : Nat, pp j = true → (∀ k, k < Int32.toNatClampNeg 0 → zbit na k = true → j ≠ Int32.toNatClampNeg ba + k) → p2 j = true := ⟨pp, hmd, fun _ h _ => h⟩
    have hlz_25 : ∃ (lB : Nat → Bool) (gB : Nat → Int), hZ ph lB gB nc wA kA cA (fun x => R2A x + zNr na (Int32.toNatClampNeg 0) ev x) SI gk gc gv ∧ ∃ FL : List Nat, zli gc e_firstFree FL ∧ hKf ph lB nc SI FL (Int32.toInt e_fresh) (Int32.toInt e_held) := ⟨lA, gA, hZ_R hZA (fun x => by show R2A x + zNr na (Int32.toNatClampNeg 0) ev x = R2A x + zNb _ ev x; exact congrArg (fun q => R2A x + q) (zNr_0 rfl)), hKA⟩
    exact loop_10 _ 0 e_firstFree e_held e_freed gc _ _ _ (Nat.le_refl _) (by have h9_0 : Int32.toInt 0 = 0 := (by decide); omega) (by have h9_0 : Int32.toInt 0 = 0 := (by decide); omega) (by have h9_0 : Int32.toInt 0 = 0 := (by decide); omega) (by have h9_0 : Int32.toInt 0 = 0 := (by decide); omega) hlc_24 hlz_25 (hP.sub [0, 1, 2, 3, 4, 5, 6, 7, 8] rfl) (hD.sub [0, 1, 2, 3, 4, 5, 6, 7, 8] (by decide) rfl) hS (lv_sub hl [0, 1, 2] rfl)
  · have ic_1 : mcn.toInt = 0 := zi_eq c_1
    exfalso
    omega

end
