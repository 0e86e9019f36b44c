theorem wi_834 : Cond.methodLink "java/lang/Throwable" 1 objectInit ∈ zw := zw_in (List.mem_of_getElem? (i := 834) (by decide +kernel)) (by decide +kernel)
theorem wi_162 : Cond.instanceMethod objectInit ∈ zw := zw_in (List.mem_of_getElem? (i := 162) (by decide +kernel)) (by decide +kernel)
theorem wi_163 : Cond.code objectInit ⟨#[0xb1]⟩ 1 none ∈ zw := zw_in (List.mem_of_getElem? (i := 163) (by decide +kernel)) (by decide +kernel)
theorem wi_862 : Cond.fieldLink "java/lang/Throwable" 7 "java/lang/Throwable" "cause" "Ljava/lang/Throwable;" ∈ zw := zw_in (List.mem_of_getElem? (i := 862) (by decide +kernel)) (by decide +kernel)
theorem wi_835 : Cond.fieldLink "java/lang/Throwable" 13 "java/lang/Throwable" "UNASSIGNED_STACK" "[Ljava/lang/StackTraceElement;" ∈ zw := zw_in (List.mem_of_getElem? (i := 835) (by decide +kernel)) (by decide +kernel)
theorem wi_863 : Cond.fieldLink "java/lang/Throwable" 17 "java/lang/Throwable" "stackTrace" "[Ljava/lang/StackTraceElement;" ∈ zw := zw_in (List.mem_of_getElem? (i := 863) (by decide +kernel)) (by decide +kernel)
theorem wi_837 : Cond.fieldLink "java/lang/Throwable" 20 "java/lang/Throwable" "SUPPRESSED_SENTINEL" "Ljava/util/List;" ∈ zw := zw_in (List.mem_of_getElem? (i := 837) (by decide +kernel)) (by decide +kernel)
theorem wi_864 : Cond.fieldLink "java/lang/Throwable" 24 "java/lang/Throwable" "suppressedExceptions" "Ljava/util/List;" ∈ zw := zw_in (List.mem_of_getElem? (i := 864) (by decide +kernel)) (by decide +kernel)
theorem wi_861 : Cond.fieldLink "java/lang/Throwable" 31 "java/lang/Throwable" "detailMessage" "Ljava/lang/String;" ∈ zw := zw_in (List.mem_of_getElem? (i := 861) (by decide +kernel)) (by decide +kernel)
theorem wi_1396 : Cond.code ⟨"java/lang/Throwable", "<init>", "(Ljava/lang/String;Ljava/lang/Throwable;ZZ)V"⟩ prog_25_method_5_code 5 none ∈ zw := zw_in (List.mem_of_getElem? (i := 1396) (by decide +kernel)) (by decide +kernel)
theorem wi_144 : Cond.initialized "java/lang/Throwable" ∈ zw := zw_in (List.mem_of_getElem? (i := 144) (by decide +kernel)) (by decide +kernel)
theorem wi_1394 : Cond.methodLink "java/lang/Exception" 16 ⟨"java/lang/Throwable", "<init>", "(Ljava/lang/String;Ljava/lang/Throwable;ZZ)V"⟩ ∈ zw := zw_in (List.mem_of_getElem? (i := 1394) (by decide +kernel)) (by decide +kernel)
theorem wi_1395 : Cond.instanceMethod ⟨"java/lang/Throwable", "<init>", "(Ljava/lang/String;Ljava/lang/Throwable;ZZ)V"⟩ ∈ zw := zw_in (List.mem_of_getElem? (i := 1395) (by decide +kernel)) (by decide +kernel)
theorem wi_1393 : Cond.code ⟨"java/lang/Exception", "<init>", "(Ljava/lang/String;Ljava/lang/Throwable;ZZ)V"⟩ prog_18_method_5_code 5 none ∈ zw := zw_in (List.mem_of_getElem? (i := 1393) (by decide +kernel)) (by decide +kernel)
theorem wi_145 : Cond.initialized "java/lang/Exception" ∈ zw := zw_in (List.mem_of_getElem? (i := 145) (by decide +kernel)) (by decide +kernel)
theorem wi_1391 : Cond.methodLink "java/lang/RuntimeException" 16 ⟨"java/lang/Exception", "<init>", "(Ljava/lang/String;Ljava/lang/Throwable;ZZ)V"⟩ ∈ zw := zw_in (List.mem_of_getElem? (i := 1391) (by decide +kernel)) (by decide +kernel)
theorem wi_1392 : Cond.instanceMethod ⟨"java/lang/Exception", "<init>", "(Ljava/lang/String;Ljava/lang/Throwable;ZZ)V"⟩ ∈ zw := zw_in (List.mem_of_getElem? (i := 1392) (by decide +kernel)) (by decide +kernel)
theorem wi_1390 : Cond.code ⟨"java/lang/RuntimeException", "<init>", "(Ljava/lang/String;Ljava/lang/Throwable;ZZ)V"⟩ prog_21_method_5_code 5 none ∈ zw := zw_in (List.mem_of_getElem? (i := 1390) (by decide +kernel)) (by decide +kernel)
theorem wi_146 : Cond.initialized "java/lang/RuntimeException" ∈ zw := zw_in (List.mem_of_getElem? (i := 146) (by decide +kernel)) (by decide +kernel)
theorem wi_1388 : Cond.methodLink RX13 1 ⟨"java/lang/RuntimeException", "<init>", "(Ljava/lang/String;Ljava/lang/Throwable;ZZ)V"⟩ ∈ zw := zw_in (List.mem_of_getElem? (i := 1388) (by decide +kernel)) (by decide +kernel)
theorem wi_1389 : Cond.instanceMethod ⟨"java/lang/RuntimeException", "<init>", "(Ljava/lang/String;Ljava/lang/Throwable;ZZ)V"⟩ ∈ zw := zw_in (List.mem_of_getElem? (i := 1389) (by decide +kernel)) (by decide +kernel)
theorem wi_1410 : Cond.methodLink RX12 3 objectInit ∈ zw := zw_in (List.mem_of_getElem? (i := 1410) (by decide +kernel)) (by decide +kernel)
theorem wi_1411 : Cond.fieldLink RX12 9 "ReuseHouseModel$Program" "what" "[B" ∈ zw := zw_in (List.mem_of_getElem? (i := 1411) (by decide +kernel)) (by decide +kernel)
theorem wi_1413 : Cond.fieldLink RX12 15 "ReuseHouseModel$Program" "place" "[I" ∈ zw := zw_in (List.mem_of_getElem? (i := 1413) (by decide +kernel)) (by decide +kernel)
theorem wi_1415 : Cond.fieldLink RX12 19 "ReuseHouseModel$Program" "own" "[I" ∈ zw := zw_in (List.mem_of_getElem? (i := 1415) (by decide +kernel)) (by decide +kernel)
theorem wi_1417 : Cond.fieldLink RX12 22 "ReuseHouseModel$Program" "one" "[I" ∈ zw := zw_in (List.mem_of_getElem? (i := 1417) (by decide +kernel)) (by decide +kernel)
theorem wi_1419 : Cond.fieldLink RX12 25 "ReuseHouseModel$Program" "two" "[I" ∈ zw := zw_in (List.mem_of_getElem? (i := 1419) (by decide +kernel)) (by decide +kernel)
theorem wi_1421 : Cond.fieldLink RX12 28 "ReuseHouseModel$Program" "three" "[I" ∈ zw := zw_in (List.mem_of_getElem? (i := 1421) (by decide +kernel)) (by decide +kernel)
theorem wi_1423 : Cond.fieldLink RX12 31 "ReuseHouseModel$Program" "beside" "[I" ∈ zw := zw_in (List.mem_of_getElem? (i := 1423) (by decide +kernel)) (by decide +kernel)
theorem wi_1425 : Cond.fieldLink RX12 34 "ReuseHouseModel$Program" "many" "[I" ∈ zw := zw_in (List.mem_of_getElem? (i := 1425) (by decide +kernel)) (by decide +kernel)
theorem wi_1427 : Cond.fieldLink RX12 37 "ReuseHouseModel$Program" "uses" "[I" ∈ zw := zw_in (List.mem_of_getElem? (i := 1427) (by decide +kernel)) (by decide +kernel)
theorem wi_1429 : Cond.fieldLink RX12 40 "ReuseHouseModel$Program" "behind" "[I" ∈ zw := zw_in (List.mem_of_getElem? (i := 1429) (by decide +kernel)) (by decide +kernel)
theorem wi_1431 : Cond.fieldLink RX12 43 "ReuseHouseModel$Program" "name" "[J" ∈ zw := zw_in (List.mem_of_getElem? (i := 1431) (by decide +kernel)) (by decide +kernel)
theorem wi_1433 : Cond.fieldLink RX12 47 "ReuseHouseModel$Program" "makes" "[B" ∈ zw := zw_in (List.mem_of_getElem? (i := 1433) (by decide +kernel)) (by decide +kernel)
theorem wi_1436 : Cond.fieldLink RX12 50 "ReuseHouseModel$Program" "functionName" "[J" ∈ zw := zw_in (List.mem_of_getElem? (i := 1436) (by decide +kernel)) (by decide +kernel)
theorem wi_1438 : Cond.fieldLink RX12 53 "ReuseHouseModel$Program" "kindName" "[J" ∈ zw := zw_in (List.mem_of_getElem? (i := 1438) (by decide +kernel)) (by decide +kernel)
theorem wi_1440 : Cond.fieldLink RX12 56 "ReuseHouseModel$Program" "told" "[I" ∈ zw := zw_in (List.mem_of_getElem? (i := 1440) (by decide +kernel)) (by decide +kernel)
theorem wi_1442 : Cond.fieldLink RX12 59 "ReuseHouseModel$Program" "body" "[I" ∈ zw := zw_in (List.mem_of_getElem? (i := 1442) (by decide +kernel)) (by decide +kernel)
theorem wi_1444 : Cond.fieldLink RX12 62 "ReuseHouseModel$Program" "first" "[I" ∈ zw := zw_in (List.mem_of_getElem? (i := 1444) (by decide +kernel)) (by decide +kernel)
theorem wi_1446 : Cond.fieldLink RX12 65 "ReuseHouseModel$Program" "widest" "[I" ∈ zw := zw_in (List.mem_of_getElem? (i := 1446) (by decide +kernel)) (by decide +kernel)
theorem wi_1448 : Cond.fieldLink RX12 68 "ReuseHouseModel$Program" "fields" "[I" ∈ zw := zw_in (List.mem_of_getElem? (i := 1448) (by decide +kernel)) (by decide +kernel)
theorem dJE_init_0 : decode prog_18_method_5_code 0 = .ok (.aload_n 0, 1) := by decide +kernel
theorem dJE_init_1 : decode prog_18_method_5_code 1 = .ok (.aload_n 1, 1) := by decide +kernel
theorem dJE_init_2 : decode prog_18_method_5_code 2 = .ok (.aload_n 2, 1) := by decide +kernel
theorem dJE_init_3 : decode prog_18_method_5_code 3 = .ok (.iload_n 3, 1) := by decide +kernel
theorem dJE_init_4 : decode prog_18_method_5_code 4 = .ok (.iload 4, 2) := by decide +kernel
theorem dJE_init_6 : decode prog_18_method_5_code 6 = .ok (.invokespecial 16, 3) := by decide +kernel
theorem dJE_init_9 : decode prog_18_method_5_code 9 = .ok (.return_, 1) := by decide +kernel
theorem dJR_init_0 : decode prog_21_method_5_code 0 = .ok (.aload_n 0, 1) := by decide +kernel
theorem dJR_init_1 : decode prog_21_method_5_code 1 = .ok (.aload_n 1, 1) := by decide +kernel
theorem dJR_init_2 : decode prog_21_method_5_code 2 = .ok (.aload_n 2, 1) := by decide +kernel
theorem dJR_init_3 : decode prog_21_method_5_code 3 = .ok (.iload_n 3, 1) := by decide +kernel
theorem dJR_init_4 : decode prog_21_method_5_code 4 = .ok (.iload 4, 2) := by decide +kernel
theorem dJR_init_6 : decode prog_21_method_5_code 6 = .ok (.invokespecial 16, 3) := by decide +kernel
theorem dJR_init_9 : decode prog_21_method_5_code 9 = .ok (.return_, 1) := by decide +kernel
theorem dJT_init_0 : decode prog_25_method_5_code 0 = .ok (.aload_n 0, 1) := by decide +kernel
theorem dJT_init_1 : decode prog_25_method_5_code 1 = .ok (.invokespecial 1, 3) := by decide +kernel
theorem dJT_init_4 : decode prog_25_method_5_code 4 = .ok (.aload_n 0, 1) := by decide +kernel
theorem dJT_init_5 : decode prog_25_method_5_code 5 = .ok (.aload_n 0, 1) := by decide +kernel
theorem dJT_init_6 : decode prog_25_method_5_code 6 = .ok (.putfield 7, 3) := by decide +kernel
theorem dJT_init_9 : decode prog_25_method_5_code 9 = .ok (.aload_n 0, 1) := by decide +kernel
theorem dJT_init_10 : decode prog_25_method_5_code 10 = .ok (.getstatic 13, 3) := by decide +kernel
theorem dJT_init_13 : decode prog_25_method_5_code 13 = .ok (.putfield 17, 3) := by decide +kernel
theorem dJT_init_16 : decode prog_25_method_5_code 16 = .ok (.aload_n 0, 1) := by decide +kernel
theorem dJT_init_17 : decode prog_25_method_5_code 17 = .ok (.getstatic 20, 3) := by decide +kernel
theorem dJT_init_20 : decode prog_25_method_5_code 20 = .ok (.putfield 24, 3) := by decide +kernel
theorem dJT_init_23 : decode prog_25_method_5_code 23 = .ok (.iload 4, 2) := by decide +kernel
theorem dJT_init_25 : decode prog_25_method_5_code 25 = .ok (.ifCond .eq 11, 3) := by decide +kernel
theorem dJT_init_36 : decode prog_25_method_5_code 36 = .ok (.aload_n 0, 1) := by decide +kernel
theorem dJT_init_37 : decode prog_25_method_5_code 37 = .ok (.aconst_null, 1) := by decide +kernel
theorem dJT_init_38 : decode prog_25_method_5_code 38 = .ok (.putfield 17, 3) := by decide +kernel
theorem dJT_init_41 : decode prog_25_method_5_code 41 = .ok (.aload_n 0, 1) := by decide +kernel
theorem dJT_init_42 : decode prog_25_method_5_code 42 = .ok (.aload_n 1, 1) := by decide +kernel
theorem dJT_init_43 : decode prog_25_method_5_code 43 = .ok (.putfield 31, 3) := by decide +kernel
theorem dJT_init_46 : decode prog_25_method_5_code 46 = .ok (.aload_n 0, 1) := by decide +kernel
theorem dJT_init_47 : decode prog_25_method_5_code 47 = .ok (.aload_n 2, 1) := by decide +kernel
theorem dJT_init_48 : decode prog_25_method_5_code 48 = .ok (.putfield 7, 3) := by decide +kernel
theorem dJT_init_51 : decode prog_25_method_5_code 51 = .ok (.iload_n 3, 1) := by decide +kernel
theorem dJT_init_52 : decode prog_25_method_5_code 52 = .ok (.ifCond .ne 8, 3) := by decide +kernel
theorem dJT_init_55 : decode prog_25_method_5_code 55 = .ok (.aload_n 0, 1) := by decide +kernel
theorem dJT_init_56 : decode prog_25_method_5_code 56 = .ok (.aconst_null, 1) := by decide +kernel
theorem dJT_init_57 : decode prog_25_method_5_code 57 = .ok (.putfield 24, 3) := by decide +kernel
theorem dJT_init_60 : decode prog_25_method_5_code 60 = .ok (.return_, 1) := by decide +kernel
theorem dX12_init_0 : decode cX12_init 0 = .ok (.aload_n 0, 1) := by decide +kernel
theorem dX12_init_1 : decode cX12_init 1 = .ok (.invokespecial 3, 3) := by decide +kernel
theorem dX12_init_4 : decode cX12_init 4 = .ok (.aload_n 0, 1) := by decide +kernel
theorem dX12_init_5 : decode cX12_init 5 = .ok (.sipush 2100, 3) := by decide +kernel
theorem dX12_init_8 : decode cX12_init 8 = .ok (.newarray .byte, 2) := by decide +kernel
theorem dX12_init_10 : decode cX12_init 10 = .ok (.putfield 9, 3) := by decide +kernel
theorem dX12_init_13 : decode cX12_init 13 = .ok (.aload_n 0, 1) := by decide +kernel
theorem dX12_init_14 : decode cX12_init 14 = .ok (.sipush 2100, 3) := by decide +kernel
theorem dX12_init_17 : decode cX12_init 17 = .ok (.newarray .int, 2) := by decide +kernel
theorem dX12_init_19 : decode cX12_init 19 = .ok (.putfield 15, 3) := by decide +kernel
theorem dX12_init_22 : decode cX12_init 22 = .ok (.aload_n 0, 1) := by decide +kernel
theorem dX12_init_23 : decode cX12_init 23 = .ok (.sipush 2100, 3) := by decide +kernel
theorem dX12_init_26 : decode cX12_init 26 = .ok (.newarray .int, 2) := by decide +kernel
theorem dX12_init_28 : decode cX12_init 28 = .ok (.putfield 19, 3) := by decide +kernel
theorem dX12_init_31 : decode cX12_init 31 = .ok (.aload_n 0, 1) := by decide +kernel
theorem dX12_init_32 : decode cX12_init 32 = .ok (.sipush 2100, 3) := by decide +kernel
theorem dX12_init_35 : decode cX12_init 35 = .ok (.newarray .int, 2) := by decide +kernel
theorem dX12_init_37 : decode cX12_init 37 = .ok (.putfield 22, 3) := by decide +kernel
theorem dX12_init_40 : decode cX12_init 40 = .ok (.aload_n 0, 1) := by decide +kernel
theorem dX12_init_41 : decode cX12_init 41 = .ok (.sipush 2100, 3) := by decide +kernel
theorem dX12_init_44 : decode cX12_init 44 = .ok (.newarray .int, 2) := by decide +kernel
theorem dX12_init_46 : decode cX12_init 46 = .ok (.putfield 25, 3) := by decide +kernel
theorem dX12_init_49 : decode cX12_init 49 = .ok (.aload_n 0, 1) := by decide +kernel
theorem dX12_init_50 : decode cX12_init 50 = .ok (.sipush 2100, 3) := by decide +kernel
theorem dX12_init_53 : decode cX12_init 53 = .ok (.newarray .int, 2) := by decide +kernel
theorem dX12_init_55 : decode cX12_init 55 = .ok (.putfield 28, 3) := by decide +kernel
theorem dX12_init_58 : decode cX12_init 58 = .ok (.aload_n 0, 1) := by decide +kernel
theorem dX12_init_59 : decode cX12_init 59 = .ok (.sipush 2100, 3) := by decide +kernel
theorem dX12_init_62 : decode cX12_init 62 = .ok (.newarray .int, 2) := by decide +kernel
theorem dX12_init_64 : decode cX12_init 64 = .ok (.putfield 31, 3) := by decide +kernel
theorem dX12_init_67 : decode cX12_init 67 = .ok (.aload_n 0, 1) := by decide +kernel
theorem dX12_init_68 : decode cX12_init 68 = .ok (.sipush 2100, 3) := by decide +kernel
theorem dX12_init_71 : decode cX12_init 71 = .ok (.newarray .int, 2) := by decide +kernel
theorem dX12_init_73 : decode cX12_init 73 = .ok (.putfield 34, 3) := by decide +kernel
theorem dX12_init_76 : decode cX12_init 76 = .ok (.aload_n 0, 1) := by decide +kernel
theorem dX12_init_77 : decode cX12_init 77 = .ok (.sipush 2100, 3) := by decide +kernel
theorem dX12_init_80 : decode cX12_init 80 = .ok (.newarray .int, 2) := by decide +kernel
theorem dX12_init_82 : decode cX12_init 82 = .ok (.putfield 37, 3) := by decide +kernel
theorem dX12_init_85 : decode cX12_init 85 = .ok (.aload_n 0, 1) := by decide +kernel
theorem dX12_init_86 : decode cX12_init 86 = .ok (.sipush 2100, 3) := by decide +kernel
theorem dX12_init_89 : decode cX12_init 89 = .ok (.newarray .int, 2) := by decide +kernel
theorem dX12_init_91 : decode cX12_init 91 = .ok (.putfield 40, 3) := by decide +kernel
theorem dX12_init_94 : decode cX12_init 94 = .ok (.aload_n 0, 1) := by decide +kernel
theorem dX12_init_95 : decode cX12_init 95 = .ok (.sipush 2100, 3) := by decide +kernel
theorem dX12_init_98 : decode cX12_init 98 = .ok (.newarray .long, 2) := by decide +kernel
theorem dX12_init_100 : decode cX12_init 100 = .ok (.putfield 43, 3) := by decide +kernel
theorem dX12_init_103 : decode cX12_init 103 = .ok (.aload_n 0, 1) := by decide +kernel
theorem dX12_init_104 : decode cX12_init 104 = .ok (.sipush 2100, 3) := by decide +kernel
theorem dX12_init_107 : decode cX12_init 107 = .ok (.newarray .byte, 2) := by decide +kernel
theorem dX12_init_109 : decode cX12_init 109 = .ok (.putfield 47, 3) := by decide +kernel
theorem dX12_init_112 : decode cX12_init 112 = .ok (.aload_n 0, 1) := by decide +kernel
theorem dX12_init_113 : decode cX12_init 113 = .ok (.bipush 30, 2) := by decide +kernel
theorem dX12_init_115 : decode cX12_init 115 = .ok (.newarray .long, 2) := by decide +kernel
theorem dX12_init_117 : decode cX12_init 117 = .ok (.putfield 50, 3) := by decide +kernel
theorem dX12_init_120 : decode cX12_init 120 = .ok (.aload_n 0, 1) := by decide +kernel
theorem dX12_init_121 : decode cX12_init 121 = .ok (.bipush 20, 2) := by decide +kernel
theorem dX12_init_123 : decode cX12_init 123 = .ok (.newarray .long, 2) := by decide +kernel
theorem dX12_init_125 : decode cX12_init 125 = .ok (.putfield 53, 3) := by decide +kernel
theorem dX12_init_128 : decode cX12_init 128 = .ok (.aload_n 0, 1) := by decide +kernel
theorem dX12_init_129 : decode cX12_init 129 = .ok (.bipush 30, 2) := by decide +kernel
theorem dX12_init_131 : decode cX12_init 131 = .ok (.newarray .int, 2) := by decide +kernel
theorem dX12_init_133 : decode cX12_init 133 = .ok (.putfield 56, 3) := by decide +kernel
theorem dX12_init_136 : decode cX12_init 136 = .ok (.aload_n 0, 1) := by decide +kernel
theorem dX12_init_137 : decode cX12_init 137 = .ok (.bipush 30, 2) := by decide +kernel
theorem dX12_init_139 : decode cX12_init 139 = .ok (.newarray .int, 2) := by decide +kernel
theorem dX12_init_141 : decode cX12_init 141 = .ok (.putfield 59, 3) := by decide +kernel
theorem dX12_init_144 : decode cX12_init 144 = .ok (.aload_n 0, 1) := by decide +kernel
theorem dX12_init_145 : decode cX12_init 145 = .ok (.bipush 30, 2) := by decide +kernel
theorem dX12_init_147 : decode cX12_init 147 = .ok (.newarray .int, 2) := by decide +kernel
theorem dX12_init_149 : decode cX12_init 149 = .ok (.putfield 62, 3) := by decide +kernel
theorem dX12_init_152 : decode cX12_init 152 = .ok (.aload_n 0, 1) := by decide +kernel
theorem dX12_init_153 : decode cX12_init 153 = .ok (.bipush 30, 2) := by decide +kernel
theorem dX12_init_155 : decode cX12_init 155 = .ok (.newarray .int, 2) := by decide +kernel
theorem dX12_init_157 : decode cX12_init 157 = .ok (.putfield 65, 3) := by decide +kernel
theorem dX12_init_160 : decode cX12_init 160 = .ok (.aload_n 0, 1) := by decide +kernel
theorem dX12_init_161 : decode cX12_init 161 = .ok (.bipush 20, 2) := by decide +kernel
theorem dX12_init_163 : decode cX12_init 163 = .ok (.newarray .int, 2) := by decide +kernel
theorem dX12_init_165 : decode cX12_init 165 = .ok (.putfield 68, 3) := by decide +kernel
theorem dX12_init_168 : decode cX12_init 168 = .ok (.return_, 1) := by decide +kernel
theorem dX13_init_0 : decode cX13_init 0 = .ok (.aload_n 0, 1) := by decide +kernel
theorem dX13_init_1 : decode cX13_init 1 = .ok (.aconst_null, 1) := by decide +kernel
theorem dX13_init_2 : decode cX13_init 2 = .ok (.aconst_null, 1) := by decide +kernel
theorem dX13_init_3 : decode cX13_init 3 = .ok (.iconst 0, 1) := by decide +kernel
theorem dX13_init_4 : decode cX13_init 4 = .ok (.iconst 0, 1) := by decide +kernel
theorem dX13_init_5 : decode cX13_init 5 = .ok (.invokespecial 1, 3) := by decide +kernel
theorem dX13_init_8 : decode cX13_init 8 = .ok (.return_, 1) := by decide +kernel
set_option maxHeartbeats 4000000 in
set_option maxRecDepth 100000 in
theorem c_JT_init (l : Launch) (dC : Nat → ClassId) (dI : Nat → Nat → Nat) (aK aV : Nat → Nat) (h0 : Nat) (sz : Nat)  : Met l ⟨"java/lang/Throwable", "<init>", "(Ljava/lang/String;Ljava/lang/Throwable;ZZ)V"⟩ (Cond.code ⟨"java/lang/Throwable", "<init>", "(Ljava/lang/String;Ljava/lang/Throwable;ZZ)V"⟩ prog_25_method_5_code 5 none :: zw) ({ frames := 8, cells := 0, slots := 0, locals := 200 }) (va_Pc [.ref h0, .null, .null, .int 0, .int 0] (zP dC dI aK aV sz [] [(h0, .inr (13, [.null, .null, .null, .null, .null, .int 0, .int 0, .int 0]))])) (va_Qv (fun u : Unit => True) (fun u => zQ dC dI (va_A [(h0, .inr (13, [.null, .null, .null, .null, .null, .int 0, .int 0, .int 0]))] sz) [] [(h0, .inr (13, [.null, .null, .null, .null, .null, .int 0, .int 0, .int 0]))]) (va_A [(h0, .inr (13, [.null, .null, .null, .null, .null, .int 0, .int 0, .int 0]))] sz)) 0 0 (va_A [(h0, .inr (13, [.null, .null, .null, .null, .null, .int 0, .int 0, .int 0]))] sz) := by
  refine Met.ofW (cc := prog_25_method_5_code) (maxL := 5) (ret := none) (by decide) rfl ?_
  intro p e s m args below meth c s₁ B hml hv
  obtain ⟨rfl, hsz, hP, hK, hD0, hN, hT⟩ := hv
  have hx := B.exec
  have hb := B.bytes
  have hr := B.returns
  have hts := atoms_spec (ws := Cond.code ⟨"java/lang/Throwable", "<init>", "(Ljava/lang/String;Ljava/lang/Throwable;ZZ)V"⟩ prog_25_method_5_code 5 none :: zw) B.pre
  have hA : ∀ w ∈ zw, w.before _ s = true := fun w h => hts w (List.mem_cons_of_mem _ h)
  have hown : s.vm.findClass "java/lang/Throwable" = some m.cls := findClass_of_methodNamed B.named
  have hlocks := B.notSynchronized
  have hin : meth.name = "<init>" := (name_of_methodNamed B.named B.method).1
  subst hsz
  have hD := hD0.self (sz := s.heap.size)
  generalize hAe : va_A [(h0, .inr (13, [.null, .null, .null, .null, .null, .int 0, .int 0, .int 0]))] s.heap.size = A at hD hT ⊢
  have hAA : ∀ q : Nat, s.heap.size ≤ q → A q := fun q h => by rw [← hAe]; exact Or.inr h
  have hS : va_S A s.heap s.heap [] := va_S.rf
  have hl := lv_entry ([.ref h0, .null, .null, .int 0, .int 0]) (n := 5) (Nat.le_of_ble_eq_true rfl)
  rw [lg_entry_eq]
  generalize (lg_sl ([.ref h0, .null, .null, .int 0, .int 0]) ++ List.replicate (5 - (lg_sl ([.ref h0, .null, .null, .int 0, .int 0])).length) Slot.unset).toArray = ls at hl ⊢
  have hl : lv_has ls 5 [(0, .ref h0), (1, .null), (2, .null), (3, .int 0), (4, .int 0)] := hl
  refine lv_aload_n hx hb dJT_init_0 rfl (lv_at hl 0 rfl) ?_
  refine W.objInit hx hb hown (hA _ wi_834) (hA _ wi_162) (hA _ wi_163) rfl (by rw [hml]; exact hl.1) rfl dJT_init_1 (Nat.le_of_ble_eq_true rfl) (Nat.le_of_ble_eq_true rfl) ?_
  refine W.eq (g2 := F0 m 4 ls []) rfl ?_
  refine lv_aload_n hx hb dJT_init_4 rfl (lv_at hl 0 rfl) ?_
  refine lv_aload_n hx hb dJT_init_5 rfl (lv_at hl 0 rfl) ?_
  refine va_put (D := (dC, dI)) (ci := 13) (v := .ref h0) (ty := .object "java/lang/Throwable") (C := RX13) (T := TX13) (N := 8) hx hb hA zin_X13 tyX13 tyX13_ok nmX13 hown hK hP hD hS 0 rfl rfl 0 (by decide) (hA _ wi_862) (fun _ h9 => h9) rfl (by decide +kernel) rfl rfl (Nat.le_of_ble_eq_true rfl) dJT_init_6 (fun H locs hP hD hS => ?_)
  have hP : va_P (dC, dI) vwCl [(h0, .inr (13, [.ref h0, .null, .null, .null, .null, .int 0, .int 0, .int 0]))] H := hP
  have hD : va_D A [(h0, .inr (13, [.ref h0, .null, .null, .null, .null, .int 0, .int 0, .int 0]))] := hD
  refine lv_aload_n hx hb dJT_init_9 rfl (lv_at hl 0 rfl) ?_
  rcases hT.1.1 with hz | ⟨sq_1, hz⟩
  · refine va_gets hx hb hz hS hown (hA _ wi_835) (fun _ h9 => h9) dJT_init_10 ?_
    refine va_put (D := (dC, dI)) (ci := 13) (v := .null) (ty := .array (.object "java/lang/StackTraceElement")) (C := RX13) (T := TX13) (N := 8) hx hb hA zin_X13 tyX13 tyX13_ok nmX13 hown hK hP hD hS 0 rfl rfl 1 (by decide) (hA _ wi_863) (fun _ h9 => h9) rfl (by decide +kernel) rfl rfl (Nat.le_of_ble_eq_true rfl) dJT_init_13 (fun H locs hP hD hS => ?_)
    have hP : va_P (dC, dI) vwCl [(h0, .inr (13, [.ref h0, .null, .null, .null, .null, .int 0, .int 0, .int 0]))] H := hP
    have hD : va_D A [(h0, .inr (13, [.ref h0, .null, .null, .null, .null, .int 0, .int 0, .int 0]))] := hD
    refine lv_aload_n hx hb dJT_init_16 rfl (lv_at hl 0 rfl) ?_
    rcases hT.2.1.1 with hz | ⟨sq_2, hz⟩
    · refine va_gets hx hb hz hS hown (hA _ wi_837) (fun _ h9 => h9) dJT_init_17 ?_
      refine va_put (D := (dC, dI)) (ci := 13) (v := .null) (ty := .object "java/util/List") (C := RX13) (T := TX13) (N := 8) hx hb hA zin_X13 tyX13 tyX13_ok nmX13 hown hK hP hD hS 0 rfl rfl 2 (by decide) (hA _ wi_864) (fun _ h9 => h9) rfl (by decide +kernel) rfl rfl (Nat.le_of_ble_eq_true rfl) dJT_init_20 (fun H locs hP hD hS => ?_)
      have hP : va_P (dC, dI) vwCl [(h0, .inr (13, [.ref h0, .null, .null, .null, .null, .int 0, .int 0, .int 0]))] H := hP
      have hD : va_D A [(h0, .inr (13, [.ref h0, .null, .null, .null, .null, .int 0, .int 0, .int 0]))] := hD
      refine lv_iload hx hb dJT_init_23 (lv_at hl 4 rfl) ?_
      refine lv_if_eq (tgt := 36) hx hb dJT_init_25 (by decide) (fun _ => ?_) (fun c_0 => absurd (by decide) c_0)
      refine lv_aload_n hx hb dJT_init_36 rfl (lv_at hl 0 rfl) ?_
      refine lv_null hx hb dJT_init_37 ?_
      refine va_put (D := (dC, dI)) (ci := 13) (v := .null) (ty := .array (.object "java/lang/StackTraceElement")) (C := RX13) (T := TX13) (N := 8) hx hb hA zin_X13 tyX13 tyX13_ok nmX13 hown hK hP hD hS 0 rfl rfl 1 (by decide) (hA _ wi_863) (fun _ h9 => h9) rfl (by decide +kernel) rfl rfl (Nat.le_of_ble_eq_true rfl) dJT_init_38 (fun H locs hP hD hS => ?_)
      have hP : va_P (dC, dI) vwCl [(h0, .inr (13, [.ref h0, .null, .null, .null, .null, .int 0, .int 0, .int 0]))] H := hP
      have hD : va_D A [(h0, .inr (13, [.ref h0, .null, .null, .null, .null, .int 0, .int 0, .int 0]))] := hD
      refine lv_aload_n hx hb dJT_init_41 rfl (lv_at hl 0 rfl) ?_
      refine lv_aload_nN hx hb dJT_init_42 rfl (lv_at hl 1 rfl) ?_
      refine va_put (D := (dC, dI)) (ci := 13) (v := .null) (ty := .object "java/lang/String") (C := RX13) (T := TX13) (N := 8) hx hb hA zin_X13 tyX13 tyX13_ok nmX13 hown hK hP hD hS 0 rfl rfl 3 (by decide) (hA _ wi_861) (fun _ h9 => h9) rfl (by decide +kernel) rfl rfl (Nat.le_of_ble_eq_true rfl) dJT_init_43 (fun H locs hP hD hS => ?_)
      have hP : va_P (dC, dI) vwCl [(h0, .inr (13, [.ref h0, .null, .null, .null, .null, .int 0, .int 0, .int 0]))] H := hP
      have hD : va_D A [(h0, .inr (13, [.ref h0, .null, .null, .null, .null, .int 0, .int 0, .int 0]))] := hD
      refine lv_aload_n hx hb dJT_init_46 rfl (lv_at hl 0 rfl) ?_
      refine lv_aload_nN hx hb dJT_init_47 rfl (lv_at hl 2 rfl) ?_
      refine va_put (D := (dC, dI)) (ci := 13) (v := .null) (ty := .object "java/lang/Throwable") (C := RX13) (T := TX13) (N := 8) hx hb hA zin_X13 tyX13 tyX13_ok nmX13 hown hK hP hD hS 0 rfl rfl 0 (by decide) (hA _ wi_862) (fun _ h9 => h9) rfl (by decide +kernel) rfl rfl (Nat.le_of_ble_eq_true rfl) dJT_init_48 (fun H locs hP hD hS => ?_)
      have hP : va_P (dC, dI) vwCl [(h0, .inr (13, [.null, .null, .null, .null, .null, .int 0, .int 0, .int 0]))] H := hP
      have hD : va_D A [(h0, .inr (13, [.null, .null, .null, .null, .null, .int 0, .int 0, .int 0]))] := hD
      refine lv_iload_n hx hb dJT_init_51 rfl (lv_at hl 3 rfl) ?_
      refine lv_if_ne (tgt := 60) hx hb dJT_init_52 (by decide) (fun c_0 => absurd c_0 (by decide)) (fun _ => ?_)
      refine lv_aload_n hx hb dJT_init_55 rfl (lv_at hl 0 rfl) ?_
      refine lv_null hx hb dJT_init_56 ?_
      refine va_put (D := (dC, dI)) (ci := 13) (v := .null) (ty := .object "java/util/List") (C := RX13) (T := TX13) (N := 8) hx hb hA zin_X13 tyX13 tyX13_ok nmX13 hown hK hP hD hS 0 rfl rfl 2 (by decide) (hA _ wi_864) (fun _ h9 => h9) rfl (by decide +kernel) rfl rfl (Nat.le_of_ble_eq_true rfl) dJT_init_57 (fun H locs hP hD hS => ?_)
      have hP : va_P (dC, dI) vwCl [(h0, .inr (13, [.null, .null, .null, .null, .null, .int 0, .int 0, .int 0]))] H := hP
      have hD : va_D A [(h0, .inr (13, [.null, .null, .null, .null, .null, .int 0, .int 0, .int 0]))] := hD
      have hP9 := hP.sub (ws' := [(h0, .inr (13, [.null, .null, .null, .null, .null, .int 0, .int 0, .int 0]))]) [0] rfl
      have hD9 := hD.sub (ws' := [(h0, .inr (13, [.null, .null, .null, .null, .null, .int 0, .int 0, .int 0]))]) [0] (by decide) rfl
      have hK9 := hK.sub (tys' := []) [] rfl
      exact W.vret hx hb hr (fun t ht hW => ⟨⟨(), rfl, trivial, by rw [ht]; exact hP9, va_K.moved hW.alike hK9, hD9⟩, hS.F ht⟩) hS.2.2 dJT_init_60
    · refine va_gets hx hb hz hS hown (hA _ wi_837) (fun _ h9 => h9) dJT_init_17 ?_
      refine va_put (D := (dC, dI)) (ci := 13) (v := .ref sq_2) (ty := .object "java/util/List") (C := RX13) (T := TX13) (N := 8) hx hb hA zin_X13 tyX13 tyX13_ok nmX13 hown hK hP hD hS 0 rfl rfl 2 (by decide) (hA _ wi_864) (fun _ h9 => h9) rfl (by decide +kernel) rfl rfl (Nat.le_of_ble_eq_true rfl) dJT_init_20 (fun H locs hP hD hS => ?_)
      have hP : va_P (dC, dI) vwCl [(h0, .inr (13, [.ref h0, .null, .ref sq_2, .null, .null, .int 0, .int 0, .int 0]))] H := hP
      have hD : va_D A [(h0, .inr (13, [.ref h0, .null, .ref sq_2, .null, .null, .int 0, .int 0, .int 0]))] := hD
      refine lv_iload hx hb dJT_init_23 (lv_at hl 4 rfl) ?_
      refine lv_if_eq (tgt := 36) hx hb dJT_init_25 (by decide) (fun _ => ?_) (fun c_0 => absurd (by decide) c_0)
      refine lv_aload_n hx hb dJT_init_36 rfl (lv_at hl 0 rfl) ?_
      refine lv_null hx hb dJT_init_37 ?_
      refine va_put (D := (dC, dI)) (ci := 13) (v := .null) (ty := .array (.object "java/lang/StackTraceElement")) (C := RX13) (T := TX13) (N := 8) hx hb hA zin_X13 tyX13 tyX13_ok nmX13 hown hK hP hD hS 0 rfl rfl 1 (by decide) (hA _ wi_863) (fun _ h9 => h9) rfl (by decide +kernel) rfl rfl (Nat.le_of_ble_eq_true rfl) dJT_init_38 (fun H locs hP hD hS => ?_)
      have hP : va_P (dC, dI) vwCl [(h0, .inr (13, [.ref h0, .null, .ref sq_2, .null, .null, .int 0, .int 0, .int 0]))] H := hP
      have hD : va_D A [(h0, .inr (13, [.ref h0, .null, .ref sq_2, .null, .null, .int 0, .int 0, .int 0]))] := hD
      refine lv_aload_n hx hb dJT_init_41 rfl (lv_at hl 0 rfl) ?_
      refine lv_aload_nN hx hb dJT_init_42 rfl (lv_at hl 1 rfl) ?_
      refine va_put (D := (dC, dI)) (ci := 13) (v := .null) (ty := .object "java/lang/String") (C := RX13) (T := TX13) (N := 8) hx hb hA zin_X13 tyX13 tyX13_ok nmX13 hown hK hP hD hS 0 rfl rfl 3 (by decide) (hA _ wi_861) (fun _ h9 => h9) rfl (by decide +kernel) rfl rfl (Nat.le_of_ble_eq_true rfl) dJT_init_43 (fun H locs hP hD hS => ?_)
      have hP : va_P (dC, dI) vwCl [(h0, .inr (13, [.ref h0, .null, .ref sq_2, .null, .null, .int 0, .int 0, .int 0]))] H := hP
      have hD : va_D A [(h0, .inr (13, [.ref h0, .null, .ref sq_2, .null, .null, .int 0, .int 0, .int 0]))] := hD
      refine lv_aload_n hx hb dJT_init_46 rfl (lv_at hl 0 rfl) ?_
      refine lv_aload_nN hx hb dJT_init_47 rfl (lv_at hl 2 rfl) ?_
      refine va_put (D := (dC, dI)) (ci := 13) (v := .null) (ty := .object "java/lang/Throwable") (C := RX13) (T := TX13) (N := 8) hx hb hA zin_X13 tyX13 tyX13_ok nmX13 hown hK hP hD hS 0 rfl rfl 0 (by decide) (hA _ wi_862) (fun _ h9 => h9) rfl (by decide +kernel) rfl rfl (Nat.le_of_ble_eq_true rfl) dJT_init_48 (fun H locs hP hD hS => ?_)
      have hP : va_P (dC, dI) vwCl [(h0, .inr (13, [.null, .null, .ref sq_2, .null, .null, .int 0, .int 0, .int 0]))] H := hP
      have hD : va_D A [(h0, .inr (13, [.null, .null, .ref sq_2, .null, .null, .int 0, .int 0, .int 0]))] := hD
      refine lv_iload_n hx hb dJT_init_51 rfl (lv_at hl 3 rfl) ?_
      refine lv_if_ne (tgt := 60) hx hb dJT_init_52 (by decide) (fun c_0 => absurd c_0 (by decide)) (fun _ => ?_)
      refine lv_aload_n hx hb dJT_init_55 rfl (lv_at hl 0 rfl) ?_
      refine lv_null hx hb dJT_init_56 ?_
      refine va_put (D := (dC, dI)) (ci := 13) (v := .null) (ty := .object "java/util/List") (C := RX13) (T := TX13) (N := 8) hx hb hA zin_X13 tyX13 tyX13_ok nmX13 hown hK hP hD hS 0 rfl rfl 2 (by decide) (hA _ wi_864) (fun _ h9 => h9) rfl (by decide +kernel) rfl rfl (Nat.le_of_ble_eq_true rfl) dJT_init_57 (fun H locs hP hD hS => ?_)
      have hP : va_P (dC, dI) vwCl [(h0, .inr (13, [.null, .null, .null, .null, .null, .int 0, .int 0, .int 0]))] H := hP
      have hD : va_D A [(h0, .inr (13, [.null, .null, .null, .null, .null, .int 0, .int 0, .int 0]))] := hD
      have hP9 := hP.sub (ws' := [(h0, .inr (13, [.null, .null, .null, .null, .null, .int 0, .int 0, .int 0]))]) [0] rfl
      have hD9 := hD.sub (ws' := [(h0, .inr (13, [.null, .null, .null, .null, .null, .int 0, .int 0, .int 0]))]) [0] (by decide) rfl
      have hK9 := hK.sub (tys' := []) [] rfl
      exact W.vret hx hb hr (fun t ht hW => ⟨⟨(), rfl, trivial, by rw [ht]; exact hP9, va_K.moved hW.alike hK9, hD9⟩, hS.F ht⟩) hS.2.2 dJT_init_60
  · refine va_gets hx hb hz hS hown (hA _ wi_835) (fun _ h9 => h9) dJT_init_10 ?_
    refine va_put (D := (dC, dI)) (ci := 13) (v := .ref sq_1) (ty := .array (.object "java/lang/StackTraceElement")) (C := RX13) (T := TX13) (N := 8) hx hb hA zin_X13 tyX13 tyX13_ok nmX13 hown hK hP hD hS 0 rfl rfl 1 (by decide) (hA _ wi_863) (fun _ h9 => h9) rfl (by decide +kernel) rfl rfl (Nat.le_of_ble_eq_true rfl) dJT_init_13 (fun H locs hP hD hS => ?_)
    have hP : va_P (dC, dI) vwCl [(h0, .inr (13, [.ref h0, .ref sq_1, .null, .null, .null, .int 0, .int 0, .int 0]))] H := hP
    have hD : va_D A [(h0, .inr (13, [.ref h0, .ref sq_1, .null, .null, .null, .int 0, .int 0, .int 0]))] := hD
    refine lv_aload_n hx hb dJT_init_16 rfl (lv_at hl 0 rfl) ?_
    rcases hT.2.1.1 with hz | ⟨sq_3, hz⟩
    · refine va_gets hx hb hz hS hown (hA _ wi_837) (fun _ h9 => h9) dJT_init_17 ?_
      refine va_put (D := (dC, dI)) (ci := 13) (v := .null) (ty := .object "java/util/List") (C := RX13) (T := TX13) (N := 8) hx hb hA zin_X13 tyX13 tyX13_ok nmX13 hown hK hP hD hS 0 rfl rfl 2 (by decide) (hA _ wi_864) (fun _ h9 => h9) rfl (by decide +kernel) rfl rfl (Nat.le_of_ble_eq_true rfl) dJT_init_20 (fun H locs hP hD hS => ?_)
      have hP : va_P (dC, dI) vwCl [(h0, .inr (13, [.ref h0, .ref sq_1, .null, .null, .null, .int 0, .int 0, .int 0]))] H := hP
      have hD : va_D A [(h0, .inr (13, [.ref h0, .ref sq_1, .null, .null, .null, .int 0, .int 0, .int 0]))] := hD
      refine lv_iload hx hb dJT_init_23 (lv_at hl 4 rfl) ?_
      refine lv_if_eq (tgt := 36) hx hb dJT_init_25 (by decide) (fun _ => ?_) (fun c_0 => absurd (by decide) c_0)
      refine lv_aload_n hx hb dJT_init_36 rfl (lv_at hl 0 rfl) ?_
      refine lv_null hx hb dJT_init_37 ?_
      refine va_put (D := (dC, dI)) (ci := 13) (v := .null) (ty := .array (.object "java/lang/StackTraceElement")) (C := RX13) (T := TX13) (N := 8) hx hb hA zin_X13 tyX13 tyX13_ok nmX13 hown hK hP hD hS 0 rfl rfl 1 (by decide) (hA _ wi_863) (fun _ h9 => h9) rfl (by decide +kernel) rfl rfl (Nat.le_of_ble_eq_true rfl) dJT_init_38 (fun H locs hP hD hS => ?_)
      have hP : va_P (dC, dI) vwCl [(h0, .inr (13, [.ref h0, .null, .null, .null, .null, .int 0, .int 0, .int 0]))] H := hP
      have hD : va_D A [(h0, .inr (13, [.ref h0, .null, .null, .null, .null, .int 0, .int 0, .int 0]))] := hD
      refine lv_aload_n hx hb dJT_init_41 rfl (lv_at hl 0 rfl) ?_
      refine lv_aload_nN hx hb dJT_init_42 rfl (lv_at hl 1 rfl) ?_
      refine va_put (D := (dC, dI)) (ci := 13) (v := .null) (ty := .object "java/lang/String") (C := RX13) (T := TX13) (N := 8) hx hb hA zin_X13 tyX13 tyX13_ok nmX13 hown hK hP hD hS 0 rfl rfl 3 (by decide) (hA _ wi_861) (fun _ h9 => h9) rfl (by decide +kernel) rfl rfl (Nat.le_of_ble_eq_true rfl) dJT_init_43 (fun H locs hP hD hS => ?_)
      have hP : va_P (dC, dI) vwCl [(h0, .inr (13, [.ref h0, .null, .null, .null, .null, .int 0, .int 0, .int 0]))] H := hP
      have hD : va_D A [(h0, .inr (13, [.ref h0, .null, .null, .null, .null, .int 0, .int 0, .int 0]))] := hD
      refine lv_aload_n hx hb dJT_init_46 rfl (lv_at hl 0 rfl) ?_
      refine lv_aload_nN hx hb dJT_init_47 rfl (lv_at hl 2 rfl) ?_
      refine va_put (D := (dC, dI)) (ci := 13) (v := .null) (ty := .object "java/lang/Throwable") (C := RX13) (T := TX13) (N := 8) hx hb hA zin_X13 tyX13 tyX13_ok nmX13 hown hK hP hD hS 0 rfl rfl 0 (by decide) (hA _ wi_862) (fun _ h9 => h9) rfl (by decide +kernel) rfl rfl (Nat.le_of_ble_eq_true rfl) dJT_init_48 (fun H locs hP hD hS => ?_)
      have hP : va_P (dC, dI) vwCl [(h0, .inr (13, [.null, .null, .null, .null, .null, .int 0, .int 0, .int 0]))] H := hP
      have hD : va_D A [(h0, .inr (13, [.null, .null, .null, .null, .null, .int 0, .int 0, .int 0]))] := hD
      refine lv_iload_n hx hb dJT_init_51 rfl (lv_at hl 3 rfl) ?_
      refine lv_if_ne (tgt := 60) hx hb dJT_init_52 (by decide) (fun c_0 => absurd c_0 (by decide)) (fun _ => ?_)
      refine lv_aload_n hx hb dJT_init_55 rfl (lv_at hl 0 rfl) ?_
      refine lv_null hx hb dJT_init_56 ?_
      refine va_put (D := (dC, dI)) (ci := 13) (v := .null) (ty := .object "java/util/List") (C := RX13) (T := TX13) (N := 8) hx hb hA zin_X13 tyX13 tyX13_ok nmX13 hown hK hP hD hS 0 rfl rfl 2 (by decide) (hA _ wi_864) (fun _ h9 => h9) rfl (by decide +kernel) rfl rfl (Nat.le_of_ble_eq_true rfl) dJT_init_57 (fun H locs hP hD hS => ?_)
      have hP : va_P (dC, dI) vwCl [(h0, .inr (13, [.null, .null, .null, .null, .null, .int 0, .int 0, .int 0]))] H := hP
      have hD : va_D A [(h0, .inr (13, [.null, .null, .null, .null, .null, .int 0, .int 0, .int 0]))] := hD
      have hP9 := hP.sub (ws' := [(h0, .inr (13, [.null, .null, .null, .null, .null, .int 0, .int 0, .int 0]))]) [0] rfl
      have hD9 := hD.sub (ws' := [(h0, .inr (13, [.null, .null, .null, .null, .null, .int 0, .int 0, .int 0]))]) [0] (by decide) rfl
      have hK9 := hK.sub (tys' := []) [] rfl
      exact W.vret hx hb hr (fun t ht hW => ⟨⟨(), rfl, trivial, by rw [ht]; exact hP9, va_K.moved hW.alike hK9, hD9⟩, hS.F ht⟩) hS.2.2 dJT_init_60
    · refine va_gets hx hb hz hS hown (hA _ wi_837) (fun _ h9 => h9) dJT_init_17 ?_
      refine va_put (D := (dC, dI)) (ci := 13) (v := .ref sq_3) (ty := .object "java/util/List") (C := RX13) (T := TX13) (N := 8) hx hb hA zin_X13 tyX13 tyX13_ok nmX13 hown hK hP hD hS 0 rfl rfl 2 (by decide) (hA _ wi_864) (fun _ h9 => h9) rfl (by decide +kernel) rfl rfl (Nat.le_of_ble_eq_true rfl) dJT_init_20 (fun H locs hP hD hS => ?_)
      have hP : va_P (dC, dI) vwCl [(h0, .inr (13, [.ref h0, .ref sq_1, .ref sq_3, .null, .null, .int 0, .int 0, .int 0]))] H := hP
      have hD : va_D A [(h0, .inr (13, [.ref h0, .ref sq_1, .ref sq_3, .null, .null, .int 0, .int 0, .int 0]))] := hD
      refine lv_iload hx hb dJT_init_23 (lv_at hl 4 rfl) ?_
      refine lv_if_eq (tgt := 36) hx hb dJT_init_25 (by decide) (fun _ => ?_) (fun c_0 => absurd (by decide) c_0)
      refine lv_aload_n hx hb dJT_init_36 rfl (lv_at hl 0 rfl) ?_
      refine lv_null hx hb dJT_init_37 ?_
      refine va_put (D := (dC, dI)) (ci := 13) (v := .null) (ty := .array (.object "java/lang/StackTraceElement")) (C := RX13) (T := TX13) (N := 8) hx hb hA zin_X13 tyX13 tyX13_ok nmX13 hown hK hP hD hS 0 rfl rfl 1 (by decide) (hA _ wi_863) (fun _ h9 => h9) rfl (by decide +kernel) rfl rfl (Nat.le_of_ble_eq_true rfl) dJT_init_38 (fun H locs hP hD hS => ?_)
      have hP : va_P (dC, dI) vwCl [(h0, .inr (13, [.ref h0, .null, .ref sq_3, .null, .null, .int 0, .int 0, .int 0]))] H := hP
      have hD : va_D A [(h0, .inr (13, [.ref h0, .null, .ref sq_3, .null, .null, .int 0, .int 0, .int 0]))] := hD
      refine lv_aload_n hx hb dJT_init_41 rfl (lv_at hl 0 rfl) ?_
      refine lv_aload_nN hx hb dJT_init_42 rfl (lv_at hl 1 rfl) ?_
      refine va_put (D := (dC, dI)) (ci := 13) (v := .null) (ty := .object "java/lang/String") (C := RX13) (T := TX13) (N := 8) hx hb hA zin_X13 tyX13 tyX13_ok nmX13 hown hK hP hD hS 0 rfl rfl 3 (by decide) (hA _ wi_861) (fun _ h9 => h9) rfl (by decide +kernel) rfl rfl (Nat.le_of_ble_eq_true rfl) dJT_init_43 (fun H locs hP hD hS => ?_)
      have hP : va_P (dC, dI) vwCl [(h0, .inr (13, [.ref h0, .null, .ref sq_3, .null, .null, .int 0, .int 0, .int 0]))] H := hP
      have hD : va_D A [(h0, .inr (13, [.ref h0, .null, .ref sq_3, .null, .null, .int 0, .int 0, .int 0]))] := hD
      refine lv_aload_n hx hb dJT_init_46 rfl (lv_at hl 0 rfl) ?_
      refine lv_aload_nN hx hb dJT_init_47 rfl (lv_at hl 2 rfl) ?_
      refine va_put (D := (dC, dI)) (ci := 13) (v := .null) (ty := .object "java/lang/Throwable") (C := RX13) (T := TX13) (N := 8) hx hb hA zin_X13 tyX13 tyX13_ok nmX13 hown hK hP hD hS 0 rfl rfl 0 (by decide) (hA _ wi_862) (fun _ h9 => h9) rfl (by decide +kernel) rfl rfl (Nat.le_of_ble_eq_true rfl) dJT_init_48 (fun H locs hP hD hS => ?_)
      have hP : va_P (dC, dI) vwCl [(h0, .inr (13, [.null, .null, .ref sq_3, .null, .null, .int 0, .int 0, .int 0]))] H := hP
      have hD : va_D A [(h0, .inr (13, [.null, .null, .ref sq_3, .null, .null, .int 0, .int 0, .int 0]))] := hD
      refine lv_iload_n hx hb dJT_init_51 rfl (lv_at hl 3 rfl) ?_
      refine lv_if_ne (tgt := 60) hx hb dJT_init_52 (by decide) (fun c_0 => absurd c_0 (by decide)) (fun _ => ?_)
      refine lv_aload_n hx hb dJT_init_55 rfl (lv_at hl 0 rfl) ?_
      refine lv_null hx hb dJT_init_56 ?_
      refine va_put (D := (dC, dI)) (ci := 13) (v := .null) (ty := .object "java/util/List") (C := RX13) (T := TX13) (N := 8) hx hb hA zin_X13 tyX13 tyX13_ok nmX13 hown hK hP hD hS 0 rfl rfl 2 (by decide) (hA _ wi_864) (fun _ h9 => h9) rfl (by decide +kernel) rfl rfl (Nat.le_of_ble_eq_true rfl) dJT_init_57 (fun H locs hP hD hS => ?_)
      have hP : va_P (dC, dI) vwCl [(h0, .inr (13, [.null, .null, .null, .null, .null, .int 0, .int 0, .int 0]))] H := hP
      have hD : va_D A [(h0, .inr (13, [.null, .null, .null, .null, .null, .int 0, .int 0, .int 0]))] := hD
      have hP9 := hP.sub (ws' := [(h0, .inr (13, [.null, .null, .null, .null, .null, .int 0, .int 0, .int 0]))]) [0] rfl
      have hD9 := hD.sub (ws' := [(h0, .inr (13, [.null, .null, .null, .null, .null, .int 0, .int 0, .int 0]))]) [0] (by decide) rfl
      have hK9 := hK.sub (tys' := []) [] rfl
      exact W.vret hx hb hr (fun t ht hW => ⟨⟨(), rfl, trivial, by rw [ht]; exact hP9, va_K.moved hW.alike hK9, hD9⟩, hS.F ht⟩) hS.2.2 dJT_init_60
set_option maxHeartbeats 4000000 in
set_option maxRecDepth 100000 in
theorem c_JE_init (l : Launch) (dC : Nat → ClassId) (dI : Nat → Nat → Nat) (aK aV : Nat → Nat) (h0 : Nat) (sz : Nat)  : Met l ⟨"java/lang/Exception", "<init>", "(Ljava/lang/String;Ljava/lang/Throwable;ZZ)V"⟩ (Cond.code ⟨"java/lang/Exception", "<init>", "(Ljava/lang/String;Ljava/lang/Throwable;ZZ)V"⟩ prog_18_method_5_code 5 none :: zw) ({ frames := 10, cells := 0, slots := 0, locals := 300 }) (va_Pc [.ref h0, .null, .null, .int 0, .int 0] (zP dC dI aK aV sz [] [(h0, .inr (13, [.null, .null, .null, .null, .null, .int 0, .int 0, .int 0]))])) (va_Qv (fun u : Unit => True) (fun u => zQ dC dI (va_A [(h0, .inr (13, [.null, .null, .null, .null, .null, .int 0, .int 0, .int 0]))] sz) [] [(h0, .inr (13, [.null, .null, .null, .null, .null, .int 0, .int 0, .int 0]))]) (va_A [(h0, .inr (13, [.null, .null, .null, .null, .null, .int 0, .int 0, .int 0]))] sz)) 0 0 (va_A [(h0, .inr (13, [.null, .null, .null, .null, .null, .int 0, .int 0, .int 0]))] sz) := by
  refine Met.ofW (cc := prog_18_method_5_code) (maxL := 5) (ret := none) (by decide) rfl ?_
  intro p e s m args below meth c s₁ B hml hv
  obtain ⟨rfl, hsz, hP, hK, hD0, hN, hT⟩ := hv
  have hx := B.exec
  have hb := B.bytes
  have hr := B.returns
  have hts := atoms_spec (ws := Cond.code ⟨"java/lang/Exception", "<init>", "(Ljava/lang/String;Ljava/lang/Throwable;ZZ)V"⟩ prog_18_method_5_code 5 none :: zw) B.pre
  have hA : ∀ w ∈ zw, w.before _ s = true := fun w h => hts w (List.mem_cons_of_mem _ h)
  have hown : s.vm.findClass "java/lang/Exception" = some m.cls := findClass_of_methodNamed B.named
  have hlocks := B.notSynchronized
  have hin : meth.name = "<init>" := (name_of_methodNamed B.named B.method).1
  subst hsz
  have hD := hD0.self (sz := s.heap.size)
  generalize hAe : va_A [(h0, .inr (13, [.null, .null, .null, .null, .null, .int 0, .int 0, .int 0]))] s.heap.size = A at hD hT ⊢
  have hAA : ∀ q : Nat, s.heap.size ≤ q → A q := fun q h => by rw [← hAe]; exact Or.inr h
  have hS : va_S A s.heap s.heap [] := va_S.rf
  have hl := lv_entry ([.ref h0, .null, .null, .int 0, .int 0]) (n := 5) (Nat.le_of_ble_eq_true rfl)
  rw [lg_entry_eq]
  generalize (lg_sl ([.ref h0, .null, .null, .int 0, .int 0]) ++ List.replicate (5 - (lg_sl ([.ref h0, .null, .null, .int 0, .int 0])).length) Slot.unset).toArray = ls at hl ⊢
  have hl : lv_has ls 5 [(0, .ref h0), (1, .null), (2, .null), (3, .int 0), (4, .int 0)] := hl
  refine lv_aload_n hx hb dJE_init_0 rfl (lv_at hl 0 rfl) ?_
  refine lv_aload_nN hx hb dJE_init_1 rfl (lv_at hl 1 rfl) ?_
  refine lv_aload_nN hx hb dJE_init_2 rfl (lv_at hl 2 rfl) ?_
  refine lv_iload_n hx hb dJE_init_3 rfl (lv_at hl 3 rfl) ?_
  refine lv_iload hx hb dJE_init_4 (lv_at hl 4 rfl) ?_
  have hPc := hP.sub (ws' := [(h0, .inr (13, [.null, .null, .null, .null, .null, .int 0, .int 0, .int 0]))]) [0] rfl
  have hDc := hD.sub (ws' := [(h0, .inr (13, [.null, .null, .null, .null, .null, .int 0, .int 0, .int 0]))]) [0] (by decide) rfl
  have hKc := hK.sub (tys' := []) [] rfl
  have hFc := va_free (wc := [(h0, .inr (13, [.null, .null, .null, .null, .null, .int 0, .int 0, .int 0]))]) hD hS hAA [0] rfl
  refine va_callv (va_runI (As := [.null, .null, .int 0, .int 0]) (rest := []) ⟨hx, hb, hml, hown, hA⟩ (c_JT_init l dC dI aK aV h0 s.heap.size) (cwI 4 hA (zw_good wi_1396) rfl rfl rfl (hA _ wi_144) (hA _ wi_1394) (hA _ wi_1395) rfl (by decide +kernel) ⟨(Nat.le_of_ble_eq_true rfl), (Nat.le_of_ble_eq_true rfl)⟩) ⟨zP_blind, zz_pre hKc hPc hDc hN hT hS hFc⟩ rfl rfl hl.1 rfl (lv_room (Nat.le_of_ble_eq_true rfl)) dJE_init_6 ⟨(Nat.le_of_ble_eq_true rfl), (Nat.le_of_ble_eq_true rfl)⟩) hS (fun q _ h => hFc q h) hFc (fun u t H1 locs ht hvm hw hB hz1 hk1 hS => ?_)
  obtain ⟨hP1, hK1, hD1⟩ := hB
  rw [ht] at hP1
  have hK1 := va_K.moved hvm.symm hK1
  obtain ⟨hP, hD⟩ := va_join (wr := []) (w1 := [(h0, .inr (13, [.null, .null, .null, .null, .null, .int 0, .int 0, .int 0]))]) hP hD [0] [] rfl rfl (by decide) (by decide) hk1 hFc hP1 hD1
  have hK := (hK.sub (tys' := []) [] rfl).app hK1
  generalize H1 = H at hP hS ⊢
  have hP : va_P (dC, dI) vwCl [(h0, .inr (13, [.null, .null, .null, .null, .null, .int 0, .int 0, .int 0]))] H := hP
  have hD : va_D A [(h0, .inr (13, [.null, .null, .null, .null, .null, .int 0, .int 0, .int 0]))] := hD
  have hK : va_K (dC, dI) vwCl [] s := hK
  have hP9 := hP.sub (ws' := [(h0, .inr (13, [.null, .null, .null, .null, .null, .int 0, .int 0, .int 0]))]) [0] rfl
  have hD9 := hD.sub (ws' := [(h0, .inr (13, [.null, .null, .null, .null, .null, .int 0, .int 0, .int 0]))]) [0] (by decide) rfl
  have hK9 := hK.sub (tys' := []) [] rfl
  exact W.vret hx hb hr (fun t ht hW => ⟨⟨(), rfl, trivial, by rw [ht]; exact hP9, va_K.moved hW.alike hK9, hD9⟩, hS.F ht⟩) hS.2.2 dJE_init_9
set_option maxHeartbeats 4000000 in
set_option maxRecDepth 100000 in
theorem c_JR_init (l : Launch) (dC : Nat → ClassId) (dI : Nat → Nat → Nat) (aK aV : Nat → Nat) (h0 : Nat) (sz : Nat)  : Met l ⟨"java/lang/RuntimeException", "<init>", "(Ljava/lang/String;Ljava/lang/Throwable;ZZ)V"⟩ (Cond.code ⟨"java/lang/RuntimeException", "<init>", "(Ljava/lang/String;Ljava/lang/Throwable;ZZ)V"⟩ prog_21_method_5_code 5 none :: zw) ({ frames := 12, cells := 0, slots := 0, locals := 400 }) (va_Pc [.ref h0, .null, .null, .int 0, .int 0] (zP dC dI aK aV sz [] [(h0, .inr (13, [.null, .null, .null, .null, .null, .int 0, .int 0, .int 0]))])) (va_Qv (fun u : Unit => True) (fun u => zQ dC dI (va_A [(h0, .inr (13, [.null, .null, .null, .null, .null, .int 0, .int 0, .int 0]))] sz) [] [(h0, .inr (13, [.null, .null, .null, .null, .null, .int 0, .int 0, .int 0]))]) (va_A [(h0, .inr (13, [.null, .null, .null, .null, .null, .int 0, .int 0, .int 0]))] sz)) 0 0 (va_A [(h0, .inr (13, [.null, .null, .null, .null, .null, .int 0, .int 0, .int 0]))] sz) := by
  refine Met.ofW (cc := prog_21_method_5_code) (maxL := 5) (ret := none) (by decide) rfl ?_
  intro p e s m args below meth c s₁ B hml hv
  obtain ⟨rfl, hsz, hP, hK, hD0, hN, hT⟩ := hv
  have hx := B.exec
  have hb := B.bytes
  have hr := B.returns
  have hts := atoms_spec (ws := Cond.code ⟨"java/lang/RuntimeException", "<init>", "(Ljava/lang/String;Ljava/lang/Throwable;ZZ)V"⟩ prog_21_method_5_code 5 none :: zw) B.pre
  have hA : ∀ w ∈ zw, w.before _ s = true := fun w h => hts w (List.mem_cons_of_mem _ h)
  have hown : s.vm.findClass "java/lang/RuntimeException" = some m.cls := findClass_of_methodNamed B.named
  have hlocks := B.notSynchronized
  have hin : meth.name = "<init>" := (name_of_methodNamed B.named B.method).1
  subst hsz
  have hD := hD0.self (sz := s.heap.size)
  generalize hAe : va_A [(h0, .inr (13, [.null, .null, .null, .null, .null, .int 0, .int 0, .int 0]))] s.heap.size = A at hD hT ⊢
  have hAA : ∀ q : Nat, s.heap.size ≤ q → A q := fun q h => by rw [← hAe]; exact Or.inr h
  have hS : va_S A s.heap s.heap [] := va_S.rf
  have hl := lv_entry ([.ref h0, .null, .null, .int 0, .int 0]) (n := 5) (Nat.le_of_ble_eq_true rfl)
  rw [lg_entry_eq]
  generalize (lg_sl ([.ref h0, .null, .null, .int 0, .int 0]) ++ List.replicate (5 - (lg_sl ([.ref h0, .null, .null, .int 0, .int 0])).length) Slot.unset).toArray = ls at hl ⊢
  have hl : lv_has ls 5 [(0, .ref h0), (1, .null), (2, .null), (3, .int 0), (4, .int 0)] := hl
  refine lv_aload_n hx hb dJR_init_0 rfl (lv_at hl 0 rfl) ?_
  refine lv_aload_nN hx hb dJR_init_1 rfl (lv_at hl 1 rfl) ?_
  refine lv_aload_nN hx hb dJR_init_2 rfl (lv_at hl 2 rfl) ?_
  refine lv_iload_n hx hb dJR_init_3 rfl (lv_at hl 3 rfl) ?_
  refine lv_iload hx hb dJR_init_4 (lv_at hl 4 rfl) ?_
  have hPc := hP.sub (ws' := [(h0, .inr (13, [.null, .null, .null, .null, .null, .int 0, .int 0, .int 0]))]) [0] rfl
  have hDc := hD.sub (ws' := [(h0, .inr (13, [.null, .null, .null, .null, .null, .int 0, .int 0, .int 0]))]) [0] (by decide) rfl
  have hKc := hK.sub (tys' := []) [] rfl
  have hFc := va_free (wc := [(h0, .inr (13, [.null, .null, .null, .null, .null, .int 0, .int 0, .int 0]))]) hD hS hAA [0] rfl
  refine va_callv (va_runI (As := [.null, .null, .int 0, .int 0]) (rest := []) ⟨hx, hb, hml, hown, hA⟩ (c_JE_init l dC dI aK aV h0 s.heap.size) (cwI 4 hA (zw_good wi_1393) rfl rfl rfl (hA _ wi_145) (hA _ wi_1391) (hA _ wi_1392) rfl (by decide +kernel) ⟨(Nat.le_of_ble_eq_true rfl), (Nat.le_of_ble_eq_true rfl)⟩) ⟨zP_blind, zz_pre hKc hPc hDc hN hT hS hFc⟩ rfl rfl hl.1 rfl (lv_room (Nat.le_of_ble_eq_true rfl)) dJR_init_6 ⟨(Nat.le_of_ble_eq_true rfl), (Nat.le_of_ble_eq_true rfl)⟩) hS (fun q _ h => hFc q h) hFc (fun u t H1 locs ht hvm hw hB hz1 hk1 hS => ?_)
  obtain ⟨hP1, hK1, hD1⟩ := hB
  rw [ht] at hP1
  have hK1 := va_K.moved hvm.symm hK1
  obtain ⟨hP, hD⟩ := va_join (wr := []) (w1 := [(h0, .inr (13, [.null, .null, .null, .null, .null, .int 0, .int 0, .int 0]))]) hP hD [0] [] rfl rfl (by decide) (by decide) hk1 hFc hP1 hD1
  have hK := (hK.sub (tys' := []) [] rfl).app hK1
  generalize H1 = H at hP hS ⊢
  have hP : va_P (dC, dI) vwCl [(h0, .inr (13, [.null, .null, .null, .null, .null, .int 0, .int 0, .int 0]))] H := hP
  have hD : va_D A [(h0, .inr (13, [.null, .null, .null, .null, .null, .int 0, .int 0, .int 0]))] := hD
  have hK : va_K (dC, dI) vwCl [] s := hK
  have hP9 := hP.sub (ws' := [(h0, .inr (13, [.null, .null, .null, .null, .null, .int 0, .int 0, .int 0]))]) [0] rfl
  have hD9 := hD.sub (ws' := [(h0, .inr (13, [.null, .null, .null, .null, .null, .int 0, .int 0, .int 0]))]) [0] (by decide) rfl
  have hK9 := hK.sub (tys' := []) [] rfl
  exact W.vret hx hb hr (fun t ht hW => ⟨⟨(), rfl, trivial, by rw [ht]; exact hP9, va_K.moved hW.alike hK9, hD9⟩, hS.F ht⟩) hS.2.2 dJR_init_9
set_option maxHeartbeats 4000000 in
set_option maxRecDepth 100000 in
theorem c_X13_init (l : Launch) (dC : Nat → ClassId) (dI : Nat → Nat → Nat) (aK aV : Nat → Nat) (h0 : Nat) (sz : Nat)  : Met l yX13_init (Cond.code yX13_init cX13_init 1 none :: zw) ({ frames := 14, cells := 0, slots := 0, locals := 500 }) (va_Pc [.ref h0] (zP dC dI aK aV sz [] [(h0, .inr (13, [.null, .null, .null, .null, .null, .int 0, .int 0, .int 0]))])) (va_Qv (fun u : Unit => True) (fun u => zQ dC dI (va_A [(h0, .inr (13, [.null, .null, .null, .null, .null, .int 0, .int 0, .int 0]))] sz) [] [(h0, .inr (13, [.null, .null, .null, .null, .null, .int 0, .int 0, .int 0]))]) (va_A [(h0, .inr (13, [.null, .null, .null, .null, .null, .int 0, .int 0, .int 0]))] sz)) 0 0 (va_A [(h0, .inr (13, [.null, .null, .null, .null, .null, .int 0, .int 0, .int 0]))] sz) := by
  refine Met.ofW (cc := cX13_init) (maxL := 1) (ret := none) (by decide) rfl ?_
  intro p e s m args below meth c s₁ B hml hv
  obtain ⟨rfl, hsz, hP, hK, hD0, hN, hT⟩ := hv
  have hx := B.exec
  have hb := B.bytes
  have hr := B.returns
  have hts := atoms_spec (ws := Cond.code yX13_init cX13_init 1 none :: zw) B.pre
  have hA : ∀ w ∈ zw, w.before _ s = true := fun w h => hts w (List.mem_cons_of_mem _ h)
  have hown : s.vm.findClass RX13 = some m.cls := findClass_of_methodNamed B.named
  have hlocks := B.notSynchronized
  have hin : meth.name = "<init>" := (name_of_methodNamed B.named B.method).1
  subst hsz
  have hD := hD0.self (sz := s.heap.size)
  generalize hAe : va_A [(h0, .inr (13, [.null, .null, .null, .null, .null, .int 0, .int 0, .int 0]))] s.heap.size = A at hD hT ⊢
  have hAA : ∀ q : Nat, s.heap.size ≤ q → A q := fun q h => by rw [← hAe]; exact Or.inr h
  have hS : va_S A s.heap s.heap [] := va_S.rf
  have hl := lv_entry ([.ref h0]) (n := 1) (Nat.le_of_ble_eq_true rfl)
  rw [lg_entry_eq]
  generalize (lg_sl ([.ref h0]) ++ List.replicate (1 - (lg_sl ([.ref h0])).length) Slot.unset).toArray = ls at hl ⊢
  have hl : lv_has ls 1 [(0, .ref h0)] := hl
  refine lv_aload_n hx hb dX13_init_0 rfl (lv_at hl 0 rfl) ?_
  refine lv_null hx hb dX13_init_1 ?_
  refine lv_null hx hb dX13_init_2 ?_
  refine lv_iconst (v := 0) hx hb dX13_init_3 (by decide) ?_
  refine lv_iconst (v := 0) hx hb dX13_init_4 (by decide) ?_
  have hPc := hP.sub (ws' := [(h0, .inr (13, [.null, .null, .null, .null, .null, .int 0, .int 0, .int 0]))]) [0] rfl
  have hDc := hD.sub (ws' := [(h0, .inr (13, [.null, .null, .null, .null, .null, .int 0, .int 0, .int 0]))]) [0] (by decide) rfl
  have hKc := hK.sub (tys' := []) [] rfl
  have hFc := va_free (wc := [(h0, .inr (13, [.null, .null, .null, .null, .null, .int 0, .int 0, .int 0]))]) hD hS hAA [0] rfl
  refine va_callv (va_runI (As := [.null, .null, .int 0, .int 0]) (rest := []) ⟨hx, hb, hml, hown, hA⟩ (c_JR_init l dC dI aK aV h0 s.heap.size) (cwI 4 hA (zw_good wi_1390) rfl rfl rfl (hA _ wi_146) (hA _ wi_1388) (hA _ wi_1389) rfl (by decide +kernel) ⟨(Nat.le_of_ble_eq_true rfl), (Nat.le_of_ble_eq_true rfl)⟩) ⟨zP_blind, zz_pre hKc hPc hDc hN hT hS hFc⟩ rfl rfl hl.1 rfl (lv_room (Nat.le_of_ble_eq_true rfl)) dX13_init_5 ⟨(Nat.le_of_ble_eq_true rfl), (Nat.le_of_ble_eq_true rfl)⟩) hS (fun q _ h => hFc q h) hFc (fun u t H1 locs ht hvm hw hB hz1 hk1 hS => ?_)
  obtain ⟨hP1, hK1, hD1⟩ := hB
  rw [ht] at hP1
  have hK1 := va_K.moved hvm.symm hK1
  obtain ⟨hP, hD⟩ := va_join (wr := []) (w1 := [(h0, .inr (13, [.null, .null, .null, .null, .null, .int 0, .int 0, .int 0]))]) hP hD [0] [] rfl rfl (by decide) (by decide) hk1 hFc hP1 hD1
  have hK := (hK.sub (tys' := []) [] rfl).app hK1
  generalize H1 = H at hP hS ⊢
  have hP : va_P (dC, dI) vwCl [(h0, .inr (13, [.null, .null, .null, .null, .null, .int 0, .int 0, .int 0]))] H := hP
  have hD : va_D A [(h0, .inr (13, [.null, .null, .null, .null, .null, .int 0, .int 0, .int 0]))] := hD
  have hK : va_K (dC, dI) vwCl [] s := hK
  have hP9 := hP.sub (ws' := [(h0, .inr (13, [.null, .null, .null, .null, .null, .int 0, .int 0, .int 0]))]) [0] rfl
  have hD9 := hD.sub (ws' := [(h0, .inr (13, [.null, .null, .null, .null, .null, .int 0, .int 0, .int 0]))]) [0] (by decide) rfl
  have hK9 := hK.sub (tys' := []) [] rfl
  exact W.vret hx hb hr (fun t ht hW => ⟨⟨(), rfl, trivial, by rw [ht]; exact hP9, va_K.moved hW.alike hK9, hD9⟩, hS.F ht⟩) hS.2.2 dX13_init_8
set_option maxHeartbeats 4000000 in
set_option maxRecDepth 100000 in
theorem c_X12_init (l : Launch) (dC : Nat → ClassId) (dI : Nat → Nat → Nat) (aK aV : Nat → Nat) (h0 : Nat) (sz : Nat)  : Met l yX12_init (Cond.code yX12_init cX12_init 1 none :: zw) ({ frames := 8, cells := 19, slots := 25390, locals := 200 }) (va_Pc [.ref h0] (zP dC dI aK aV sz [] [(h0, .inr (12, [.null, .null, .null, .null, .null, .null, .null, .null, .null, .null, .null, .null, .int 0, .null, .null, .null, .null, .null, .null, .null, .int 0, .int 0]))])) (va_Qv (fun u : Nat × Nat × Nat × Nat × Nat × Nat × Nat × Nat × Nat × Nat × Nat × Nat × Nat × Nat × Nat × Nat × Nat × Nat × Nat × ClassId × ClassId × ClassId × ClassId × ClassId × ClassId × ClassId × ClassId × ClassId × ClassId × ClassId × ClassId × ClassId × ClassId × ClassId × ClassId × ClassId × ClassId × ClassId => match u with | (z_what, z_place, z_own, z_one, z_two, z_three, z_beside, z_many, z_uses, z_behind, z_name, z_makes, z_functionName, z_kindName, z_told, z_body, z_first, z_widest, z_fields, k_what, k_place, k_own, k_one, k_two, k_three, k_beside, k_many, k_uses, k_behind, k_name, k_makes, k_functionName, k_kindName, k_told, k_body, k_first, k_widest, k_fields) => True) (fun u => match u with | (z_what, z_place, z_own, z_one, z_two, z_three, z_beside, z_many, z_uses, z_behind, z_name, z_makes, z_functionName, z_kindName, z_told, z_body, z_first, z_widest, z_fields, k_what, k_place, k_own, k_one, k_two, k_three, k_beside, k_many, k_uses, k_behind, k_name, k_makes, k_functionName, k_kindName, k_told, k_body, k_first, k_widest, k_fields) => zQ dC dI (va_A [(h0, .inr (12, [.null, .null, .null, .null, .null, .null, .null, .null, .null, .null, .null, .null, .int 0, .null, .null, .null, .null, .null, .null, .null, .int 0, .int 0]))] sz) [(k_what, .byte), (k_place, .int), (k_own, .int), (k_one, .int), (k_two, .int), (k_three, .int), (k_beside, .int), (k_many, .int), (k_uses, .int), (k_behind, .int), (k_name, .long), (k_makes, .byte), (k_functionName, .long), (k_kindName, .long), (k_told, .int), (k_body, .int), (k_first, .int), (k_widest, .int), (k_fields, .int)] [(h0, .inr (12, [.ref z_what, .ref z_place, .ref z_own, .ref z_one, .ref z_two, .ref z_three, .ref z_beside, .ref z_many, .ref z_uses, .ref z_behind, .ref z_name, .ref z_makes, .int 0, .ref z_functionName, .ref z_kindName, .ref z_told, .ref z_body, .ref z_first, .ref z_widest, .ref z_fields, .int 0, .int 0])), (z_what, .inl (k_what, 2100, .inl (fun _ => 0))), (z_place, .inl (k_place, 2100, .inl (fun _ => 0))), (z_own, .inl (k_own, 2100, .inl (fun _ => 0))), (z_one, .inl (k_one, 2100, .inl (fun _ => 0))), (z_two, .inl (k_two, 2100, .inl (fun _ => 0))), (z_three, .inl (k_three, 2100, .inl (fun _ => 0))), (z_beside, .inl (k_beside, 2100, .inl (fun _ => 0))), (z_many, .inl (k_many, 2100, .inl (fun _ => 0))), (z_uses, .inl (k_uses, 2100, .inl (fun _ => 0))), (z_behind, .inl (k_behind, 2100, .inl (fun _ => 0))), (z_name, .inl (k_name, 2100, .inr (.inl (fun _ => 0)))), (z_makes, .inl (k_makes, 2100, .inl (fun _ => 0))), (z_functionName, .inl (k_functionName, 30, .inr (.inl (fun _ => 0)))), (z_kindName, .inl (k_kindName, 20, .inr (.inl (fun _ => 0)))), (z_told, .inl (k_told, 30, .inl (fun _ => 0))), (z_body, .inl (k_body, 30, .inl (fun _ => 0))), (z_first, .inl (k_first, 30, .inl (fun _ => 0))), (z_widest, .inl (k_widest, 30, .inl (fun _ => 0))), (z_fields, .inl (k_fields, 20, .inl (fun _ => 0)))]) (va_A [(h0, .inr (12, [.null, .null, .null, .null, .null, .null, .null, .null, .null, .null, .null, .null, .int 0, .null, .null, .null, .null, .null, .null, .null, .int 0, .int 0]))] sz)) 19 25390 (va_A [(h0, .inr (12, [.null, .null, .null, .null, .null, .null, .null, .null, .null, .null, .null, .null, .int 0, .null, .null, .null, .null, .null, .null, .null, .int 0, .int 0]))] sz) := by
  refine Met.ofW (cc := cX12_init) (maxL := 1) (ret := none) (by decide) rfl ?_
  intro p e s m args below meth c s₁ B hml hv
  obtain ⟨rfl, hsz, hP, hK, hD0, hN, hT⟩ := hv
  have hx := B.exec
  have hb := B.bytes
  have hr := B.returns
  have hts := atoms_spec (ws := Cond.code yX12_init cX12_init 1 none :: zw) B.pre
  have hA : ∀ w ∈ zw, w.before _ s = true := fun w h => hts w (List.mem_cons_of_mem _ h)
  have hown : s.vm.findClass RX12 = some m.cls := findClass_of_methodNamed B.named
  have hlocks := B.notSynchronized
  have hin : meth.name = "<init>" := (name_of_methodNamed B.named B.method).1
  subst hsz
  have hD := hD0.self (sz := s.heap.size)
  generalize hAe : va_A [(h0, .inr (12, [.null, .null, .null, .null, .null, .null, .null, .null, .null, .null, .null, .null, .int 0, .null, .null, .null, .null, .null, .null, .null, .int 0, .int 0]))] s.heap.size = A at hD hT ⊢
  have hAA : ∀ q : Nat, s.heap.size ≤ q → A q := fun q h => by rw [← hAe]; exact Or.inr h
  have hS : va_S A s.heap s.heap [] := va_S.rf
  have hl := lv_entry ([.ref h0]) (n := 1) (Nat.le_of_ble_eq_true rfl)
  rw [lg_entry_eq]
  generalize (lg_sl ([.ref h0]) ++ List.replicate (1 - (lg_sl ([.ref h0])).length) Slot.unset).toArray = ls at hl ⊢
  have hl : lv_has ls 1 [(0, .ref h0)] := hl
  refine lv_aload_n hx hb dX12_init_0 rfl (lv_at hl 0 rfl) ?_
  refine W.objInit hx hb hown (hA _ wi_1410) (hA _ wi_162) (hA _ wi_163) rfl (by rw [hml]; exact hl.1) rfl dX12_init_1 (Nat.le_of_ble_eq_true rfl) (Nat.le_of_ble_eq_true rfl) ?_
  refine W.eq (g2 := F0 m 4 ls []) rfl ?_
  refine lv_aload_n hx hb dX12_init_4 rfl (lv_at hl 0 rfl) ?_
  refine lv_sipush (v := 2100) hx hb dX12_init_5 (by decide) ?_
  refine va_newa (atype := .byte) (ty := .byte) (a0 := (2100, .inl (fun _ => 0))) (N' := 2100) hx hb (hA _ wi_219) rfl hK hP hD hS hAA (fun _ => rfl) (by decide) (by decide) (by decide) (Nat.le_of_ble_eq_true rfl) (Nat.le_of_ble_eq_true rfl) dX12_init_8 (fun q_1 cA_2 H hK hP hD hS => ?_)
  have hP : va_P (dC, dI) vwCl [(h0, .inr (12, [.null, .null, .null, .null, .null, .null, .null, .null, .null, .null, .null, .null, .int 0, .null, .null, .null, .null, .null, .null, .null, .int 0, .int 0])), (q_1, .inl (cA_2, 2100, .inl (fun _ => 0)))] H := hP
  have hD : va_D A [(h0, .inr (12, [.null, .null, .null, .null, .null, .null, .null, .null, .null, .null, .null, .null, .int 0, .null, .null, .null, .null, .null, .null, .null, .int 0, .int 0])), (q_1, .inl (cA_2, 2100, .inl (fun _ => 0)))] := hD
  have hK : va_K (dC, dI) vwCl [(cA_2, .byte)] s := hK
  refine W.widen (k := 1) (n := 2100) (Nat.le_of_ble_eq_true rfl) (Nat.le_of_ble_eq_true rfl) ?_
  refine va_putF (D := (dC, dI)) (ci := 12) (v := .ref q_1) (ty := .array .byte) (C := RX12) (T := TX12) (N := 22) hx hb hA zin_X12 tyX12 tyX12_ok nmX12 hown hK hP hD hS 0 rfl rfl 0 (by decide) (hA _ wi_1411) (fun _ h9 => h9) rfl hin rfl (by decide +kernel) rfl rfl (Nat.le_of_ble_eq_true rfl) dX12_init_10 (fun H locs hP hD hS => ?_)
  have hP : va_P (dC, dI) vwCl [(h0, .inr (12, [.ref q_1, .null, .null, .null, .null, .null, .null, .null, .null, .null, .null, .null, .int 0, .null, .null, .null, .null, .null, .null, .null, .int 0, .int 0])), (q_1, .inl (cA_2, 2100, .inl (fun _ => 0)))] H := hP
  have hD : va_D A [(h0, .inr (12, [.ref q_1, .null, .null, .null, .null, .null, .null, .null, .null, .null, .null, .null, .int 0, .null, .null, .null, .null, .null, .null, .null, .int 0, .int 0])), (q_1, .inl (cA_2, 2100, .inl (fun _ => 0)))] := hD
  refine lv_aload_n hx hb dX12_init_13 rfl (lv_at hl 0 rfl) ?_
  refine lv_sipush (v := 2100) hx hb dX12_init_14 (by decide) ?_
  refine va_newa (atype := .int) (ty := .int) (a0 := (2100, .inl (fun _ => 0))) (N' := 2100) hx hb (hA _ wi_220) rfl hK hP hD hS hAA (fun _ => rfl) (by decide) (by decide) (by decide) (Nat.le_of_ble_eq_true rfl) (Nat.le_of_ble_eq_true rfl) dX12_init_17 (fun q_3 cA_4 H hK hP hD hS => ?_)
  have hP : va_P (dC, dI) vwCl [(h0, .inr (12, [.ref q_1, .null, .null, .null, .null, .null, .null, .null, .null, .null, .null, .null, .int 0, .null, .null, .null, .null, .null, .null, .null, .int 0, .int 0])), (q_1, .inl (cA_2, 2100, .inl (fun _ => 0))), (q_3, .inl (cA_4, 2100, .inl (fun _ => 0)))] H := hP
  have hD : va_D A [(h0, .inr (12, [.ref q_1, .null, .null, .null, .null, .null, .null, .null, .null, .null, .null, .null, .int 0, .null, .null, .null, .null, .null, .null, .null, .int 0, .int 0])), (q_1, .inl (cA_2, 2100, .inl (fun _ => 0))), (q_3, .inl (cA_4, 2100, .inl (fun _ => 0)))] := hD
  have hK : va_K (dC, dI) vwCl [(cA_2, .byte), (cA_4, .int)] s := hK
  refine W.widen (k := 2) (n := 4200) (Nat.le_of_ble_eq_true rfl) (Nat.le_of_ble_eq_true rfl) ?_
  refine va_putF (D := (dC, dI)) (ci := 12) (v := .ref q_3) (ty := .array .int) (C := RX12) (T := TX12) (N := 22) hx hb hA zin_X12 tyX12 tyX12_ok nmX12 hown hK hP hD hS 0 rfl rfl 1 (by decide) (hA _ wi_1413) (fun _ h9 => h9) rfl hin rfl (by decide +kernel) rfl rfl (Nat.le_of_ble_eq_true rfl) dX12_init_19 (fun H locs hP hD hS => ?_)
  have hP : va_P (dC, dI) vwCl [(h0, .inr (12, [.ref q_1, .ref q_3, .null, .null, .null, .null, .null, .null, .null, .null, .null, .null, .int 0, .null, .null, .null, .null, .null, .null, .null, .int 0, .int 0])), (q_1, .inl (cA_2, 2100, .inl (fun _ => 0))), (q_3, .inl (cA_4, 2100, .inl (fun _ => 0)))] H := hP
  have hD : va_D A [(h0, .inr (12, [.ref q_1, .ref q_3, .null, .null, .null, .null, .null, .null, .null, .null, .null, .null, .int 0, .null, .null, .null, .null, .null, .null, .null, .int 0, .int 0])), (q_1, .inl (cA_2, 2100, .inl (fun _ => 0))), (q_3, .inl (cA_4, 2100, .inl (fun _ => 0)))] := hD
  refine lv_aload_n hx hb dX12_init_22 rfl (lv_at hl 0 rfl) ?_
  refine lv_sipush (v := 2100) hx hb dX12_init_23 (by decide) ?_
  refine va_newa (atype := .int) (ty := .int) (a0 := (2100, .inl (fun _ => 0))) (N' := 2100) hx hb (hA _ wi_220) rfl hK hP hD hS hAA (fun _ => rfl) (by decide) (by decide) (by decide) (Nat.le_of_ble_eq_true rfl) (Nat.le_of_ble_eq_true rfl) dX12_init_26 (fun q_5 cA_6 H hK hP hD hS => ?_)
  have hP : va_P (dC, dI) vwCl [(h0, .inr (12, [.ref q_1, .ref q_3, .null, .null, .null, .null, .null, .null, .null, .null, .null, .null, .int 0, .null, .null, .null, .null, .null, .null, .null, .int 0, .int 0])), (q_1, .inl (cA_2, 2100, .inl (fun _ => 0))), (q_3, .inl (cA_4, 2100, .inl (fun _ => 0))), (q_5, .inl (cA_6, 2100, .inl (fun _ => 0)))] H := hP
  have hD : va_D A [(h0, .inr (12, [.ref q_1, .ref q_3, .null, .null, .null, .null, .null, .null, .null, .null, .null, .null, .int 0, .null, .null, .null, .null, .null, .null, .null, .int 0, .int 0])), (q_1, .inl (cA_2, 2100, .inl (fun _ => 0))), (q_3, .inl (cA_4, 2100, .inl (fun _ => 0))), (q_5, .inl (cA_6, 2100, .inl (fun _ => 0)))] := hD
  have hK : va_K (dC, dI) vwCl [(cA_2, .byte), (cA_4, .int), (cA_6, .int)] s := hK
  refine W.widen (k := 3) (n := 6300) (Nat.le_of_ble_eq_true rfl) (Nat.le_of_ble_eq_true rfl) ?_
  refine va_putF (D := (dC, dI)) (ci := 12) (v := .ref q_5) (ty := .array .int) (C := RX12) (T := TX12) (N := 22) hx hb hA zin_X12 tyX12 tyX12_ok nmX12 hown hK hP hD hS 0 rfl rfl 2 (by decide) (hA _ wi_1415) (fun _ h9 => h9) rfl hin rfl (by decide +kernel) rfl rfl (Nat.le_of_ble_eq_true rfl) dX12_init_28 (fun H locs hP hD hS => ?_)
  have hP : va_P (dC, dI) vwCl [(h0, .inr (12, [.ref q_1, .ref q_3, .ref q_5, .null, .null, .null, .null, .null, .null, .null, .null, .null, .int 0, .null, .null, .null, .null, .null, .null, .null, .int 0, .int 0])), (q_1, .inl (cA_2, 2100, .inl (fun _ => 0))), (q_3, .inl (cA_4, 2100, .inl (fun _ => 0))), (q_5, .inl (cA_6, 2100, .inl (fun _ => 0)))] H := hP
  have hD : va_D A [(h0, .inr (12, [.ref q_1, .ref q_3, .ref q_5, .null, .null, .null, .null, .null, .null, .null, .null, .null, .int 0, .null, .null, .null, .null, .null, .null, .null, .int 0, .int 0])), (q_1, .inl (cA_2, 2100, .inl (fun _ => 0))), (q_3, .inl (cA_4, 2100, .inl (fun _ => 0))), (q_5, .inl (cA_6, 2100, .inl (fun _ => 0)))] := hD
  refine lv_aload_n hx hb dX12_init_31 rfl (lv_at hl 0 rfl) ?_
  refine lv_sipush (v := 2100) hx hb dX12_init_32 (by decide) ?_
  refine va_newa (atype := .int) (ty := .int) (a0 := (2100, .inl (fun _ => 0))) (N' := 2100) hx hb (hA _ wi_220) rfl hK hP hD hS hAA (fun _ => rfl) (by decide) (by decide) (by decide) (Nat.le_of_ble_eq_true rfl) (Nat.le_of_ble_eq_true rfl) dX12_init_35 (fun q_7 cA_8 H hK hP hD hS => ?_)
  have hP : va_P (dC, dI) vwCl [(h0, .inr (12, [.ref q_1, .ref q_3, .ref q_5, .null, .null, .null, .null, .null, .null, .null, .null, .null, .int 0, .null, .null, .null, .null, .null, .null, .null, .int 0, .int 0])), (q_1, .inl (cA_2, 2100, .inl (fun _ => 0))), (q_3, .inl (cA_4, 2100, .inl (fun _ => 0))), (q_5, .inl (cA_6, 2100, .inl (fun _ => 0))), (q_7, .inl (cA_8, 2100, .inl (fun _ => 0)))] H := hP
  have hD : va_D A [(h0, .inr (12, [.ref q_1, .ref q_3, .ref q_5, .null, .null, .null, .null, .null, .null, .null, .null, .null, .int 0, .null, .null, .null, .null, .null, .null, .null, .int 0, .int 0])), (q_1, .inl (cA_2, 2100, .inl (fun _ => 0))), (q_3, .inl (cA_4, 2100, .inl (fun _ => 0))), (q_5, .inl (cA_6, 2100, .inl (fun _ => 0))), (q_7, .inl (cA_8, 2100, .inl (fun _ => 0)))] := hD
  have hK : va_K (dC, dI) vwCl [(cA_2, .byte), (cA_4, .int), (cA_6, .int), (cA_8, .int)] s := hK
  refine W.widen (k := 4) (n := 8400) (Nat.le_of_ble_eq_true rfl) (Nat.le_of_ble_eq_true rfl) ?_
  refine va_putF (D := (dC, dI)) (ci := 12) (v := .ref q_7) (ty := .array .int) (C := RX12) (T := TX12) (N := 22) hx hb hA zin_X12 tyX12 tyX12_ok nmX12 hown hK hP hD hS 0 rfl rfl 3 (by decide) (hA _ wi_1417) (fun _ h9 => h9) rfl hin rfl (by decide +kernel) rfl rfl (Nat.le_of_ble_eq_true rfl) dX12_init_37 (fun H locs hP hD hS => ?_)
  have hP : va_P (dC, dI) vwCl [(h0, .inr (12, [.ref q_1, .ref q_3, .ref q_5, .ref q_7, .null, .null, .null, .null, .null, .null, .null, .null, .int 0, .null, .null, .null, .null, .null, .null, .null, .int 0, .int 0])), (q_1, .inl (cA_2, 2100, .inl (fun _ => 0))), (q_3, .inl (cA_4, 2100, .inl (fun _ => 0))), (q_5, .inl (cA_6, 2100, .inl (fun _ => 0))), (q_7, .inl (cA_8, 2100, .inl (fun _ => 0)))] H := hP
  have hD : va_D A [(h0, .inr (12, [.ref q_1, .ref q_3, .ref q_5, .ref q_7, .null, .null, .null, .null, .null, .null, .null, .null, .int 0, .null, .null, .null, .null, .null, .null, .null, .int 0, .int 0])), (q_1, .inl (cA_2, 2100, .inl (fun _ => 0))), (q_3, .inl (cA_4, 2100, .inl (fun _ => 0))), (q_5, .inl (cA_6, 2100, .inl (fun _ => 0))), (q_7, .inl (cA_8, 2100, .inl (fun _ => 0)))] := hD
  refine lv_aload_n hx hb dX12_init_40 rfl (lv_at hl 0 rfl) ?_
  refine lv_sipush (v := 2100) hx hb dX12_init_41 (by decide) ?_
  refine va_newa (atype := .int) (ty := .int) (a0 := (2100, .inl (fun _ => 0))) (N' := 2100) hx hb (hA _ wi_220) rfl hK hP hD hS hAA (fun _ => rfl) (by decide) (by decide) (by decide) (Nat.le_of_ble_eq_true rfl) (Nat.le_of_ble_eq_true rfl) dX12_init_44 (fun q_9 cA_10 H hK hP hD hS => ?_)
  have hP : va_P (dC, dI) vwCl [(h0, .inr (12, [.ref q_1, .ref q_3, .ref q_5, .ref q_7, .null, .null, .null, .null, .null, .null, .null, .null, .int 0, .null, .null, .null, .null, .null, .null, .null, .int 0, .int 0])), (q_1, .inl (cA_2, 2100, .inl (fun _ => 0))), (q_3, .inl (cA_4, 2100, .inl (fun _ => 0))), (q_5, .inl (cA_6, 2100, .inl (fun _ => 0))), (q_7, .inl (cA_8, 2100, .inl (fun _ => 0))), (q_9, .inl (cA_10, 2100, .inl (fun _ => 0)))] H := hP
  have hD : va_D A [(h0, .inr (12, [.ref q_1, .ref q_3, .ref q_5, .ref q_7, .null, .null, .null, .null, .null, .null, .null, .null, .int 0, .null, .null, .null, .null, .null, .null, .null, .int 0, .int 0])), (q_1, .inl (cA_2, 2100, .inl (fun _ => 0))), (q_3, .inl (cA_4, 2100, .inl (fun _ => 0))), (q_5, .inl (cA_6, 2100, .inl (fun _ => 0))), (q_7, .inl (cA_8, 2100, .inl (fun _ => 0))), (q_9, .inl (cA_10, 2100, .inl (fun _ => 0)))] := hD
  have hK : va_K (dC, dI) vwCl [(cA_2, .byte), (cA_4, .int), (cA_6, .int), (cA_8, .int), (cA_10, .int)] s := hK
  refine W.widen (k := 5) (n := 10500) (Nat.le_of_ble_eq_true rfl) (Nat.le_of_ble_eq_true rfl) ?_
  refine va_putF (D := (dC, dI)) (ci := 12) (v := .ref q_9) (ty := .array .int) (C := RX12) (T := TX12) (N := 22) hx hb hA zin_X12 tyX12 tyX12_ok nmX12 hown hK hP hD hS 0 rfl rfl 4 (by decide) (hA _ wi_1419) (fun _ h9 => h9) rfl hin rfl (by decide +kernel) rfl rfl (Nat.le_of_ble_eq_true rfl) dX12_init_46 (fun H locs hP hD hS => ?_)
  have hP : va_P (dC, dI) vwCl [(h0, .inr (12, [.ref q_1, .ref q_3, .ref q_5, .ref q_7, .ref q_9, .null, .null, .null, .null, .null, .null, .null, .int 0, .null, .null, .null, .null, .null, .null, .null, .int 0, .int 0])), (q_1, .inl (cA_2, 2100, .inl (fun _ => 0))), (q_3, .inl (cA_4, 2100, .inl (fun _ => 0))), (q_5, .inl (cA_6, 2100, .inl (fun _ => 0))), (q_7, .inl (cA_8, 2100, .inl (fun _ => 0))), (q_9, .inl (cA_10, 2100, .inl (fun _ => 0)))] H := hP
  have hD : va_D A [(h0, .inr (12, [.ref q_1, .ref q_3, .ref q_5, .ref q_7, .ref q_9, .null, .null, .null, .null, .null, .null, .null, .int 0, .null, .null, .null, .null, .null, .null, .null, .int 0, .int 0])), (q_1, .inl (cA_2, 2100, .inl (fun _ => 0))), (q_3, .inl (cA_4, 2100, .inl (fun _ => 0))), (q_5, .inl (cA_6, 2100, .inl (fun _ => 0))), (q_7, .inl (cA_8, 2100, .inl (fun _ => 0))), (q_9, .inl (cA_10, 2100, .inl (fun _ => 0)))] := hD
  refine lv_aload_n hx hb dX12_init_49 rfl (lv_at hl 0 rfl) ?_
  refine lv_sipush (v := 2100) hx hb dX12_init_50 (by decide) ?_
  refine va_newa (atype := .int) (ty := .int) (a0 := (2100, .inl (fun _ => 0))) (N' := 2100) hx hb (hA _ wi_220) rfl hK hP hD hS hAA (fun _ => rfl) (by decide) (by decide) (by decide) (Nat.le_of_ble_eq_true rfl) (Nat.le_of_ble_eq_true rfl) dX12_init_53 (fun q_11 cA_12 H hK hP hD hS => ?_)
  have hP : va_P (dC, dI) vwCl [(h0, .inr (12, [.ref q_1, .ref q_3, .ref q_5, .ref q_7, .ref q_9, .null, .null, .null, .null, .null, .null, .null, .int 0, .null, .null, .null, .null, .null, .null, .null, .int 0, .int 0])), (q_1, .inl (cA_2, 2100, .inl (fun _ => 0))), (q_3, .inl (cA_4, 2100, .inl (fun _ => 0))), (q_5, .inl (cA_6, 2100, .inl (fun _ => 0))), (q_7, .inl (cA_8, 2100, .inl (fun _ => 0))), (q_9, .inl (cA_10, 2100, .inl (fun _ => 0))), (q_11, .inl (cA_12, 2100, .inl (fun _ => 0)))] H := hP
  have hD : va_D A [(h0, .inr (12, [.ref q_1, .ref q_3, .ref q_5, .ref q_7, .ref q_9, .null, .null, .null, .null, .null, .null, .null, .int 0, .null, .null, .null, .null, .null, .null, .null, .int 0, .int 0])), (q_1, .inl (cA_2, 2100, .inl (fun _ => 0))), (q_3, .inl (cA_4, 2100, .inl (fun _ => 0))), (q_5, .inl (cA_6, 2100, .inl (fun _ => 0))), (q_7, .inl (cA_8, 2100, .inl (fun _ => 0))), (q_9, .inl (cA_10, 2100, .inl (fun _ => 0))), (q_11, .inl (cA_12, 2100, .inl (fun _ => 0)))] := hD
  have hK : va_K (dC, dI) vwCl [(cA_2, .byte), (cA_4, .int), (cA_6, .int), (cA_8, .int), (cA_10, .int), (cA_12, .int)] s := hK
  refine W.widen (k := 6) (n := 12600) (Nat.le_of_ble_eq_true rfl) (Nat.le_of_ble_eq_true rfl) ?_
  refine va_putF (D := (dC, dI)) (ci := 12) (v := .ref q_11) (ty := .array .int) (C := RX12) (T := TX12) (N := 22) hx hb hA zin_X12 tyX12 tyX12_ok nmX12 hown hK hP hD hS 0 rfl rfl 5 (by decide) (hA _ wi_1421) (fun _ h9 => h9) rfl hin rfl (by decide +kernel) rfl rfl (Nat.le_of_ble_eq_true rfl) dX12_init_55 (fun H locs hP hD hS => ?_)
  have hP : va_P (dC, dI) vwCl [(h0, .inr (12, [.ref q_1, .ref q_3, .ref q_5, .ref q_7, .ref q_9, .ref q_11, .null, .null, .null, .null, .null, .null, .int 0, .null, .null, .null, .null, .null, .null, .null, .int 0, .int 0])), (q_1, .inl (cA_2, 2100, .inl (fun _ => 0))), (q_3, .inl (cA_4, 2100, .inl (fun _ => 0))), (q_5, .inl (cA_6, 2100, .inl (fun _ => 0))), (q_7, .inl (cA_8, 2100, .inl (fun _ => 0))), (q_9, .inl (cA_10, 2100, .inl (fun _ => 0))), (q_11, .inl (cA_12, 2100, .inl (fun _ => 0)))] H := hP
  have hD : va_D A [(h0, .inr (12, [.ref q_1, .ref q_3, .ref q_5, .ref q_7, .ref q_9, .ref q_11, .null, .null, .null, .null, .null, .null, .int 0, .null, .null, .null, .null, .null, .null, .null, .int 0, .int 0])), (q_1, .inl (cA_2, 2100, .inl (fun _ => 0))), (q_3, .inl (cA_4, 2100, .inl (fun _ => 0))), (q_5, .inl (cA_6, 2100, .inl (fun _ => 0))), (q_7, .inl (cA_8, 2100, .inl (fun _ => 0))), (q_9, .inl (cA_10, 2100, .inl (fun _ => 0))), (q_11, .inl (cA_12, 2100, .inl (fun _ => 0)))] := hD
  refine lv_aload_n hx hb dX12_init_58 rfl (lv_at hl 0 rfl) ?_
  refine lv_sipush (v := 2100) hx hb dX12_init_59 (by decide) ?_
  refine va_newa (atype := .int) (ty := .int) (a0 := (2100, .inl (fun _ => 0))) (N' := 2100) hx hb (hA _ wi_220) rfl hK hP hD hS hAA (fun _ => rfl) (by decide) (by decide) (by decide) (Nat.le_of_ble_eq_true rfl) (Nat.le_of_ble_eq_true rfl) dX12_init_62 (fun q_13 cA_14 H hK hP hD hS => ?_)
  have hP : va_P (dC, dI) vwCl [(h0, .inr (12, [.ref q_1, .ref q_3, .ref q_5, .ref q_7, .ref q_9, .ref q_11, .null, .null, .null, .null, .null, .null, .int 0, .null, .null, .null, .null, .null, .null, .null, .int 0, .int 0])), (q_1, .inl (cA_2, 2100, .inl (fun _ => 0))), (q_3, .inl (cA_4, 2100, .inl (fun _ => 0))), (q_5, .inl (cA_6, 2100, .inl (fun _ => 0))), (q_7, .inl (cA_8, 2100, .inl (fun _ => 0))), (q_9, .inl (cA_10, 2100, .inl (fun _ => 0))), (q_11, .inl (cA_12, 2100, .inl (fun _ => 0))), (q_13, .inl (cA_14, 2100, .inl (fun _ => 0)))] H := hP
  have hD : va_D A [(h0, .inr (12, [.ref q_1, .ref q_3, .ref q_5, .ref q_7, .ref q_9, .ref q_11, .null, .null, .null, .null, .null, .null, .int 0, .null, .null, .null, .null, .null, .null, .null, .int 0, .int 0])), (q_1, .inl (cA_2, 2100, .inl (fun _ => 0))), (q_3, .inl (cA_4, 2100, .inl (fun _ => 0))), (q_5, .inl (cA_6, 2100, .inl (fun _ => 0))), (q_7, .inl (cA_8, 2100, .inl (fun _ => 0))), (q_9, .inl (cA_10, 2100, .inl (fun _ => 0))), (q_11, .inl (cA_12, 2100, .inl (fun _ => 0))), (q_13, .inl (cA_14, 2100, .inl (fun _ => 0)))] := hD
  have hK : va_K (dC, dI) vwCl [(cA_2, .byte), (cA_4, .int), (cA_6, .int), (cA_8, .int), (cA_10, .int), (cA_12, .int), (cA_14, .int)] s := hK
  refine W.widen (k := 7) (n := 14700) (Nat.le_of_ble_eq_true rfl) (Nat.le_of_ble_eq_true rfl) ?_
  refine va_putF (D := (dC, dI)) (ci := 12) (v := .ref q_13) (ty := .array .int) (C := RX12) (T := TX12) (N := 22) hx hb hA zin_X12 tyX12 tyX12_ok nmX12 hown hK hP hD hS 0 rfl rfl 6 (by decide) (hA _ wi_1423) (fun _ h9 => h9) rfl hin rfl (by decide +kernel) rfl rfl (Nat.le_of_ble_eq_true rfl) dX12_init_64 (fun H locs hP hD hS => ?_)
  have hP : va_P (dC, dI) vwCl [(h0, .inr (12, [.ref q_1, .ref q_3, .ref q_5, .ref q_7, .ref q_9, .ref q_11, .ref q_13, .null, .null, .null, .null, .null, .int 0, .null, .null, .null, .null, .null, .null, .null, .int 0, .int 0])), (q_1, .inl (cA_2, 2100, .inl (fun _ => 0))), (q_3, .inl (cA_4, 2100, .inl (fun _ => 0))), (q_5, .inl (cA_6, 2100, .inl (fun _ => 0))), (q_7, .inl (cA_8, 2100, .inl (fun _ => 0))), (q_9, .inl (cA_10, 2100, .inl (fun _ => 0))), (q_11, .inl (cA_12, 2100, .inl (fun _ => 0))), (q_13, .inl (cA_14, 2100, .inl (fun _ => 0)))] H := hP
  have hD : va_D A [(h0, .inr (12, [.ref q_1, .ref q_3, .ref q_5, .ref q_7, .ref q_9, .ref q_11, .ref q_13, .null, .null, .null, .null, .null, .int 0, .null, .null, .null, .null, .null, .null, .null, .int 0, .int 0])), (q_1, .inl (cA_2, 2100, .inl (fun _ => 0))), (q_3, .inl (cA_4, 2100, .inl (fun _ => 0))), (q_5, .inl (cA_6, 2100, .inl (fun _ => 0))), (q_7, .inl (cA_8, 2100, .inl (fun _ => 0))), (q_9, .inl (cA_10, 2100, .inl (fun _ => 0))), (q_11, .inl (cA_12, 2100, .inl (fun _ => 0))), (q_13, .inl (cA_14, 2100, .inl (fun _ => 0)))] := hD
  refine lv_aload_n hx hb dX12_init_67 rfl (lv_at hl 0 rfl) ?_
  refine lv_sipush (v := 2100) hx hb dX12_init_68 (by decide) ?_
  refine va_newa (atype := .int) (ty := .int) (a0 := (2100, .inl (fun _ => 0))) (N' := 2100) hx hb (hA _ wi_220) rfl hK hP hD hS hAA (fun _ => rfl) (by decide) (by decide) (by decide) (Nat.le_of_ble_eq_true rfl) (Nat.le_of_ble_eq_true rfl) dX12_init_71 (fun q_15 cA_16 H hK hP hD hS => ?_)
  have hP : va_P (dC, dI) vwCl [(h0, .inr (12, [.ref q_1, .ref q_3, .ref q_5, .ref q_7, .ref q_9, .ref q_11, .ref q_13, .null, .null, .null, .null, .null, .int 0, .null, .null, .null, .null, .null, .null, .null, .int 0, .int 0])), (q_1, .inl (cA_2, 2100, .inl (fun _ => 0))), (q_3, .inl (cA_4, 2100, .inl (fun _ => 0))), (q_5, .inl (cA_6, 2100, .inl (fun _ => 0))), (q_7, .inl (cA_8, 2100, .inl (fun _ => 0))), (q_9, .inl (cA_10, 2100, .inl (fun _ => 0))), (q_11, .inl (cA_12, 2100, .inl (fun _ => 0))), (q_13, .inl (cA_14, 2100, .inl (fun _ => 0))), (q_15, .inl (cA_16, 2100, .inl (fun _ => 0)))] H := hP
  have hD : va_D A [(h0, .inr (12, [.ref q_1, .ref q_3, .ref q_5, .ref q_7, .ref q_9, .ref q_11, .ref q_13, .null, .null, .null, .null, .null, .int 0, .null, .null, .null, .null, .null, .null, .null, .int 0, .int 0])), (q_1, .inl (cA_2, 2100, .inl (fun _ => 0))), (q_3, .inl (cA_4, 2100, .inl (fun _ => 0))), (q_5, .inl (cA_6, 2100, .inl (fun _ => 0))), (q_7, .inl (cA_8, 2100, .inl (fun _ => 0))), (q_9, .inl (cA_10, 2100, .inl (fun _ => 0))), (q_11, .inl (cA_12, 2100, .inl (fun _ => 0))), (q_13, .inl (cA_14, 2100, .inl (fun _ => 0))), (q_15, .inl (cA_16, 2100, .inl (fun _ => 0)))] := hD
  have hK : va_K (dC, dI) vwCl [(cA_2, .byte), (cA_4, .int), (cA_6, .int), (cA_8, .int), (cA_10, .int), (cA_12, .int), (cA_14, .int), (cA_16, .int)] s := hK
  refine W.widen (k := 8) (n := 16800) (Nat.le_of_ble_eq_true rfl) (Nat.le_of_ble_eq_true rfl) ?_
  refine va_putF (D := (dC, dI)) (ci := 12) (v := .ref q_15) (ty := .array .int) (C := RX12) (T := TX12) (N := 22) hx hb hA zin_X12 tyX12 tyX12_ok nmX12 hown hK hP hD hS 0 rfl rfl 7 (by decide) (hA _ wi_1425) (fun _ h9 => h9) rfl hin rfl (by decide +kernel) rfl rfl (Nat.le_of_ble_eq_true rfl) dX12_init_73 (fun H locs hP hD hS => ?_)
  have hP : va_P (dC, dI) vwCl [(h0, .inr (12, [.ref q_1, .ref q_3, .ref q_5, .ref q_7, .ref q_9, .ref q_11, .ref q_13, .ref q_15, .null, .null, .null, .null, .int 0, .null, .null, .null, .null, .null, .null, .null, .int 0, .int 0])), (q_1, .inl (cA_2, 2100, .inl (fun _ => 0))), (q_3, .inl (cA_4, 2100, .inl (fun _ => 0))), (q_5, .inl (cA_6, 2100, .inl (fun _ => 0))), (q_7, .inl (cA_8, 2100, .inl (fun _ => 0))), (q_9, .inl (cA_10, 2100, .inl (fun _ => 0))), (q_11, .inl (cA_12, 2100, .inl (fun _ => 0))), (q_13, .inl (cA_14, 2100, .inl (fun _ => 0))), (q_15, .inl (cA_16, 2100, .inl (fun _ => 0)))] H := hP
  have hD : va_D A [(h0, .inr (12, [.ref q_1, .ref q_3, .ref q_5, .ref q_7, .ref q_9, .ref q_11, .ref q_13, .ref q_15, .null, .null, .null, .null, .int 0, .null, .null, .null, .null, .null, .null, .null, .int 0, .int 0])), (q_1, .inl (cA_2, 2100, .inl (fun _ => 0))), (q_3, .inl (cA_4, 2100, .inl (fun _ => 0))), (q_5, .inl (cA_6, 2100, .inl (fun _ => 0))), (q_7, .inl (cA_8, 2100, .inl (fun _ => 0))), (q_9, .inl (cA_10, 2100, .inl (fun _ => 0))), (q_11, .inl (cA_12, 2100, .inl (fun _ => 0))), (q_13, .inl (cA_14, 2100, .inl (fun _ => 0))), (q_15, .inl (cA_16, 2100, .inl (fun _ => 0)))] := hD
  refine lv_aload_n hx hb dX12_init_76 rfl (lv_at hl 0 rfl) ?_
  refine lv_sipush (v := 2100) hx hb dX12_init_77 (by decide) ?_
  refine va_newa (atype := .int) (ty := .int) (a0 := (2100, .inl (fun _ => 0))) (N' := 2100) hx hb (hA _ wi_220) rfl hK hP hD hS hAA (fun _ => rfl) (by decide) (by decide) (by decide) (Nat.le_of_ble_eq_true rfl) (Nat.le_of_ble_eq_true rfl) dX12_init_80 (fun q_17 cA_18 H hK hP hD hS => ?_)
  have hP : va_P (dC, dI) vwCl [(h0, .inr (12, [.ref q_1, .ref q_3, .ref q_5, .ref q_7, .ref q_9, .ref q_11, .ref q_13, .ref q_15, .null, .null, .null, .null, .int 0, .null, .null, .null, .null, .null, .null, .null, .int 0, .int 0])), (q_1, .inl (cA_2, 2100, .inl (fun _ => 0))), (q_3, .inl (cA_4, 2100, .inl (fun _ => 0))), (q_5, .inl (cA_6, 2100, .inl (fun _ => 0))), (q_7, .inl (cA_8, 2100, .inl (fun _ => 0))), (q_9, .inl (cA_10, 2100, .inl (fun _ => 0))), (q_11, .inl (cA_12, 2100, .inl (fun _ => 0))), (q_13, .inl (cA_14, 2100, .inl (fun _ => 0))), (q_15, .inl (cA_16, 2100, .inl (fun _ => 0))), (q_17, .inl (cA_18, 2100, .inl (fun _ => 0)))] H := hP
  have hD : va_D A [(h0, .inr (12, [.ref q_1, .ref q_3, .ref q_5, .ref q_7, .ref q_9, .ref q_11, .ref q_13, .ref q_15, .null, .null, .null, .null, .int 0, .null, .null, .null, .null, .null, .null, .null, .int 0, .int 0])), (q_1, .inl (cA_2, 2100, .inl (fun _ => 0))), (q_3, .inl (cA_4, 2100, .inl (fun _ => 0))), (q_5, .inl (cA_6, 2100, .inl (fun _ => 0))), (q_7, .inl (cA_8, 2100, .inl (fun _ => 0))), (q_9, .inl (cA_10, 2100, .inl (fun _ => 0))), (q_11, .inl (cA_12, 2100, .inl (fun _ => 0))), (q_13, .inl (cA_14, 2100, .inl (fun _ => 0))), (q_15, .inl (cA_16, 2100, .inl (fun _ => 0))), (q_17, .inl (cA_18, 2100, .inl (fun _ => 0)))] := hD
  have hK : va_K (dC, dI) vwCl [(cA_2, .byte), (cA_4, .int), (cA_6, .int), (cA_8, .int), (cA_10, .int), (cA_12, .int), (cA_14, .int), (cA_16, .int), (cA_18, .int)] s := hK
  refine W.widen (k := 9) (n := 18900) (Nat.le_of_ble_eq_true rfl) (Nat.le_of_ble_eq_true rfl) ?_
  refine va_putF (D := (dC, dI)) (ci := 12) (v := .ref q_17) (ty := .array .int) (C := RX12) (T := TX12) (N := 22) hx hb hA zin_X12 tyX12 tyX12_ok nmX12 hown hK hP hD hS 0 rfl rfl 8 (by decide) (hA _ wi_1427) (fun _ h9 => h9) rfl hin rfl (by decide +kernel) rfl rfl (Nat.le_of_ble_eq_true rfl) dX12_init_82 (fun H locs hP hD hS => ?_)
  have hP : va_P (dC, dI) vwCl [(h0, .inr (12, [.ref q_1, .ref q_3, .ref q_5, .ref q_7, .ref q_9, .ref q_11, .ref q_13, .ref q_15, .ref q_17, .null, .null, .null, .int 0, .null, .null, .null, .null, .null, .null, .null, .int 0, .int 0])), (q_1, .inl (cA_2, 2100, .inl (fun _ => 0))), (q_3, .inl (cA_4, 2100, .inl (fun _ => 0))), (q_5, .inl (cA_6, 2100, .inl (fun _ => 0))), (q_7, .inl (cA_8, 2100, .inl (fun _ => 0))), (q_9, .inl (cA_10, 2100, .inl (fun _ => 0))), (q_11, .inl (cA_12, 2100, .inl (fun _ => 0))), (q_13, .inl (cA_14, 2100, .inl (fun _ => 0))), (q_15, .inl (cA_16, 2100, .inl (fun _ => 0))), (q_17, .inl (cA_18, 2100, .inl (fun _ => 0)))] H := hP
  have hD : va_D A [(h0, .inr (12, [.ref q_1, .ref q_3, .ref q_5, .ref q_7, .ref q_9, .ref q_11, .ref q_13, .ref q_15, .ref q_17, .null, .null, .null, .int 0, .null, .null, .null, .null, .null, .null, .null, .int 0, .int 0])), (q_1, .inl (cA_2, 2100, .inl (fun _ => 0))), (q_3, .inl (cA_4, 2100, .inl (fun _ => 0))), (q_5, .inl (cA_6, 2100, .inl (fun _ => 0))), (q_7, .inl (cA_8, 2100, .inl (fun _ => 0))), (q_9, .inl (cA_10, 2100, .inl (fun _ => 0))), (q_11, .inl (cA_12, 2100, .inl (fun _ => 0))), (q_13, .inl (cA_14, 2100, .inl (fun _ => 0))), (q_15, .inl (cA_16, 2100, .inl (fun _ => 0))), (q_17, .inl (cA_18, 2100, .inl (fun _ => 0)))] := hD
  refine lv_aload_n hx hb dX12_init_85 rfl (lv_at hl 0 rfl) ?_
  refine lv_sipush (v := 2100) hx hb dX12_init_86 (by decide) ?_
  refine va_newa (atype := .int) (ty := .int) (a0 := (2100, .inl (fun _ => 0))) (N' := 2100) hx hb (hA _ wi_220) rfl hK hP hD hS hAA (fun _ => rfl) (by decide) (by decide) (by decide) (Nat.le_of_ble_eq_true rfl) (Nat.le_of_ble_eq_true rfl) dX12_init_89 (fun q_19 cA_20 H hK hP hD hS => ?_)
  have hP : va_P (dC, dI) vwCl [(h0, .inr (12, [.ref q_1, .ref q_3, .ref q_5, .ref q_7, .ref q_9, .ref q_11, .ref q_13, .ref q_15, .ref q_17, .null, .null, .null, .int 0, .null, .null, .null, .null, .null, .null, .null, .int 0, .int 0])), (q_1, .inl (cA_2, 2100, .inl (fun _ => 0))), (q_3, .inl (cA_4, 2100, .inl (fun _ => 0))), (q_5, .inl (cA_6, 2100, .inl (fun _ => 0))), (q_7, .inl (cA_8, 2100, .inl (fun _ => 0))), (q_9, .inl (cA_10, 2100, .inl (fun _ => 0))), (q_11, .inl (cA_12, 2100, .inl (fun _ => 0))), (q_13, .inl (cA_14, 2100, .inl (fun _ => 0))), (q_15, .inl (cA_16, 2100, .inl (fun _ => 0))), (q_17, .inl (cA_18, 2100, .inl (fun _ => 0))), (q_19, .inl (cA_20, 2100, .inl (fun _ => 0)))] H := hP
  have hD : va_D A [(h0, .inr (12, [.ref q_1, .ref q_3, .ref q_5, .ref q_7, .ref q_9, .ref q_11, .ref q_13, .ref q_15, .ref q_17, .null, .null, .null, .int 0, .null, .null, .null, .null, .null, .null, .null, .int 0, .int 0])), (q_1, .inl (cA_2, 2100, .inl (fun _ => 0))), (q_3, .inl (cA_4, 2100, .inl (fun _ => 0))), (q_5, .inl (cA_6, 2100, .inl (fun _ => 0))), (q_7, .inl (cA_8, 2100, .inl (fun _ => 0))), (q_9, .inl (cA_10, 2100, .inl (fun _ => 0))), (q_11, .inl (cA_12, 2100, .inl (fun _ => 0))), (q_13, .inl (cA_14, 2100, .inl (fun _ => 0))), (q_15, .inl (cA_16, 2100, .inl (fun _ => 0))), (q_17, .inl (cA_18, 2100, .inl (fun _ => 0))), (q_19, .inl (cA_20, 2100, .inl (fun _ => 0)))] := hD
  have hK : va_K (dC, dI) vwCl [(cA_2, .byte), (cA_4, .int), (cA_6, .int), (cA_8, .int), (cA_10, .int), (cA_12, .int), (cA_14, .int), (cA_16, .int), (cA_18, .int), (cA_20, .int)] s := hK
  refine W.widen (k := 10) (n := 21000) (Nat.le_of_ble_eq_true rfl) (Nat.le_of_ble_eq_true rfl) ?_
  refine va_putF (D := (dC, dI)) (ci := 12) (v := .ref q_19) (ty := .array .int) (C := RX12) (T := TX12) (N := 22) hx hb hA zin_X12 tyX12 tyX12_ok nmX12 hown hK hP hD hS 0 rfl rfl 9 (by decide) (hA _ wi_1429) (fun _ h9 => h9) rfl hin rfl (by decide +kernel) rfl rfl (Nat.le_of_ble_eq_true rfl) dX12_init_91 (fun H locs hP hD hS => ?_)
  have hP : va_P (dC, dI) vwCl [(h0, .inr (12, [.ref q_1, .ref q_3, .ref q_5, .ref q_7, .ref q_9, .ref q_11, .ref q_13, .ref q_15, .ref q_17, .ref q_19, .null, .null, .int 0, .null, .null, .null, .null, .null, .null, .null, .int 0, .int 0])), (q_1, .inl (cA_2, 2100, .inl (fun _ => 0))), (q_3, .inl (cA_4, 2100, .inl (fun _ => 0))), (q_5, .inl (cA_6, 2100, .inl (fun _ => 0))), (q_7, .inl (cA_8, 2100, .inl (fun _ => 0))), (q_9, .inl (cA_10, 2100, .inl (fun _ => 0))), (q_11, .inl (cA_12, 2100, .inl (fun _ => 0))), (q_13, .inl (cA_14, 2100, .inl (fun _ => 0))), (q_15, .inl (cA_16, 2100, .inl (fun _ => 0))), (q_17, .inl (cA_18, 2100, .inl (fun _ => 0))), (q_19, .inl (cA_20, 2100, .inl (fun _ => 0)))] H := hP
  have hD : va_D A [(h0, .inr (12, [.ref q_1, .ref q_3, .ref q_5, .ref q_7, .ref q_9, .ref q_11, .ref q_13, .ref q_15, .ref q_17, .ref q_19, .null, .null, .int 0, .null, .null, .null, .null, .null, .null, .null, .int 0, .int 0])), (q_1, .inl (cA_2, 2100, .inl (fun _ => 0))), (q_3, .inl (cA_4, 2100, .inl (fun _ => 0))), (q_5, .inl (cA_6, 2100, .inl (fun _ => 0))), (q_7, .inl (cA_8, 2100, .inl (fun _ => 0))), (q_9, .inl (cA_10, 2100, .inl (fun _ => 0))), (q_11, .inl (cA_12, 2100, .inl (fun _ => 0))), (q_13, .inl (cA_14, 2100, .inl (fun _ => 0))), (q_15, .inl (cA_16, 2100, .inl (fun _ => 0))), (q_17, .inl (cA_18, 2100, .inl (fun _ => 0))), (q_19, .inl (cA_20, 2100, .inl (fun _ => 0)))] := hD
  refine lv_aload_n hx hb dX12_init_94 rfl (lv_at hl 0 rfl) ?_
  refine lv_sipush (v := 2100) hx hb dX12_init_95 (by decide) ?_
  refine va_newa (atype := .long) (ty := .long) (a0 := (2100, .inr (.inl (fun _ => 0)))) (N' := 2100) hx hb (hA _ wi_283) rfl hK hP hD hS hAA (fun _ => rfl) (by decide) (by decide) (by decide) (Nat.le_of_ble_eq_true rfl) (Nat.le_of_ble_eq_true rfl) dX12_init_98 (fun q_21 cA_22 H hK hP hD hS => ?_)
  have hP : va_P (dC, dI) vwCl [(h0, .inr (12, [.ref q_1, .ref q_3, .ref q_5, .ref q_7, .ref q_9, .ref q_11, .ref q_13, .ref q_15, .ref q_17, .ref q_19, .null, .null, .int 0, .null, .null, .null, .null, .null, .null, .null, .int 0, .int 0])), (q_1, .inl (cA_2, 2100, .inl (fun _ => 0))), (q_3, .inl (cA_4, 2100, .inl (fun _ => 0))), (q_5, .inl (cA_6, 2100, .inl (fun _ => 0))), (q_7, .inl (cA_8, 2100, .inl (fun _ => 0))), (q_9, .inl (cA_10, 2100, .inl (fun _ => 0))), (q_11, .inl (cA_12, 2100, .inl (fun _ => 0))), (q_13, .inl (cA_14, 2100, .inl (fun _ => 0))), (q_15, .inl (cA_16, 2100, .inl (fun _ => 0))), (q_17, .inl (cA_18, 2100, .inl (fun _ => 0))), (q_19, .inl (cA_20, 2100, .inl (fun _ => 0))), (q_21, .inl (cA_22, 2100, .inr (.inl (fun _ => 0))))] H := hP
  have hD : va_D A [(h0, .inr (12, [.ref q_1, .ref q_3, .ref q_5, .ref q_7, .ref q_9, .ref q_11, .ref q_13, .ref q_15, .ref q_17, .ref q_19, .null, .null, .int 0, .null, .null, .null, .null, .null, .null, .null, .int 0, .int 0])), (q_1, .inl (cA_2, 2100, .inl (fun _ => 0))), (q_3, .inl (cA_4, 2100, .inl (fun _ => 0))), (q_5, .inl (cA_6, 2100, .inl (fun _ => 0))), (q_7, .inl (cA_8, 2100, .inl (fun _ => 0))), (q_9, .inl (cA_10, 2100, .inl (fun _ => 0))), (q_11, .inl (cA_12, 2100, .inl (fun _ => 0))), (q_13, .inl (cA_14, 2100, .inl (fun _ => 0))), (q_15, .inl (cA_16, 2100, .inl (fun _ => 0))), (q_17, .inl (cA_18, 2100, .inl (fun _ => 0))), (q_19, .inl (cA_20, 2100, .inl (fun _ => 0))), (q_21, .inl (cA_22, 2100, .inr (.inl (fun _ => 0))))] := hD
  have hK : va_K (dC, dI) vwCl [(cA_2, .byte), (cA_4, .int), (cA_6, .int), (cA_8, .int), (cA_10, .int), (cA_12, .int), (cA_14, .int), (cA_16, .int), (cA_18, .int), (cA_20, .int), (cA_22, .long)] s := hK
  refine W.widen (k := 11) (n := 23100) (Nat.le_of_ble_eq_true rfl) (Nat.le_of_ble_eq_true rfl) ?_
  refine va_putF (D := (dC, dI)) (ci := 12) (v := .ref q_21) (ty := .array .long) (C := RX12) (T := TX12) (N := 22) hx hb hA zin_X12 tyX12 tyX12_ok nmX12 hown hK hP hD hS 0 rfl rfl 10 (by decide) (hA _ wi_1431) (fun _ h9 => h9) rfl hin rfl (by decide +kernel) rfl rfl (Nat.le_of_ble_eq_true rfl) dX12_init_100 (fun H locs hP hD hS => ?_)
  have hP : va_P (dC, dI) vwCl [(h0, .inr (12, [.ref q_1, .ref q_3, .ref q_5, .ref q_7, .ref q_9, .ref q_11, .ref q_13, .ref q_15, .ref q_17, .ref q_19, .ref q_21, .null, .int 0, .null, .null, .null, .null, .null, .null, .null, .int 0, .int 0])), (q_1, .inl (cA_2, 2100, .inl (fun _ => 0))), (q_3, .inl (cA_4, 2100, .inl (fun _ => 0))), (q_5, .inl (cA_6, 2100, .inl (fun _ => 0))), (q_7, .inl (cA_8, 2100, .inl (fun _ => 0))), (q_9, .inl (cA_10, 2100, .inl (fun _ => 0))), (q_11, .inl (cA_12, 2100, .inl (fun _ => 0))), (q_13, .inl (cA_14, 2100, .inl (fun _ => 0))), (q_15, .inl (cA_16, 2100, .inl (fun _ => 0))), (q_17, .inl (cA_18, 2100, .inl (fun _ => 0))), (q_19, .inl (cA_20, 2100, .inl (fun _ => 0))), (q_21, .inl (cA_22, 2100, .inr (.inl (fun _ => 0))))] H := hP
  have hD : va_D A [(h0, .inr (12, [.ref q_1, .ref q_3, .ref q_5, .ref q_7, .ref q_9, .ref q_11, .ref q_13, .ref q_15, .ref q_17, .ref q_19, .ref q_21, .null, .int 0, .null, .null, .null, .null, .null, .null, .null, .int 0, .int 0])), (q_1, .inl (cA_2, 2100, .inl (fun _ => 0))), (q_3, .inl (cA_4, 2100, .inl (fun _ => 0))), (q_5, .inl (cA_6, 2100, .inl (fun _ => 0))), (q_7, .inl (cA_8, 2100, .inl (fun _ => 0))), (q_9, .inl (cA_10, 2100, .inl (fun _ => 0))), (q_11, .inl (cA_12, 2100, .inl (fun _ => 0))), (q_13, .inl (cA_14, 2100, .inl (fun _ => 0))), (q_15, .inl (cA_16, 2100, .inl (fun _ => 0))), (q_17, .inl (cA_18, 2100, .inl (fun _ => 0))), (q_19, .inl (cA_20, 2100, .inl (fun _ => 0))), (q_21, .inl (cA_22, 2100, .inr (.inl (fun _ => 0))))] := hD
  refine lv_aload_n hx hb dX12_init_103 rfl (lv_at hl 0 rfl) ?_
  refine lv_sipush (v := 2100) hx hb dX12_init_104 (by decide) ?_
  refine va_newa (atype := .byte) (ty := .byte) (a0 := (2100, .inl (fun _ => 0))) (N' := 2100) hx hb (hA _ wi_219) rfl hK hP hD hS hAA (fun _ => rfl) (by decide) (by decide) (by decide) (Nat.le_of_ble_eq_true rfl) (Nat.le_of_ble_eq_true rfl) dX12_init_107 (fun q_23 cA_24 H hK hP hD hS => ?_)
  have hP : va_P (dC, dI) vwCl [(h0, .inr (12, [.ref q_1, .ref q_3, .ref q_5, .ref q_7, .ref q_9, .ref q_11, .ref q_13, .ref q_15, .ref q_17, .ref q_19, .ref q_21, .null, .int 0, .null, .null, .null, .null, .null, .null, .null, .int 0, .int 0])), (q_1, .inl (cA_2, 2100, .inl (fun _ => 0))), (q_3, .inl (cA_4, 2100, .inl (fun _ => 0))), (q_5, .inl (cA_6, 2100, .inl (fun _ => 0))), (q_7, .inl (cA_8, 2100, .inl (fun _ => 0))), (q_9, .inl (cA_10, 2100, .inl (fun _ => 0))), (q_11, .inl (cA_12, 2100, .inl (fun _ => 0))), (q_13, .inl (cA_14, 2100, .inl (fun _ => 0))), (q_15, .inl (cA_16, 2100, .inl (fun _ => 0))), (q_17, .inl (cA_18, 2100, .inl (fun _ => 0))), (q_19, .inl (cA_20, 2100, .inl (fun _ => 0))), (q_21, .inl (cA_22, 2100, .inr (.inl (fun _ => 0)))), (q_23, .inl (cA_24, 2100, .inl (fun _ => 0)))] H := hP
  have hD : va_D A [(h0, .inr (12, [.ref q_1, .ref q_3, .ref q_5, .ref q_7, .ref q_9, .ref q_11, .ref q_13, .ref q_15, .ref q_17, .ref q_19, .ref q_21, .null, .int 0, .null, .null, .null, .null, .null, .null, .null, .int 0, .int 0])), (q_1, .inl (cA_2, 2100, .inl (fun _ => 0))), (q_3, .inl (cA_4, 2100, .inl (fun _ => 0))), (q_5, .inl (cA_6, 2100, .inl (fun _ => 0))), (q_7, .inl (cA_8, 2100, .inl (fun _ => 0))), (q_9, .inl (cA_10, 2100, .inl (fun _ => 0))), (q_11, .inl (cA_12, 2100, .inl (fun _ => 0))), (q_13, .inl (cA_14, 2100, .inl (fun _ => 0))), (q_15, .inl (cA_16, 2100, .inl (fun _ => 0))), (q_17, .inl (cA_18, 2100, .inl (fun _ => 0))), (q_19, .inl (cA_20, 2100, .inl (fun _ => 0))), (q_21, .inl (cA_22, 2100, .inr (.inl (fun _ => 0)))), (q_23, .inl (cA_24, 2100, .inl (fun _ => 0)))] := hD
  have hK : va_K (dC, dI) vwCl [(cA_2, .byte), (cA_4, .int), (cA_6, .int), (cA_8, .int), (cA_10, .int), (cA_12, .int), (cA_14, .int), (cA_16, .int), (cA_18, .int), (cA_20, .int), (cA_22, .long), (cA_24, .byte)] s := hK
  refine W.widen (k := 12) (n := 25200) (Nat.le_of_ble_eq_true rfl) (Nat.le_of_ble_eq_true rfl) ?_
  refine va_putF (D := (dC, dI)) (ci := 12) (v := .ref q_23) (ty := .array .byte) (C := RX12) (T := TX12) (N := 22) hx hb hA zin_X12 tyX12 tyX12_ok nmX12 hown hK hP hD hS 0 rfl rfl 11 (by decide) (hA _ wi_1433) (fun _ h9 => h9) rfl hin rfl (by decide +kernel) rfl rfl (Nat.le_of_ble_eq_true rfl) dX12_init_109 (fun H locs hP hD hS => ?_)
  have hP : va_P (dC, dI) vwCl [(h0, .inr (12, [.ref q_1, .ref q_3, .ref q_5, .ref q_7, .ref q_9, .ref q_11, .ref q_13, .ref q_15, .ref q_17, .ref q_19, .ref q_21, .ref q_23, .int 0, .null, .null, .null, .null, .null, .null, .null, .int 0, .int 0])), (q_1, .inl (cA_2, 2100, .inl (fun _ => 0))), (q_3, .inl (cA_4, 2100, .inl (fun _ => 0))), (q_5, .inl (cA_6, 2100, .inl (fun _ => 0))), (q_7, .inl (cA_8, 2100, .inl (fun _ => 0))), (q_9, .inl (cA_10, 2100, .inl (fun _ => 0))), (q_11, .inl (cA_12, 2100, .inl (fun _ => 0))), (q_13, .inl (cA_14, 2100, .inl (fun _ => 0))), (q_15, .inl (cA_16, 2100, .inl (fun _ => 0))), (q_17, .inl (cA_18, 2100, .inl (fun _ => 0))), (q_19, .inl (cA_20, 2100, .inl (fun _ => 0))), (q_21, .inl (cA_22, 2100, .inr (.inl (fun _ => 0)))), (q_23, .inl (cA_24, 2100, .inl (fun _ => 0)))] H := hP
  have hD : va_D A [(h0, .inr (12, [.ref q_1, .ref q_3, .ref q_5, .ref q_7, .ref q_9, .ref q_11, .ref q_13, .ref q_15, .ref q_17, .ref q_19, .ref q_21, .ref q_23, .int 0, .null, .null, .null, .null, .null, .null, .null, .int 0, .int 0])), (q_1, .inl (cA_2, 2100, .inl (fun _ => 0))), (q_3, .inl (cA_4, 2100, .inl (fun _ => 0))), (q_5, .inl (cA_6, 2100, .inl (fun _ => 0))), (q_7, .inl (cA_8, 2100, .inl (fun _ => 0))), (q_9, .inl (cA_10, 2100, .inl (fun _ => 0))), (q_11, .inl (cA_12, 2100, .inl (fun _ => 0))), (q_13, .inl (cA_14, 2100, .inl (fun _ => 0))), (q_15, .inl (cA_16, 2100, .inl (fun _ => 0))), (q_17, .inl (cA_18, 2100, .inl (fun _ => 0))), (q_19, .inl (cA_20, 2100, .inl (fun _ => 0))), (q_21, .inl (cA_22, 2100, .inr (.inl (fun _ => 0)))), (q_23, .inl (cA_24, 2100, .inl (fun _ => 0)))] := hD
  refine lv_aload_n hx hb dX12_init_112 rfl (lv_at hl 0 rfl) ?_
  refine lv_bipush (v := 30) hx hb dX12_init_113 (by decide) ?_
  refine va_newa (atype := .long) (ty := .long) (a0 := (30, .inr (.inl (fun _ => 0)))) (N' := 30) hx hb (hA _ wi_283) rfl hK hP hD hS hAA (fun _ => rfl) (by decide) (by decide) (by decide) (Nat.le_of_ble_eq_true rfl) (Nat.le_of_ble_eq_true rfl) dX12_init_115 (fun q_25 cA_26 H hK hP hD hS => ?_)
  have hP : va_P (dC, dI) vwCl [(h0, .inr (12, [.ref q_1, .ref q_3, .ref q_5, .ref q_7, .ref q_9, .ref q_11, .ref q_13, .ref q_15, .ref q_17, .ref q_19, .ref q_21, .ref q_23, .int 0, .null, .null, .null, .null, .null, .null, .null, .int 0, .int 0])), (q_1, .inl (cA_2, 2100, .inl (fun _ => 0))), (q_3, .inl (cA_4, 2100, .inl (fun _ => 0))), (q_5, .inl (cA_6, 2100, .inl (fun _ => 0))), (q_7, .inl (cA_8, 2100, .inl (fun _ => 0))), (q_9, .inl (cA_10, 2100, .inl (fun _ => 0))), (q_11, .inl (cA_12, 2100, .inl (fun _ => 0))), (q_13, .inl (cA_14, 2100, .inl (fun _ => 0))), (q_15, .inl (cA_16, 2100, .inl (fun _ => 0))), (q_17, .inl (cA_18, 2100, .inl (fun _ => 0))), (q_19, .inl (cA_20, 2100, .inl (fun _ => 0))), (q_21, .inl (cA_22, 2100, .inr (.inl (fun _ => 0)))), (q_23, .inl (cA_24, 2100, .inl (fun _ => 0))), (q_25, .inl (cA_26, 30, .inr (.inl (fun _ => 0))))] H := hP
  have hD : va_D A [(h0, .inr (12, [.ref q_1, .ref q_3, .ref q_5, .ref q_7, .ref q_9, .ref q_11, .ref q_13, .ref q_15, .ref q_17, .ref q_19, .ref q_21, .ref q_23, .int 0, .null, .null, .null, .null, .null, .null, .null, .int 0, .int 0])), (q_1, .inl (cA_2, 2100, .inl (fun _ => 0))), (q_3, .inl (cA_4, 2100, .inl (fun _ => 0))), (q_5, .inl (cA_6, 2100, .inl (fun _ => 0))), (q_7, .inl (cA_8, 2100, .inl (fun _ => 0))), (q_9, .inl (cA_10, 2100, .inl (fun _ => 0))), (q_11, .inl (cA_12, 2100, .inl (fun _ => 0))), (q_13, .inl (cA_14, 2100, .inl (fun _ => 0))), (q_15, .inl (cA_16, 2100, .inl (fun _ => 0))), (q_17, .inl (cA_18, 2100, .inl (fun _ => 0))), (q_19, .inl (cA_20, 2100, .inl (fun _ => 0))), (q_21, .inl (cA_22, 2100, .inr (.inl (fun _ => 0)))), (q_23, .inl (cA_24, 2100, .inl (fun _ => 0))), (q_25, .inl (cA_26, 30, .inr (.inl (fun _ => 0))))] := hD
  have hK : va_K (dC, dI) vwCl [(cA_2, .byte), (cA_4, .int), (cA_6, .int), (cA_8, .int), (cA_10, .int), (cA_12, .int), (cA_14, .int), (cA_16, .int), (cA_18, .int), (cA_20, .int), (cA_22, .long), (cA_24, .byte), (cA_26, .long)] s := hK
  refine W.widen (k := 13) (n := 25230) (Nat.le_of_ble_eq_true rfl) (Nat.le_of_ble_eq_true rfl) ?_
  refine va_putF (D := (dC, dI)) (ci := 12) (v := .ref q_25) (ty := .array .long) (C := RX12) (T := TX12) (N := 22) hx hb hA zin_X12 tyX12 tyX12_ok nmX12 hown hK hP hD hS 0 rfl rfl 13 (by decide) (hA _ wi_1436) (fun _ h9 => h9) rfl hin rfl (by decide +kernel) rfl rfl (Nat.le_of_ble_eq_true rfl) dX12_init_117 (fun H locs hP hD hS => ?_)
  have hP : va_P (dC, dI) vwCl [(h0, .inr (12, [.ref q_1, .ref q_3, .ref q_5, .ref q_7, .ref q_9, .ref q_11, .ref q_13, .ref q_15, .ref q_17, .ref q_19, .ref q_21, .ref q_23, .int 0, .ref q_25, .null, .null, .null, .null, .null, .null, .int 0, .int 0])), (q_1, .inl (cA_2, 2100, .inl (fun _ => 0))), (q_3, .inl (cA_4, 2100, .inl (fun _ => 0))), (q_5, .inl (cA_6, 2100, .inl (fun _ => 0))), (q_7, .inl (cA_8, 2100, .inl (fun _ => 0))), (q_9, .inl (cA_10, 2100, .inl (fun _ => 0))), (q_11, .inl (cA_12, 2100, .inl (fun _ => 0))), (q_13, .inl (cA_14, 2100, .inl (fun _ => 0))), (q_15, .inl (cA_16, 2100, .inl (fun _ => 0))), (q_17, .inl (cA_18, 2100, .inl (fun _ => 0))), (q_19, .inl (cA_20, 2100, .inl (fun _ => 0))), (q_21, .inl (cA_22, 2100, .inr (.inl (fun _ => 0)))), (q_23, .inl (cA_24, 2100, .inl (fun _ => 0))), (q_25, .inl (cA_26, 30, .inr (.inl (fun _ => 0))))] H := hP
  have hD : va_D A [(h0, .inr (12, [.ref q_1, .ref q_3, .ref q_5, .ref q_7, .ref q_9, .ref q_11, .ref q_13, .ref q_15, .ref q_17, .ref q_19, .ref q_21, .ref q_23, .int 0, .ref q_25, .null, .null, .null, .null, .null, .null, .int 0, .int 0])), (q_1, .inl (cA_2, 2100, .inl (fun _ => 0))), (q_3, .inl (cA_4, 2100, .inl (fun _ => 0))), (q_5, .inl (cA_6, 2100, .inl (fun _ => 0))), (q_7, .inl (cA_8, 2100, .inl (fun _ => 0))), (q_9, .inl (cA_10, 2100, .inl (fun _ => 0))), (q_11, .inl (cA_12, 2100, .inl (fun _ => 0))), (q_13, .inl (cA_14, 2100, .inl (fun _ => 0))), (q_15, .inl (cA_16, 2100, .inl (fun _ => 0))), (q_17, .inl (cA_18, 2100, .inl (fun _ => 0))), (q_19, .inl (cA_20, 2100, .inl (fun _ => 0))), (q_21, .inl (cA_22, 2100, .inr (.inl (fun _ => 0)))), (q_23, .inl (cA_24, 2100, .inl (fun _ => 0))), (q_25, .inl (cA_26, 30, .inr (.inl (fun _ => 0))))] := hD
  refine lv_aload_n hx hb dX12_init_120 rfl (lv_at hl 0 rfl) ?_
  refine lv_bipush (v := 20) hx hb dX12_init_121 (by decide) ?_
  refine va_newa (atype := .long) (ty := .long) (a0 := (20, .inr (.inl (fun _ => 0)))) (N' := 20) hx hb (hA _ wi_283) rfl hK hP hD hS hAA (fun _ => rfl) (by decide) (by decide) (by decide) (Nat.le_of_ble_eq_true rfl) (Nat.le_of_ble_eq_true rfl) dX12_init_123 (fun q_27 cA_28 H hK hP hD hS => ?_)
  have hP : va_P (dC, dI) vwCl [(h0, .inr (12, [.ref q_1, .ref q_3, .ref q_5, .ref q_7, .ref q_9, .ref q_11, .ref q_13, .ref q_15, .ref q_17, .ref q_19, .ref q_21, .ref q_23, .int 0, .ref q_25, .null, .null, .null, .null, .null, .null, .int 0, .int 0])), (q_1, .inl (cA_2, 2100, .inl (fun _ => 0))), (q_3, .inl (cA_4, 2100, .inl (fun _ => 0))), (q_5, .inl (cA_6, 2100, .inl (fun _ => 0))), (q_7, .inl (cA_8, 2100, .inl (fun _ => 0))), (q_9, .inl (cA_10, 2100, .inl (fun _ => 0))), (q_11, .inl (cA_12, 2100, .inl (fun _ => 0))), (q_13, .inl (cA_14, 2100, .inl (fun _ => 0))), (q_15, .inl (cA_16, 2100, .inl (fun _ => 0))), (q_17, .inl (cA_18, 2100, .inl (fun _ => 0))), (q_19, .inl (cA_20, 2100, .inl (fun _ => 0))), (q_21, .inl (cA_22, 2100, .inr (.inl (fun _ => 0)))), (q_23, .inl (cA_24, 2100, .inl (fun _ => 0))), (q_25, .inl (cA_26, 30, .inr (.inl (fun _ => 0)))), (q_27, .inl (cA_28, 20, .inr (.inl (fun _ => 0))))] H := hP
  have hD : va_D A [(h0, .inr (12, [.ref q_1, .ref q_3, .ref q_5, .ref q_7, .ref q_9, .ref q_11, .ref q_13, .ref q_15, .ref q_17, .ref q_19, .ref q_21, .ref q_23, .int 0, .ref q_25, .null, .null, .null, .null, .null, .null, .int 0, .int 0])), (q_1, .inl (cA_2, 2100, .inl (fun _ => 0))), (q_3, .inl (cA_4, 2100, .inl (fun _ => 0))), (q_5, .inl (cA_6, 2100, .inl (fun _ => 0))), (q_7, .inl (cA_8, 2100, .inl (fun _ => 0))), (q_9, .inl (cA_10, 2100, .inl (fun _ => 0))), (q_11, .inl (cA_12, 2100, .inl (fun _ => 0))), (q_13, .inl (cA_14, 2100, .inl (fun _ => 0))), (q_15, .inl (cA_16, 2100, .inl (fun _ => 0))), (q_17, .inl (cA_18, 2100, .inl (fun _ => 0))), (q_19, .inl (cA_20, 2100, .inl (fun _ => 0))), (q_21, .inl (cA_22, 2100, .inr (.inl (fun _ => 0)))), (q_23, .inl (cA_24, 2100, .inl (fun _ => 0))), (q_25, .inl (cA_26, 30, .inr (.inl (fun _ => 0)))), (q_27, .inl (cA_28, 20, .inr (.inl (fun _ => 0))))] := hD
  have hK : va_K (dC, dI) vwCl [(cA_2, .byte), (cA_4, .int), (cA_6, .int), (cA_8, .int), (cA_10, .int), (cA_12, .int), (cA_14, .int), (cA_16, .int), (cA_18, .int), (cA_20, .int), (cA_22, .long), (cA_24, .byte), (cA_26, .long), (cA_28, .long)] s := hK
  refine W.widen (k := 14) (n := 25250) (Nat.le_of_ble_eq_true rfl) (Nat.le_of_ble_eq_true rfl) ?_
  refine va_putF (D := (dC, dI)) (ci := 12) (v := .ref q_27) (ty := .array .long) (C := RX12) (T := TX12) (N := 22) hx hb hA zin_X12 tyX12 tyX12_ok nmX12 hown hK hP hD hS 0 rfl rfl 14 (by decide) (hA _ wi_1438) (fun _ h9 => h9) rfl hin rfl (by decide +kernel) rfl rfl (Nat.le_of_ble_eq_true rfl) dX12_init_125 (fun H locs hP hD hS => ?_)
  have hP : va_P (dC, dI) vwCl [(h0, .inr (12, [.ref q_1, .ref q_3, .ref q_5, .ref q_7, .ref q_9, .ref q_11, .ref q_13, .ref q_15, .ref q_17, .ref q_19, .ref q_21, .ref q_23, .int 0, .ref q_25, .ref q_27, .null, .null, .null, .null, .null, .int 0, .int 0])), (q_1, .inl (cA_2, 2100, .inl (fun _ => 0))), (q_3, .inl (cA_4, 2100, .inl (fun _ => 0))), (q_5, .inl (cA_6, 2100, .inl (fun _ => 0))), (q_7, .inl (cA_8, 2100, .inl (fun _ => 0))), (q_9, .inl (cA_10, 2100, .inl (fun _ => 0))), (q_11, .inl (cA_12, 2100, .inl (fun _ => 0))), (q_13, .inl (cA_14, 2100, .inl (fun _ => 0))), (q_15, .inl (cA_16, 2100, .inl (fun _ => 0))), (q_17, .inl (cA_18, 2100, .inl (fun _ => 0))), (q_19, .inl (cA_20, 2100, .inl (fun _ => 0))), (q_21, .inl (cA_22, 2100, .inr (.inl (fun _ => 0)))), (q_23, .inl (cA_24, 2100, .inl (fun _ => 0))), (q_25, .inl (cA_26, 30, .inr (.inl (fun _ => 0)))), (q_27, .inl (cA_28, 20, .inr (.inl (fun _ => 0))))] H := hP
  have hD : va_D A [(h0, .inr (12, [.ref q_1, .ref q_3, .ref q_5, .ref q_7, .ref q_9, .ref q_11, .ref q_13, .ref q_15, .ref q_17, .ref q_19, .ref q_21, .ref q_23, .int 0, .ref q_25, .ref q_27, .null, .null, .null, .null, .null, .int 0, .int 0])), (q_1, .inl (cA_2, 2100, .inl (fun _ => 0))), (q_3, .inl (cA_4, 2100, .inl (fun _ => 0))), (q_5, .inl (cA_6, 2100, .inl (fun _ => 0))), (q_7, .inl (cA_8, 2100, .inl (fun _ => 0))), (q_9, .inl (cA_10, 2100, .inl (fun _ => 0))), (q_11, .inl (cA_12, 2100, .inl (fun _ => 0))), (q_13, .inl (cA_14, 2100, .inl (fun _ => 0))), (q_15, .inl (cA_16, 2100, .inl (fun _ => 0))), (q_17, .inl (cA_18, 2100, .inl (fun _ => 0))), (q_19, .inl (cA_20, 2100, .inl (fun _ => 0))), (q_21, .inl (cA_22, 2100, .inr (.inl (fun _ => 0)))), (q_23, .inl (cA_24, 2100, .inl (fun _ => 0))), (q_25, .inl (cA_26, 30, .inr (.inl (fun _ => 0)))), (q_27, .inl (cA_28, 20, .inr (.inl (fun _ => 0))))] := hD
  refine lv_aload_n hx hb dX12_init_128 rfl (lv_at hl 0 rfl) ?_
  refine lv_bipush (v := 30) hx hb dX12_init_129 (by decide) ?_
  refine va_newa (atype := .int) (ty := .int) (a0 := (30, .inl (fun _ => 0))) (N' := 30) hx hb (hA _ wi_220) rfl hK hP hD hS hAA (fun _ => rfl) (by decide) (by decide) (by decide) (Nat.le_of_ble_eq_true rfl) (Nat.le_of_ble_eq_true rfl) dX12_init_131 (fun q_29 cA_30 H hK hP hD hS => ?_)
  have hP : va_P (dC, dI) vwCl [(h0, .inr (12, [.ref q_1, .ref q_3, .ref q_5, .ref q_7, .ref q_9, .ref q_11, .ref q_13, .ref q_15, .ref q_17, .ref q_19, .ref q_21, .ref q_23, .int 0, .ref q_25, .ref q_27, .null, .null, .null, .null, .null, .int 0, .int 0])), (q_1, .inl (cA_2, 2100, .inl (fun _ => 0))), (q_3, .inl (cA_4, 2100, .inl (fun _ => 0))), (q_5, .inl (cA_6, 2100, .inl (fun _ => 0))), (q_7, .inl (cA_8, 2100, .inl (fun _ => 0))), (q_9, .inl (cA_10, 2100, .inl (fun _ => 0))), (q_11, .inl (cA_12, 2100, .inl (fun _ => 0))), (q_13, .inl (cA_14, 2100, .inl (fun _ => 0))), (q_15, .inl (cA_16, 2100, .inl (fun _ => 0))), (q_17, .inl (cA_18, 2100, .inl (fun _ => 0))), (q_19, .inl (cA_20, 2100, .inl (fun _ => 0))), (q_21, .inl (cA_22, 2100, .inr (.inl (fun _ => 0)))), (q_23, .inl (cA_24, 2100, .inl (fun _ => 0))), (q_25, .inl (cA_26, 30, .inr (.inl (fun _ => 0)))), (q_27, .inl (cA_28, 20, .inr (.inl (fun _ => 0)))), (q_29, .inl (cA_30, 30, .inl (fun _ => 0)))] H := hP
  have hD : va_D A [(h0, .inr (12, [.ref q_1, .ref q_3, .ref q_5, .ref q_7, .ref q_9, .ref q_11, .ref q_13, .ref q_15, .ref q_17, .ref q_19, .ref q_21, .ref q_23, .int 0, .ref q_25, .ref q_27, .null, .null, .null, .null, .null, .int 0, .int 0])), (q_1, .inl (cA_2, 2100, .inl (fun _ => 0))), (q_3, .inl (cA_4, 2100, .inl (fun _ => 0))), (q_5, .inl (cA_6, 2100, .inl (fun _ => 0))), (q_7, .inl (cA_8, 2100, .inl (fun _ => 0))), (q_9, .inl (cA_10, 2100, .inl (fun _ => 0))), (q_11, .inl (cA_12, 2100, .inl (fun _ => 0))), (q_13, .inl (cA_14, 2100, .inl (fun _ => 0))), (q_15, .inl (cA_16, 2100, .inl (fun _ => 0))), (q_17, .inl (cA_18, 2100, .inl (fun _ => 0))), (q_19, .inl (cA_20, 2100, .inl (fun _ => 0))), (q_21, .inl (cA_22, 2100, .inr (.inl (fun _ => 0)))), (q_23, .inl (cA_24, 2100, .inl (fun _ => 0))), (q_25, .inl (cA_26, 30, .inr (.inl (fun _ => 0)))), (q_27, .inl (cA_28, 20, .inr (.inl (fun _ => 0)))), (q_29, .inl (cA_30, 30, .inl (fun _ => 0)))] := hD
  have hK : va_K (dC, dI) vwCl [(cA_2, .byte), (cA_4, .int), (cA_6, .int), (cA_8, .int), (cA_10, .int), (cA_12, .int), (cA_14, .int), (cA_16, .int), (cA_18, .int), (cA_20, .int), (cA_22, .long), (cA_24, .byte), (cA_26, .long), (cA_28, .long), (cA_30, .int)] s := hK
  refine W.widen (k := 15) (n := 25280) (Nat.le_of_ble_eq_true rfl) (Nat.le_of_ble_eq_true rfl) ?_
  refine va_putF (D := (dC, dI)) (ci := 12) (v := .ref q_29) (ty := .array .int) (C := RX12) (T := TX12) (N := 22) hx hb hA zin_X12 tyX12 tyX12_ok nmX12 hown hK hP hD hS 0 rfl rfl 15 (by decide) (hA _ wi_1440) (fun _ h9 => h9) rfl hin rfl (by decide +kernel) rfl rfl (Nat.le_of_ble_eq_true rfl) dX12_init_133 (fun H locs hP hD hS => ?_)
  have hP : va_P (dC, dI) vwCl [(h0, .inr (12, [.ref q_1, .ref q_3, .ref q_5, .ref q_7, .ref q_9, .ref q_11, .ref q_13, .ref q_15, .ref q_17, .ref q_19, .ref q_21, .ref q_23, .int 0, .ref q_25, .ref q_27, .ref q_29, .null, .null, .null, .null, .int 0, .int 0])), (q_1, .inl (cA_2, 2100, .inl (fun _ => 0))), (q_3, .inl (cA_4, 2100, .inl (fun _ => 0))), (q_5, .inl (cA_6, 2100, .inl (fun _ => 0))), (q_7, .inl (cA_8, 2100, .inl (fun _ => 0))), (q_9, .inl (cA_10, 2100, .inl (fun _ => 0))), (q_11, .inl (cA_12, 2100, .inl (fun _ => 0))), (q_13, .inl (cA_14, 2100, .inl (fun _ => 0))), (q_15, .inl (cA_16, 2100, .inl (fun _ => 0))), (q_17, .inl (cA_18, 2100, .inl (fun _ => 0))), (q_19, .inl (cA_20, 2100, .inl (fun _ => 0))), (q_21, .inl (cA_22, 2100, .inr (.inl (fun _ => 0)))), (q_23, .inl (cA_24, 2100, .inl (fun _ => 0))), (q_25, .inl (cA_26, 30, .inr (.inl (fun _ => 0)))), (q_27, .inl (cA_28, 20, .inr (.inl (fun _ => 0)))), (q_29, .inl (cA_30, 30, .inl (fun _ => 0)))] H := hP
  have hD : va_D A [(h0, .inr (12, [.ref q_1, .ref q_3, .ref q_5, .ref q_7, .ref q_9, .ref q_11, .ref q_13, .ref q_15, .ref q_17, .ref q_19, .ref q_21, .ref q_23, .int 0, .ref q_25, .ref q_27, .ref q_29, .null, .null, .null, .null, .int 0, .int 0])), (q_1, .inl (cA_2, 2100, .inl (fun _ => 0))), (q_3, .inl (cA_4, 2100, .inl (fun _ => 0))), (q_5, .inl (cA_6, 2100, .inl (fun _ => 0))), (q_7, .inl (cA_8, 2100, .inl (fun _ => 0))), (q_9, .inl (cA_10, 2100, .inl (fun _ => 0))), (q_11, .inl (cA_12, 2100, .inl (fun _ => 0))), (q_13, .inl (cA_14, 2100, .inl (fun _ => 0))), (q_15, .inl (cA_16, 2100, .inl (fun _ => 0))), (q_17, .inl (cA_18, 2100, .inl (fun _ => 0))), (q_19, .inl (cA_20, 2100, .inl (fun _ => 0))), (q_21, .inl (cA_22, 2100, .inr (.inl (fun _ => 0)))), (q_23, .inl (cA_24, 2100, .inl (fun _ => 0))), (q_25, .inl (cA_26, 30, .inr (.inl (fun _ => 0)))), (q_27, .inl (cA_28, 20, .inr (.inl (fun _ => 0)))), (q_29, .inl (cA_30, 30, .inl (fun _ => 0)))] := hD
  refine lv_aload_n hx hb dX12_init_136 rfl (lv_at hl 0 rfl) ?_
  refine lv_bipush (v := 30) hx hb dX12_init_137 (by decide) ?_
  refine va_newa (atype := .int) (ty := .int) (a0 := (30, .inl (fun _ => 0))) (N' := 30) hx hb (hA _ wi_220) rfl hK hP hD hS hAA (fun _ => rfl) (by decide) (by decide) (by decide) (Nat.le_of_ble_eq_true rfl) (Nat.le_of_ble_eq_true rfl) dX12_init_139 (fun q_31 cA_32 H hK hP hD hS => ?_)
  have hP : va_P (dC, dI) vwCl [(h0, .inr (12, [.ref q_1, .ref q_3, .ref q_5, .ref q_7, .ref q_9, .ref q_11, .ref q_13, .ref q_15, .ref q_17, .ref q_19, .ref q_21, .ref q_23, .int 0, .ref q_25, .ref q_27, .ref q_29, .null, .null, .null, .null, .int 0, .int 0])), (q_1, .inl (cA_2, 2100, .inl (fun _ => 0))), (q_3, .inl (cA_4, 2100, .inl (fun _ => 0))), (q_5, .inl (cA_6, 2100, .inl (fun _ => 0))), (q_7, .inl (cA_8, 2100, .inl (fun _ => 0))), (q_9, .inl (cA_10, 2100, .inl (fun _ => 0))), (q_11, .inl (cA_12, 2100, .inl (fun _ => 0))), (q_13, .inl (cA_14, 2100, .inl (fun _ => 0))), (q_15, .inl (cA_16, 2100, .inl (fun _ => 0))), (q_17, .inl (cA_18, 2100, .inl (fun _ => 0))), (q_19, .inl (cA_20, 2100, .inl (fun _ => 0))), (q_21, .inl (cA_22, 2100, .inr (.inl (fun _ => 0)))), (q_23, .inl (cA_24, 2100, .inl (fun _ => 0))), (q_25, .inl (cA_26, 30, .inr (.inl (fun _ => 0)))), (q_27, .inl (cA_28, 20, .inr (.inl (fun _ => 0)))), (q_29, .inl (cA_30, 30, .inl (fun _ => 0))), (q_31, .inl (cA_32, 30, .inl (fun _ => 0)))] H := hP
  have hD : va_D A [(h0, .inr (12, [.ref q_1, .ref q_3, .ref q_5, .ref q_7, .ref q_9, .ref q_11, .ref q_13, .ref q_15, .ref q_17, .ref q_19, .ref q_21, .ref q_23, .int 0, .ref q_25, .ref q_27, .ref q_29, .null, .null, .null, .null, .int 0, .int 0])), (q_1, .inl (cA_2, 2100, .inl (fun _ => 0))), (q_3, .inl (cA_4, 2100, .inl (fun _ => 0))), (q_5, .inl (cA_6, 2100, .inl (fun _ => 0))), (q_7, .inl (cA_8, 2100, .inl (fun _ => 0))), (q_9, .inl (cA_10, 2100, .inl (fun _ => 0))), (q_11, .inl (cA_12, 2100, .inl (fun _ => 0))), (q_13, .inl (cA_14, 2100, .inl (fun _ => 0))), (q_15, .inl (cA_16, 2100, .inl (fun _ => 0))), (q_17, .inl (cA_18, 2100, .inl (fun _ => 0))), (q_19, .inl (cA_20, 2100, .inl (fun _ => 0))), (q_21, .inl (cA_22, 2100, .inr (.inl (fun _ => 0)))), (q_23, .inl (cA_24, 2100, .inl (fun _ => 0))), (q_25, .inl (cA_26, 30, .inr (.inl (fun _ => 0)))), (q_27, .inl (cA_28, 20, .inr (.inl (fun _ => 0)))), (q_29, .inl (cA_30, 30, .inl (fun _ => 0))), (q_31, .inl (cA_32, 30, .inl (fun _ => 0)))] := hD
  have hK : va_K (dC, dI) vwCl [(cA_2, .byte), (cA_4, .int), (cA_6, .int), (cA_8, .int), (cA_10, .int), (cA_12, .int), (cA_14, .int), (cA_16, .int), (cA_18, .int), (cA_20, .int), (cA_22, .long), (cA_24, .byte), (cA_26, .long), (cA_28, .long), (cA_30, .int), (cA_32, .int)] s := hK
  refine W.widen (k := 16) (n := 25310) (Nat.le_of_ble_eq_true rfl) (Nat.le_of_ble_eq_true rfl) ?_
  refine va_putF (D := (dC, dI)) (ci := 12) (v := .ref q_31) (ty := .array .int) (C := RX12) (T := TX12) (N := 22) hx hb hA zin_X12 tyX12 tyX12_ok nmX12 hown hK hP hD hS 0 rfl rfl 16 (by decide) (hA _ wi_1442) (fun _ h9 => h9) rfl hin rfl (by decide +kernel) rfl rfl (Nat.le_of_ble_eq_true rfl) dX12_init_141 (fun H locs hP hD hS => ?_)
  have hP : va_P (dC, dI) vwCl [(h0, .inr (12, [.ref q_1, .ref q_3, .ref q_5, .ref q_7, .ref q_9, .ref q_11, .ref q_13, .ref q_15, .ref q_17, .ref q_19, .ref q_21, .ref q_23, .int 0, .ref q_25, .ref q_27, .ref q_29, .ref q_31, .null, .null, .null, .int 0, .int 0])), (q_1, .inl (cA_2, 2100, .inl (fun _ => 0))), (q_3, .inl (cA_4, 2100, .inl (fun _ => 0))), (q_5, .inl (cA_6, 2100, .inl (fun _ => 0))), (q_7, .inl (cA_8, 2100, .inl (fun _ => 0))), (q_9, .inl (cA_10, 2100, .inl (fun _ => 0))), (q_11, .inl (cA_12, 2100, .inl (fun _ => 0))), (q_13, .inl (cA_14, 2100, .inl (fun _ => 0))), (q_15, .inl (cA_16, 2100, .inl (fun _ => 0))), (q_17, .inl (cA_18, 2100, .inl (fun _ => 0))), (q_19, .inl (cA_20, 2100, .inl (fun _ => 0))), (q_21, .inl (cA_22, 2100, .inr (.inl (fun _ => 0)))), (q_23, .inl (cA_24, 2100, .inl (fun _ => 0))), (q_25, .inl (cA_26, 30, .inr (.inl (fun _ => 0)))), (q_27, .inl (cA_28, 20, .inr (.inl (fun _ => 0)))), (q_29, .inl (cA_30, 30, .inl (fun _ => 0))), (q_31, .inl (cA_32, 30, .inl (fun _ => 0)))] H := hP
  have hD : va_D A [(h0, .inr (12, [.ref q_1, .ref q_3, .ref q_5, .ref q_7, .ref q_9, .ref q_11, .ref q_13, .ref q_15, .ref q_17, .ref q_19, .ref q_21, .ref q_23, .int 0, .ref q_25, .ref q_27, .ref q_29, .ref q_31, .null, .null, .null, .int 0, .int 0])), (q_1, .inl (cA_2, 2100, .inl (fun _ => 0))), (q_3, .inl (cA_4, 2100, .inl (fun _ => 0))), (q_5, .inl (cA_6, 2100, .inl (fun _ => 0))), (q_7, .inl (cA_8, 2100, .inl (fun _ => 0))), (q_9, .inl (cA_10, 2100, .inl (fun _ => 0))), (q_11, .inl (cA_12, 2100, .inl (fun _ => 0))), (q_13, .inl (cA_14, 2100, .inl (fun _ => 0))), (q_15, .inl (cA_16, 2100, .inl (fun _ => 0))), (q_17, .inl (cA_18, 2100, .inl (fun _ => 0))), (q_19, .inl (cA_20, 2100, .inl (fun _ => 0))), (q_21, .inl (cA_22, 2100, .inr (.inl (fun _ => 0)))), (q_23, .inl (cA_24, 2100, .inl (fun _ => 0))), (q_25, .inl (cA_26, 30, .inr (.inl (fun _ => 0)))), (q_27, .inl (cA_28, 20, .inr (.inl (fun _ => 0)))), (q_29, .inl (cA_30, 30, .inl (fun _ => 0))), (q_31, .inl (cA_32, 30, .inl (fun _ => 0)))] := hD
  refine lv_aload_n hx hb dX12_init_144 rfl (lv_at hl 0 rfl) ?_
  refine lv_bipush (v := 30) hx hb dX12_init_145 (by decide) ?_
  refine va_newa (atype := .int) (ty := .int) (a0 := (30, .inl (fun _ => 0))) (N' := 30) hx hb (hA _ wi_220) rfl hK hP hD hS hAA (fun _ => rfl) (by decide) (by decide) (by decide) (Nat.le_of_ble_eq_true rfl) (Nat.le_of_ble_eq_true rfl) dX12_init_147 (fun q_33 cA_34 H hK hP hD hS => ?_)
  have hP : va_P (dC, dI) vwCl [(h0, .inr (12, [.ref q_1, .ref q_3, .ref q_5, .ref q_7, .ref q_9, .ref q_11, .ref q_13, .ref q_15, .ref q_17, .ref q_19, .ref q_21, .ref q_23, .int 0, .ref q_25, .ref q_27, .ref q_29, .ref q_31, .null, .null, .null, .int 0, .int 0])), (q_1, .inl (cA_2, 2100, .inl (fun _ => 0))), (q_3, .inl (cA_4, 2100, .inl (fun _ => 0))), (q_5, .inl (cA_6, 2100, .inl (fun _ => 0))), (q_7, .inl (cA_8, 2100, .inl (fun _ => 0))), (q_9, .inl (cA_10, 2100, .inl (fun _ => 0))), (q_11, .inl (cA_12, 2100, .inl (fun _ => 0))), (q_13, .inl (cA_14, 2100, .inl (fun _ => 0))), (q_15, .inl (cA_16, 2100, .inl (fun _ => 0))), (q_17, .inl (cA_18, 2100, .inl (fun _ => 0))), (q_19, .inl (cA_20, 2100, .inl (fun _ => 0))), (q_21, .inl (cA_22, 2100, .inr (.inl (fun _ => 0)))), (q_23, .inl (cA_24, 2100, .inl (fun _ => 0))), (q_25, .inl (cA_26, 30, .inr (.inl (fun _ => 0)))), (q_27, .inl (cA_28, 20, .inr (.inl (fun _ => 0)))), (q_29, .inl (cA_30, 30, .inl (fun _ => 0))), (q_31, .inl (cA_32, 30, .inl (fun _ => 0))), (q_33, .inl (cA_34, 30, .inl (fun _ => 0)))] H := hP
  have hD : va_D A [(h0, .inr (12, [.ref q_1, .ref q_3, .ref q_5, .ref q_7, .ref q_9, .ref q_11, .ref q_13, .ref q_15, .ref q_17, .ref q_19, .ref q_21, .ref q_23, .int 0, .ref q_25, .ref q_27, .ref q_29, .ref q_31, .null, .null, .null, .int 0, .int 0])), (q_1, .inl (cA_2, 2100, .inl (fun _ => 0))), (q_3, .inl (cA_4, 2100, .inl (fun _ => 0))), (q_5, .inl (cA_6, 2100, .inl (fun _ => 0))), (q_7, .inl (cA_8, 2100, .inl (fun _ => 0))), (q_9, .inl (cA_10, 2100, .inl (fun _ => 0))), (q_11, .inl (cA_12, 2100, .inl (fun _ => 0))), (q_13, .inl (cA_14, 2100, .inl (fun _ => 0))), (q_15, .inl (cA_16, 2100, .inl (fun _ => 0))), (q_17, .inl (cA_18, 2100, .inl (fun _ => 0))), (q_19, .inl (cA_20, 2100, .inl (fun _ => 0))), (q_21, .inl (cA_22, 2100, .inr (.inl (fun _ => 0)))), (q_23, .inl (cA_24, 2100, .inl (fun _ => 0))), (q_25, .inl (cA_26, 30, .inr (.inl (fun _ => 0)))), (q_27, .inl (cA_28, 20, .inr (.inl (fun _ => 0)))), (q_29, .inl (cA_30, 30, .inl (fun _ => 0))), (q_31, .inl (cA_32, 30, .inl (fun _ => 0))), (q_33, .inl (cA_34, 30, .inl (fun _ => 0)))] := hD
  have hK : va_K (dC, dI) vwCl [(cA_2, .byte), (cA_4, .int), (cA_6, .int), (cA_8, .int), (cA_10, .int), (cA_12, .int), (cA_14, .int), (cA_16, .int), (cA_18, .int), (cA_20, .int), (cA_22, .long), (cA_24, .byte), (cA_26, .long), (cA_28, .long), (cA_30, .int), (cA_32, .int), (cA_34, .int)] s := hK
  refine W.widen (k := 17) (n := 25340) (Nat.le_of_ble_eq_true rfl) (Nat.le_of_ble_eq_true rfl) ?_
  refine va_putF (D := (dC, dI)) (ci := 12) (v := .ref q_33) (ty := .array .int) (C := RX12) (T := TX12) (N := 22) hx hb hA zin_X12 tyX12 tyX12_ok nmX12 hown hK hP hD hS 0 rfl rfl 17 (by decide) (hA _ wi_1444) (fun _ h9 => h9) rfl hin rfl (by decide +kernel) rfl rfl (Nat.le_of_ble_eq_true rfl) dX12_init_149 (fun H locs hP hD hS => ?_)
  have hP : va_P (dC, dI) vwCl [(h0, .inr (12, [.ref q_1, .ref q_3, .ref q_5, .ref q_7, .ref q_9, .ref q_11, .ref q_13, .ref q_15, .ref q_17, .ref q_19, .ref q_21, .ref q_23, .int 0, .ref q_25, .ref q_27, .ref q_29, .ref q_31, .ref q_33, .null, .null, .int 0, .int 0])), (q_1, .inl (cA_2, 2100, .inl (fun _ => 0))), (q_3, .inl (cA_4, 2100, .inl (fun _ => 0))), (q_5, .inl (cA_6, 2100, .inl (fun _ => 0))), (q_7, .inl (cA_8, 2100, .inl (fun _ => 0))), (q_9, .inl (cA_10, 2100, .inl (fun _ => 0))), (q_11, .inl (cA_12, 2100, .inl (fun _ => 0))), (q_13, .inl (cA_14, 2100, .inl (fun _ => 0))), (q_15, .inl (cA_16, 2100, .inl (fun _ => 0))), (q_17, .inl (cA_18, 2100, .inl (fun _ => 0))), (q_19, .inl (cA_20, 2100, .inl (fun _ => 0))), (q_21, .inl (cA_22, 2100, .inr (.inl (fun _ => 0)))), (q_23, .inl (cA_24, 2100, .inl (fun _ => 0))), (q_25, .inl (cA_26, 30, .inr (.inl (fun _ => 0)))), (q_27, .inl (cA_28, 20, .inr (.inl (fun _ => 0)))), (q_29, .inl (cA_30, 30, .inl (fun _ => 0))), (q_31, .inl (cA_32, 30, .inl (fun _ => 0))), (q_33, .inl (cA_34, 30, .inl (fun _ => 0)))] H := hP
  have hD : va_D A [(h0, .inr (12, [.ref q_1, .ref q_3, .ref q_5, .ref q_7, .ref q_9, .ref q_11, .ref q_13, .ref q_15, .ref q_17, .ref q_19, .ref q_21, .ref q_23, .int 0, .ref q_25, .ref q_27, .ref q_29, .ref q_31, .ref q_33, .null, .null, .int 0, .int 0])), (q_1, .inl (cA_2, 2100, .inl (fun _ => 0))), (q_3, .inl (cA_4, 2100, .inl (fun _ => 0))), (q_5, .inl (cA_6, 2100, .inl (fun _ => 0))), (q_7, .inl (cA_8, 2100, .inl (fun _ => 0))), (q_9, .inl (cA_10, 2100, .inl (fun _ => 0))), (q_11, .inl (cA_12, 2100, .inl (fun _ => 0))), (q_13, .inl (cA_14, 2100, .inl (fun _ => 0))), (q_15, .inl (cA_16, 2100, .inl (fun _ => 0))), (q_17, .inl (cA_18, 2100, .inl (fun _ => 0))), (q_19, .inl (cA_20, 2100, .inl (fun _ => 0))), (q_21, .inl (cA_22, 2100, .inr (.inl (fun _ => 0)))), (q_23, .inl (cA_24, 2100, .inl (fun _ => 0))), (q_25, .inl (cA_26, 30, .inr (.inl (fun _ => 0)))), (q_27, .inl (cA_28, 20, .inr (.inl (fun _ => 0)))), (q_29, .inl (cA_30, 30, .inl (fun _ => 0))), (q_31, .inl (cA_32, 30, .inl (fun _ => 0))), (q_33, .inl (cA_34, 30, .inl (fun _ => 0)))] := hD
  refine lv_aload_n hx hb dX12_init_152 rfl (lv_at hl 0 rfl) ?_
  refine lv_bipush (v := 30) hx hb dX12_init_153 (by decide) ?_
  refine va_newa (atype := .int) (ty := .int) (a0 := (30, .inl (fun _ => 0))) (N' := 30) hx hb (hA _ wi_220) rfl hK hP hD hS hAA (fun _ => rfl) (by decide) (by decide) (by decide) (Nat.le_of_ble_eq_true rfl) (Nat.le_of_ble_eq_true rfl) dX12_init_155 (fun q_35 cA_36 H hK hP hD hS => ?_)
  have hP : va_P (dC, dI) vwCl [(h0, .inr (12, [.ref q_1, .ref q_3, .ref q_5, .ref q_7, .ref q_9, .ref q_11, .ref q_13, .ref q_15, .ref q_17, .ref q_19, .ref q_21, .ref q_23, .int 0, .ref q_25, .ref q_27, .ref q_29, .ref q_31, .ref q_33, .null, .null, .int 0, .int 0])), (q_1, .inl (cA_2, 2100, .inl (fun _ => 0))), (q_3, .inl (cA_4, 2100, .inl (fun _ => 0))), (q_5, .inl (cA_6, 2100, .inl (fun _ => 0))), (q_7, .inl (cA_8, 2100, .inl (fun _ => 0))), (q_9, .inl (cA_10, 2100, .inl (fun _ => 0))), (q_11, .inl (cA_12, 2100, .inl (fun _ => 0))), (q_13, .inl (cA_14, 2100, .inl (fun _ => 0))), (q_15, .inl (cA_16, 2100, .inl (fun _ => 0))), (q_17, .inl (cA_18, 2100, .inl (fun _ => 0))), (q_19, .inl (cA_20, 2100, .inl (fun _ => 0))), (q_21, .inl (cA_22, 2100, .inr (.inl (fun _ => 0)))), (q_23, .inl (cA_24, 2100, .inl (fun _ => 0))), (q_25, .inl (cA_26, 30, .inr (.inl (fun _ => 0)))), (q_27, .inl (cA_28, 20, .inr (.inl (fun _ => 0)))), (q_29, .inl (cA_30, 30, .inl (fun _ => 0))), (q_31, .inl (cA_32, 30, .inl (fun _ => 0))), (q_33, .inl (cA_34, 30, .inl (fun _ => 0))), (q_35, .inl (cA_36, 30, .inl (fun _ => 0)))] H := hP
  have hD : va_D A [(h0, .inr (12, [.ref q_1, .ref q_3, .ref q_5, .ref q_7, .ref q_9, .ref q_11, .ref q_13, .ref q_15, .ref q_17, .ref q_19, .ref q_21, .ref q_23, .int 0, .ref q_25, .ref q_27, .ref q_29, .ref q_31, .ref q_33, .null, .null, .int 0, .int 0])), (q_1, .inl (cA_2, 2100, .inl (fun _ => 0))), (q_3, .inl (cA_4, 2100, .inl (fun _ => 0))), (q_5, .inl (cA_6, 2100, .inl (fun _ => 0))), (q_7, .inl (cA_8, 2100, .inl (fun _ => 0))), (q_9, .inl (cA_10, 2100, .inl (fun _ => 0))), (q_11, .inl (cA_12, 2100, .inl (fun _ => 0))), (q_13, .inl (cA_14, 2100, .inl (fun _ => 0))), (q_15, .inl (cA_16, 2100, .inl (fun _ => 0))), (q_17, .inl (cA_18, 2100, .inl (fun _ => 0))), (q_19, .inl (cA_20, 2100, .inl (fun _ => 0))), (q_21, .inl (cA_22, 2100, .inr (.inl (fun _ => 0)))), (q_23, .inl (cA_24, 2100, .inl (fun _ => 0))), (q_25, .inl (cA_26, 30, .inr (.inl (fun _ => 0)))), (q_27, .inl (cA_28, 20, .inr (.inl (fun _ => 0)))), (q_29, .inl (cA_30, 30, .inl (fun _ => 0))), (q_31, .inl (cA_32, 30, .inl (fun _ => 0))), (q_33, .inl (cA_34, 30, .inl (fun _ => 0))), (q_35, .inl (cA_36, 30, .inl (fun _ => 0)))] := hD
  have hK : va_K (dC, dI) vwCl [(cA_2, .byte), (cA_4, .int), (cA_6, .int), (cA_8, .int), (cA_10, .int), (cA_12, .int), (cA_14, .int), (cA_16, .int), (cA_18, .int), (cA_20, .int), (cA_22, .long), (cA_24, .byte), (cA_26, .long), (cA_28, .long), (cA_30, .int), (cA_32, .int), (cA_34, .int), (cA_36, .int)] s := hK
  refine W.widen (k := 18) (n := 25370) (Nat.le_of_ble_eq_true rfl) (Nat.le_of_ble_eq_true rfl) ?_
  refine va_putF (D := (dC, dI)) (ci := 12) (v := .ref q_35) (ty := .array .int) (C := RX12) (T := TX12) (N := 22) hx hb hA zin_X12 tyX12 tyX12_ok nmX12 hown hK hP hD hS 0 rfl rfl 18 (by decide) (hA _ wi_1446) (fun _ h9 => h9) rfl hin rfl (by decide +kernel) rfl rfl (Nat.le_of_ble_eq_true rfl) dX12_init_157 (fun H locs hP hD hS => ?_)
  have hP : va_P (dC, dI) vwCl [(h0, .inr (12, [.ref q_1, .ref q_3, .ref q_5, .ref q_7, .ref q_9, .ref q_11, .ref q_13, .ref q_15, .ref q_17, .ref q_19, .ref q_21, .ref q_23, .int 0, .ref q_25, .ref q_27, .ref q_29, .ref q_31, .ref q_33, .ref q_35, .null, .int 0, .int 0])), (q_1, .inl (cA_2, 2100, .inl (fun _ => 0))), (q_3, .inl (cA_4, 2100, .inl (fun _ => 0))), (q_5, .inl (cA_6, 2100, .inl (fun _ => 0))), (q_7, .inl (cA_8, 2100, .inl (fun _ => 0))), (q_9, .inl (cA_10, 2100, .inl (fun _ => 0))), (q_11, .inl (cA_12, 2100, .inl (fun _ => 0))), (q_13, .inl (cA_14, 2100, .inl (fun _ => 0))), (q_15, .inl (cA_16, 2100, .inl (fun _ => 0))), (q_17, .inl (cA_18, 2100, .inl (fun _ => 0))), (q_19, .inl (cA_20, 2100, .inl (fun _ => 0))), (q_21, .inl (cA_22, 2100, .inr (.inl (fun _ => 0)))), (q_23, .inl (cA_24, 2100, .inl (fun _ => 0))), (q_25, .inl (cA_26, 30, .inr (.inl (fun _ => 0)))), (q_27, .inl (cA_28, 20, .inr (.inl (fun _ => 0)))), (q_29, .inl (cA_30, 30, .inl (fun _ => 0))), (q_31, .inl (cA_32, 30, .inl (fun _ => 0))), (q_33, .inl (cA_34, 30, .inl (fun _ => 0))), (q_35, .inl (cA_36, 30, .inl (fun _ => 0)))] H := hP
  have hD : va_D A [(h0, .inr (12, [.ref q_1, .ref q_3, .ref q_5, .ref q_7, .ref q_9, .ref q_11, .ref q_13, .ref q_15, .ref q_17, .ref q_19, .ref q_21, .ref q_23, .int 0, .ref q_25, .ref q_27, .ref q_29, .ref q_31, .ref q_33, .ref q_35, .null, .int 0, .int 0])), (q_1, .inl (cA_2, 2100, .inl (fun _ => 0))), (q_3, .inl (cA_4, 2100, .inl (fun _ => 0))), (q_5, .inl (cA_6, 2100, .inl (fun _ => 0))), (q_7, .inl (cA_8, 2100, .inl (fun _ => 0))), (q_9, .inl (cA_10, 2100, .inl (fun _ => 0))), (q_11, .inl (cA_12, 2100, .inl (fun _ => 0))), (q_13, .inl (cA_14, 2100, .inl (fun _ => 0))), (q_15, .inl (cA_16, 2100, .inl (fun _ => 0))), (q_17, .inl (cA_18, 2100, .inl (fun _ => 0))), (q_19, .inl (cA_20, 2100, .inl (fun _ => 0))), (q_21, .inl (cA_22, 2100, .inr (.inl (fun _ => 0)))), (q_23, .inl (cA_24, 2100, .inl (fun _ => 0))), (q_25, .inl (cA_26, 30, .inr (.inl (fun _ => 0)))), (q_27, .inl (cA_28, 20, .inr (.inl (fun _ => 0)))), (q_29, .inl (cA_30, 30, .inl (fun _ => 0))), (q_31, .inl (cA_32, 30, .inl (fun _ => 0))), (q_33, .inl (cA_34, 30, .inl (fun _ => 0))), (q_35, .inl (cA_36, 30, .inl (fun _ => 0)))] := hD
  refine lv_aload_n hx hb dX12_init_160 rfl (lv_at hl 0 rfl) ?_
  refine lv_bipush (v := 20) hx hb dX12_init_161 (by decide) ?_
  refine va_newa (atype := .int) (ty := .int) (a0 := (20, .inl (fun _ => 0))) (N' := 20) hx hb (hA _ wi_220) rfl hK hP hD hS hAA (fun _ => rfl) (by decide) (by decide) (by decide) (Nat.le_of_ble_eq_true rfl) (Nat.le_of_ble_eq_true rfl) dX12_init_163 (fun q_37 cA_38 H hK hP hD hS => ?_)
  have hP : va_P (dC, dI) vwCl [(h0, .inr (12, [.ref q_1, .ref q_3, .ref q_5, .ref q_7, .ref q_9, .ref q_11, .ref q_13, .ref q_15, .ref q_17, .ref q_19, .ref q_21, .ref q_23, .int 0, .ref q_25, .ref q_27, .ref q_29, .ref q_31, .ref q_33, .ref q_35, .null, .int 0, .int 0])), (q_1, .inl (cA_2, 2100, .inl (fun _ => 0))), (q_3, .inl (cA_4, 2100, .inl (fun _ => 0))), (q_5, .inl (cA_6, 2100, .inl (fun _ => 0))), (q_7, .inl (cA_8, 2100, .inl (fun _ => 0))), (q_9, .inl (cA_10, 2100, .inl (fun _ => 0))), (q_11, .inl (cA_12, 2100, .inl (fun _ => 0))), (q_13, .inl (cA_14, 2100, .inl (fun _ => 0))), (q_15, .inl (cA_16, 2100, .inl (fun _ => 0))), (q_17, .inl (cA_18, 2100, .inl (fun _ => 0))), (q_19, .inl (cA_20, 2100, .inl (fun _ => 0))), (q_21, .inl (cA_22, 2100, .inr (.inl (fun _ => 0)))), (q_23, .inl (cA_24, 2100, .inl (fun _ => 0))), (q_25, .inl (cA_26, 30, .inr (.inl (fun _ => 0)))), (q_27, .inl (cA_28, 20, .inr (.inl (fun _ => 0)))), (q_29, .inl (cA_30, 30, .inl (fun _ => 0))), (q_31, .inl (cA_32, 30, .inl (fun _ => 0))), (q_33, .inl (cA_34, 30, .inl (fun _ => 0))), (q_35, .inl (cA_36, 30, .inl (fun _ => 0))), (q_37, .inl (cA_38, 20, .inl (fun _ => 0)))] H := hP
  have hD : va_D A [(h0, .inr (12, [.ref q_1, .ref q_3, .ref q_5, .ref q_7, .ref q_9, .ref q_11, .ref q_13, .ref q_15, .ref q_17, .ref q_19, .ref q_21, .ref q_23, .int 0, .ref q_25, .ref q_27, .ref q_29, .ref q_31, .ref q_33, .ref q_35, .null, .int 0, .int 0])), (q_1, .inl (cA_2, 2100, .inl (fun _ => 0))), (q_3, .inl (cA_4, 2100, .inl (fun _ => 0))), (q_5, .inl (cA_6, 2100, .inl (fun _ => 0))), (q_7, .inl (cA_8, 2100, .inl (fun _ => 0))), (q_9, .inl (cA_10, 2100, .inl (fun _ => 0))), (q_11, .inl (cA_12, 2100, .inl (fun _ => 0))), (q_13, .inl (cA_14, 2100, .inl (fun _ => 0))), (q_15, .inl (cA_16, 2100, .inl (fun _ => 0))), (q_17, .inl (cA_18, 2100, .inl (fun _ => 0))), (q_19, .inl (cA_20, 2100, .inl (fun _ => 0))), (q_21, .inl (cA_22, 2100, .inr (.inl (fun _ => 0)))), (q_23, .inl (cA_24, 2100, .inl (fun _ => 0))), (q_25, .inl (cA_26, 30, .inr (.inl (fun _ => 0)))), (q_27, .inl (cA_28, 20, .inr (.inl (fun _ => 0)))), (q_29, .inl (cA_30, 30, .inl (fun _ => 0))), (q_31, .inl (cA_32, 30, .inl (fun _ => 0))), (q_33, .inl (cA_34, 30, .inl (fun _ => 0))), (q_35, .inl (cA_36, 30, .inl (fun _ => 0))), (q_37, .inl (cA_38, 20, .inl (fun _ => 0)))] := hD
  have hK : va_K (dC, dI) vwCl [(cA_2, .byte), (cA_4, .int), (cA_6, .int), (cA_8, .int), (cA_10, .int), (cA_12, .int), (cA_14, .int), (cA_16, .int), (cA_18, .int), (cA_20, .int), (cA_22, .long), (cA_24, .byte), (cA_26, .long), (cA_28, .long), (cA_30, .int), (cA_32, .int), (cA_34, .int), (cA_36, .int), (cA_38, .int)] s := hK
  refine W.widen (k := 19) (n := 25390) (Nat.le_of_ble_eq_true rfl) (Nat.le_of_ble_eq_true rfl) ?_
  refine va_putF (D := (dC, dI)) (ci := 12) (v := .ref q_37) (ty := .array .int) (C := RX12) (T := TX12) (N := 22) hx hb hA zin_X12 tyX12 tyX12_ok nmX12 hown hK hP hD hS 0 rfl rfl 19 (by decide) (hA _ wi_1448) (fun _ h9 => h9) rfl hin rfl (by decide +kernel) rfl rfl (Nat.le_of_ble_eq_true rfl) dX12_init_165 (fun H locs hP hD hS => ?_)
  have hP : va_P (dC, dI) vwCl [(h0, .inr (12, [.ref q_1, .ref q_3, .ref q_5, .ref q_7, .ref q_9, .ref q_11, .ref q_13, .ref q_15, .ref q_17, .ref q_19, .ref q_21, .ref q_23, .int 0, .ref q_25, .ref q_27, .ref q_29, .ref q_31, .ref q_33, .ref q_35, .ref q_37, .int 0, .int 0])), (q_1, .inl (cA_2, 2100, .inl (fun _ => 0))), (q_3, .inl (cA_4, 2100, .inl (fun _ => 0))), (q_5, .inl (cA_6, 2100, .inl (fun _ => 0))), (q_7, .inl (cA_8, 2100, .inl (fun _ => 0))), (q_9, .inl (cA_10, 2100, .inl (fun _ => 0))), (q_11, .inl (cA_12, 2100, .inl (fun _ => 0))), (q_13, .inl (cA_14, 2100, .inl (fun _ => 0))), (q_15, .inl (cA_16, 2100, .inl (fun _ => 0))), (q_17, .inl (cA_18, 2100, .inl (fun _ => 0))), (q_19, .inl (cA_20, 2100, .inl (fun _ => 0))), (q_21, .inl (cA_22, 2100, .inr (.inl (fun _ => 0)))), (q_23, .inl (cA_24, 2100, .inl (fun _ => 0))), (q_25, .inl (cA_26, 30, .inr (.inl (fun _ => 0)))), (q_27, .inl (cA_28, 20, .inr (.inl (fun _ => 0)))), (q_29, .inl (cA_30, 30, .inl (fun _ => 0))), (q_31, .inl (cA_32, 30, .inl (fun _ => 0))), (q_33, .inl (cA_34, 30, .inl (fun _ => 0))), (q_35, .inl (cA_36, 30, .inl (fun _ => 0))), (q_37, .inl (cA_38, 20, .inl (fun _ => 0)))] H := hP
  have hD : va_D A [(h0, .inr (12, [.ref q_1, .ref q_3, .ref q_5, .ref q_7, .ref q_9, .ref q_11, .ref q_13, .ref q_15, .ref q_17, .ref q_19, .ref q_21, .ref q_23, .int 0, .ref q_25, .ref q_27, .ref q_29, .ref q_31, .ref q_33, .ref q_35, .ref q_37, .int 0, .int 0])), (q_1, .inl (cA_2, 2100, .inl (fun _ => 0))), (q_3, .inl (cA_4, 2100, .inl (fun _ => 0))), (q_5, .inl (cA_6, 2100, .inl (fun _ => 0))), (q_7, .inl (cA_8, 2100, .inl (fun _ => 0))), (q_9, .inl (cA_10, 2100, .inl (fun _ => 0))), (q_11, .inl (cA_12, 2100, .inl (fun _ => 0))), (q_13, .inl (cA_14, 2100, .inl (fun _ => 0))), (q_15, .inl (cA_16, 2100, .inl (fun _ => 0))), (q_17, .inl (cA_18, 2100, .inl (fun _ => 0))), (q_19, .inl (cA_20, 2100, .inl (fun _ => 0))), (q_21, .inl (cA_22, 2100, .inr (.inl (fun _ => 0)))), (q_23, .inl (cA_24, 2100, .inl (fun _ => 0))), (q_25, .inl (cA_26, 30, .inr (.inl (fun _ => 0)))), (q_27, .inl (cA_28, 20, .inr (.inl (fun _ => 0)))), (q_29, .inl (cA_30, 30, .inl (fun _ => 0))), (q_31, .inl (cA_32, 30, .inl (fun _ => 0))), (q_33, .inl (cA_34, 30, .inl (fun _ => 0))), (q_35, .inl (cA_36, 30, .inl (fun _ => 0))), (q_37, .inl (cA_38, 20, .inl (fun _ => 0)))] := hD
  have hP9 := hP.sub (ws' := [(h0, .inr (12, [.ref q_1, .ref q_3, .ref q_5, .ref q_7, .ref q_9, .ref q_11, .ref q_13, .ref q_15, .ref q_17, .ref q_19, .ref q_21, .ref q_23, .int 0, .ref q_25, .ref q_27, .ref q_29, .ref q_31, .ref q_33, .ref q_35, .ref q_37, .int 0, .int 0])), (q_1, .inl (cA_2, 2100, .inl (fun _ => 0))), (q_3, .inl (cA_4, 2100, .inl (fun _ => 0))), (q_5, .inl (cA_6, 2100, .inl (fun _ => 0))), (q_7, .inl (cA_8, 2100, .inl (fun _ => 0))), (q_9, .inl (cA_10, 2100, .inl (fun _ => 0))), (q_11, .inl (cA_12, 2100, .inl (fun _ => 0))), (q_13, .inl (cA_14, 2100, .inl (fun _ => 0))), (q_15, .inl (cA_16, 2100, .inl (fun _ => 0))), (q_17, .inl (cA_18, 2100, .inl (fun _ => 0))), (q_19, .inl (cA_20, 2100, .inl (fun _ => 0))), (q_21, .inl (cA_22, 2100, .inr (.inl (fun _ => 0)))), (q_23, .inl (cA_24, 2100, .inl (fun _ => 0))), (q_25, .inl (cA_26, 30, .inr (.inl (fun _ => 0)))), (q_27, .inl (cA_28, 20, .inr (.inl (fun _ => 0)))), (q_29, .inl (cA_30, 30, .inl (fun _ => 0))), (q_31, .inl (cA_32, 30, .inl (fun _ => 0))), (q_33, .inl (cA_34, 30, .inl (fun _ => 0))), (q_35, .inl (cA_36, 30, .inl (fun _ => 0))), (q_37, .inl (cA_38, 20, .inl (fun _ => 0)))]) [0, 1, 2, 3, 4, 5, 6, 7, 8, 9, 10, 11, 12, 13, 14, 15, 16, 17, 18, 19] rfl
  have hD9 := hD.sub (ws' := [(h0, .inr (12, [.ref q_1, .ref q_3, .ref q_5, .ref q_7, .ref q_9, .ref q_11, .ref q_13, .ref q_15, .ref q_17, .ref q_19, .ref q_21, .ref q_23, .int 0, .ref q_25, .ref q_27, .ref q_29, .ref q_31, .ref q_33, .ref q_35, .ref q_37, .int 0, .int 0])), (q_1, .inl (cA_2, 2100, .inl (fun _ => 0))), (q_3, .inl (cA_4, 2100, .inl (fun _ => 0))), (q_5, .inl (cA_6, 2100, .inl (fun _ => 0))), (q_7, .inl (cA_8, 2100, .inl (fun _ => 0))), (q_9, .inl (cA_10, 2100, .inl (fun _ => 0))), (q_11, .inl (cA_12, 2100, .inl (fun _ => 0))), (q_13, .inl (cA_14, 2100, .inl (fun _ => 0))), (q_15, .inl (cA_16, 2100, .inl (fun _ => 0))), (q_17, .inl (cA_18, 2100, .inl (fun _ => 0))), (q_19, .inl (cA_20, 2100, .inl (fun _ => 0))), (q_21, .inl (cA_22, 2100, .inr (.inl (fun _ => 0)))), (q_23, .inl (cA_24, 2100, .inl (fun _ => 0))), (q_25, .inl (cA_26, 30, .inr (.inl (fun _ => 0)))), (q_27, .inl (cA_28, 20, .inr (.inl (fun _ => 0)))), (q_29, .inl (cA_30, 30, .inl (fun _ => 0))), (q_31, .inl (cA_32, 30, .inl (fun _ => 0))), (q_33, .inl (cA_34, 30, .inl (fun _ => 0))), (q_35, .inl (cA_36, 30, .inl (fun _ => 0))), (q_37, .inl (cA_38, 20, .inl (fun _ => 0)))]) [0, 1, 2, 3, 4, 5, 6, 7, 8, 9, 10, 11, 12, 13, 14, 15, 16, 17, 18, 19] (by decide) rfl
  have hK9 := hK.sub (tys' := [(cA_2, .byte), (cA_4, .int), (cA_6, .int), (cA_8, .int), (cA_10, .int), (cA_12, .int), (cA_14, .int), (cA_16, .int), (cA_18, .int), (cA_20, .int), (cA_22, .long), (cA_24, .byte), (cA_26, .long), (cA_28, .long), (cA_30, .int), (cA_32, .int), (cA_34, .int), (cA_36, .int), (cA_38, .int)]) [0, 1, 2, 3, 4, 5, 6, 7, 8, 9, 10, 11, 12, 13, 14, 15, 16, 17, 18] rfl
  exact W.vret hx hb hr (fun t ht hW => ⟨⟨(q_1, q_3, q_5, q_7, q_9, q_11, q_13, q_15, q_17, q_19, q_21, q_23, q_25, q_27, q_29, q_31, q_33, q_35, q_37, cA_2, cA_4, cA_6, cA_8, cA_10, cA_12, cA_14, cA_16, cA_18, cA_20, cA_22, cA_24, cA_26, cA_28, cA_30, cA_32, cA_34, cA_36, cA_38), rfl, trivial, by rw [ht]; exact hP9, va_K.moved hW.alike hK9, hD9⟩, hS.F ht⟩) hS.2.2 dX12_init_168
