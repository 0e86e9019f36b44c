theorem wi_169 : Cond.methodLink RX9 1 objectInit ∈ zw := zw_in (List.mem_of_getElem? (i := 169) (by decide +kernel)) (by decide +kernel)
theorem wi_170 : Cond.classLink RX9 7 RX2 ∈ zw := zw_in (List.mem_of_getElem? (i := 170) (by decide +kernel)) (by decide +kernel)
theorem wi_171 : Cond.instantiable RX2 8 ∈ zw := zw_in (List.mem_of_getElem? (i := 171) (by decide +kernel)) (by decide +kernel)
theorem wi_132 : Cond.initialized RX2 ∈ zw := zw_in (List.mem_of_getElem? (i := 132) (by decide +kernel)) (by decide +kernel)
theorem wi_174 : Cond.code yX2_init cX2_init 1 none ∈ zw := zw_in (List.mem_of_getElem? (i := 174) (by decide +kernel)) (by decide +kernel)
theorem wi_173 : Cond.instanceMethod yX2_init ∈ zw := zw_in (List.mem_of_getElem? (i := 173) (by decide +kernel)) (by decide +kernel)
theorem wi_308 : Cond.fieldLink RX9 10 "ReuseHouse$Program" "code" "LReuseHouse$Code;" ∈ zw := zw_in (List.mem_of_getElem? (i := 308) (by decide +kernel)) (by decide +kernel)
theorem wi_221 : Cond.classLink RX9 16 RX0 ∈ zw := zw_in (List.mem_of_getElem? (i := 221) (by decide +kernel)) (by decide +kernel)
theorem wi_222 : Cond.instantiable RX0 7 ∈ zw := zw_in (List.mem_of_getElem? (i := 222) (by decide +kernel)) (by decide +kernel)
theorem wi_133 : Cond.initialized RX0 ∈ zw := zw_in (List.mem_of_getElem? (i := 133) (by decide +kernel)) (by decide +kernel)
theorem wi_225 : Cond.code yX0_init cX0_init 1 none ∈ zw := zw_in (List.mem_of_getElem? (i := 225) (by decide +kernel)) (by decide +kernel)
theorem wi_224 : Cond.instanceMethod yX0_init ∈ zw := zw_in (List.mem_of_getElem? (i := 224) (by decide +kernel)) (by decide +kernel)
theorem wi_312 : Cond.fieldLink RX9 19 "ReuseHouse$Program" "arms" "LReuseHouse$Arms;" ∈ zw := zw_in (List.mem_of_getElem? (i := 312) (by decide +kernel)) (by decide +kernel)
theorem wi_264 : Cond.classLink RX9 23 RX4 ∈ zw := zw_in (List.mem_of_getElem? (i := 264) (by decide +kernel)) (by decide +kernel)
theorem wi_265 : Cond.instantiable RX4 3 ∈ zw := zw_in (List.mem_of_getElem? (i := 265) (by decide +kernel)) (by decide +kernel)
theorem wi_134 : Cond.initialized RX4 ∈ zw := zw_in (List.mem_of_getElem? (i := 134) (by decide +kernel)) (by decide +kernel)
theorem wi_268 : Cond.code yX4_init cX4_init 1 none ∈ zw := zw_in (List.mem_of_getElem? (i := 268) (by decide +kernel)) (by decide +kernel)
theorem wi_267 : Cond.instanceMethod yX4_init ∈ zw := zw_in (List.mem_of_getElem? (i := 267) (by decide +kernel)) (by decide +kernel)
theorem wi_316 : Cond.fieldLink RX9 26 "ReuseHouse$Program" "kinds" "LReuseHouse$Kinds;" ∈ zw := zw_in (List.mem_of_getElem? (i := 316) (by decide +kernel)) (by decide +kernel)
theorem wi_284 : Cond.classLink RX9 30 RX3 ∈ zw := zw_in (List.mem_of_getElem? (i := 284) (by decide +kernel)) (by decide +kernel)
theorem wi_285 : Cond.instantiable RX3 4 ∈ zw := zw_in (List.mem_of_getElem? (i := 285) (by decide +kernel)) (by decide +kernel)
theorem wi_135 : Cond.initialized RX3 ∈ zw := zw_in (List.mem_of_getElem? (i := 135) (by decide +kernel)) (by decide +kernel)
theorem wi_288 : Cond.code yX3_init cX3_init 1 none ∈ zw := zw_in (List.mem_of_getElem? (i := 288) (by decide +kernel)) (by decide +kernel)
theorem wi_287 : Cond.instanceMethod yX3_init ∈ zw := zw_in (List.mem_of_getElem? (i := 287) (by decide +kernel)) (by decide +kernel)
theorem wi_320 : Cond.fieldLink RX9 33 "ReuseHouse$Program" "functions" "LReuseHouse$Functions;" ∈ zw := zw_in (List.mem_of_getElem? (i := 320) (by decide +kernel)) (by decide +kernel)
theorem wi_429 : Cond.methodLink RX1 3 objectInit ∈ zw := zw_in (List.mem_of_getElem? (i := 429) (by decide +kernel)) (by decide +kernel)
theorem wi_441 : Cond.fieldLink RX1 9 "ReuseHouse$Cells" "limit" "I" ∈ zw := zw_in (List.mem_of_getElem? (i := 441) (by decide +kernel)) (by decide +kernel)
theorem wi_442 : Cond.fieldLink RX1 15 "ReuseHouse$Cells" "fresh" "I" ∈ zw := zw_in (List.mem_of_getElem? (i := 442) (by decide +kernel)) (by decide +kernel)
theorem wi_443 : Cond.fieldLink RX1 18 "ReuseHouse$Cells" "firstFree" "I" ∈ zw := zw_in (List.mem_of_getElem? (i := 443) (by decide +kernel)) (by decide +kernel)
theorem wi_444 : Cond.fieldLink RX1 21 "ReuseHouse$Cells" "held" "I" ∈ zw := zw_in (List.mem_of_getElem? (i := 444) (by decide +kernel)) (by decide +kernel)
theorem wi_446 : Cond.fieldLink RX1 24 "ReuseHouse$Cells" "mostHeld" "I" ∈ zw := zw_in (List.mem_of_getElem? (i := 446) (by decide +kernel)) (by decide +kernel)
theorem wi_448 : Cond.fieldLink RX1 27 "ReuseHouse$Cells" "made" "I" ∈ zw := zw_in (List.mem_of_getElem? (i := 448) (by decide +kernel)) (by decide +kernel)
theorem wi_450 : Cond.fieldLink RX1 30 "ReuseHouse$Cells" "reused" "I" ∈ zw := zw_in (List.mem_of_getElem? (i := 450) (by decide +kernel)) (by decide +kernel)
theorem wi_453 : Cond.fieldLink RX1 33 "ReuseHouse$Cells" "freed" "I" ∈ zw := zw_in (List.mem_of_getElem? (i := 453) (by decide +kernel)) (by decide +kernel)
theorem wi_455 : Cond.fieldLink RX1 36 "ReuseHouse$Cells" "doubled" "I" ∈ zw := zw_in (List.mem_of_getElem? (i := 455) (by decide +kernel)) (by decide +kernel)
theorem wi_430 : Cond.methodLink RX1 39 Lib.Math.max.name ∈ zw := zw_in (List.mem_of_getElem? (i := 430) (by decide +kernel)) (by decide +kernel)
theorem wi_431 : Cond.static Lib.Math.max.name ∈ zw := zw_in (List.mem_of_getElem? (i := 431) (by decide +kernel)) (by decide +kernel)
theorem wi_141 : Cond.initialized RJ9 ∈ zw := zw_in (List.mem_of_getElem? (i := 141) (by decide +kernel)) (by decide +kernel)
theorem wi_432 : Cond.code Lib.Math.max.name Lib.Math.max.code 2 (some .int) ∈ zw := zw_in (List.mem_of_getElem? (i := 432) (by decide +kernel)) (by decide +kernel)
theorem wi_435 : Cond.fieldLink RX1 45 "ReuseHouse$Cells" "kind" "[I" ∈ zw := zw_in (List.mem_of_getElem? (i := 435) (by decide +kernel)) (by decide +kernel)
theorem wi_436 : Cond.fieldLink RX1 49 "ReuseHouse$Cells" "count" "[I" ∈ zw := zw_in (List.mem_of_getElem? (i := 436) (by decide +kernel)) (by decide +kernel)
theorem wi_438 : Cond.fieldLink RX1 52 "ReuseHouse$Cells" "fields" "[J" ∈ zw := zw_in (List.mem_of_getElem? (i := 438) (by decide +kernel)) (by decide +kernel)
theorem wi_433 : Cond.classLink RX1 56 RX4 ∈ zw := zw_in (List.mem_of_getElem? (i := 433) (by decide +kernel)) (by decide +kernel)
theorem wi_439 : Cond.fieldLink RX1 59 "ReuseHouse$Cells" "kinds" "LReuseHouse$Kinds;" ∈ zw := zw_in (List.mem_of_getElem? (i := 439) (by decide +kernel)) (by decide +kernel)
theorem wi_423 : Cond.methodLink RX5 3 objectInit ∈ zw := zw_in (List.mem_of_getElem? (i := 423) (by decide +kernel)) (by decide +kernel)
theorem wi_487 : Cond.fieldLink RX5 9 "ReuseHouse$Machine" "counted" "Z" ∈ zw := zw_in (List.mem_of_getElem? (i := 487) (by decide +kernel)) (by decide +kernel)
theorem wi_488 : Cond.fieldLink RX5 15 "ReuseHouse$Machine" "stack" "[J" ∈ zw := zw_in (List.mem_of_getElem? (i := 488) (by decide +kernel)) (by decide +kernel)
theorem wi_489 : Cond.fieldLink RX5 19 "ReuseHouse$Machine" "top" "I" ∈ zw := zw_in (List.mem_of_getElem? (i := 489) (by decide +kernel)) (by decide +kernel)
theorem wi_490 : Cond.fieldLink RX5 23 "ReuseHouse$Machine" "base" "I" ∈ zw := zw_in (List.mem_of_getElem? (i := 490) (by decide +kernel)) (by decide +kernel)
theorem wi_491 : Cond.fieldLink RX5 26 "ReuseHouse$Machine" "callBase" "[I" ∈ zw := zw_in (List.mem_of_getElem? (i := 491) (by decide +kernel)) (by decide +kernel)
theorem wi_492 : Cond.fieldLink RX5 30 "ReuseHouse$Machine" "callBack" "[I" ∈ zw := zw_in (List.mem_of_getElem? (i := 492) (by decide +kernel)) (by decide +kernel)
theorem wi_493 : Cond.fieldLink RX5 33 "ReuseHouse$Machine" "callShells" "[I" ∈ zw := zw_in (List.mem_of_getElem? (i := 493) (by decide +kernel)) (by decide +kernel)
theorem wi_494 : Cond.fieldLink RX5 36 "ReuseHouse$Machine" "open" "I" ∈ zw := zw_in (List.mem_of_getElem? (i := 494) (by decide +kernel)) (by decide +kernel)
theorem wi_495 : Cond.fieldLink RX5 39 "ReuseHouse$Machine" "shells" "[I" ∈ zw := zw_in (List.mem_of_getElem? (i := 495) (by decide +kernel)) (by decide +kernel)
theorem wi_496 : Cond.fieldLink RX5 42 "ReuseHouse$Machine" "shellTop" "I" ∈ zw := zw_in (List.mem_of_getElem? (i := 496) (by decide +kernel)) (by decide +kernel)
theorem wi_497 : Cond.fieldLink RX5 45 "ReuseHouse$Machine" "at" "I" ∈ zw := zw_in (List.mem_of_getElem? (i := 497) (by decide +kernel)) (by decide +kernel)
theorem wi_498 : Cond.fieldLink RX5 48 "ReuseHouse$Machine" "allowed" "I" ∈ zw := zw_in (List.mem_of_getElem? (i := 498) (by decide +kernel)) (by decide +kernel)
theorem wi_499 : Cond.fieldLink RX5 51 "ReuseHouse$Machine" "steps" "I" ∈ zw := zw_in (List.mem_of_getElem? (i := 499) (by decide +kernel)) (by decide +kernel)
theorem wi_501 : Cond.fieldLink RX5 54 "ReuseHouse$Machine" "mostOpen" "I" ∈ zw := zw_in (List.mem_of_getElem? (i := 501) (by decide +kernel)) (by decide +kernel)
theorem wi_503 : Cond.fieldLink RX5 57 "ReuseHouse$Machine" "how" "I" ∈ zw := zw_in (List.mem_of_getElem? (i := 503) (by decide +kernel)) (by decide +kernel)
theorem wi_505 : Cond.fieldLink RX5 60 "ReuseHouse$Machine" "stopPlace" "I" ∈ zw := zw_in (List.mem_of_getElem? (i := 505) (by decide +kernel)) (by decide +kernel)
theorem wi_507 : Cond.fieldLink RX5 63 "ReuseHouse$Machine" "result" "J" ∈ zw := zw_in (List.mem_of_getElem? (i := 507) (by decide +kernel)) (by decide +kernel)
theorem wi_484 : Cond.fieldLink RX5 67 "ReuseHouse$Machine" "program" "LReuseHouse$Program;" ∈ zw := zw_in (List.mem_of_getElem? (i := 484) (by decide +kernel)) (by decide +kernel)
theorem wi_309 : Cond.fieldLink RX5 71 "ReuseHouse$Program" "code" "LReuseHouse$Code;" ∈ zw := zw_in (List.mem_of_getElem? (i := 309) (by decide +kernel)) (by decide +kernel)
theorem wi_485 : Cond.fieldLink RX5 77 "ReuseHouse$Machine" "code" "LReuseHouse$Code;" ∈ zw := zw_in (List.mem_of_getElem? (i := 485) (by decide +kernel)) (by decide +kernel)
theorem wi_424 : Cond.classLink RX5 78 RX1 ∈ zw := zw_in (List.mem_of_getElem? (i := 424) (by decide +kernel)) (by decide +kernel)
theorem wi_425 : Cond.instantiable RX1 13 ∈ zw := zw_in (List.mem_of_getElem? (i := 425) (by decide +kernel)) (by decide +kernel)
theorem wi_140 : Cond.initialized RX1 ∈ zw := zw_in (List.mem_of_getElem? (i := 140) (by decide +kernel)) (by decide +kernel)
theorem wi_428 : Cond.code yX1_init cX1_init 3 none ∈ zw := zw_in (List.mem_of_getElem? (i := 428) (by decide +kernel)) (by decide +kernel)
theorem wi_426 : Cond.methodLink RX5 80 yX1_init ∈ zw := zw_in (List.mem_of_getElem? (i := 426) (by decide +kernel)) (by decide +kernel)
theorem wi_427 : Cond.instanceMethod yX1_init ∈ zw := zw_in (List.mem_of_getElem? (i := 427) (by decide +kernel)) (by decide +kernel)
theorem wi_486 : Cond.fieldLink RX5 83 "ReuseHouse$Machine" "cells" "LReuseHouse$Cells;" ∈ zw := zw_in (List.mem_of_getElem? (i := 486) (by decide +kernel)) (by decide +kernel)
theorem wi_339 : Cond.methodLink RX7 3 objectInit ∈ zw := zw_in (List.mem_of_getElem? (i := 339) (by decide +kernel)) (by decide +kernel)
theorem wi_340 : Cond.classLink RX7 9 RX10 ∈ zw := zw_in (List.mem_of_getElem? (i := 340) (by decide +kernel)) (by decide +kernel)
theorem wi_341 : Cond.instantiable RX10 8 ∈ zw := zw_in (List.mem_of_getElem? (i := 341) (by decide +kernel)) (by decide +kernel)
theorem wi_137 : Cond.initialized RX10 ∈ zw := zw_in (List.mem_of_getElem? (i := 137) (by decide +kernel)) (by decide +kernel)
theorem wi_344 : Cond.code yX10_init cX10_init 1 none ∈ zw := zw_in (List.mem_of_getElem? (i := 344) (by decide +kernel)) (by decide +kernel)
theorem wi_343 : Cond.instanceMethod yX10_init ∈ zw := zw_in (List.mem_of_getElem? (i := 343) (by decide +kernel)) (by decide +kernel)
theorem wi_387 : Cond.fieldLink RX7 12 "ReuseHouse$Parser" "tokens" "LReuseHouse$Tokens;" ∈ zw := zw_in (List.mem_of_getElem? (i := 387) (by decide +kernel)) (by decide +kernel)
theorem wi_375 : Cond.classLink RX7 18 RX6 ∈ zw := zw_in (List.mem_of_getElem? (i := 375) (by decide +kernel)) (by decide +kernel)
theorem wi_376 : Cond.instantiable RX6 1 ∈ zw := zw_in (List.mem_of_getElem? (i := 376) (by decide +kernel)) (by decide +kernel)
theorem wi_138 : Cond.initialized RX6 ∈ zw := zw_in (List.mem_of_getElem? (i := 138) (by decide +kernel)) (by decide +kernel)
theorem wi_379 : Cond.code yX6_init cX6_init 1 none ∈ zw := zw_in (List.mem_of_getElem? (i := 379) (by decide +kernel)) (by decide +kernel)
theorem wi_378 : Cond.instanceMethod yX6_init ∈ zw := zw_in (List.mem_of_getElem? (i := 378) (by decide +kernel)) (by decide +kernel)
theorem wi_388 : Cond.fieldLink RX7 21 "ReuseHouse$Parser" "needs" "LReuseHouse$Needs;" ∈ zw := zw_in (List.mem_of_getElem? (i := 388) (by decide +kernel)) (by decide +kernel)
theorem wi_389 : Cond.fieldLink RX7 25 "ReuseHouse$Parser" "names" "[J" ∈ zw := zw_in (List.mem_of_getElem? (i := 389) (by decide +kernel)) (by decide +kernel)
theorem wi_390 : Cond.fieldLink RX7 29 "ReuseHouse$Parser" "around" "I" ∈ zw := zw_in (List.mem_of_getElem? (i := 390) (by decide +kernel)) (by decide +kernel)
theorem wi_391 : Cond.fieldLink RX7 33 "ReuseHouse$Parser" "built" "[I" ∈ zw := zw_in (List.mem_of_getElem? (i := 391) (by decide +kernel)) (by decide +kernel)
theorem wi_385 : Cond.classLink RX7 37 RX9 ∈ zw := zw_in (List.mem_of_getElem? (i := 385) (by decide +kernel)) (by decide +kernel)
theorem wi_165 : Cond.instantiable RX9 4 ∈ zw := zw_in (List.mem_of_getElem? (i := 165) (by decide +kernel)) (by decide +kernel)
theorem wi_131 : Cond.initialized RX9 ∈ zw := zw_in (List.mem_of_getElem? (i := 131) (by decide +kernel)) (by decide +kernel)
theorem wi_168 : Cond.code yX9_init cX9_init 1 none ∈ zw := zw_in (List.mem_of_getElem? (i := 168) (by decide +kernel)) (by decide +kernel)
theorem wi_167 : Cond.instanceMethod yX9_init ∈ zw := zw_in (List.mem_of_getElem? (i := 167) (by decide +kernel)) (by decide +kernel)
theorem wi_392 : Cond.fieldLink RX7 40 "ReuseHouse$Parser" "draft" "LReuseHouse$Program;" ∈ zw := zw_in (List.mem_of_getElem? (i := 392) (by decide +kernel)) (by decide +kernel)
theorem wi_394 : Cond.fieldLink RX7 44 "ReuseHouse$Parser" "function" "I" ∈ zw := zw_in (List.mem_of_getElem? (i := 394) (by decide +kernel)) (by decide +kernel)
theorem wi_395 : Cond.fieldLink RX7 47 "ReuseHouse$Parser" "faultNumber" "I" ∈ zw := zw_in (List.mem_of_getElem? (i := 395) (by decide +kernel)) (by decide +kernel)
theorem wi_397 : Cond.fieldLink RX7 50 "ReuseHouse$Parser" "faultPlace" "I" ∈ zw := zw_in (List.mem_of_getElem? (i := 397) (by decide +kernel)) (by decide +kernel)
theorem dX1_init_0 : decode cX1_init 0 = .ok (.aload_n 0, 1) := by decide +kernel
theorem dX1_init_1 : decode cX1_init 1 = .ok (.invokespecial 3, 3) := by decide +kernel
theorem dX1_init_4 : decode cX1_init 4 = .ok (.aload_n 0, 1) := by decide +kernel
theorem dX1_init_5 : decode cX1_init 5 = .ok (.iconst 0, 1) := by decide +kernel
theorem dX1_init_6 : decode cX1_init 6 = .ok (.putfield 9, 3) := by decide +kernel
theorem dX1_init_9 : decode cX1_init 9 = .ok (.aload_n 0, 1) := by decide +kernel
theorem dX1_init_10 : decode cX1_init 10 = .ok (.iconst 0, 1) := by decide +kernel
theorem dX1_init_11 : decode cX1_init 11 = .ok (.putfield 15, 3) := by decide +kernel
theorem dX1_init_14 : decode cX1_init 14 = .ok (.aload_n 0, 1) := by decide +kernel
theorem dX1_init_15 : decode cX1_init 15 = .ok (.iconst (-1), 1) := by decide +kernel
theorem dX1_init_16 : decode cX1_init 16 = .ok (.putfield 18, 3) := by decide +kernel
theorem dX1_init_19 : decode cX1_init 19 = .ok (.aload_n 0, 1) := by decide +kernel
theorem dX1_init_20 : decode cX1_init 20 = .ok (.iconst 0, 1) := by decide +kernel
theorem dX1_init_21 : decode cX1_init 21 = .ok (.putfield 21, 3) := by decide +kernel
theorem dX1_init_24 : decode cX1_init 24 = .ok (.aload_n 0, 1) := by decide +kernel
theorem dX1_init_25 : decode cX1_init 25 = .ok (.iconst 0, 1) := by decide +kernel
theorem dX1_init_26 : decode cX1_init 26 = .ok (.putfield 24, 3) := by decide +kernel
theorem dX1_init_29 : decode cX1_init 29 = .ok (.aload_n 0, 1) := by decide +kernel
theorem dX1_init_30 : decode cX1_init 30 = .ok (.iconst 0, 1) := by decide +kernel
theorem dX1_init_31 : decode cX1_init 31 = .ok (.putfield 27, 3) := by decide +kernel
theorem dX1_init_34 : decode cX1_init 34 = .ok (.aload_n 0, 1) := by decide +kernel
theorem dX1_init_35 : decode cX1_init 35 = .ok (.iconst 0, 1) := by decide +kernel
theorem dX1_init_36 : decode cX1_init 36 = .ok (.putfield 30, 3) := by decide +kernel
theorem dX1_init_39 : decode cX1_init 39 = .ok (.aload_n 0, 1) := by decide +kernel
theorem dX1_init_40 : decode cX1_init 40 = .ok (.iconst 0, 1) := by decide +kernel
theorem dX1_init_41 : decode cX1_init 41 = .ok (.putfield 33, 3) := by decide +kernel
theorem dX1_init_44 : decode cX1_init 44 = .ok (.aload_n 0, 1) := by decide +kernel
theorem dX1_init_45 : decode cX1_init 45 = .ok (.iconst 0, 1) := by decide +kernel
theorem dX1_init_46 : decode cX1_init 46 = .ok (.putfield 36, 3) := by decide +kernel
theorem dX1_init_49 : decode cX1_init 49 = .ok (.iconst 0, 1) := by decide +kernel
theorem dX1_init_50 : decode cX1_init 50 = .ok (.iload_n 1, 1) := by decide +kernel
theorem dX1_init_51 : decode cX1_init 51 = .ok (.invokestatic 39, 3) := by decide +kernel
theorem dX1_init_54 : decode cX1_init 54 = .ok (.istore_n 2, 1) := by decide +kernel
theorem dX1_init_55 : decode cX1_init 55 = .ok (.aload_n 0, 1) := by decide +kernel
theorem dX1_init_56 : decode cX1_init 56 = .ok (.iload_n 2, 1) := by decide +kernel
theorem dX1_init_57 : decode cX1_init 57 = .ok (.newarray .int, 2) := by decide +kernel
theorem dX1_init_59 : decode cX1_init 59 = .ok (.putfield 45, 3) := by decide +kernel
theorem dX1_init_62 : decode cX1_init 62 = .ok (.aload_n 0, 1) := by decide +kernel
theorem dX1_init_63 : decode cX1_init 63 = .ok (.iload_n 2, 1) := by decide +kernel
theorem dX1_init_64 : decode cX1_init 64 = .ok (.newarray .int, 2) := by decide +kernel
theorem dX1_init_66 : decode cX1_init 66 = .ok (.putfield 49, 3) := by decide +kernel
theorem dX1_init_69 : decode cX1_init 69 = .ok (.aload_n 0, 1) := by decide +kernel
theorem dX1_init_70 : decode cX1_init 70 = .ok (.iload_n 2, 1) := by decide +kernel
theorem dX1_init_71 : decode cX1_init 71 = .ok (.iconst 3, 1) := by decide +kernel
theorem dX1_init_72 : decode cX1_init 72 = .ok (.imul, 1) := by decide +kernel
theorem dX1_init_73 : decode cX1_init 73 = .ok (.newarray .long, 2) := by decide +kernel
theorem dX1_init_75 : decode cX1_init 75 = .ok (.putfield 52, 3) := by decide +kernel
theorem dX1_init_78 : decode cX1_init 78 = .ok (.aload_n 0, 1) := by decide +kernel
theorem dX1_init_79 : decode cX1_init 79 = .ok (.new 56, 3) := by decide +kernel
theorem dX1_init_82 : decode cX1_init 82 = .ok (.dup, 1) := by decide +kernel
theorem dX1_init_83 : decode cX1_init 83 = .ok (.invokespecial 58, 3) := by decide +kernel
theorem dX1_init_86 : decode cX1_init 86 = .ok (.putfield 59, 3) := by decide +kernel
theorem dX1_init_89 : decode cX1_init 89 = .ok (.return_, 1) := by decide +kernel
theorem dX5_init_0 : decode cX5_init 0 = .ok (.aload_n 0, 1) := by decide +kernel
theorem dX5_init_1 : decode cX5_init 1 = .ok (.invokespecial 3, 3) := by decide +kernel
theorem dX5_init_4 : decode cX5_init 4 = .ok (.aload_n 0, 1) := by decide +kernel
theorem dX5_init_5 : decode cX5_init 5 = .ok (.iconst 1, 1) := by decide +kernel
theorem dX5_init_6 : decode cX5_init 6 = .ok (.putfield 9, 3) := by decide +kernel
theorem dX5_init_9 : decode cX5_init 9 = .ok (.aload_n 0, 1) := by decide +kernel
theorem dX5_init_10 : decode cX5_init 10 = .ok (.sipush 22424, 3) := by decide +kernel
theorem dX5_init_13 : decode cX5_init 13 = .ok (.newarray .long, 2) := by decide +kernel
theorem dX5_init_15 : decode cX5_init 15 = .ok (.putfield 15, 3) := by decide +kernel
theorem dX5_init_18 : decode cX5_init 18 = .ok (.aload_n 0, 1) := by decide +kernel
theorem dX5_init_19 : decode cX5_init 19 = .ok (.iconst 0, 1) := by decide +kernel
theorem dX5_init_20 : decode cX5_init 20 = .ok (.putfield 19, 3) := by decide +kernel
theorem dX5_init_23 : decode cX5_init 23 = .ok (.aload_n 0, 1) := by decide +kernel
theorem dX5_init_24 : decode cX5_init 24 = .ok (.iconst 0, 1) := by decide +kernel
theorem dX5_init_25 : decode cX5_init 25 = .ok (.putfield 23, 3) := by decide +kernel
theorem dX5_init_28 : decode cX5_init 28 = .ok (.aload_n 0, 1) := by decide +kernel
theorem dX5_init_29 : decode cX5_init 29 = .ok (.bipush 100, 2) := by decide +kernel
theorem dX5_init_31 : decode cX5_init 31 = .ok (.newarray .int, 2) := by decide +kernel
theorem dX5_init_33 : decode cX5_init 33 = .ok (.putfield 26, 3) := by decide +kernel
theorem dX5_init_36 : decode cX5_init 36 = .ok (.aload_n 0, 1) := by decide +kernel
theorem dX5_init_37 : decode cX5_init 37 = .ok (.bipush 100, 2) := by decide +kernel
theorem dX5_init_39 : decode cX5_init 39 = .ok (.newarray .int, 2) := by decide +kernel
theorem dX5_init_41 : decode cX5_init 41 = .ok (.putfield 30, 3) := by decide +kernel
theorem dX5_init_44 : decode cX5_init 44 = .ok (.aload_n 0, 1) := by decide +kernel
theorem dX5_init_45 : decode cX5_init 45 = .ok (.bipush 100, 2) := by decide +kernel
theorem dX5_init_47 : decode cX5_init 47 = .ok (.newarray .int, 2) := by decide +kernel
theorem dX5_init_49 : decode cX5_init 49 = .ok (.putfield 33, 3) := by decide +kernel
theorem dX5_init_52 : decode cX5_init 52 = .ok (.aload_n 0, 1) := by decide +kernel
theorem dX5_init_53 : decode cX5_init 53 = .ok (.iconst 0, 1) := by decide +kernel
theorem dX5_init_54 : decode cX5_init 54 = .ok (.putfield 36, 3) := by decide +kernel
theorem dX5_init_57 : decode cX5_init 57 = .ok (.aload_n 0, 1) := by decide +kernel
theorem dX5_init_58 : decode cX5_init 58 = .ok (.sipush 3000, 3) := by decide +kernel
theorem dX5_init_61 : decode cX5_init 61 = .ok (.newarray .int, 2) := by decide +kernel
theorem dX5_init_63 : decode cX5_init 63 = .ok (.putfield 39, 3) := by decide +kernel
theorem dX5_init_66 : decode cX5_init 66 = .ok (.aload_n 0, 1) := by decide +kernel
theorem dX5_init_67 : decode cX5_init 67 = .ok (.iconst 0, 1) := by decide +kernel
theorem dX5_init_68 : decode cX5_init 68 = .ok (.putfield 42, 3) := by decide +kernel
theorem dX5_init_71 : decode cX5_init 71 = .ok (.aload_n 0, 1) := by decide +kernel
theorem dX5_init_72 : decode cX5_init 72 = .ok (.iconst (-1), 1) := by decide +kernel
theorem dX5_init_73 : decode cX5_init 73 = .ok (.putfield 45, 3) := by decide +kernel
theorem dX5_init_76 : decode cX5_init 76 = .ok (.aload_n 0, 1) := by decide +kernel
theorem dX5_init_77 : decode cX5_init 77 = .ok (.iconst 0, 1) := by decide +kernel
theorem dX5_init_78 : decode cX5_init 78 = .ok (.putfield 48, 3) := by decide +kernel
theorem dX5_init_81 : decode cX5_init 81 = .ok (.aload_n 0, 1) := by decide +kernel
theorem dX5_init_82 : decode cX5_init 82 = .ok (.iconst 0, 1) := by decide +kernel
theorem dX5_init_83 : decode cX5_init 83 = .ok (.putfield 51, 3) := by decide +kernel
theorem dX5_init_86 : decode cX5_init 86 = .ok (.aload_n 0, 1) := by decide +kernel
theorem dX5_init_87 : decode cX5_init 87 = .ok (.iconst 0, 1) := by decide +kernel
theorem dX5_init_88 : decode cX5_init 88 = .ok (.putfield 54, 3) := by decide +kernel
theorem dX5_init_91 : decode cX5_init 91 = .ok (.aload_n 0, 1) := by decide +kernel
theorem dX5_init_92 : decode cX5_init 92 = .ok (.iconst 0, 1) := by decide +kernel
theorem dX5_init_93 : decode cX5_init 93 = .ok (.putfield 57, 3) := by decide +kernel
theorem dX5_init_96 : decode cX5_init 96 = .ok (.aload_n 0, 1) := by decide +kernel
theorem dX5_init_97 : decode cX5_init 97 = .ok (.iconst (-1), 1) := by decide +kernel
theorem dX5_init_98 : decode cX5_init 98 = .ok (.putfield 60, 3) := by decide +kernel
theorem dX5_init_101 : decode cX5_init 101 = .ok (.aload_n 0, 1) := by decide +kernel
theorem dX5_init_102 : decode cX5_init 102 = .ok (.lconst 0, 1) := by decide +kernel
theorem dX5_init_103 : decode cX5_init 103 = .ok (.putfield 63, 3) := by decide +kernel
theorem dX5_init_106 : decode cX5_init 106 = .ok (.aload_n 0, 1) := by decide +kernel
theorem dX5_init_107 : decode cX5_init 107 = .ok (.aload_n 1, 1) := by decide +kernel
theorem dX5_init_108 : decode cX5_init 108 = .ok (.putfield 67, 3) := by decide +kernel
theorem dX5_init_111 : decode cX5_init 111 = .ok (.aload_n 0, 1) := by decide +kernel
theorem dX5_init_112 : decode cX5_init 112 = .ok (.aload_n 1, 1) := by decide +kernel
theorem dX5_init_113 : decode cX5_init 113 = .ok (.getfield 71, 3) := by decide +kernel
theorem dX5_init_116 : decode cX5_init 116 = .ok (.putfield 77, 3) := by decide +kernel
theorem dX5_init_119 : decode cX5_init 119 = .ok (.aload_n 0, 1) := by decide +kernel
theorem dX5_init_120 : decode cX5_init 120 = .ok (.new 78, 3) := by decide +kernel
theorem dX5_init_123 : decode cX5_init 123 = .ok (.dup, 1) := by decide +kernel
theorem dX5_init_124 : decode cX5_init 124 = .ok (.iconst 0, 1) := by decide +kernel
theorem dX5_init_125 : decode cX5_init 125 = .ok (.invokespecial 80, 3) := by decide +kernel
theorem dX5_init_128 : decode cX5_init 128 = .ok (.putfield 83, 3) := by decide +kernel
theorem dX5_init_131 : decode cX5_init 131 = .ok (.return_, 1) := by decide +kernel
theorem dX7_init_0 : decode cX7_init 0 = .ok (.aload_n 0, 1) := by decide +kernel
theorem dX7_init_1 : decode cX7_init 1 = .ok (.invokespecial 3, 3) := by decide +kernel
theorem dX7_init_4 : decode cX7_init 4 = .ok (.aload_n 0, 1) := by decide +kernel
theorem dX7_init_5 : decode cX7_init 5 = .ok (.new 9, 3) := by decide +kernel
theorem dX7_init_8 : decode cX7_init 8 = .ok (.dup, 1) := by decide +kernel
theorem dX7_init_9 : decode cX7_init 9 = .ok (.invokespecial 11, 3) := by decide +kernel
theorem dX7_init_12 : decode cX7_init 12 = .ok (.putfield 12, 3) := by decide +kernel
theorem dX7_init_15 : decode cX7_init 15 = .ok (.aload_n 0, 1) := by decide +kernel
theorem dX7_init_16 : decode cX7_init 16 = .ok (.new 18, 3) := by decide +kernel
theorem dX7_init_19 : decode cX7_init 19 = .ok (.dup, 1) := by decide +kernel
theorem dX7_init_20 : decode cX7_init 20 = .ok (.invokespecial 20, 3) := by decide +kernel
theorem dX7_init_23 : decode cX7_init 23 = .ok (.putfield 21, 3) := by decide +kernel
theorem dX7_init_26 : decode cX7_init 26 = .ok (.aload_n 0, 1) := by decide +kernel
theorem dX7_init_27 : decode cX7_init 27 = .ok (.bipush 24, 2) := by decide +kernel
theorem dX7_init_29 : decode cX7_init 29 = .ok (.newarray .long, 2) := by decide +kernel
theorem dX7_init_31 : decode cX7_init 31 = .ok (.putfield 25, 3) := by decide +kernel
theorem dX7_init_34 : decode cX7_init 34 = .ok (.aload_n 0, 1) := by decide +kernel
theorem dX7_init_35 : decode cX7_init 35 = .ok (.iconst 0, 1) := by decide +kernel
theorem dX7_init_36 : decode cX7_init 36 = .ok (.putfield 29, 3) := by decide +kernel
theorem dX7_init_39 : decode cX7_init 39 = .ok (.aload_n 0, 1) := by decide +kernel
theorem dX7_init_40 : decode cX7_init 40 = .ok (.iconst 4, 1) := by decide +kernel
theorem dX7_init_41 : decode cX7_init 41 = .ok (.newarray .int, 2) := by decide +kernel
theorem dX7_init_43 : decode cX7_init 43 = .ok (.putfield 33, 3) := by decide +kernel
theorem dX7_init_46 : decode cX7_init 46 = .ok (.aload_n 0, 1) := by decide +kernel
theorem dX7_init_47 : decode cX7_init 47 = .ok (.new 37, 3) := by decide +kernel
theorem dX7_init_50 : decode cX7_init 50 = .ok (.dup, 1) := by decide +kernel
theorem dX7_init_51 : decode cX7_init 51 = .ok (.invokespecial 39, 3) := by decide +kernel
theorem dX7_init_54 : decode cX7_init 54 = .ok (.putfield 40, 3) := by decide +kernel
theorem dX7_init_57 : decode cX7_init 57 = .ok (.aload_n 0, 1) := by decide +kernel
theorem dX7_init_58 : decode cX7_init 58 = .ok (.iconst 0, 1) := by decide +kernel
theorem dX7_init_59 : decode cX7_init 59 = .ok (.putfield 44, 3) := by decide +kernel
theorem dX7_init_62 : decode cX7_init 62 = .ok (.aload_n 0, 1) := by decide +kernel
theorem dX7_init_63 : decode cX7_init 63 = .ok (.iconst 0, 1) := by decide +kernel
theorem dX7_init_64 : decode cX7_init 64 = .ok (.putfield 47, 3) := by decide +kernel
theorem dX7_init_67 : decode cX7_init 67 = .ok (.aload_n 0, 1) := by decide +kernel
theorem dX7_init_68 : decode cX7_init 68 = .ok (.iconst (-1), 1) := by decide +kernel
theorem dX7_init_69 : decode cX7_init 69 = .ok (.putfield 50, 3) := by decide +kernel
theorem dX7_init_72 : decode cX7_init 72 = .ok (.return_, 1) := by decide +kernel
theorem dX9_init_0 : decode cX9_init 0 = .ok (.aload_n 0, 1) := by decide +kernel
theorem dX9_init_1 : decode cX9_init 1 = .ok (.invokespecial 1, 3) := by decide +kernel
theorem dX9_init_4 : decode cX9_init 4 = .ok (.aload_n 0, 1) := by decide +kernel
theorem dX9_init_5 : decode cX9_init 5 = .ok (.new 7, 3) := by decide +kernel
theorem dX9_init_8 : decode cX9_init 8 = .ok (.dup, 1) := by decide +kernel
theorem dX9_init_9 : decode cX9_init 9 = .ok (.invokespecial 9, 3) := by decide +kernel
theorem dX9_init_12 : decode cX9_init 12 = .ok (.putfield 10, 3) := by decide +kernel
theorem dX9_init_15 : decode cX9_init 15 = .ok (.aload_n 0, 1) := by decide +kernel
theorem dX9_init_16 : decode cX9_init 16 = .ok (.new 16, 3) := by decide +kernel
theorem dX9_init_19 : decode cX9_init 19 = .ok (.dup, 1) := by decide +kernel
theorem dX9_init_20 : decode cX9_init 20 = .ok (.invokespecial 18, 3) := by decide +kernel
theorem dX9_init_23 : decode cX9_init 23 = .ok (.putfield 19, 3) := by decide +kernel
theorem dX9_init_26 : decode cX9_init 26 = .ok (.aload_n 0, 1) := by decide +kernel
theorem dX9_init_27 : decode cX9_init 27 = .ok (.new 23, 3) := by decide +kernel
theorem dX9_init_30 : decode cX9_init 30 = .ok (.dup, 1) := by decide +kernel
theorem dX9_init_31 : decode cX9_init 31 = .ok (.invokespecial 25, 3) := by decide +kernel
theorem dX9_init_34 : decode cX9_init 34 = .ok (.putfield 26, 3) := by decide +kernel
theorem dX9_init_37 : decode cX9_init 37 = .ok (.aload_n 0, 1) := by decide +kernel
theorem dX9_init_38 : decode cX9_init 38 = .ok (.new 30, 3) := by decide +kernel
theorem dX9_init_41 : decode cX9_init 41 = .ok (.dup, 1) := by decide +kernel
theorem dX9_init_42 : decode cX9_init 42 = .ok (.invokespecial 32, 3) := by decide +kernel
theorem dX9_init_45 : decode cX9_init 45 = .ok (.putfield 33, 3) := by decide +kernel
theorem dX9_init_48 : decode cX9_init 48 = .ok (.return_, 1) := by decide +kernel
set_option maxHeartbeats 4000000 in
set_option maxRecDepth 100000 in
theorem c_X9_init (l : Launch) (dC : Nat → ClassId) (dI : Nat → Nat → Nat) (h0 : Nat) (sz : Nat)  : Met l yX9_init (Cond.code yX9_init cX9_init 1 none :: zw) ({ frames := 10, cells := 21, slots := 20672, locals := 300 }) (va_Pc [.ref h0] (zP dC dI sz [] [(h0, .inr (9, [.null, .null, .null, .null]))])) (va_Qv (fun u : Nat × Nat × Nat × Nat × Nat × Nat × Nat × Nat × Nat × Nat × Nat × Nat × Nat × Nat × Nat × Nat × Nat × Nat × Nat × Nat × Nat => match u with | (zcode, zarms, zkinds, zfunctions, zc_op, zc_a, zc_b, zc_place, zc_next, zc_needed, za_kind, za_next, za_before, za_leave, za_firstSlot, za_builds, zk_word, zk_fields, zf_word, zf_enter, zf_facts) => True) (fun u => match u with | (zcode, zarms, zkinds, zfunctions, zc_op, zc_a, zc_b, zc_place, zc_next, zc_needed, za_kind, za_next, za_before, za_leave, za_firstSlot, za_builds, zk_word, zk_fields, zf_word, zf_enter, zf_facts) => zQ dC dI (va_A [(h0, .inr (9, [.null, .null, .null, .null]))] sz) [] [(h0, .inr (9, [.ref zcode, .ref zarms, .ref zkinds, .ref zfunctions])), (zcode, .inr (2, [.ref zc_op, .ref zc_a, .ref zc_b, .ref zc_place, .ref zc_next, .ref zc_needed, .int 0, .int (-1)])), (zarms, .inr (0, [.ref za_kind, .ref za_next, .ref za_before, .ref za_leave, .ref za_firstSlot, .ref za_builds, .int 0])), (zkinds, .inr (4, [.ref zk_word, .ref zk_fields, .int 0])), (zfunctions, .inr (3, [.ref zf_word, .ref zf_enter, .ref zf_facts, .int 0]))]) (va_A [(h0, .inr (9, [.null, .null, .null, .null]))] sz)) 21 20672 (va_A [(h0, .inr (9, [.null, .null, .null, .null]))] sz) := by
  refine Met.ofW (cc := cX9_init) (maxL := 1) (ret := none) (by decide) rfl ?_
  intro p e s m args below meth c s₁ B hml hv
  obtain ⟨rfl, hsz, hP, hK, hD0, hN, hT⟩ := hv
  have hx := B.exec
  have hb := B.bytes
  have hr := B.returns
  have hts := atoms_spec (ws := Cond.code yX9_init cX9_init 1 none :: zw) B.pre
  have hA : ∀ w ∈ zw, w.before _ s = true := fun w h => hts w (List.mem_cons_of_mem _ h)
  have hown : s.vm.findClass RX9 = some m.cls := findClass_of_methodNamed B.named
  have hlocks := B.notSynchronized
  have hin : meth.name = "<init>" := (name_of_methodNamed B.named B.method).1
  subst hsz
  have hD := hD0.self (sz := s.heap.size)
  generalize hAe : va_A [(h0, .inr (9, [.null, .null, .null, .null]))] s.heap.size = A at hD hT ⊢
  have hAA : ∀ q : Nat, s.heap.size ≤ q → A q := fun q h => by rw [← hAe]; exact Or.inr h
  have hS : va_S A s.heap s.heap [] := va_S.rf
  have hl := lv_entry ([.ref h0]) (n := 1) (Nat.le_of_ble_eq_true rfl)
  rw [lg_entry_eq]
  generalize (lg_sl ([.ref h0]) ++ List.replicate (1 - (lg_sl ([.ref h0])).length) Slot.unset).toArray = ls at hl ⊢
  have hl : lv_has ls 1 [(0, .ref h0)] := hl
  refine lv_aload_n hx hb dX9_init_0 rfl (lv_at hl 0 rfl) ?_
  refine W.objInit hx hb hown (hA _ wi_169) (hA _ wi_162) (hA _ wi_163) rfl (by rw [hml]; exact hl.1) rfl dX9_init_1 (Nat.le_of_ble_eq_true rfl) (Nat.le_of_ble_eq_true rfl) ?_
  refine W.eq (g2 := F0 m 4 ls []) rfl ?_
  refine lv_aload_n hx hb dX9_init_4 rfl (lv_at hl 0 rfl) ?_
  refine va_new (ci := 2) (fs := [.null, .null, .null, .null, .null, .null, .int 0, .int 0]) (C := RX2) (T := TX2) (N := 8) hx hb hA zin_X2 tyX2 tyX2_ok hown (hA _ wi_170) (hA _ wi_171) (hA _ wi_132) hK hP hD hS hAA rfl zd_X2 (Nat.le_of_ble_eq_true rfl) (Nat.le_of_ble_eq_true rfl) dX9_init_5 (fun q_1 H hP hD hS => ?_)
  have hP : va_P (dC, dI) vwCl [(h0, .inr (9, [.null, .null, .null, .null])), (q_1, .inr (2, [.null, .null, .null, .null, .null, .null, .int 0, .int 0]))] H := hP
  have hD : va_D A [(h0, .inr (9, [.null, .null, .null, .null])), (q_1, .inr (2, [.null, .null, .null, .null, .null, .null, .int 0, .int 0]))] := hD
  refine W.widen (k := 1) (n := 8) (Nat.le_of_ble_eq_true rfl) (Nat.le_of_ble_eq_true rfl) ?_
  refine lv_dup hx hb dX9_init_8 rfl ?_
  have hPc := hP.sub (ws' := [(q_1, .inr (2, [.null, .null, .null, .null, .null, .null, .int 0, .int 0]))]) [1] rfl
  have hDc := hD.sub (ws' := [(q_1, .inr (2, [.null, .null, .null, .null, .null, .null, .int 0, .int 0]))]) [1] (by decide) rfl
  have hKc := hK.sub (tys' := []) [] rfl
  have hFc := va_free (wc := [(q_1, .inr (2, [.null, .null, .null, .null, .null, .null, .int 0, .int 0]))]) hD hS hAA [1] rfl
  refine va_callv (va_runIN (As := []) (rest := [.ref q_1, .ref h0]) ⟨hx, hb, hml, hown, hA⟩ (c_X2_init l dC dI q_1 H.size) ⟨va_cnB 0 hA (zw_good wi_174) rfl rfl rfl (hN.2.1 ("ReuseHouse$Program", 9, yX2_init, "ReuseHouse") (by decide +kernel)) (hA _ wi_132) (by decide +kernel) ⟨(Nat.le_of_ble_eq_true rfl), (Nat.le_of_ble_eq_true rfl)⟩, rfl, hA _ wi_173⟩ ⟨zP_blind, zz_pre hKc hPc hDc hN hT hS hFc⟩ rfl rfl hl.1 rfl (lv_room (Nat.le_of_ble_eq_true rfl)) dX9_init_9 ⟨(Nat.le_of_ble_eq_true rfl), (Nat.le_of_ble_eq_true rfl)⟩) hS (fun q _ h => hFc q h) hFc (fun u t H1 locs ht hvm hw hB hz1 hk1 hS => ?_)
  obtain ⟨z_op_3, z_a_4, z_b_5, z_place_6, z_next_7, z_needed_8⟩ := u
  obtain ⟨hP1, hK1, hD1⟩ := hB
  rw [ht] at hP1
  have hK1 := va_K.moved hvm.symm hK1
  obtain ⟨hP, hD⟩ := va_join (wr := [(h0, .inr (9, [.null, .null, .null, .null]))]) (w1 := [(q_1, .inr (2, [.ref z_op_3, .ref z_a_4, .ref z_b_5, .ref z_place_6, .ref z_next_7, .ref z_needed_8, .int 0, .int (-1)]))]) hP hD [1] [0] rfl rfl (by decide) (by decide) hk1 hFc hP1 hD1
  have hK := (hK.sub (tys' := []) [] rfl).app hK1
  generalize H1 = H at hP hS ⊢
  have hP : va_P (dC, dI) vwCl [(h0, .inr (9, [.null, .null, .null, .null])), (q_1, .inr (2, [.ref z_op_3, .ref z_a_4, .ref z_b_5, .ref z_place_6, .ref z_next_7, .ref z_needed_8, .int 0, .int (-1)]))] H := hP
  have hD : va_D A [(h0, .inr (9, [.null, .null, .null, .null])), (q_1, .inr (2, [.ref z_op_3, .ref z_a_4, .ref z_b_5, .ref z_place_6, .ref z_next_7, .ref z_needed_8, .int 0, .int (-1)]))] := hD
  have hK : va_K (dC, dI) vwCl [] s := hK
  refine W.widen (k := 7) (n := 18008) (Nat.le_of_ble_eq_true rfl) (Nat.le_of_ble_eq_true rfl) ?_
  refine va_putF (D := (dC, dI)) (ci := 9) (v := .ref q_1) (ty := .object "ReuseHouse$Code") (C := RX9) (T := TX9) (N := 4) hx hb hA zin_X9 tyX9 tyX9_ok nmX9 hown hK hP hD hS 0 rfl rfl 0 (by decide) (hA _ wi_308) (fun _ h9 => h9) rfl hin rfl (by decide +kernel) rfl rfl (Nat.le_of_ble_eq_true rfl) dX9_init_12 (fun H locs hP hD hS => ?_)
  have hP : va_P (dC, dI) vwCl [(h0, .inr (9, [.ref q_1, .null, .null, .null])), (q_1, .inr (2, [.ref z_op_3, .ref z_a_4, .ref z_b_5, .ref z_place_6, .ref z_next_7, .ref z_needed_8, .int 0, .int (-1)]))] H := hP
  have hD : va_D A [(h0, .inr (9, [.ref q_1, .null, .null, .null])), (q_1, .inr (2, [.ref z_op_3, .ref z_a_4, .ref z_b_5, .ref z_place_6, .ref z_next_7, .ref z_needed_8, .int 0, .int (-1)]))] := hD
  refine lv_aload_n hx hb dX9_init_15 rfl (lv_at hl 0 rfl) ?_
  refine va_new (ci := 0) (fs := [.null, .null, .null, .null, .null, .null, .int 0]) (C := RX0) (T := TX0) (N := 7) hx hb hA zin_X0 tyX0 tyX0_ok hown (hA _ wi_221) (hA _ wi_222) (hA _ wi_133) hK hP hD hS hAA rfl zd_X0 (Nat.le_of_ble_eq_true rfl) (Nat.le_of_ble_eq_true rfl) dX9_init_16 (fun q_9 H hP hD hS => ?_)
  have hP : va_P (dC, dI) vwCl [(h0, .inr (9, [.ref q_1, .null, .null, .null])), (q_1, .inr (2, [.ref z_op_3, .ref z_a_4, .ref z_b_5, .ref z_place_6, .ref z_next_7, .ref z_needed_8, .int 0, .int (-1)])), (q_9, .inr (0, [.null, .null, .null, .null, .null, .null, .int 0]))] H := hP
  have hD : va_D A [(h0, .inr (9, [.ref q_1, .null, .null, .null])), (q_1, .inr (2, [.ref z_op_3, .ref z_a_4, .ref z_b_5, .ref z_place_6, .ref z_next_7, .ref z_needed_8, .int 0, .int (-1)])), (q_9, .inr (0, [.null, .null, .null, .null, .null, .null, .int 0]))] := hD
  refine W.widen (k := 8) (n := 18015) (Nat.le_of_ble_eq_true rfl) (Nat.le_of_ble_eq_true rfl) ?_
  refine lv_dup hx hb dX9_init_19 rfl ?_
  have hPc := hP.sub (ws' := [(q_9, .inr (0, [.null, .null, .null, .null, .null, .null, .int 0]))]) [2] rfl
  have hDc := hD.sub (ws' := [(q_9, .inr (0, [.null, .null, .null, .null, .null, .null, .int 0]))]) [2] (by decide) rfl
  have hKc := hK.sub (tys' := []) [] rfl
  have hFc := va_free (wc := [(q_9, .inr (0, [.null, .null, .null, .null, .null, .null, .int 0]))]) hD hS hAA [2] rfl
  refine va_callv (va_runIN (As := []) (rest := [.ref q_9, .ref h0]) ⟨hx, hb, hml, hown, hA⟩ (c_X0_init l dC dI q_9 H.size) ⟨va_cnB 0 hA (zw_good wi_225) rfl rfl rfl (hN.2.1 ("ReuseHouse$Program", 18, yX0_init, "ReuseHouse") (by decide +kernel)) (hA _ wi_133) (by decide +kernel) ⟨(Nat.le_of_ble_eq_true rfl), (Nat.le_of_ble_eq_true rfl)⟩, rfl, hA _ wi_224⟩ ⟨zP_blind, zz_pre hKc hPc hDc hN hT hS hFc⟩ rfl rfl hl.1 rfl (lv_room (Nat.le_of_ble_eq_true rfl)) dX9_init_20 ⟨(Nat.le_of_ble_eq_true rfl), (Nat.le_of_ble_eq_true rfl)⟩) hS (fun q _ h => hFc q h) hFc (fun u t H1 locs ht hvm hw hB hz1 hk1 hS => ?_)
  obtain ⟨z_kind_11, z_next_12, z_before_13, z_leave_14, z_firstSlot_15, z_builds_16⟩ := u
  obtain ⟨hP1, hK1, hD1⟩ := hB
  rw [ht] at hP1
  have hK1 := va_K.moved hvm.symm hK1
  obtain ⟨hP, hD⟩ := va_join (wr := [(h0, .inr (9, [.ref q_1, .null, .null, .null])), (q_1, .inr (2, [.ref z_op_3, .ref z_a_4, .ref z_b_5, .ref z_place_6, .ref z_next_7, .ref z_needed_8, .int 0, .int (-1)]))]) (w1 := [(q_9, .inr (0, [.ref z_kind_11, .ref z_next_12, .ref z_before_13, .ref z_leave_14, .ref z_firstSlot_15, .ref z_builds_16, .int 0]))]) hP hD [2] [0, 1] rfl rfl (by decide) (by decide) hk1 hFc hP1 hD1
  have hK := (hK.sub (tys' := []) [] rfl).app hK1
  generalize H1 = H at hP hS ⊢
  have hP : va_P (dC, dI) vwCl [(h0, .inr (9, [.ref q_1, .null, .null, .null])), (q_1, .inr (2, [.ref z_op_3, .ref z_a_4, .ref z_b_5, .ref z_place_6, .ref z_next_7, .ref z_needed_8, .int 0, .int (-1)])), (q_9, .inr (0, [.ref z_kind_11, .ref z_next_12, .ref z_before_13, .ref z_leave_14, .ref z_firstSlot_15, .ref z_builds_16, .int 0]))] H := hP
  have hD : va_D A [(h0, .inr (9, [.ref q_1, .null, .null, .null])), (q_1, .inr (2, [.ref z_op_3, .ref z_a_4, .ref z_b_5, .ref z_place_6, .ref z_next_7, .ref z_needed_8, .int 0, .int (-1)])), (q_9, .inr (0, [.ref z_kind_11, .ref z_next_12, .ref z_before_13, .ref z_leave_14, .ref z_firstSlot_15, .ref z_builds_16, .int 0]))] := hD
  have hK : va_K (dC, dI) vwCl [] s := hK
  refine W.widen (k := 14) (n := 20415) (Nat.le_of_ble_eq_true rfl) (Nat.le_of_ble_eq_true rfl) ?_
  refine va_putF (D := (dC, dI)) (ci := 9) (v := .ref q_9) (ty := .object "ReuseHouse$Arms") (C := RX9) (T := TX9) (N := 4) hx hb hA zin_X9 tyX9 tyX9_ok nmX9 hown hK hP hD hS 0 rfl rfl 1 (by decide) (hA _ wi_312) (fun _ h9 => h9) rfl hin rfl (by decide +kernel) rfl rfl (Nat.le_of_ble_eq_true rfl) dX9_init_23 (fun H locs hP hD hS => ?_)
  have hP : va_P (dC, dI) vwCl [(h0, .inr (9, [.ref q_1, .ref q_9, .null, .null])), (q_1, .inr (2, [.ref z_op_3, .ref z_a_4, .ref z_b_5, .ref z_place_6, .ref z_next_7, .ref z_needed_8, .int 0, .int (-1)])), (q_9, .inr (0, [.ref z_kind_11, .ref z_next_12, .ref z_before_13, .ref z_leave_14, .ref z_firstSlot_15, .ref z_builds_16, .int 0]))] H := hP
  have hD : va_D A [(h0, .inr (9, [.ref q_1, .ref q_9, .null, .null])), (q_1, .inr (2, [.ref z_op_3, .ref z_a_4, .ref z_b_5, .ref z_place_6, .ref z_next_7, .ref z_needed_8, .int 0, .int (-1)])), (q_9, .inr (0, [.ref z_kind_11, .ref z_next_12, .ref z_before_13, .ref z_leave_14, .ref z_firstSlot_15, .ref z_builds_16, .int 0]))] := hD
  refine lv_aload_n hx hb dX9_init_26 rfl (lv_at hl 0 rfl) ?_
  refine va_new (ci := 4) (fs := [.null, .null, .int 0]) (C := RX4) (T := TX4) (N := 3) hx hb hA zin_X4 tyX4 tyX4_ok hown (hA _ wi_264) (hA _ wi_265) (hA _ wi_134) hK hP hD hS hAA rfl zd_X4 (Nat.le_of_ble_eq_true rfl) (Nat.le_of_ble_eq_true rfl) dX9_init_27 (fun q_17 H hP hD hS => ?_)
  have hP : va_P (dC, dI) vwCl [(h0, .inr (9, [.ref q_1, .ref q_9, .null, .null])), (q_1, .inr (2, [.ref z_op_3, .ref z_a_4, .ref z_b_5, .ref z_place_6, .ref z_next_7, .ref z_needed_8, .int 0, .int (-1)])), (q_9, .inr (0, [.ref z_kind_11, .ref z_next_12, .ref z_before_13, .ref z_leave_14, .ref z_firstSlot_15, .ref z_builds_16, .int 0])), (q_17, .inr (4, [.null, .null, .int 0]))] H := hP
  have hD : va_D A [(h0, .inr (9, [.ref q_1, .ref q_9, .null, .null])), (q_1, .inr (2, [.ref z_op_3, .ref z_a_4, .ref z_b_5, .ref z_place_6, .ref z_next_7, .ref z_needed_8, .int 0, .int (-1)])), (q_9, .inr (0, [.ref z_kind_11, .ref z_next_12, .ref z_before_13, .ref z_leave_14, .ref z_firstSlot_15, .ref z_builds_16, .int 0])), (q_17, .inr (4, [.null, .null, .int 0]))] := hD
  refine W.widen (k := 15) (n := 20418) (Nat.le_of_ble_eq_true rfl) (Nat.le_of_ble_eq_true rfl) ?_
  refine lv_dup hx hb dX9_init_30 rfl ?_
  have hPc := hP.sub (ws' := [(q_17, .inr (4, [.null, .null, .int 0]))]) [3] rfl
  have hDc := hD.sub (ws' := [(q_17, .inr (4, [.null, .null, .int 0]))]) [3] (by decide) rfl
  have hKc := hK.sub (tys' := []) [] rfl
  have hFc := va_free (wc := [(q_17, .inr (4, [.null, .null, .int 0]))]) hD hS hAA [3] rfl
  refine va_callv (va_runIN (As := []) (rest := [.ref q_17, .ref h0]) ⟨hx, hb, hml, hown, hA⟩ (c_X4_init l dC dI q_17 H.size) ⟨va_cnB 0 hA (zw_good wi_268) rfl rfl rfl (hN.2.1 ("ReuseHouse$Program", 25, yX4_init, "ReuseHouse") (by decide +kernel)) (hA _ wi_134) (by decide +kernel) ⟨(Nat.le_of_ble_eq_true rfl), (Nat.le_of_ble_eq_true rfl)⟩, rfl, hA _ wi_267⟩ ⟨zP_blind, zz_pre hKc hPc hDc hN hT hS hFc⟩ rfl rfl hl.1 rfl (lv_room (Nat.le_of_ble_eq_true rfl)) dX9_init_31 ⟨(Nat.le_of_ble_eq_true rfl), (Nat.le_of_ble_eq_true rfl)⟩) hS (fun q _ h => hFc q h) hFc (fun u t H1 locs ht hvm hw hB hz1 hk1 hS => ?_)
  obtain ⟨z_word_19, z_fields_20⟩ := u
  obtain ⟨hP1, hK1, hD1⟩ := hB
  rw [ht] at hP1
  have hK1 := va_K.moved hvm.symm hK1
  obtain ⟨hP, hD⟩ := va_join (wr := [(h0, .inr (9, [.ref q_1, .ref q_9, .null, .null])), (q_1, .inr (2, [.ref z_op_3, .ref z_a_4, .ref z_b_5, .ref z_place_6, .ref z_next_7, .ref z_needed_8, .int 0, .int (-1)])), (q_9, .inr (0, [.ref z_kind_11, .ref z_next_12, .ref z_before_13, .ref z_leave_14, .ref z_firstSlot_15, .ref z_builds_16, .int 0]))]) (w1 := [(q_17, .inr (4, [.ref z_word_19, .ref z_fields_20, .int 0]))]) hP hD [3] [0, 1, 2] rfl rfl (by decide) (by decide) hk1 hFc hP1 hD1
  have hK := (hK.sub (tys' := []) [] rfl).app hK1
  generalize H1 = H at hP hS ⊢
  have hP : va_P (dC, dI) vwCl [(h0, .inr (9, [.ref q_1, .ref q_9, .null, .null])), (q_1, .inr (2, [.ref z_op_3, .ref z_a_4, .ref z_b_5, .ref z_place_6, .ref z_next_7, .ref z_needed_8, .int 0, .int (-1)])), (q_9, .inr (0, [.ref z_kind_11, .ref z_next_12, .ref z_before_13, .ref z_leave_14, .ref z_firstSlot_15, .ref z_builds_16, .int 0])), (q_17, .inr (4, [.ref z_word_19, .ref z_fields_20, .int 0]))] H := hP
  have hD : va_D A [(h0, .inr (9, [.ref q_1, .ref q_9, .null, .null])), (q_1, .inr (2, [.ref z_op_3, .ref z_a_4, .ref z_b_5, .ref z_place_6, .ref z_next_7, .ref z_needed_8, .int 0, .int (-1)])), (q_9, .inr (0, [.ref z_kind_11, .ref z_next_12, .ref z_before_13, .ref z_leave_14, .ref z_firstSlot_15, .ref z_builds_16, .int 0])), (q_17, .inr (4, [.ref z_word_19, .ref z_fields_20, .int 0]))] := hD
  have hK : va_K (dC, dI) vwCl [] s := hK
  refine W.widen (k := 17) (n := 20458) (Nat.le_of_ble_eq_true rfl) (Nat.le_of_ble_eq_true rfl) ?_
  refine va_putF (D := (dC, dI)) (ci := 9) (v := .ref q_17) (ty := .object "ReuseHouse$Kinds") (C := RX9) (T := TX9) (N := 4) hx hb hA zin_X9 tyX9 tyX9_ok nmX9 hown hK hP hD hS 0 rfl rfl 2 (by decide) (hA _ wi_316) (fun _ h9 => h9) rfl hin rfl (by decide +kernel) rfl rfl (Nat.le_of_ble_eq_true rfl) dX9_init_34 (fun H locs hP hD hS => ?_)
  have hP : va_P (dC, dI) vwCl [(h0, .inr (9, [.ref q_1, .ref q_9, .ref q_17, .null])), (q_1, .inr (2, [.ref z_op_3, .ref z_a_4, .ref z_b_5, .ref z_place_6, .ref z_next_7, .ref z_needed_8, .int 0, .int (-1)])), (q_9, .inr (0, [.ref z_kind_11, .ref z_next_12, .ref z_before_13, .ref z_leave_14, .ref z_firstSlot_15, .ref z_builds_16, .int 0])), (q_17, .inr (4, [.ref z_word_19, .ref z_fields_20, .int 0]))] H := hP
  have hD : va_D A [(h0, .inr (9, [.ref q_1, .ref q_9, .ref q_17, .null])), (q_1, .inr (2, [.ref z_op_3, .ref z_a_4, .ref z_b_5, .ref z_place_6, .ref z_next_7, .ref z_needed_8, .int 0, .int (-1)])), (q_9, .inr (0, [.ref z_kind_11, .ref z_next_12, .ref z_before_13, .ref z_leave_14, .ref z_firstSlot_15, .ref z_builds_16, .int 0])), (q_17, .inr (4, [.ref z_word_19, .ref z_fields_20, .int 0]))] := hD
  refine lv_aload_n hx hb dX9_init_37 rfl (lv_at hl 0 rfl) ?_
  refine va_new (ci := 3) (fs := [.null, .null, .null, .int 0]) (C := RX3) (T := TX3) (N := 4) hx hb hA zin_X3 tyX3 tyX3_ok hown (hA _ wi_284) (hA _ wi_285) (hA _ wi_135) hK hP hD hS hAA rfl zd_X3 (Nat.le_of_ble_eq_true rfl) (Nat.le_of_ble_eq_true rfl) dX9_init_38 (fun q_21 H hP hD hS => ?_)
  have hP : va_P (dC, dI) vwCl [(h0, .inr (9, [.ref q_1, .ref q_9, .ref q_17, .null])), (q_1, .inr (2, [.ref z_op_3, .ref z_a_4, .ref z_b_5, .ref z_place_6, .ref z_next_7, .ref z_needed_8, .int 0, .int (-1)])), (q_9, .inr (0, [.ref z_kind_11, .ref z_next_12, .ref z_before_13, .ref z_leave_14, .ref z_firstSlot_15, .ref z_builds_16, .int 0])), (q_17, .inr (4, [.ref z_word_19, .ref z_fields_20, .int 0])), (q_21, .inr (3, [.null, .null, .null, .int 0]))] H := hP
  have hD : va_D A [(h0, .inr (9, [.ref q_1, .ref q_9, .ref q_17, .null])), (q_1, .inr (2, [.ref z_op_3, .ref z_a_4, .ref z_b_5, .ref z_place_6, .ref z_next_7, .ref z_needed_8, .int 0, .int (-1)])), (q_9, .inr (0, [.ref z_kind_11, .ref z_next_12, .ref z_before_13, .ref z_leave_14, .ref z_firstSlot_15, .ref z_builds_16, .int 0])), (q_17, .inr (4, [.ref z_word_19, .ref z_fields_20, .int 0])), (q_21, .inr (3, [.null, .null, .null, .int 0]))] := hD
  refine W.widen (k := 18) (n := 20462) (Nat.le_of_ble_eq_true rfl) (Nat.le_of_ble_eq_true rfl) ?_
  refine lv_dup hx hb dX9_init_41 rfl ?_
  have hPc := hP.sub (ws' := [(q_21, .inr (3, [.null, .null, .null, .int 0]))]) [4] rfl
  have hDc := hD.sub (ws' := [(q_21, .inr (3, [.null, .null, .null, .int 0]))]) [4] (by decide) rfl
  have hKc := hK.sub (tys' := []) [] rfl
  have hFc := va_free (wc := [(q_21, .inr (3, [.null, .null, .null, .int 0]))]) hD hS hAA [4] rfl
  refine va_callv (va_runIN (As := []) (rest := [.ref q_21, .ref h0]) ⟨hx, hb, hml, hown, hA⟩ (c_X3_init l dC dI q_21 H.size) ⟨va_cnB 0 hA (zw_good wi_288) rfl rfl rfl (hN.2.1 ("ReuseHouse$Program", 32, yX3_init, "ReuseHouse") (by decide +kernel)) (hA _ wi_135) (by decide +kernel) ⟨(Nat.le_of_ble_eq_true rfl), (Nat.le_of_ble_eq_true rfl)⟩, rfl, hA _ wi_287⟩ ⟨zP_blind, zz_pre hKc hPc hDc hN hT hS hFc⟩ rfl rfl hl.1 rfl (lv_room (Nat.le_of_ble_eq_true rfl)) dX9_init_42 ⟨(Nat.le_of_ble_eq_true rfl), (Nat.le_of_ble_eq_true rfl)⟩) hS (fun q _ h => hFc q h) hFc (fun u t H1 locs ht hvm hw hB hz1 hk1 hS => ?_)
  obtain ⟨z_word_23, z_enter_24, z_facts_25⟩ := u
  obtain ⟨hP1, hK1, hD1⟩ := hB
  rw [ht] at hP1
  have hK1 := va_K.moved hvm.symm hK1
  obtain ⟨hP, hD⟩ := va_join (wr := [(h0, .inr (9, [.ref q_1, .ref q_9, .ref q_17, .null])), (q_1, .inr (2, [.ref z_op_3, .ref z_a_4, .ref z_b_5, .ref z_place_6, .ref z_next_7, .ref z_needed_8, .int 0, .int (-1)])), (q_9, .inr (0, [.ref z_kind_11, .ref z_next_12, .ref z_before_13, .ref z_leave_14, .ref z_firstSlot_15, .ref z_builds_16, .int 0])), (q_17, .inr (4, [.ref z_word_19, .ref z_fields_20, .int 0]))]) (w1 := [(q_21, .inr (3, [.ref z_word_23, .ref z_enter_24, .ref z_facts_25, .int 0]))]) hP hD [4] [0, 1, 2, 3] rfl rfl (by decide) (by decide) hk1 hFc hP1 hD1
  have hK := (hK.sub (tys' := []) [] rfl).app hK1
  generalize H1 = H at hP hS ⊢
  have hP : va_P (dC, dI) vwCl [(h0, .inr (9, [.ref q_1, .ref q_9, .ref q_17, .null])), (q_1, .inr (2, [.ref z_op_3, .ref z_a_4, .ref z_b_5, .ref z_place_6, .ref z_next_7, .ref z_needed_8, .int 0, .int (-1)])), (q_9, .inr (0, [.ref z_kind_11, .ref z_next_12, .ref z_before_13, .ref z_leave_14, .ref z_firstSlot_15, .ref z_builds_16, .int 0])), (q_17, .inr (4, [.ref z_word_19, .ref z_fields_20, .int 0])), (q_21, .inr (3, [.ref z_word_23, .ref z_enter_24, .ref z_facts_25, .int 0]))] H := hP
  have hD : va_D A [(h0, .inr (9, [.ref q_1, .ref q_9, .ref q_17, .null])), (q_1, .inr (2, [.ref z_op_3, .ref z_a_4, .ref z_b_5, .ref z_place_6, .ref z_next_7, .ref z_needed_8, .int 0, .int (-1)])), (q_9, .inr (0, [.ref z_kind_11, .ref z_next_12, .ref z_before_13, .ref z_leave_14, .ref z_firstSlot_15, .ref z_builds_16, .int 0])), (q_17, .inr (4, [.ref z_word_19, .ref z_fields_20, .int 0])), (q_21, .inr (3, [.ref z_word_23, .ref z_enter_24, .ref z_facts_25, .int 0]))] := hD
  have hK : va_K (dC, dI) vwCl [] s := hK
  refine W.widen (k := 21) (n := 20672) (Nat.le_of_ble_eq_true rfl) (Nat.le_of_ble_eq_true rfl) ?_
  refine va_putF (D := (dC, dI)) (ci := 9) (v := .ref q_21) (ty := .object "ReuseHouse$Functions") (C := RX9) (T := TX9) (N := 4) hx hb hA zin_X9 tyX9 tyX9_ok nmX9 hown hK hP hD hS 0 rfl rfl 3 (by decide) (hA _ wi_320) (fun _ h9 => h9) rfl hin rfl (by decide +kernel) rfl rfl (Nat.le_of_ble_eq_true rfl) dX9_init_45 (fun H locs hP hD hS => ?_)
  have hP : va_P (dC, dI) vwCl [(h0, .inr (9, [.ref q_1, .ref q_9, .ref q_17, .ref q_21])), (q_1, .inr (2, [.ref z_op_3, .ref z_a_4, .ref z_b_5, .ref z_place_6, .ref z_next_7, .ref z_needed_8, .int 0, .int (-1)])), (q_9, .inr (0, [.ref z_kind_11, .ref z_next_12, .ref z_before_13, .ref z_leave_14, .ref z_firstSlot_15, .ref z_builds_16, .int 0])), (q_17, .inr (4, [.ref z_word_19, .ref z_fields_20, .int 0])), (q_21, .inr (3, [.ref z_word_23, .ref z_enter_24, .ref z_facts_25, .int 0]))] H := hP
  have hD : va_D A [(h0, .inr (9, [.ref q_1, .ref q_9, .ref q_17, .ref q_21])), (q_1, .inr (2, [.ref z_op_3, .ref z_a_4, .ref z_b_5, .ref z_place_6, .ref z_next_7, .ref z_needed_8, .int 0, .int (-1)])), (q_9, .inr (0, [.ref z_kind_11, .ref z_next_12, .ref z_before_13, .ref z_leave_14, .ref z_firstSlot_15, .ref z_builds_16, .int 0])), (q_17, .inr (4, [.ref z_word_19, .ref z_fields_20, .int 0])), (q_21, .inr (3, [.ref z_word_23, .ref z_enter_24, .ref z_facts_25, .int 0]))] := hD
  have hP9 := hP.sub (ws' := [(h0, .inr (9, [.ref q_1, .ref q_9, .ref q_17, .ref q_21])), (q_1, .inr (2, [.ref z_op_3, .ref z_a_4, .ref z_b_5, .ref z_place_6, .ref z_next_7, .ref z_needed_8, .int 0, .int (-1)])), (q_9, .inr (0, [.ref z_kind_11, .ref z_next_12, .ref z_before_13, .ref z_leave_14, .ref z_firstSlot_15, .ref z_builds_16, .int 0])), (q_17, .inr (4, [.ref z_word_19, .ref z_fields_20, .int 0])), (q_21, .inr (3, [.ref z_word_23, .ref z_enter_24, .ref z_facts_25, .int 0]))]) [0, 1, 2, 3, 4] rfl
  have hD9 := hD.sub (ws' := [(h0, .inr (9, [.ref q_1, .ref q_9, .ref q_17, .ref q_21])), (q_1, .inr (2, [.ref z_op_3, .ref z_a_4, .ref z_b_5, .ref z_place_6, .ref z_next_7, .ref z_needed_8, .int 0, .int (-1)])), (q_9, .inr (0, [.ref z_kind_11, .ref z_next_12, .ref z_before_13, .ref z_leave_14, .ref z_firstSlot_15, .ref z_builds_16, .int 0])), (q_17, .inr (4, [.ref z_word_19, .ref z_fields_20, .int 0])), (q_21, .inr (3, [.ref z_word_23, .ref z_enter_24, .ref z_facts_25, .int 0]))]) [0, 1, 2, 3, 4] (by decide) rfl
  have hK9 := hK.sub (tys' := []) [] rfl
  exact W.vret hx hb hr (fun t ht hW => ⟨⟨(q_1, q_9, q_17, q_21, z_op_3, z_a_4, z_b_5, z_place_6, z_next_7, z_needed_8, z_kind_11, z_next_12, z_before_13, z_leave_14, z_firstSlot_15, z_builds_16, z_word_19, z_fields_20, z_word_23, z_enter_24, z_facts_25), rfl, trivial, by rw [ht]; exact hP9, va_K.moved hW.alike hK9, hD9⟩, hS.F ht⟩) hS.2.2 dX9_init_48
set_option maxHeartbeats 4000000 in
set_option maxRecDepth 100000 in
theorem c_X1_init_0 (l : Launch) (dC : Nat → ClassId) (dI : Nat → Nat → Nat) (h0 : Nat) (sz : Nat)  : Met l yX1_init (Cond.code yX1_init cX1_init 3 none :: zw) ({ frames := 10, cells := 6, slots := 43, locals := 300 }) (va_Pc [.ref h0, .int 0] (zP dC dI sz [] [(h0, .inr (1, [.null, .null, .null, .null, .int 0, .int 0, .int 0, .int 0, .int 0, .int 0, .int 0, .int 0, .int 0]))])) (va_Qv (fun u : Unit => True) (fun u => zQ dC dI (va_A [(h0, .inr (1, [.null, .null, .null, .null, .int 0, .int 0, .int 0, .int 0, .int 0, .int 0, .int 0, .int 0, .int 0]))] sz) [] []) (va_A [(h0, .inr (1, [.null, .null, .null, .null, .int 0, .int 0, .int 0, .int 0, .int 0, .int 0, .int 0, .int 0, .int 0]))] sz)) 6 43 (va_A [(h0, .inr (1, [.null, .null, .null, .null, .int 0, .int 0, .int 0, .int 0, .int 0, .int 0, .int 0, .int 0, .int 0]))] sz) := by
  refine Met.ofW (cc := cX1_init) (maxL := 3) (ret := none) (by decide) rfl ?_
  intro p e s m args below meth c s₁ B hml hv
  obtain ⟨rfl, hsz, hP, hK, hD0, hN, hT⟩ := hv
  have hx := B.exec
  have hb := B.bytes
  have hr := B.returns
  have hts := atoms_spec (ws := Cond.code yX1_init cX1_init 3 none :: zw) B.pre
  have hA : ∀ w ∈ zw, w.before _ s = true := fun w h => hts w (List.mem_cons_of_mem _ h)
  have hown : s.vm.findClass RX1 = some m.cls := findClass_of_methodNamed B.named
  have hlocks := B.notSynchronized
  have hin : meth.name = "<init>" := (name_of_methodNamed B.named B.method).1
  subst hsz
  have hD := hD0.self (sz := s.heap.size)
  generalize hAe : va_A [(h0, .inr (1, [.null, .null, .null, .null, .int 0, .int 0, .int 0, .int 0, .int 0, .int 0, .int 0, .int 0, .int 0]))] s.heap.size = A at hD hT ⊢
  have hAA : ∀ q : Nat, s.heap.size ≤ q → A q := fun q h => by rw [← hAe]; exact Or.inr h
  have hS : va_S A s.heap s.heap [] := va_S.rf
  have hl := lv_entry ([.ref h0, .int 0]) (n := 3) (Nat.le_of_ble_eq_true rfl)
  rw [lg_entry_eq]
  generalize (lg_sl ([.ref h0, .int 0]) ++ List.replicate (3 - (lg_sl ([.ref h0, .int 0])).length) Slot.unset).toArray = ls at hl ⊢
  have hl : lv_has ls 3 [(0, .ref h0), (1, .int 0)] := hl
  refine lv_aload_n hx hb dX1_init_0 rfl (lv_at hl 0 rfl) ?_
  refine W.objInit hx hb hown (hA _ wi_429) (hA _ wi_162) (hA _ wi_163) rfl (by rw [hml]; exact hl.1) rfl dX1_init_1 (Nat.le_of_ble_eq_true rfl) (Nat.le_of_ble_eq_true rfl) ?_
  refine W.eq (g2 := F0 m 4 ls []) rfl ?_
  refine lv_aload_n hx hb dX1_init_4 rfl (lv_at hl 0 rfl) ?_
  refine lv_iconst (v := 0) hx hb dX1_init_5 (by decide) ?_
  refine va_put (D := (dC, dI)) (ci := 1) (v := .int 0) (ty := .int) (C := RX1) (T := TX1) (N := 13) hx hb hA zin_X1 tyX1 tyX1_ok nmX1 hown hK hP hD hS 0 rfl rfl 4 (by decide) (hA _ wi_441) (fun _ h9 => h9) rfl (by decide +kernel) rfl rfl (Nat.le_of_ble_eq_true rfl) dX1_init_6 (fun H locs hP hD hS => ?_)
  have hP : va_P (dC, dI) vwCl [(h0, .inr (1, [.null, .null, .null, .null, .int 0, .int 0, .int 0, .int 0, .int 0, .int 0, .int 0, .int 0, .int 0]))] H := hP
  have hD : va_D A [(h0, .inr (1, [.null, .null, .null, .null, .int 0, .int 0, .int 0, .int 0, .int 0, .int 0, .int 0, .int 0, .int 0]))] := hD
  refine lv_aload_n hx hb dX1_init_9 rfl (lv_at hl 0 rfl) ?_
  refine lv_iconst (v := 0) hx hb dX1_init_10 (by decide) ?_
  refine va_put (D := (dC, dI)) (ci := 1) (v := .int 0) (ty := .int) (C := RX1) (T := TX1) (N := 13) hx hb hA zin_X1 tyX1 tyX1_ok nmX1 hown hK hP hD hS 0 rfl rfl 5 (by decide) (hA _ wi_442) (fun _ h9 => h9) rfl (by decide +kernel) rfl rfl (Nat.le_of_ble_eq_true rfl) dX1_init_11 (fun H locs hP hD hS => ?_)
  have hP : va_P (dC, dI) vwCl [(h0, .inr (1, [.null, .null, .null, .null, .int 0, .int 0, .int 0, .int 0, .int 0, .int 0, .int 0, .int 0, .int 0]))] H := hP
  have hD : va_D A [(h0, .inr (1, [.null, .null, .null, .null, .int 0, .int 0, .int 0, .int 0, .int 0, .int 0, .int 0, .int 0, .int 0]))] := hD
  refine lv_aload_n hx hb dX1_init_14 rfl (lv_at hl 0 rfl) ?_
  refine lv_iconst (v := (-1)) hx hb dX1_init_15 (by decide) ?_
  refine va_put (D := (dC, dI)) (ci := 1) (v := .int (-1)) (ty := .int) (C := RX1) (T := TX1) (N := 13) hx hb hA zin_X1 tyX1 tyX1_ok nmX1 hown hK hP hD hS 0 rfl rfl 6 (by decide) (hA _ wi_443) (fun _ h9 => h9) rfl (by decide +kernel) rfl rfl (Nat.le_of_ble_eq_true rfl) dX1_init_16 (fun H locs hP hD hS => ?_)
  have hP : va_P (dC, dI) vwCl [(h0, .inr (1, [.null, .null, .null, .null, .int 0, .int 0, .int (-1), .int 0, .int 0, .int 0, .int 0, .int 0, .int 0]))] H := hP
  have hD : va_D A [(h0, .inr (1, [.null, .null, .null, .null, .int 0, .int 0, .int (-1), .int 0, .int 0, .int 0, .int 0, .int 0, .int 0]))] := hD
  refine lv_aload_n hx hb dX1_init_19 rfl (lv_at hl 0 rfl) ?_
  refine lv_iconst (v := 0) hx hb dX1_init_20 (by decide) ?_
  refine va_put (D := (dC, dI)) (ci := 1) (v := .int 0) (ty := .int) (C := RX1) (T := TX1) (N := 13) hx hb hA zin_X1 tyX1 tyX1_ok nmX1 hown hK hP hD hS 0 rfl rfl 7 (by decide) (hA _ wi_444) (fun _ h9 => h9) rfl (by decide +kernel) rfl rfl (Nat.le_of_ble_eq_true rfl) dX1_init_21 (fun H locs hP hD hS => ?_)
  have hP : va_P (dC, dI) vwCl [(h0, .inr (1, [.null, .null, .null, .null, .int 0, .int 0, .int (-1), .int 0, .int 0, .int 0, .int 0, .int 0, .int 0]))] H := hP
  have hD : va_D A [(h0, .inr (1, [.null, .null, .null, .null, .int 0, .int 0, .int (-1), .int 0, .int 0, .int 0, .int 0, .int 0, .int 0]))] := hD
  refine lv_aload_n hx hb dX1_init_24 rfl (lv_at hl 0 rfl) ?_
  refine lv_iconst (v := 0) hx hb dX1_init_25 (by decide) ?_
  refine va_put (D := (dC, dI)) (ci := 1) (v := .int 0) (ty := .int) (C := RX1) (T := TX1) (N := 13) hx hb hA zin_X1 tyX1 tyX1_ok nmX1 hown hK hP hD hS 0 rfl rfl 8 (by decide) (hA _ wi_446) (fun _ h9 => h9) rfl (by decide +kernel) rfl rfl (Nat.le_of_ble_eq_true rfl) dX1_init_26 (fun H locs hP hD hS => ?_)
  have hP : va_P (dC, dI) vwCl [(h0, .inr (1, [.null, .null, .null, .null, .int 0, .int 0, .int (-1), .int 0, .int 0, .int 0, .int 0, .int 0, .int 0]))] H := hP
  have hD : va_D A [(h0, .inr (1, [.null, .null, .null, .null, .int 0, .int 0, .int (-1), .int 0, .int 0, .int 0, .int 0, .int 0, .int 0]))] := hD
  refine lv_aload_n hx hb dX1_init_29 rfl (lv_at hl 0 rfl) ?_
  refine lv_iconst (v := 0) hx hb dX1_init_30 (by decide) ?_
  refine va_put (D := (dC, dI)) (ci := 1) (v := .int 0) (ty := .int) (C := RX1) (T := TX1) (N := 13) hx hb hA zin_X1 tyX1 tyX1_ok nmX1 hown hK hP hD hS 0 rfl rfl 9 (by decide) (hA _ wi_448) (fun _ h9 => h9) rfl (by decide +kernel) rfl rfl (Nat.le_of_ble_eq_true rfl) dX1_init_31 (fun H locs hP hD hS => ?_)
  have hP : va_P (dC, dI) vwCl [(h0, .inr (1, [.null, .null, .null, .null, .int 0, .int 0, .int (-1), .int 0, .int 0, .int 0, .int 0, .int 0, .int 0]))] H := hP
  have hD : va_D A [(h0, .inr (1, [.null, .null, .null, .null, .int 0, .int 0, .int (-1), .int 0, .int 0, .int 0, .int 0, .int 0, .int 0]))] := hD
  refine lv_aload_n hx hb dX1_init_34 rfl (lv_at hl 0 rfl) ?_
  refine lv_iconst (v := 0) hx hb dX1_init_35 (by decide) ?_
  refine va_put (D := (dC, dI)) (ci := 1) (v := .int 0) (ty := .int) (C := RX1) (T := TX1) (N := 13) hx hb hA zin_X1 tyX1 tyX1_ok nmX1 hown hK hP hD hS 0 rfl rfl 10 (by decide) (hA _ wi_450) (fun _ h9 => h9) rfl (by decide +kernel) rfl rfl (Nat.le_of_ble_eq_true rfl) dX1_init_36 (fun H locs hP hD hS => ?_)
  have hP : va_P (dC, dI) vwCl [(h0, .inr (1, [.null, .null, .null, .null, .int 0, .int 0, .int (-1), .int 0, .int 0, .int 0, .int 0, .int 0, .int 0]))] H := hP
  have hD : va_D A [(h0, .inr (1, [.null, .null, .null, .null, .int 0, .int 0, .int (-1), .int 0, .int 0, .int 0, .int 0, .int 0, .int 0]))] := hD
  refine lv_aload_n hx hb dX1_init_39 rfl (lv_at hl 0 rfl) ?_
  refine lv_iconst (v := 0) hx hb dX1_init_40 (by decide) ?_
  refine va_put (D := (dC, dI)) (ci := 1) (v := .int 0) (ty := .int) (C := RX1) (T := TX1) (N := 13) hx hb hA zin_X1 tyX1 tyX1_ok nmX1 hown hK hP hD hS 0 rfl rfl 11 (by decide) (hA _ wi_453) (fun _ h9 => h9) rfl (by decide +kernel) rfl rfl (Nat.le_of_ble_eq_true rfl) dX1_init_41 (fun H locs hP hD hS => ?_)
  have hP : va_P (dC, dI) vwCl [(h0, .inr (1, [.null, .null, .null, .null, .int 0, .int 0, .int (-1), .int 0, .int 0, .int 0, .int 0, .int 0, .int 0]))] H := hP
  have hD : va_D A [(h0, .inr (1, [.null, .null, .null, .null, .int 0, .int 0, .int (-1), .int 0, .int 0, .int 0, .int 0, .int 0, .int 0]))] := hD
  refine lv_aload_n hx hb dX1_init_44 rfl (lv_at hl 0 rfl) ?_
  refine lv_iconst (v := 0) hx hb dX1_init_45 (by decide) ?_
  refine va_put (D := (dC, dI)) (ci := 1) (v := .int 0) (ty := .int) (C := RX1) (T := TX1) (N := 13) hx hb hA zin_X1 tyX1 tyX1_ok nmX1 hown hK hP hD hS 0 rfl rfl 12 (by decide) (hA _ wi_455) (fun _ h9 => h9) rfl (by decide +kernel) rfl rfl (Nat.le_of_ble_eq_true rfl) dX1_init_46 (fun H locs hP hD hS => ?_)
  have hP : va_P (dC, dI) vwCl [(h0, .inr (1, [.null, .null, .null, .null, .int 0, .int 0, .int (-1), .int 0, .int 0, .int 0, .int 0, .int 0, .int 0]))] H := hP
  have hD : va_D A [(h0, .inr (1, [.null, .null, .null, .null, .int 0, .int 0, .int (-1), .int 0, .int 0, .int 0, .int 0, .int 0, .int 0]))] := hD
  refine lv_iconst (v := 0) hx hb dX1_init_49 (by decide) ?_
  refine lv_iload_n hx hb dX1_init_50 rfl (lv_at hl 1 rfl) ?_
  refine va_mmax hx hb (by rw [hml]; exact hl.1.symm) hown (hA _ wi_430) (hA _ wi_431) (hA _ wi_141) (hA _ wi_432) (Nat.le_of_ble_eq_true rfl) (Nat.le_of_ble_eq_true rfl) (Nat.le_of_ble_eq_true rfl) (Nat.le_of_ble_eq_true rfl) dX1_init_51 ?_
  refine lv_topi (fun x_1 ex_1 => ?_)
  obtain rfl : x_1 = 0 := ex_1.trans (by decide)
  refine lv_istore_n (lv' := [(2, .int 0), (0, .ref h0), (1, .int 0)]) hx hb dX1_init_54 rfl hl (by decide) rfl (fun ls hl => ?_)
  refine lv_aload_n hx hb dX1_init_55 rfl (lv_at hl 1 rfl) ?_
  refine lv_iload_n hx hb dX1_init_56 rfl (lv_at hl 0 rfl) ?_
  refine va_newa (atype := .int) (ty := .int) (a0 := (0, .inl (fun _ => 0))) (N' := 0) hx hb (hA _ wi_220) rfl hK hP hD hS hAA (fun _ => rfl) (by decide) (by decide) (by decide) (Nat.le_of_ble_eq_true rfl) (Nat.le_of_ble_eq_true rfl) dX1_init_57 (fun q_2 cA_3 H hK hP hD hS => ?_)
  have hP : va_P (dC, dI) vwCl [(h0, .inr (1, [.null, .null, .null, .null, .int 0, .int 0, .int (-1), .int 0, .int 0, .int 0, .int 0, .int 0, .int 0])), (q_2, .inl (cA_3, 0, .inl (fun _ => 0)))] H := hP
  have hD : va_D A [(h0, .inr (1, [.null, .null, .null, .null, .int 0, .int 0, .int (-1), .int 0, .int 0, .int 0, .int 0, .int 0, .int 0])), (q_2, .inl (cA_3, 0, .inl (fun _ => 0)))] := hD
  have hK : va_K (dC, dI) vwCl [(cA_3, .int)] s := hK
  refine W.widen (k := 1) (n := 0) (Nat.le_of_ble_eq_true rfl) (Nat.le_of_ble_eq_true rfl) ?_
  refine va_putF (D := (dC, dI)) (ci := 1) (v := .ref q_2) (ty := .array .int) (C := RX1) (T := TX1) (N := 13) hx hb hA zin_X1 tyX1 tyX1_ok nmX1 hown hK hP hD hS 0 rfl rfl 0 (by decide) (hA _ wi_435) (fun _ h9 => h9) rfl hin rfl (by decide +kernel) rfl rfl (Nat.le_of_ble_eq_true rfl) dX1_init_59 (fun H locs hP hD hS => ?_)
  have hP : va_P (dC, dI) vwCl [(h0, .inr (1, [.ref q_2, .null, .null, .null, .int 0, .int 0, .int (-1), .int 0, .int 0, .int 0, .int 0, .int 0, .int 0])), (q_2, .inl (cA_3, 0, .inl (fun _ => 0)))] H := hP
  have hD : va_D A [(h0, .inr (1, [.ref q_2, .null, .null, .null, .int 0, .int 0, .int (-1), .int 0, .int 0, .int 0, .int 0, .int 0, .int 0])), (q_2, .inl (cA_3, 0, .inl (fun _ => 0)))] := hD
  refine lv_aload_n hx hb dX1_init_62 rfl (lv_at hl 1 rfl) ?_
  refine lv_iload_n hx hb dX1_init_63 rfl (lv_at hl 0 rfl) ?_
  refine va_newa (atype := .int) (ty := .int) (a0 := (0, .inl (fun _ => 0))) (N' := 0) hx hb (hA _ wi_220) rfl hK hP hD hS hAA (fun _ => rfl) (by decide) (by decide) (by decide) (Nat.le_of_ble_eq_true rfl) (Nat.le_of_ble_eq_true rfl) dX1_init_64 (fun q_4 cA_5 H hK hP hD hS => ?_)
  have hP : va_P (dC, dI) vwCl [(h0, .inr (1, [.ref q_2, .null, .null, .null, .int 0, .int 0, .int (-1), .int 0, .int 0, .int 0, .int 0, .int 0, .int 0])), (q_2, .inl (cA_3, 0, .inl (fun _ => 0))), (q_4, .inl (cA_5, 0, .inl (fun _ => 0)))] H := hP
  have hD : va_D A [(h0, .inr (1, [.ref q_2, .null, .null, .null, .int 0, .int 0, .int (-1), .int 0, .int 0, .int 0, .int 0, .int 0, .int 0])), (q_2, .inl (cA_3, 0, .inl (fun _ => 0))), (q_4, .inl (cA_5, 0, .inl (fun _ => 0)))] := hD
  have hK : va_K (dC, dI) vwCl [(cA_3, .int), (cA_5, .int)] s := hK
  refine W.widen (k := 2) (n := 0) (Nat.le_of_ble_eq_true rfl) (Nat.le_of_ble_eq_true rfl) ?_
  refine va_putF (D := (dC, dI)) (ci := 1) (v := .ref q_4) (ty := .array .int) (C := RX1) (T := TX1) (N := 13) hx hb hA zin_X1 tyX1 tyX1_ok nmX1 hown hK hP hD hS 0 rfl rfl 1 (by decide) (hA _ wi_436) (fun _ h9 => h9) rfl hin rfl (by decide +kernel) rfl rfl (Nat.le_of_ble_eq_true rfl) dX1_init_66 (fun H locs hP hD hS => ?_)
  have hP : va_P (dC, dI) vwCl [(h0, .inr (1, [.ref q_2, .ref q_4, .null, .null, .int 0, .int 0, .int (-1), .int 0, .int 0, .int 0, .int 0, .int 0, .int 0])), (q_2, .inl (cA_3, 0, .inl (fun _ => 0))), (q_4, .inl (cA_5, 0, .inl (fun _ => 0)))] H := hP
  have hD : va_D A [(h0, .inr (1, [.ref q_2, .ref q_4, .null, .null, .int 0, .int 0, .int (-1), .int 0, .int 0, .int 0, .int 0, .int 0, .int 0])), (q_2, .inl (cA_3, 0, .inl (fun _ => 0))), (q_4, .inl (cA_5, 0, .inl (fun _ => 0)))] := hD
  refine lv_aload_n hx hb dX1_init_69 rfl (lv_at hl 1 rfl) ?_
  refine lv_iload_n hx hb dX1_init_70 rfl (lv_at hl 0 rfl) ?_
  refine lv_iconst (v := 3) hx hb dX1_init_71 (by decide) ?_
  refine lv_imul hx hb dX1_init_72 ?_
  refine lv_topi (fun x_6 ex_6 => ?_)
  obtain rfl : x_6 = 0 := ex_6.trans (by decide)
  refine va_newa (atype := .long) (ty := .long) (a0 := (0, .inr (.inl (fun _ => 0)))) (N' := 0) hx hb (hA _ wi_283) rfl hK hP hD hS hAA (fun _ => rfl) (by decide) (by decide) (by decide) (Nat.le_of_ble_eq_true rfl) (Nat.le_of_ble_eq_true rfl) dX1_init_73 (fun q_7 cA_8 H hK hP hD hS => ?_)
  have hP : va_P (dC, dI) vwCl [(h0, .inr (1, [.ref q_2, .ref q_4, .null, .null, .int 0, .int 0, .int (-1), .int 0, .int 0, .int 0, .int 0, .int 0, .int 0])), (q_2, .inl (cA_3, 0, .inl (fun _ => 0))), (q_4, .inl (cA_5, 0, .inl (fun _ => 0))), (q_7, .inl (cA_8, 0, .inr (.inl (fun _ => 0))))] H := hP
  have hD : va_D A [(h0, .inr (1, [.ref q_2, .ref q_4, .null, .null, .int 0, .int 0, .int (-1), .int 0, .int 0, .int 0, .int 0, .int 0, .int 0])), (q_2, .inl (cA_3, 0, .inl (fun _ => 0))), (q_4, .inl (cA_5, 0, .inl (fun _ => 0))), (q_7, .inl (cA_8, 0, .inr (.inl (fun _ => 0))))] := hD
  have hK : va_K (dC, dI) vwCl [(cA_3, .int), (cA_5, .int), (cA_8, .long)] s := hK
  refine W.widen (k := 3) (n := 0) (Nat.le_of_ble_eq_true rfl) (Nat.le_of_ble_eq_true rfl) ?_
  refine va_putF (D := (dC, dI)) (ci := 1) (v := .ref q_7) (ty := .array .long) (C := RX1) (T := TX1) (N := 13) hx hb hA zin_X1 tyX1 tyX1_ok nmX1 hown hK hP hD hS 0 rfl rfl 2 (by decide) (hA _ wi_438) (fun _ h9 => h9) rfl hin rfl (by decide +kernel) rfl rfl (Nat.le_of_ble_eq_true rfl) dX1_init_75 (fun H locs hP hD hS => ?_)
  have hP : va_P (dC, dI) vwCl [(h0, .inr (1, [.ref q_2, .ref q_4, .ref q_7, .null, .int 0, .int 0, .int (-1), .int 0, .int 0, .int 0, .int 0, .int 0, .int 0])), (q_2, .inl (cA_3, 0, .inl (fun _ => 0))), (q_4, .inl (cA_5, 0, .inl (fun _ => 0))), (q_7, .inl (cA_8, 0, .inr (.inl (fun _ => 0))))] H := hP
  have hD : va_D A [(h0, .inr (1, [.ref q_2, .ref q_4, .ref q_7, .null, .int 0, .int 0, .int (-1), .int 0, .int 0, .int 0, .int 0, .int 0, .int 0])), (q_2, .inl (cA_3, 0, .inl (fun _ => 0))), (q_4, .inl (cA_5, 0, .inl (fun _ => 0))), (q_7, .inl (cA_8, 0, .inr (.inl (fun _ => 0))))] := hD
  refine lv_aload_n hx hb dX1_init_78 rfl (lv_at hl 1 rfl) ?_
  refine va_new (ci := 4) (fs := [.null, .null, .int 0]) (C := RX4) (T := TX4) (N := 3) hx hb hA zin_X4 tyX4 tyX4_ok hown (hA _ wi_433) (hA _ wi_265) (hA _ wi_134) hK hP hD hS hAA rfl zd_X4 (Nat.le_of_ble_eq_true rfl) (Nat.le_of_ble_eq_true rfl) dX1_init_79 (fun q_9 H hP hD hS => ?_)
  have hP : va_P (dC, dI) vwCl [(h0, .inr (1, [.ref q_2, .ref q_4, .ref q_7, .null, .int 0, .int 0, .int (-1), .int 0, .int 0, .int 0, .int 0, .int 0, .int 0])), (q_2, .inl (cA_3, 0, .inl (fun _ => 0))), (q_4, .inl (cA_5, 0, .inl (fun _ => 0))), (q_7, .inl (cA_8, 0, .inr (.inl (fun _ => 0)))), (q_9, .inr (4, [.null, .null, .int 0]))] H := hP
  have hD : va_D A [(h0, .inr (1, [.ref q_2, .ref q_4, .ref q_7, .null, .int 0, .int 0, .int (-1), .int 0, .int 0, .int 0, .int 0, .int 0, .int 0])), (q_2, .inl (cA_3, 0, .inl (fun _ => 0))), (q_4, .inl (cA_5, 0, .inl (fun _ => 0))), (q_7, .inl (cA_8, 0, .inr (.inl (fun _ => 0)))), (q_9, .inr (4, [.null, .null, .int 0]))] := hD
  refine W.widen (k := 4) (n := 3) (Nat.le_of_ble_eq_true rfl) (Nat.le_of_ble_eq_true rfl) ?_
  refine lv_dup hx hb dX1_init_82 rfl ?_
  have hPc := hP.sub (ws' := [(q_9, .inr (4, [.null, .null, .int 0]))]) [4] rfl
  have hDc := hD.sub (ws' := [(q_9, .inr (4, [.null, .null, .int 0]))]) [4] (by decide) rfl
  have hKc := hK.sub (tys' := []) [] rfl
  have hFc := va_free (wc := [(q_9, .inr (4, [.null, .null, .int 0]))]) hD hS hAA [4] rfl
  refine va_callv (va_runIN (As := []) (rest := [.ref q_9, .ref h0]) ⟨hx, hb, hml, hown, hA⟩ (c_X4_init l dC dI q_9 H.size) ⟨va_cnB 0 hA (zw_good wi_268) rfl rfl rfl (hN.2.1 ("ReuseHouse$Cells", 58, yX4_init, "ReuseHouse") (by decide +kernel)) (hA _ wi_134) (by decide +kernel) ⟨(Nat.le_of_ble_eq_true rfl), (Nat.le_of_ble_eq_true rfl)⟩, rfl, hA _ wi_267⟩ ⟨zP_blind, zz_pre hKc hPc hDc hN hT hS hFc⟩ rfl rfl hl.1 rfl (lv_room (Nat.le_of_ble_eq_true rfl)) dX1_init_83 ⟨(Nat.le_of_ble_eq_true rfl), (Nat.le_of_ble_eq_true rfl)⟩) hS (fun q _ h => hFc q h) hFc (fun u t H1 locs ht hvm hw hB hz1 hk1 hS => ?_)
  obtain ⟨z_word_11, z_fields_12⟩ := u
  obtain ⟨hP1, hK1, hD1⟩ := hB
  rw [ht] at hP1
  have hK1 := va_K.moved hvm.symm hK1
  obtain ⟨hP, hD⟩ := va_join (wr := [(h0, .inr (1, [.ref q_2, .ref q_4, .ref q_7, .null, .int 0, .int 0, .int (-1), .int 0, .int 0, .int 0, .int 0, .int 0, .int 0])), (q_2, .inl (cA_3, 0, .inl (fun _ => 0))), (q_4, .inl (cA_5, 0, .inl (fun _ => 0))), (q_7, .inl (cA_8, 0, .inr (.inl (fun _ => 0))))]) (w1 := [(q_9, .inr (4, [.ref z_word_11, .ref z_fields_12, .int 0]))]) hP hD [4] [0, 1, 2, 3] rfl rfl (by decide) (by decide) hk1 hFc hP1 hD1
  have hK := (hK.sub (tys' := [(cA_3, .int), (cA_5, .int), (cA_8, .long)]) [0, 1, 2] rfl).app hK1
  generalize H1 = H at hP hS ⊢
  have hP : va_P (dC, dI) vwCl [(h0, .inr (1, [.ref q_2, .ref q_4, .ref q_7, .null, .int 0, .int 0, .int (-1), .int 0, .int 0, .int 0, .int 0, .int 0, .int 0])), (q_2, .inl (cA_3, 0, .inl (fun _ => 0))), (q_4, .inl (cA_5, 0, .inl (fun _ => 0))), (q_7, .inl (cA_8, 0, .inr (.inl (fun _ => 0)))), (q_9, .inr (4, [.ref z_word_11, .ref z_fields_12, .int 0]))] H := hP
  have hD : va_D A [(h0, .inr (1, [.ref q_2, .ref q_4, .ref q_7, .null, .int 0, .int 0, .int (-1), .int 0, .int 0, .int 0, .int 0, .int 0, .int 0])), (q_2, .inl (cA_3, 0, .inl (fun _ => 0))), (q_4, .inl (cA_5, 0, .inl (fun _ => 0))), (q_7, .inl (cA_8, 0, .inr (.inl (fun _ => 0)))), (q_9, .inr (4, [.ref z_word_11, .ref z_fields_12, .int 0]))] := hD
  have hK : va_K (dC, dI) vwCl [(cA_3, .int), (cA_5, .int), (cA_8, .long)] s := hK
  refine W.widen (k := 6) (n := 43) (Nat.le_of_ble_eq_true rfl) (Nat.le_of_ble_eq_true rfl) ?_
  refine va_put (D := (dC, dI)) (ci := 1) (v := .ref q_9) (ty := .object "ReuseHouse$Kinds") (C := RX1) (T := TX1) (N := 13) hx hb hA zin_X1 tyX1 tyX1_ok nmX1 hown hK hP hD hS 0 rfl rfl 3 (by decide) (hA _ wi_439) (fun _ h9 => h9) rfl (by decide +kernel) rfl rfl (Nat.le_of_ble_eq_true rfl) dX1_init_86 (fun H locs hP hD hS => ?_)
  have hP : va_P (dC, dI) vwCl [(h0, .inr (1, [.ref q_2, .ref q_4, .ref q_7, .ref q_9, .int 0, .int 0, .int (-1), .int 0, .int 0, .int 0, .int 0, .int 0, .int 0])), (q_2, .inl (cA_3, 0, .inl (fun _ => 0))), (q_4, .inl (cA_5, 0, .inl (fun _ => 0))), (q_7, .inl (cA_8, 0, .inr (.inl (fun _ => 0)))), (q_9, .inr (4, [.ref z_word_11, .ref z_fields_12, .int 0]))] H := hP
  have hD : va_D A [(h0, .inr (1, [.ref q_2, .ref q_4, .ref q_7, .ref q_9, .int 0, .int 0, .int (-1), .int 0, .int 0, .int 0, .int 0, .int 0, .int 0])), (q_2, .inl (cA_3, 0, .inl (fun _ => 0))), (q_4, .inl (cA_5, 0, .inl (fun _ => 0))), (q_7, .inl (cA_8, 0, .inr (.inl (fun _ => 0)))), (q_9, .inr (4, [.ref z_word_11, .ref z_fields_12, .int 0]))] := hD
  have hP9 := hP.sub (ws' := []) [] rfl
  have hD9 := hD.sub (ws' := []) [] (by decide) rfl
  have hK9 := hK.sub (tys' := []) [] rfl
  exact W.vret hx hb hr (fun t ht hW => ⟨⟨(), rfl, trivial, by rw [ht]; exact hP9, va_K.moved hW.alike hK9, hD9⟩, hS.F ht⟩) hS.2.2 dX1_init_89
set_option maxHeartbeats 4000000 in
set_option maxRecDepth 100000 in
theorem c_X1_init_400 (l : Launch) (dC : Nat → ClassId) (dI : Nat → Nat → Nat) (h0 : Nat) (sz : Nat)  : Met l yX1_init (Cond.code yX1_init cX1_init 3 none :: zw) ({ frames := 10, cells := 6, slots := 2043, locals := 300 }) (va_Pc [.ref h0, .int 400] (zP dC dI sz [] [(h0, .inr (1, [.null, .null, .null, .null, .int 0, .int 0, .int 0, .int 0, .int 0, .int 0, .int 0, .int 0, .int 0]))])) (va_Qv (fun u : Unit => True) (fun u => zQ dC dI (va_A [(h0, .inr (1, [.null, .null, .null, .null, .int 0, .int 0, .int 0, .int 0, .int 0, .int 0, .int 0, .int 0, .int 0]))] sz) [] []) (va_A [(h0, .inr (1, [.null, .null, .null, .null, .int 0, .int 0, .int 0, .int 0, .int 0, .int 0, .int 0, .int 0, .int 0]))] sz)) 6 2043 (va_A [(h0, .inr (1, [.null, .null, .null, .null, .int 0, .int 0, .int 0, .int 0, .int 0, .int 0, .int 0, .int 0, .int 0]))] sz) := by
  refine Met.ofW (cc := cX1_init) (maxL := 3) (ret := none) (by decide) rfl ?_
  intro p e s m args below meth c s₁ B hml hv
  obtain ⟨rfl, hsz, hP, hK, hD0, hN, hT⟩ := hv
  have hx := B.exec
  have hb := B.bytes
  have hr := B.returns
  have hts := atoms_spec (ws := Cond.code yX1_init cX1_init 3 none :: zw) B.pre
  have hA : ∀ w ∈ zw, w.before _ s = true := fun w h => hts w (List.mem_cons_of_mem _ h)
  have hown : s.vm.findClass RX1 = some m.cls := findClass_of_methodNamed B.named
  have hlocks := B.notSynchronized
  have hin : meth.name = "<init>" := (name_of_methodNamed B.named B.method).1
  subst hsz
  have hD := hD0.self (sz := s.heap.size)
  generalize hAe : va_A [(h0, .inr (1, [.null, .null, .null, .null, .int 0, .int 0, .int 0, .int 0, .int 0, .int 0, .int 0, .int 0, .int 0]))] s.heap.size = A at hD hT ⊢
  have hAA : ∀ q : Nat, s.heap.size ≤ q → A q := fun q h => by rw [← hAe]; exact Or.inr h
  have hS : va_S A s.heap s.heap [] := va_S.rf
  have hl := lv_entry ([.ref h0, .int 400]) (n := 3) (Nat.le_of_ble_eq_true rfl)
  rw [lg_entry_eq]
  generalize (lg_sl ([.ref h0, .int 400]) ++ List.replicate (3 - (lg_sl ([.ref h0, .int 400])).length) Slot.unset).toArray = ls at hl ⊢
  have hl : lv_has ls 3 [(0, .ref h0), (1, .int 400)] := hl
  refine lv_aload_n hx hb dX1_init_0 rfl (lv_at hl 0 rfl) ?_
  refine W.objInit hx hb hown (hA _ wi_429) (hA _ wi_162) (hA _ wi_163) rfl (by rw [hml]; exact hl.1) rfl dX1_init_1 (Nat.le_of_ble_eq_true rfl) (Nat.le_of_ble_eq_true rfl) ?_
  refine W.eq (g2 := F0 m 4 ls []) rfl ?_
  refine lv_aload_n hx hb dX1_init_4 rfl (lv_at hl 0 rfl) ?_
  refine lv_iconst (v := 0) hx hb dX1_init_5 (by decide) ?_
  refine va_put (D := (dC, dI)) (ci := 1) (v := .int 0) (ty := .int) (C := RX1) (T := TX1) (N := 13) hx hb hA zin_X1 tyX1 tyX1_ok nmX1 hown hK hP hD hS 0 rfl rfl 4 (by decide) (hA _ wi_441) (fun _ h9 => h9) rfl (by decide +kernel) rfl rfl (Nat.le_of_ble_eq_true rfl) dX1_init_6 (fun H locs hP hD hS => ?_)
  have hP : va_P (dC, dI) vwCl [(h0, .inr (1, [.null, .null, .null, .null, .int 0, .int 0, .int 0, .int 0, .int 0, .int 0, .int 0, .int 0, .int 0]))] H := hP
  have hD : va_D A [(h0, .inr (1, [.null, .null, .null, .null, .int 0, .int 0, .int 0, .int 0, .int 0, .int 0, .int 0, .int 0, .int 0]))] := hD
  refine lv_aload_n hx hb dX1_init_9 rfl (lv_at hl 0 rfl) ?_
  refine lv_iconst (v := 0) hx hb dX1_init_10 (by decide) ?_
  refine va_put (D := (dC, dI)) (ci := 1) (v := .int 0) (ty := .int) (C := RX1) (T := TX1) (N := 13) hx hb hA zin_X1 tyX1 tyX1_ok nmX1 hown hK hP hD hS 0 rfl rfl 5 (by decide) (hA _ wi_442) (fun _ h9 => h9) rfl (by decide +kernel) rfl rfl (Nat.le_of_ble_eq_true rfl) dX1_init_11 (fun H locs hP hD hS => ?_)
  have hP : va_P (dC, dI) vwCl [(h0, .inr (1, [.null, .null, .null, .null, .int 0, .int 0, .int 0, .int 0, .int 0, .int 0, .int 0, .int 0, .int 0]))] H := hP
  have hD : va_D A [(h0, .inr (1, [.null, .null, .null, .null, .int 0, .int 0, .int 0, .int 0, .int 0, .int 0, .int 0, .int 0, .int 0]))] := hD
  refine lv_aload_n hx hb dX1_init_14 rfl (lv_at hl 0 rfl) ?_
  refine lv_iconst (v := (-1)) hx hb dX1_init_15 (by decide) ?_
  refine va_put (D := (dC, dI)) (ci := 1) (v := .int (-1)) (ty := .int) (C := RX1) (T := TX1) (N := 13) hx hb hA zin_X1 tyX1 tyX1_ok nmX1 hown hK hP hD hS 0 rfl rfl 6 (by decide) (hA _ wi_443) (fun _ h9 => h9) rfl (by decide +kernel) rfl rfl (Nat.le_of_ble_eq_true rfl) dX1_init_16 (fun H locs hP hD hS => ?_)
  have hP : va_P (dC, dI) vwCl [(h0, .inr (1, [.null, .null, .null, .null, .int 0, .int 0, .int (-1), .int 0, .int 0, .int 0, .int 0, .int 0, .int 0]))] H := hP
  have hD : va_D A [(h0, .inr (1, [.null, .null, .null, .null, .int 0, .int 0, .int (-1), .int 0, .int 0, .int 0, .int 0, .int 0, .int 0]))] := hD
  refine lv_aload_n hx hb dX1_init_19 rfl (lv_at hl 0 rfl) ?_
  refine lv_iconst (v := 0) hx hb dX1_init_20 (by decide) ?_
  refine va_put (D := (dC, dI)) (ci := 1) (v := .int 0) (ty := .int) (C := RX1) (T := TX1) (N := 13) hx hb hA zin_X1 tyX1 tyX1_ok nmX1 hown hK hP hD hS 0 rfl rfl 7 (by decide) (hA _ wi_444) (fun _ h9 => h9) rfl (by decide +kernel) rfl rfl (Nat.le_of_ble_eq_true rfl) dX1_init_21 (fun H locs hP hD hS => ?_)
  have hP : va_P (dC, dI) vwCl [(h0, .inr (1, [.null, .null, .null, .null, .int 0, .int 0, .int (-1), .int 0, .int 0, .int 0, .int 0, .int 0, .int 0]))] H := hP
  have hD : va_D A [(h0, .inr (1, [.null, .null, .null, .null, .int 0, .int 0, .int (-1), .int 0, .int 0, .int 0, .int 0, .int 0, .int 0]))] := hD
  refine lv_aload_n hx hb dX1_init_24 rfl (lv_at hl 0 rfl) ?_
  refine lv_iconst (v := 0) hx hb dX1_init_25 (by decide) ?_
  refine va_put (D := (dC, dI)) (ci := 1) (v := .int 0) (ty := .int) (C := RX1) (T := TX1) (N := 13) hx hb hA zin_X1 tyX1 tyX1_ok nmX1 hown hK hP hD hS 0 rfl rfl 8 (by decide) (hA _ wi_446) (fun _ h9 => h9) rfl (by decide +kernel) rfl rfl (Nat.le_of_ble_eq_true rfl) dX1_init_26 (fun H locs hP hD hS => ?_)
  have hP : va_P (dC, dI) vwCl [(h0, .inr (1, [.null, .null, .null, .null, .int 0, .int 0, .int (-1), .int 0, .int 0, .int 0, .int 0, .int 0, .int 0]))] H := hP
  have hD : va_D A [(h0, .inr (1, [.null, .null, .null, .null, .int 0, .int 0, .int (-1), .int 0, .int 0, .int 0, .int 0, .int 0, .int 0]))] := hD
  refine lv_aload_n hx hb dX1_init_29 rfl (lv_at hl 0 rfl) ?_
  refine lv_iconst (v := 0) hx hb dX1_init_30 (by decide) ?_
  refine va_put (D := (dC, dI)) (ci := 1) (v := .int 0) (ty := .int) (C := RX1) (T := TX1) (N := 13) hx hb hA zin_X1 tyX1 tyX1_ok nmX1 hown hK hP hD hS 0 rfl rfl 9 (by decide) (hA _ wi_448) (fun _ h9 => h9) rfl (by decide +kernel) rfl rfl (Nat.le_of_ble_eq_true rfl) dX1_init_31 (fun H locs hP hD hS => ?_)
  have hP : va_P (dC, dI) vwCl [(h0, .inr (1, [.null, .null, .null, .null, .int 0, .int 0, .int (-1), .int 0, .int 0, .int 0, .int 0, .int 0, .int 0]))] H := hP
  have hD : va_D A [(h0, .inr (1, [.null, .null, .null, .null, .int 0, .int 0, .int (-1), .int 0, .int 0, .int 0, .int 0, .int 0, .int 0]))] := hD
  refine lv_aload_n hx hb dX1_init_34 rfl (lv_at hl 0 rfl) ?_
  refine lv_iconst (v := 0) hx hb dX1_init_35 (by decide) ?_
  refine va_put (D := (dC, dI)) (ci := 1) (v := .int 0) (ty := .int) (C := RX1) (T := TX1) (N := 13) hx hb hA zin_X1 tyX1 tyX1_ok nmX1 hown hK hP hD hS 0 rfl rfl 10 (by decide) (hA _ wi_450) (fun _ h9 => h9) rfl (by decide +kernel) rfl rfl (Nat.le_of_ble_eq_true rfl) dX1_init_36 (fun H locs hP hD hS => ?_)
  have hP : va_P (dC, dI) vwCl [(h0, .inr (1, [.null, .null, .null, .null, .int 0, .int 0, .int (-1), .int 0, .int 0, .int 0, .int 0, .int 0, .int 0]))] H := hP
  have hD : va_D A [(h0, .inr (1, [.null, .null, .null, .null, .int 0, .int 0, .int (-1), .int 0, .int 0, .int 0, .int 0, .int 0, .int 0]))] := hD
  refine lv_aload_n hx hb dX1_init_39 rfl (lv_at hl 0 rfl) ?_
  refine lv_iconst (v := 0) hx hb dX1_init_40 (by decide) ?_
  refine va_put (D := (dC, dI)) (ci := 1) (v := .int 0) (ty := .int) (C := RX1) (T := TX1) (N := 13) hx hb hA zin_X1 tyX1 tyX1_ok nmX1 hown hK hP hD hS 0 rfl rfl 11 (by decide) (hA _ wi_453) (fun _ h9 => h9) rfl (by decide +kernel) rfl rfl (Nat.le_of_ble_eq_true rfl) dX1_init_41 (fun H locs hP hD hS => ?_)
  have hP : va_P (dC, dI) vwCl [(h0, .inr (1, [.null, .null, .null, .null, .int 0, .int 0, .int (-1), .int 0, .int 0, .int 0, .int 0, .int 0, .int 0]))] H := hP
  have hD : va_D A [(h0, .inr (1, [.null, .null, .null, .null, .int 0, .int 0, .int (-1), .int 0, .int 0, .int 0, .int 0, .int 0, .int 0]))] := hD
  refine lv_aload_n hx hb dX1_init_44 rfl (lv_at hl 0 rfl) ?_
  refine lv_iconst (v := 0) hx hb dX1_init_45 (by decide) ?_
  refine va_put (D := (dC, dI)) (ci := 1) (v := .int 0) (ty := .int) (C := RX1) (T := TX1) (N := 13) hx hb hA zin_X1 tyX1 tyX1_ok nmX1 hown hK hP hD hS 0 rfl rfl 12 (by decide) (hA _ wi_455) (fun _ h9 => h9) rfl (by decide +kernel) rfl rfl (Nat.le_of_ble_eq_true rfl) dX1_init_46 (fun H locs hP hD hS => ?_)
  have hP : va_P (dC, dI) vwCl [(h0, .inr (1, [.null, .null, .null, .null, .int 0, .int 0, .int (-1), .int 0, .int 0, .int 0, .int 0, .int 0, .int 0]))] H := hP
  have hD : va_D A [(h0, .inr (1, [.null, .null, .null, .null, .int 0, .int 0, .int (-1), .int 0, .int 0, .int 0, .int 0, .int 0, .int 0]))] := hD
  refine lv_iconst (v := 0) hx hb dX1_init_49 (by decide) ?_
  refine lv_iload_n hx hb dX1_init_50 rfl (lv_at hl 1 rfl) ?_
  refine va_mmax hx hb (by rw [hml]; exact hl.1.symm) hown (hA _ wi_430) (hA _ wi_431) (hA _ wi_141) (hA _ wi_432) (Nat.le_of_ble_eq_true rfl) (Nat.le_of_ble_eq_true rfl) (Nat.le_of_ble_eq_true rfl) (Nat.le_of_ble_eq_true rfl) dX1_init_51 ?_
  refine lv_topi (fun x_1 ex_1 => ?_)
  obtain rfl : x_1 = 400 := ex_1.trans (by decide)
  refine lv_istore_n (lv' := [(2, .int 400), (0, .ref h0), (1, .int 400)]) hx hb dX1_init_54 rfl hl (by decide) rfl (fun ls hl => ?_)
  refine lv_aload_n hx hb dX1_init_55 rfl (lv_at hl 1 rfl) ?_
  refine lv_iload_n hx hb dX1_init_56 rfl (lv_at hl 0 rfl) ?_
  refine va_newa (atype := .int) (ty := .int) (a0 := (400, .inl (fun _ => 0))) (N' := 400) hx hb (hA _ wi_220) rfl hK hP hD hS hAA (fun _ => rfl) (by decide) (by decide) (by decide) (Nat.le_of_ble_eq_true rfl) (Nat.le_of_ble_eq_true rfl) dX1_init_57 (fun q_2 cA_3 H hK hP hD hS => ?_)
  have hP : va_P (dC, dI) vwCl [(h0, .inr (1, [.null, .null, .null, .null, .int 0, .int 0, .int (-1), .int 0, .int 0, .int 0, .int 0, .int 0, .int 0])), (q_2, .inl (cA_3, 400, .inl (fun _ => 0)))] H := hP
  have hD : va_D A [(h0, .inr (1, [.null, .null, .null, .null, .int 0, .int 0, .int (-1), .int 0, .int 0, .int 0, .int 0, .int 0, .int 0])), (q_2, .inl (cA_3, 400, .inl (fun _ => 0)))] := hD
  have hK : va_K (dC, dI) vwCl [(cA_3, .int)] s := hK
  refine W.widen (k := 1) (n := 400) (Nat.le_of_ble_eq_true rfl) (Nat.le_of_ble_eq_true rfl) ?_
  refine va_putF (D := (dC, dI)) (ci := 1) (v := .ref q_2) (ty := .array .int) (C := RX1) (T := TX1) (N := 13) hx hb hA zin_X1 tyX1 tyX1_ok nmX1 hown hK hP hD hS 0 rfl rfl 0 (by decide) (hA _ wi_435) (fun _ h9 => h9) rfl hin rfl (by decide +kernel) rfl rfl (Nat.le_of_ble_eq_true rfl) dX1_init_59 (fun H locs hP hD hS => ?_)
  have hP : va_P (dC, dI) vwCl [(h0, .inr (1, [.ref q_2, .null, .null, .null, .int 0, .int 0, .int (-1), .int 0, .int 0, .int 0, .int 0, .int 0, .int 0])), (q_2, .inl (cA_3, 400, .inl (fun _ => 0)))] H := hP
  have hD : va_D A [(h0, .inr (1, [.ref q_2, .null, .null, .null, .int 0, .int 0, .int (-1), .int 0, .int 0, .int 0, .int 0, .int 0, .int 0])), (q_2, .inl (cA_3, 400, .inl (fun _ => 0)))] := hD
  refine lv_aload_n hx hb dX1_init_62 rfl (lv_at hl 1 rfl) ?_
  refine lv_iload_n hx hb dX1_init_63 rfl (lv_at hl 0 rfl) ?_
  refine va_newa (atype := .int) (ty := .int) (a0 := (400, .inl (fun _ => 0))) (N' := 400) hx hb (hA _ wi_220) rfl hK hP hD hS hAA (fun _ => rfl) (by decide) (by decide) (by decide) (Nat.le_of_ble_eq_true rfl) (Nat.le_of_ble_eq_true rfl) dX1_init_64 (fun q_4 cA_5 H hK hP hD hS => ?_)
  have hP : va_P (dC, dI) vwCl [(h0, .inr (1, [.ref q_2, .null, .null, .null, .int 0, .int 0, .int (-1), .int 0, .int 0, .int 0, .int 0, .int 0, .int 0])), (q_2, .inl (cA_3, 400, .inl (fun _ => 0))), (q_4, .inl (cA_5, 400, .inl (fun _ => 0)))] H := hP
  have hD : va_D A [(h0, .inr (1, [.ref q_2, .null, .null, .null, .int 0, .int 0, .int (-1), .int 0, .int 0, .int 0, .int 0, .int 0, .int 0])), (q_2, .inl (cA_3, 400, .inl (fun _ => 0))), (q_4, .inl (cA_5, 400, .inl (fun _ => 0)))] := hD
  have hK : va_K (dC, dI) vwCl [(cA_3, .int), (cA_5, .int)] s := hK
  refine W.widen (k := 2) (n := 800) (Nat.le_of_ble_eq_true rfl) (Nat.le_of_ble_eq_true rfl) ?_
  refine va_putF (D := (dC, dI)) (ci := 1) (v := .ref q_4) (ty := .array .int) (C := RX1) (T := TX1) (N := 13) hx hb hA zin_X1 tyX1 tyX1_ok nmX1 hown hK hP hD hS 0 rfl rfl 1 (by decide) (hA _ wi_436) (fun _ h9 => h9) rfl hin rfl (by decide +kernel) rfl rfl (Nat.le_of_ble_eq_true rfl) dX1_init_66 (fun H locs hP hD hS => ?_)
  have hP : va_P (dC, dI) vwCl [(h0, .inr (1, [.ref q_2, .ref q_4, .null, .null, .int 0, .int 0, .int (-1), .int 0, .int 0, .int 0, .int 0, .int 0, .int 0])), (q_2, .inl (cA_3, 400, .inl (fun _ => 0))), (q_4, .inl (cA_5, 400, .inl (fun _ => 0)))] H := hP
  have hD : va_D A [(h0, .inr (1, [.ref q_2, .ref q_4, .null, .null, .int 0, .int 0, .int (-1), .int 0, .int 0, .int 0, .int 0, .int 0, .int 0])), (q_2, .inl (cA_3, 400, .inl (fun _ => 0))), (q_4, .inl (cA_5, 400, .inl (fun _ => 0)))] := hD
  refine lv_aload_n hx hb dX1_init_69 rfl (lv_at hl 1 rfl) ?_
  refine lv_iload_n hx hb dX1_init_70 rfl (lv_at hl 0 rfl) ?_
  refine lv_iconst (v := 3) hx hb dX1_init_71 (by decide) ?_
  refine lv_imul hx hb dX1_init_72 ?_
  refine lv_topi (fun x_6 ex_6 => ?_)
  obtain rfl : x_6 = 1200 := ex_6.trans (by decide)
  refine va_newa (atype := .long) (ty := .long) (a0 := (1200, .inr (.inl (fun _ => 0)))) (N' := 1200) hx hb (hA _ wi_283) rfl hK hP hD hS hAA (fun _ => rfl) (by decide) (by decide) (by decide) (Nat.le_of_ble_eq_true rfl) (Nat.le_of_ble_eq_true rfl) dX1_init_73 (fun q_7 cA_8 H hK hP hD hS => ?_)
  have hP : va_P (dC, dI) vwCl [(h0, .inr (1, [.ref q_2, .ref q_4, .null, .null, .int 0, .int 0, .int (-1), .int 0, .int 0, .int 0, .int 0, .int 0, .int 0])), (q_2, .inl (cA_3, 400, .inl (fun _ => 0))), (q_4, .inl (cA_5, 400, .inl (fun _ => 0))), (q_7, .inl (cA_8, 1200, .inr (.inl (fun _ => 0))))] H := hP
  have hD : va_D A [(h0, .inr (1, [.ref q_2, .ref q_4, .null, .null, .int 0, .int 0, .int (-1), .int 0, .int 0, .int 0, .int 0, .int 0, .int 0])), (q_2, .inl (cA_3, 400, .inl (fun _ => 0))), (q_4, .inl (cA_5, 400, .inl (fun _ => 0))), (q_7, .inl (cA_8, 1200, .inr (.inl (fun _ => 0))))] := hD
  have hK : va_K (dC, dI) vwCl [(cA_3, .int), (cA_5, .int), (cA_8, .long)] s := hK
  refine W.widen (k := 3) (n := 2000) (Nat.le_of_ble_eq_true rfl) (Nat.le_of_ble_eq_true rfl) ?_
  refine va_putF (D := (dC, dI)) (ci := 1) (v := .ref q_7) (ty := .array .long) (C := RX1) (T := TX1) (N := 13) hx hb hA zin_X1 tyX1 tyX1_ok nmX1 hown hK hP hD hS 0 rfl rfl 2 (by decide) (hA _ wi_438) (fun _ h9 => h9) rfl hin rfl (by decide +kernel) rfl rfl (Nat.le_of_ble_eq_true rfl) dX1_init_75 (fun H locs hP hD hS => ?_)
  have hP : va_P (dC, dI) vwCl [(h0, .inr (1, [.ref q_2, .ref q_4, .ref q_7, .null, .int 0, .int 0, .int (-1), .int 0, .int 0, .int 0, .int 0, .int 0, .int 0])), (q_2, .inl (cA_3, 400, .inl (fun _ => 0))), (q_4, .inl (cA_5, 400, .inl (fun _ => 0))), (q_7, .inl (cA_8, 1200, .inr (.inl (fun _ => 0))))] H := hP
  have hD : va_D A [(h0, .inr (1, [.ref q_2, .ref q_4, .ref q_7, .null, .int 0, .int 0, .int (-1), .int 0, .int 0, .int 0, .int 0, .int 0, .int 0])), (q_2, .inl (cA_3, 400, .inl (fun _ => 0))), (q_4, .inl (cA_5, 400, .inl (fun _ => 0))), (q_7, .inl (cA_8, 1200, .inr (.inl (fun _ => 0))))] := hD
  refine lv_aload_n hx hb dX1_init_78 rfl (lv_at hl 1 rfl) ?_
  refine va_new (ci := 4) (fs := [.null, .null, .int 0]) (C := RX4) (T := TX4) (N := 3) hx hb hA zin_X4 tyX4 tyX4_ok hown (hA _ wi_433) (hA _ wi_265) (hA _ wi_134) hK hP hD hS hAA rfl zd_X4 (Nat.le_of_ble_eq_true rfl) (Nat.le_of_ble_eq_true rfl) dX1_init_79 (fun q_9 H hP hD hS => ?_)
  have hP : va_P (dC, dI) vwCl [(h0, .inr (1, [.ref q_2, .ref q_4, .ref q_7, .null, .int 0, .int 0, .int (-1), .int 0, .int 0, .int 0, .int 0, .int 0, .int 0])), (q_2, .inl (cA_3, 400, .inl (fun _ => 0))), (q_4, .inl (cA_5, 400, .inl (fun _ => 0))), (q_7, .inl (cA_8, 1200, .inr (.inl (fun _ => 0)))), (q_9, .inr (4, [.null, .null, .int 0]))] H := hP
  have hD : va_D A [(h0, .inr (1, [.ref q_2, .ref q_4, .ref q_7, .null, .int 0, .int 0, .int (-1), .int 0, .int 0, .int 0, .int 0, .int 0, .int 0])), (q_2, .inl (cA_3, 400, .inl (fun _ => 0))), (q_4, .inl (cA_5, 400, .inl (fun _ => 0))), (q_7, .inl (cA_8, 1200, .inr (.inl (fun _ => 0)))), (q_9, .inr (4, [.null, .null, .int 0]))] := hD
  refine W.widen (k := 4) (n := 2003) (Nat.le_of_ble_eq_true rfl) (Nat.le_of_ble_eq_true rfl) ?_
  refine lv_dup hx hb dX1_init_82 rfl ?_
  have hPc := hP.sub (ws' := [(q_9, .inr (4, [.null, .null, .int 0]))]) [4] rfl
  have hDc := hD.sub (ws' := [(q_9, .inr (4, [.null, .null, .int 0]))]) [4] (by decide) rfl
  have hKc := hK.sub (tys' := []) [] rfl
  have hFc := va_free (wc := [(q_9, .inr (4, [.null, .null, .int 0]))]) hD hS hAA [4] rfl
  refine va_callv (va_runIN (As := []) (rest := [.ref q_9, .ref h0]) ⟨hx, hb, hml, hown, hA⟩ (c_X4_init l dC dI q_9 H.size) ⟨va_cnB 0 hA (zw_good wi_268) rfl rfl rfl (hN.2.1 ("ReuseHouse$Cells", 58, yX4_init, "ReuseHouse") (by decide +kernel)) (hA _ wi_134) (by decide +kernel) ⟨(Nat.le_of_ble_eq_true rfl), (Nat.le_of_ble_eq_true rfl)⟩, rfl, hA _ wi_267⟩ ⟨zP_blind, zz_pre hKc hPc hDc hN hT hS hFc⟩ rfl rfl hl.1 rfl (lv_room (Nat.le_of_ble_eq_true rfl)) dX1_init_83 ⟨(Nat.le_of_ble_eq_true rfl), (Nat.le_of_ble_eq_true rfl)⟩) hS (fun q _ h => hFc q h) hFc (fun u t H1 locs ht hvm hw hB hz1 hk1 hS => ?_)
  obtain ⟨z_word_11, z_fields_12⟩ := u
  obtain ⟨hP1, hK1, hD1⟩ := hB
  rw [ht] at hP1
  have hK1 := va_K.moved hvm.symm hK1
  obtain ⟨hP, hD⟩ := va_join (wr := [(h0, .inr (1, [.ref q_2, .ref q_4, .ref q_7, .null, .int 0, .int 0, .int (-1), .int 0, .int 0, .int 0, .int 0, .int 0, .int 0])), (q_2, .inl (cA_3, 400, .inl (fun _ => 0))), (q_4, .inl (cA_5, 400, .inl (fun _ => 0))), (q_7, .inl (cA_8, 1200, .inr (.inl (fun _ => 0))))]) (w1 := [(q_9, .inr (4, [.ref z_word_11, .ref z_fields_12, .int 0]))]) hP hD [4] [0, 1, 2, 3] rfl rfl (by decide) (by decide) hk1 hFc hP1 hD1
  have hK := (hK.sub (tys' := [(cA_3, .int), (cA_5, .int), (cA_8, .long)]) [0, 1, 2] rfl).app hK1
  generalize H1 = H at hP hS ⊢
  have hP : va_P (dC, dI) vwCl [(h0, .inr (1, [.ref q_2, .ref q_4, .ref q_7, .null, .int 0, .int 0, .int (-1), .int 0, .int 0, .int 0, .int 0, .int 0, .int 0])), (q_2, .inl (cA_3, 400, .inl (fun _ => 0))), (q_4, .inl (cA_5, 400, .inl (fun _ => 0))), (q_7, .inl (cA_8, 1200, .inr (.inl (fun _ => 0)))), (q_9, .inr (4, [.ref z_word_11, .ref z_fields_12, .int 0]))] H := hP
  have hD : va_D A [(h0, .inr (1, [.ref q_2, .ref q_4, .ref q_7, .null, .int 0, .int 0, .int (-1), .int 0, .int 0, .int 0, .int 0, .int 0, .int 0])), (q_2, .inl (cA_3, 400, .inl (fun _ => 0))), (q_4, .inl (cA_5, 400, .inl (fun _ => 0))), (q_7, .inl (cA_8, 1200, .inr (.inl (fun _ => 0)))), (q_9, .inr (4, [.ref z_word_11, .ref z_fields_12, .int 0]))] := hD
  have hK : va_K (dC, dI) vwCl [(cA_3, .int), (cA_5, .int), (cA_8, .long)] s := hK
  refine W.widen (k := 6) (n := 2043) (Nat.le_of_ble_eq_true rfl) (Nat.le_of_ble_eq_true rfl) ?_
  refine va_put (D := (dC, dI)) (ci := 1) (v := .ref q_9) (ty := .object "ReuseHouse$Kinds") (C := RX1) (T := TX1) (N := 13) hx hb hA zin_X1 tyX1 tyX1_ok nmX1 hown hK hP hD hS 0 rfl rfl 3 (by decide) (hA _ wi_439) (fun _ h9 => h9) rfl (by decide +kernel) rfl rfl (Nat.le_of_ble_eq_true rfl) dX1_init_86 (fun H locs hP hD hS => ?_)
  have hP : va_P (dC, dI) vwCl [(h0, .inr (1, [.ref q_2, .ref q_4, .ref q_7, .ref q_9, .int 0, .int 0, .int (-1), .int 0, .int 0, .int 0, .int 0, .int 0, .int 0])), (q_2, .inl (cA_3, 400, .inl (fun _ => 0))), (q_4, .inl (cA_5, 400, .inl (fun _ => 0))), (q_7, .inl (cA_8, 1200, .inr (.inl (fun _ => 0)))), (q_9, .inr (4, [.ref z_word_11, .ref z_fields_12, .int 0]))] H := hP
  have hD : va_D A [(h0, .inr (1, [.ref q_2, .ref q_4, .ref q_7, .ref q_9, .int 0, .int 0, .int (-1), .int 0, .int 0, .int 0, .int 0, .int 0, .int 0])), (q_2, .inl (cA_3, 400, .inl (fun _ => 0))), (q_4, .inl (cA_5, 400, .inl (fun _ => 0))), (q_7, .inl (cA_8, 1200, .inr (.inl (fun _ => 0)))), (q_9, .inr (4, [.ref z_word_11, .ref z_fields_12, .int 0]))] := hD
  have hP9 := hP.sub (ws' := []) [] rfl
  have hD9 := hD.sub (ws' := []) [] (by decide) rfl
  have hK9 := hK.sub (tys' := []) [] rfl
  exact W.vret hx hb hr (fun t ht hW => ⟨⟨(), rfl, trivial, by rw [ht]; exact hP9, va_K.moved hW.alike hK9, hD9⟩, hS.F ht⟩) hS.2.2 dX1_init_89
set_option maxHeartbeats 4000000 in
set_option maxRecDepth 100000 in
theorem c_X1_init_4000 (l : Launch) (dC : Nat → ClassId) (dI : Nat → Nat → Nat) (h0 : Nat) (sz : Nat)  : Met l yX1_init (Cond.code yX1_init cX1_init 3 none :: zw) ({ frames := 10, cells := 6, slots := 20043, locals := 300 }) (va_Pc [.ref h0, .int 4000] (zP dC dI sz [] [(h0, .inr (1, [.null, .null, .null, .null, .int 0, .int 0, .int 0, .int 0, .int 0, .int 0, .int 0, .int 0, .int 0]))])) (va_Qv (fun u : Unit => True) (fun u => zQ dC dI (va_A [(h0, .inr (1, [.null, .null, .null, .null, .int 0, .int 0, .int 0, .int 0, .int 0, .int 0, .int 0, .int 0, .int 0]))] sz) [] []) (va_A [(h0, .inr (1, [.null, .null, .null, .null, .int 0, .int 0, .int 0, .int 0, .int 0, .int 0, .int 0, .int 0, .int 0]))] sz)) 6 20043 (va_A [(h0, .inr (1, [.null, .null, .null, .null, .int 0, .int 0, .int 0, .int 0, .int 0, .int 0, .int 0, .int 0, .int 0]))] sz) := by
  refine Met.ofW (cc := cX1_init) (maxL := 3) (ret := none) (by decide) rfl ?_
  intro p e s m args below meth c s₁ B hml hv
  obtain ⟨rfl, hsz, hP, hK, hD0, hN, hT⟩ := hv
  have hx := B.exec
  have hb := B.bytes
  have hr := B.returns
  have hts := atoms_spec (ws := Cond.code yX1_init cX1_init 3 none :: zw) B.pre
  have hA : ∀ w ∈ zw, w.before _ s = true := fun w h => hts w (List.mem_cons_of_mem _ h)
  have hown : s.vm.findClass RX1 = some m.cls := findClass_of_methodNamed B.named
  have hlocks := B.notSynchronized
  have hin : meth.name = "<init>" := (name_of_methodNamed B.named B.method).1
  subst hsz
  have hD := hD0.self (sz := s.heap.size)
  generalize hAe : va_A [(h0, .inr (1, [.null, .null, .null, .null, .int 0, .int 0, .int 0, .int 0, .int 0, .int 0, .int 0, .int 0, .int 0]))] s.heap.size = A at hD hT ⊢
  have hAA : ∀ q : Nat, s.heap.size ≤ q → A q := fun q h => by rw [← hAe]; exact Or.inr h
  have hS : va_S A s.heap s.heap [] := va_S.rf
  have hl := lv_entry ([.ref h0, .int 4000]) (n := 3) (Nat.le_of_ble_eq_true rfl)
  rw [lg_entry_eq]
  generalize (lg_sl ([.ref h0, .int 4000]) ++ List.replicate (3 - (lg_sl ([.ref h0, .int 4000])).length) Slot.unset).toArray = ls at hl ⊢
  have hl : lv_has ls 3 [(0, .ref h0), (1, .int 4000)] := hl
  refine lv_aload_n hx hb dX1_init_0 rfl (lv_at hl 0 rfl) ?_
  refine W.objInit hx hb hown (hA _ wi_429) (hA _ wi_162) (hA _ wi_163) rfl (by rw [hml]; exact hl.1) rfl dX1_init_1 (Nat.le_of_ble_eq_true rfl) (Nat.le_of_ble_eq_true rfl) ?_
  refine W.eq (g2 := F0 m 4 ls []) rfl ?_
  refine lv_aload_n hx hb dX1_init_4 rfl (lv_at hl 0 rfl) ?_
  refine lv_iconst (v := 0) hx hb dX1_init_5 (by decide) ?_
  refine va_put (D := (dC, dI)) (ci := 1) (v := .int 0) (ty := .int) (C := RX1) (T := TX1) (N := 13) hx hb hA zin_X1 tyX1 tyX1_ok nmX1 hown hK hP hD hS 0 rfl rfl 4 (by decide) (hA _ wi_441) (fun _ h9 => h9) rfl (by decide +kernel) rfl rfl (Nat.le_of_ble_eq_true rfl) dX1_init_6 (fun H locs hP hD hS => ?_)
  have hP : va_P (dC, dI) vwCl [(h0, .inr (1, [.null, .null, .null, .null, .int 0, .int 0, .int 0, .int 0, .int 0, .int 0, .int 0, .int 0, .int 0]))] H := hP
  have hD : va_D A [(h0, .inr (1, [.null, .null, .null, .null, .int 0, .int 0, .int 0, .int 0, .int 0, .int 0, .int 0, .int 0, .int 0]))] := hD
  refine lv_aload_n hx hb dX1_init_9 rfl (lv_at hl 0 rfl) ?_
  refine lv_iconst (v := 0) hx hb dX1_init_10 (by decide) ?_
  refine va_put (D := (dC, dI)) (ci := 1) (v := .int 0) (ty := .int) (C := RX1) (T := TX1) (N := 13) hx hb hA zin_X1 tyX1 tyX1_ok nmX1 hown hK hP hD hS 0 rfl rfl 5 (by decide) (hA _ wi_442) (fun _ h9 => h9) rfl (by decide +kernel) rfl rfl (Nat.le_of_ble_eq_true rfl) dX1_init_11 (fun H locs hP hD hS => ?_)
  have hP : va_P (dC, dI) vwCl [(h0, .inr (1, [.null, .null, .null, .null, .int 0, .int 0, .int 0, .int 0, .int 0, .int 0, .int 0, .int 0, .int 0]))] H := hP
  have hD : va_D A [(h0, .inr (1, [.null, .null, .null, .null, .int 0, .int 0, .int 0, .int 0, .int 0, .int 0, .int 0, .int 0, .int 0]))] := hD
  refine lv_aload_n hx hb dX1_init_14 rfl (lv_at hl 0 rfl) ?_
  refine lv_iconst (v := (-1)) hx hb dX1_init_15 (by decide) ?_
  refine va_put (D := (dC, dI)) (ci := 1) (v := .int (-1)) (ty := .int) (C := RX1) (T := TX1) (N := 13) hx hb hA zin_X1 tyX1 tyX1_ok nmX1 hown hK hP hD hS 0 rfl rfl 6 (by decide) (hA _ wi_443) (fun _ h9 => h9) rfl (by decide +kernel) rfl rfl (Nat.le_of_ble_eq_true rfl) dX1_init_16 (fun H locs hP hD hS => ?_)
  have hP : va_P (dC, dI) vwCl [(h0, .inr (1, [.null, .null, .null, .null, .int 0, .int 0, .int (-1), .int 0, .int 0, .int 0, .int 0, .int 0, .int 0]))] H := hP
  have hD : va_D A [(h0, .inr (1, [.null, .null, .null, .null, .int 0, .int 0, .int (-1), .int 0, .int 0, .int 0, .int 0, .int 0, .int 0]))] := hD
  refine lv_aload_n hx hb dX1_init_19 rfl (lv_at hl 0 rfl) ?_
  refine lv_iconst (v := 0) hx hb dX1_init_20 (by decide) ?_
  refine va_put (D := (dC, dI)) (ci := 1) (v := .int 0) (ty := .int) (C := RX1) (T := TX1) (N := 13) hx hb hA zin_X1 tyX1 tyX1_ok nmX1 hown hK hP hD hS 0 rfl rfl 7 (by decide) (hA _ wi_444) (fun _ h9 => h9) rfl (by decide +kernel) rfl rfl (Nat.le_of_ble_eq_true rfl) dX1_init_21 (fun H locs hP hD hS => ?_)
  have hP : va_P (dC, dI) vwCl [(h0, .inr (1, [.null, .null, .null, .null, .int 0, .int 0, .int (-1), .int 0, .int 0, .int 0, .int 0, .int 0, .int 0]))] H := hP
  have hD : va_D A [(h0, .inr (1, [.null, .null, .null, .null, .int 0, .int 0, .int (-1), .int 0, .int 0, .int 0, .int 0, .int 0, .int 0]))] := hD
  refine lv_aload_n hx hb dX1_init_24 rfl (lv_at hl 0 rfl) ?_
  refine lv_iconst (v := 0) hx hb dX1_init_25 (by decide) ?_
  refine va_put (D := (dC, dI)) (ci := 1) (v := .int 0) (ty := .int) (C := RX1) (T := TX1) (N := 13) hx hb hA zin_X1 tyX1 tyX1_ok nmX1 hown hK hP hD hS 0 rfl rfl 8 (by decide) (hA _ wi_446) (fun _ h9 => h9) rfl (by decide +kernel) rfl rfl (Nat.le_of_ble_eq_true rfl) dX1_init_26 (fun H locs hP hD hS => ?_)
  have hP : va_P (dC, dI) vwCl [(h0, .inr (1, [.null, .null, .null, .null, .int 0, .int 0, .int (-1), .int 0, .int 0, .int 0, .int 0, .int 0, .int 0]))] H := hP
  have hD : va_D A [(h0, .inr (1, [.null, .null, .null, .null, .int 0, .int 0, .int (-1), .int 0, .int 0, .int 0, .int 0, .int 0, .int 0]))] := hD
  refine lv_aload_n hx hb dX1_init_29 rfl (lv_at hl 0 rfl) ?_
  refine lv_iconst (v := 0) hx hb dX1_init_30 (by decide) ?_
  refine va_put (D := (dC, dI)) (ci := 1) (v := .int 0) (ty := .int) (C := RX1) (T := TX1) (N := 13) hx hb hA zin_X1 tyX1 tyX1_ok nmX1 hown hK hP hD hS 0 rfl rfl 9 (by decide) (hA _ wi_448) (fun _ h9 => h9) rfl (by decide +kernel) rfl rfl (Nat.le_of_ble_eq_true rfl) dX1_init_31 (fun H locs hP hD hS => ?_)
  have hP : va_P (dC, dI) vwCl [(h0, .inr (1, [.null, .null, .null, .null, .int 0, .int 0, .int (-1), .int 0, .int 0, .int 0, .int 0, .int 0, .int 0]))] H := hP
  have hD : va_D A [(h0, .inr (1, [.null, .null, .null, .null, .int 0, .int 0, .int (-1), .int 0, .int 0, .int 0, .int 0, .int 0, .int 0]))] := hD
  refine lv_aload_n hx hb dX1_init_34 rfl (lv_at hl 0 rfl) ?_
  refine lv_iconst (v := 0) hx hb dX1_init_35 (by decide) ?_
  refine va_put (D := (dC, dI)) (ci := 1) (v := .int 0) (ty := .int) (C := RX1) (T := TX1) (N := 13) hx hb hA zin_X1 tyX1 tyX1_ok nmX1 hown hK hP hD hS 0 rfl rfl 10 (by decide) (hA _ wi_450) (fun _ h9 => h9) rfl (by decide +kernel) rfl rfl (Nat.le_of_ble_eq_true rfl) dX1_init_36 (fun H locs hP hD hS => ?_)
  have hP : va_P (dC, dI) vwCl [(h0, .inr (1, [.null, .null, .null, .null, .int 0, .int 0, .int (-1), .int 0, .int 0, .int 0, .int 0, .int 0, .int 0]))] H := hP
  have hD : va_D A [(h0, .inr (1, [.null, .null, .null, .null, .int 0, .int 0, .int (-1), .int 0, .int 0, .int 0, .int 0, .int 0, .int 0]))] := hD
  refine lv_aload_n hx hb dX1_init_39 rfl (lv_at hl 0 rfl) ?_
  refine lv_iconst (v := 0) hx hb dX1_init_40 (by decide) ?_
  refine va_put (D := (dC, dI)) (ci := 1) (v := .int 0) (ty := .int) (C := RX1) (T := TX1) (N := 13) hx hb hA zin_X1 tyX1 tyX1_ok nmX1 hown hK hP hD hS 0 rfl rfl 11 (by decide) (hA _ wi_453) (fun _ h9 => h9) rfl (by decide +kernel) rfl rfl (Nat.le_of_ble_eq_true rfl) dX1_init_41 (fun H locs hP hD hS => ?_)
  have hP : va_P (dC, dI) vwCl [(h0, .inr (1, [.null, .null, .null, .null, .int 0, .int 0, .int (-1), .int 0, .int 0, .int 0, .int 0, .int 0, .int 0]))] H := hP
  have hD : va_D A [(h0, .inr (1, [.null, .null, .null, .null, .int 0, .int 0, .int (-1), .int 0, .int 0, .int 0, .int 0, .int 0, .int 0]))] := hD
  refine lv_aload_n hx hb dX1_init_44 rfl (lv_at hl 0 rfl) ?_
  refine lv_iconst (v := 0) hx hb dX1_init_45 (by decide) ?_
  refine va_put (D := (dC, dI)) (ci := 1) (v := .int 0) (ty := .int) (C := RX1) (T := TX1) (N := 13) hx hb hA zin_X1 tyX1 tyX1_ok nmX1 hown hK hP hD hS 0 rfl rfl 12 (by decide) (hA _ wi_455) (fun _ h9 => h9) rfl (by decide +kernel) rfl rfl (Nat.le_of_ble_eq_true rfl) dX1_init_46 (fun H locs hP hD hS => ?_)
  have hP : va_P (dC, dI) vwCl [(h0, .inr (1, [.null, .null, .null, .null, .int 0, .int 0, .int (-1), .int 0, .int 0, .int 0, .int 0, .int 0, .int 0]))] H := hP
  have hD : va_D A [(h0, .inr (1, [.null, .null, .null, .null, .int 0, .int 0, .int (-1), .int 0, .int 0, .int 0, .int 0, .int 0, .int 0]))] := hD
  refine lv_iconst (v := 0) hx hb dX1_init_49 (by decide) ?_
  refine lv_iload_n hx hb dX1_init_50 rfl (lv_at hl 1 rfl) ?_
  refine va_mmax hx hb (by rw [hml]; exact hl.1.symm) hown (hA _ wi_430) (hA _ wi_431) (hA _ wi_141) (hA _ wi_432) (Nat.le_of_ble_eq_true rfl) (Nat.le_of_ble_eq_true rfl) (Nat.le_of_ble_eq_true rfl) (Nat.le_of_ble_eq_true rfl) dX1_init_51 ?_
  refine lv_topi (fun x_1 ex_1 => ?_)
  obtain rfl : x_1 = 4000 := ex_1.trans (by decide)
  refine lv_istore_n (lv' := [(2, .int 4000), (0, .ref h0), (1, .int 4000)]) hx hb dX1_init_54 rfl hl (by decide) rfl (fun ls hl => ?_)
  refine lv_aload_n hx hb dX1_init_55 rfl (lv_at hl 1 rfl) ?_
  refine lv_iload_n hx hb dX1_init_56 rfl (lv_at hl 0 rfl) ?_
  refine va_newa (atype := .int) (ty := .int) (a0 := (4000, .inl (fun _ => 0))) (N' := 4000) hx hb (hA _ wi_220) rfl hK hP hD hS hAA (fun _ => rfl) (by decide) (by decide) (by decide) (Nat.le_of_ble_eq_true rfl) (Nat.le_of_ble_eq_true rfl) dX1_init_57 (fun q_2 cA_3 H hK hP hD hS => ?_)
  have hP : va_P (dC, dI) vwCl [(h0, .inr (1, [.null, .null, .null, .null, .int 0, .int 0, .int (-1), .int 0, .int 0, .int 0, .int 0, .int 0, .int 0])), (q_2, .inl (cA_3, 4000, .inl (fun _ => 0)))] H := hP
  have hD : va_D A [(h0, .inr (1, [.null, .null, .null, .null, .int 0, .int 0, .int (-1), .int 0, .int 0, .int 0, .int 0, .int 0, .int 0])), (q_2, .inl (cA_3, 4000, .inl (fun _ => 0)))] := hD
  have hK : va_K (dC, dI) vwCl [(cA_3, .int)] s := hK
  refine W.widen (k := 1) (n := 4000) (Nat.le_of_ble_eq_true rfl) (Nat.le_of_ble_eq_true rfl) ?_
  refine va_putF (D := (dC, dI)) (ci := 1) (v := .ref q_2) (ty := .array .int) (C := RX1) (T := TX1) (N := 13) hx hb hA zin_X1 tyX1 tyX1_ok nmX1 hown hK hP hD hS 0 rfl rfl 0 (by decide) (hA _ wi_435) (fun _ h9 => h9) rfl hin rfl (by decide +kernel) rfl rfl (Nat.le_of_ble_eq_true rfl) dX1_init_59 (fun H locs hP hD hS => ?_)
  have hP : va_P (dC, dI) vwCl [(h0, .inr (1, [.ref q_2, .null, .null, .null, .int 0, .int 0, .int (-1), .int 0, .int 0, .int 0, .int 0, .int 0, .int 0])), (q_2, .inl (cA_3, 4000, .inl (fun _ => 0)))] H := hP
  have hD : va_D A [(h0, .inr (1, [.ref q_2, .null, .null, .null, .int 0, .int 0, .int (-1), .int 0, .int 0, .int 0, .int 0, .int 0, .int 0])), (q_2, .inl (cA_3, 4000, .inl (fun _ => 0)))] := hD
  refine lv_aload_n hx hb dX1_init_62 rfl (lv_at hl 1 rfl) ?_
  refine lv_iload_n hx hb dX1_init_63 rfl (lv_at hl 0 rfl) ?_
  refine va_newa (atype := .int) (ty := .int) (a0 := (4000, .inl (fun _ => 0))) (N' := 4000) hx hb (hA _ wi_220) rfl hK hP hD hS hAA (fun _ => rfl) (by decide) (by decide) (by decide) (Nat.le_of_ble_eq_true rfl) (Nat.le_of_ble_eq_true rfl) dX1_init_64 (fun q_4 cA_5 H hK hP hD hS => ?_)
  have hP : va_P (dC, dI) vwCl [(h0, .inr (1, [.ref q_2, .null, .null, .null, .int 0, .int 0, .int (-1), .int 0, .int 0, .int 0, .int 0, .int 0, .int 0])), (q_2, .inl (cA_3, 4000, .inl (fun _ => 0))), (q_4, .inl (cA_5, 4000, .inl (fun _ => 0)))] H := hP
  have hD : va_D A [(h0, .inr (1, [.ref q_2, .null, .null, .null, .int 0, .int 0, .int (-1), .int 0, .int 0, .int 0, .int 0, .int 0, .int 0])), (q_2, .inl (cA_3, 4000, .inl (fun _ => 0))), (q_4, .inl (cA_5, 4000, .inl (fun _ => 0)))] := hD
  have hK : va_K (dC, dI) vwCl [(cA_3, .int), (cA_5, .int)] s := hK
  refine W.widen (k := 2) (n := 8000) (Nat.le_of_ble_eq_true rfl) (Nat.le_of_ble_eq_true rfl) ?_
  refine va_putF (D := (dC, dI)) (ci := 1) (v := .ref q_4) (ty := .array .int) (C := RX1) (T := TX1) (N := 13) hx hb hA zin_X1 tyX1 tyX1_ok nmX1 hown hK hP hD hS 0 rfl rfl 1 (by decide) (hA _ wi_436) (fun _ h9 => h9) rfl hin rfl (by decide +kernel) rfl rfl (Nat.le_of_ble_eq_true rfl) dX1_init_66 (fun H locs hP hD hS => ?_)
  have hP : va_P (dC, dI) vwCl [(h0, .inr (1, [.ref q_2, .ref q_4, .null, .null, .int 0, .int 0, .int (-1), .int 0, .int 0, .int 0, .int 0, .int 0, .int 0])), (q_2, .inl (cA_3, 4000, .inl (fun _ => 0))), (q_4, .inl (cA_5, 4000, .inl (fun _ => 0)))] H := hP
  have hD : va_D A [(h0, .inr (1, [.ref q_2, .ref q_4, .null, .null, .int 0, .int 0, .int (-1), .int 0, .int 0, .int 0, .int 0, .int 0, .int 0])), (q_2, .inl (cA_3, 4000, .inl (fun _ => 0))), (q_4, .inl (cA_5, 4000, .inl (fun _ => 0)))] := hD
  refine lv_aload_n hx hb dX1_init_69 rfl (lv_at hl 1 rfl) ?_
  refine lv_iload_n hx hb dX1_init_70 rfl (lv_at hl 0 rfl) ?_
  refine lv_iconst (v := 3) hx hb dX1_init_71 (by decide) ?_
  refine lv_imul hx hb dX1_init_72 ?_
  refine lv_topi (fun x_6 ex_6 => ?_)
  obtain rfl : x_6 = 12000 := ex_6.trans (by decide)
  refine va_newa (atype := .long) (ty := .long) (a0 := (12000, .inr (.inl (fun _ => 0)))) (N' := 12000) hx hb (hA _ wi_283) rfl hK hP hD hS hAA (fun _ => rfl) (by decide) (by decide) (by decide) (Nat.le_of_ble_eq_true rfl) (Nat.le_of_ble_eq_true rfl) dX1_init_73 (fun q_7 cA_8 H hK hP hD hS => ?_)
  have hP : va_P (dC, dI) vwCl [(h0, .inr (1, [.ref q_2, .ref q_4, .null, .null, .int 0, .int 0, .int (-1), .int 0, .int 0, .int 0, .int 0, .int 0, .int 0])), (q_2, .inl (cA_3, 4000, .inl (fun _ => 0))), (q_4, .inl (cA_5, 4000, .inl (fun _ => 0))), (q_7, .inl (cA_8, 12000, .inr (.inl (fun _ => 0))))] H := hP
  have hD : va_D A [(h0, .inr (1, [.ref q_2, .ref q_4, .null, .null, .int 0, .int 0, .int (-1), .int 0, .int 0, .int 0, .int 0, .int 0, .int 0])), (q_2, .inl (cA_3, 4000, .inl (fun _ => 0))), (q_4, .inl (cA_5, 4000, .inl (fun _ => 0))), (q_7, .inl (cA_8, 12000, .inr (.inl (fun _ => 0))))] := hD
  have hK : va_K (dC, dI) vwCl [(cA_3, .int), (cA_5, .int), (cA_8, .long)] s := hK
  refine W.widen (k := 3) (n := 20000) (Nat.le_of_ble_eq_true rfl) (Nat.le_of_ble_eq_true rfl) ?_
  refine va_putF (D := (dC, dI)) (ci := 1) (v := .ref q_7) (ty := .array .long) (C := RX1) (T := TX1) (N := 13) hx hb hA zin_X1 tyX1 tyX1_ok nmX1 hown hK hP hD hS 0 rfl rfl 2 (by decide) (hA _ wi_438) (fun _ h9 => h9) rfl hin rfl (by decide +kernel) rfl rfl (Nat.le_of_ble_eq_true rfl) dX1_init_75 (fun H locs hP hD hS => ?_)
  have hP : va_P (dC, dI) vwCl [(h0, .inr (1, [.ref q_2, .ref q_4, .ref q_7, .null, .int 0, .int 0, .int (-1), .int 0, .int 0, .int 0, .int 0, .int 0, .int 0])), (q_2, .inl (cA_3, 4000, .inl (fun _ => 0))), (q_4, .inl (cA_5, 4000, .inl (fun _ => 0))), (q_7, .inl (cA_8, 12000, .inr (.inl (fun _ => 0))))] H := hP
  have hD : va_D A [(h0, .inr (1, [.ref q_2, .ref q_4, .ref q_7, .null, .int 0, .int 0, .int (-1), .int 0, .int 0, .int 0, .int 0, .int 0, .int 0])), (q_2, .inl (cA_3, 4000, .inl (fun _ => 0))), (q_4, .inl (cA_5, 4000, .inl (fun _ => 0))), (q_7, .inl (cA_8, 12000, .inr (.inl (fun _ => 0))))] := hD
  refine lv_aload_n hx hb dX1_init_78 rfl (lv_at hl 1 rfl) ?_
  refine va_new (ci := 4) (fs := [.null, .null, .int 0]) (C := RX4) (T := TX4) (N := 3) hx hb hA zin_X4 tyX4 tyX4_ok hown (hA _ wi_433) (hA _ wi_265) (hA _ wi_134) hK hP hD hS hAA rfl zd_X4 (Nat.le_of_ble_eq_true rfl) (Nat.le_of_ble_eq_true rfl) dX1_init_79 (fun q_9 H hP hD hS => ?_)
  have hP : va_P (dC, dI) vwCl [(h0, .inr (1, [.ref q_2, .ref q_4, .ref q_7, .null, .int 0, .int 0, .int (-1), .int 0, .int 0, .int 0, .int 0, .int 0, .int 0])), (q_2, .inl (cA_3, 4000, .inl (fun _ => 0))), (q_4, .inl (cA_5, 4000, .inl (fun _ => 0))), (q_7, .inl (cA_8, 12000, .inr (.inl (fun _ => 0)))), (q_9, .inr (4, [.null, .null, .int 0]))] H := hP
  have hD : va_D A [(h0, .inr (1, [.ref q_2, .ref q_4, .ref q_7, .null, .int 0, .int 0, .int (-1), .int 0, .int 0, .int 0, .int 0, .int 0, .int 0])), (q_2, .inl (cA_3, 4000, .inl (fun _ => 0))), (q_4, .inl (cA_5, 4000, .inl (fun _ => 0))), (q_7, .inl (cA_8, 12000, .inr (.inl (fun _ => 0)))), (q_9, .inr (4, [.null, .null, .int 0]))] := hD
  refine W.widen (k := 4) (n := 20003) (Nat.le_of_ble_eq_true rfl) (Nat.le_of_ble_eq_true rfl) ?_
  refine lv_dup hx hb dX1_init_82 rfl ?_
  have hPc := hP.sub (ws' := [(q_9, .inr (4, [.null, .null, .int 0]))]) [4] rfl
  have hDc := hD.sub (ws' := [(q_9, .inr (4, [.null, .null, .int 0]))]) [4] (by decide) rfl
  have hKc := hK.sub (tys' := []) [] rfl
  have hFc := va_free (wc := [(q_9, .inr (4, [.null, .null, .int 0]))]) hD hS hAA [4] rfl
  refine va_callv (va_runIN (As := []) (rest := [.ref q_9, .ref h0]) ⟨hx, hb, hml, hown, hA⟩ (c_X4_init l dC dI q_9 H.size) ⟨va_cnB 0 hA (zw_good wi_268) rfl rfl rfl (hN.2.1 ("ReuseHouse$Cells", 58, yX4_init, "ReuseHouse") (by decide +kernel)) (hA _ wi_134) (by decide +kernel) ⟨(Nat.le_of_ble_eq_true rfl), (Nat.le_of_ble_eq_true rfl)⟩, rfl, hA _ wi_267⟩ ⟨zP_blind, zz_pre hKc hPc hDc hN hT hS hFc⟩ rfl rfl hl.1 rfl (lv_room (Nat.le_of_ble_eq_true rfl)) dX1_init_83 ⟨(Nat.le_of_ble_eq_true rfl), (Nat.le_of_ble_eq_true rfl)⟩) hS (fun q _ h => hFc q h) hFc (fun u t H1 locs ht hvm hw hB hz1 hk1 hS => ?_)
  obtain ⟨z_word_11, z_fields_12⟩ := u
  obtain ⟨hP1, hK1, hD1⟩ := hB
  rw [ht] at hP1
  have hK1 := va_K.moved hvm.symm hK1
  obtain ⟨hP, hD⟩ := va_join (wr := [(h0, .inr (1, [.ref q_2, .ref q_4, .ref q_7, .null, .int 0, .int 0, .int (-1), .int 0, .int 0, .int 0, .int 0, .int 0, .int 0])), (q_2, .inl (cA_3, 4000, .inl (fun _ => 0))), (q_4, .inl (cA_5, 4000, .inl (fun _ => 0))), (q_7, .inl (cA_8, 12000, .inr (.inl (fun _ => 0))))]) (w1 := [(q_9, .inr (4, [.ref z_word_11, .ref z_fields_12, .int 0]))]) hP hD [4] [0, 1, 2, 3] rfl rfl (by decide) (by decide) hk1 hFc hP1 hD1
  have hK := (hK.sub (tys' := [(cA_3, .int), (cA_5, .int), (cA_8, .long)]) [0, 1, 2] rfl).app hK1
  generalize H1 = H at hP hS ⊢
  have hP : va_P (dC, dI) vwCl [(h0, .inr (1, [.ref q_2, .ref q_4, .ref q_7, .null, .int 0, .int 0, .int (-1), .int 0, .int 0, .int 0, .int 0, .int 0, .int 0])), (q_2, .inl (cA_3, 4000, .inl (fun _ => 0))), (q_4, .inl (cA_5, 4000, .inl (fun _ => 0))), (q_7, .inl (cA_8, 12000, .inr (.inl (fun _ => 0)))), (q_9, .inr (4, [.ref z_word_11, .ref z_fields_12, .int 0]))] H := hP
  have hD : va_D A [(h0, .inr (1, [.ref q_2, .ref q_4, .ref q_7, .null, .int 0, .int 0, .int (-1), .int 0, .int 0, .int 0, .int 0, .int 0, .int 0])), (q_2, .inl (cA_3, 4000, .inl (fun _ => 0))), (q_4, .inl (cA_5, 4000, .inl (fun _ => 0))), (q_7, .inl (cA_8, 12000, .inr (.inl (fun _ => 0)))), (q_9, .inr (4, [.ref z_word_11, .ref z_fields_12, .int 0]))] := hD
  have hK : va_K (dC, dI) vwCl [(cA_3, .int), (cA_5, .int), (cA_8, .long)] s := hK
  refine W.widen (k := 6) (n := 20043) (Nat.le_of_ble_eq_true rfl) (Nat.le_of_ble_eq_true rfl) ?_
  refine va_put (D := (dC, dI)) (ci := 1) (v := .ref q_9) (ty := .object "ReuseHouse$Kinds") (C := RX1) (T := TX1) (N := 13) hx hb hA zin_X1 tyX1 tyX1_ok nmX1 hown hK hP hD hS 0 rfl rfl 3 (by decide) (hA _ wi_439) (fun _ h9 => h9) rfl (by decide +kernel) rfl rfl (Nat.le_of_ble_eq_true rfl) dX1_init_86 (fun H locs hP hD hS => ?_)
  have hP : va_P (dC, dI) vwCl [(h0, .inr (1, [.ref q_2, .ref q_4, .ref q_7, .ref q_9, .int 0, .int 0, .int (-1), .int 0, .int 0, .int 0, .int 0, .int 0, .int 0])), (q_2, .inl (cA_3, 4000, .inl (fun _ => 0))), (q_4, .inl (cA_5, 4000, .inl (fun _ => 0))), (q_7, .inl (cA_8, 12000, .inr (.inl (fun _ => 0)))), (q_9, .inr (4, [.ref z_word_11, .ref z_fields_12, .int 0]))] H := hP
  have hD : va_D A [(h0, .inr (1, [.ref q_2, .ref q_4, .ref q_7, .ref q_9, .int 0, .int 0, .int (-1), .int 0, .int 0, .int 0, .int 0, .int 0, .int 0])), (q_2, .inl (cA_3, 4000, .inl (fun _ => 0))), (q_4, .inl (cA_5, 4000, .inl (fun _ => 0))), (q_7, .inl (cA_8, 12000, .inr (.inl (fun _ => 0)))), (q_9, .inr (4, [.ref z_word_11, .ref z_fields_12, .int 0]))] := hD
  have hP9 := hP.sub (ws' := []) [] rfl
  have hD9 := hD.sub (ws' := []) [] (by decide) rfl
  have hK9 := hK.sub (tys' := []) [] rfl
  exact W.vret hx hb hr (fun t ht hW => ⟨⟨(), rfl, trivial, by rw [ht]; exact hP9, va_K.moved hW.alike hK9, hD9⟩, hS.F ht⟩) hS.2.2 dX1_init_89
set_option maxHeartbeats 4000000 in
set_option maxRecDepth 100000 in
theorem c_X5_init (l : Launch) (dC : Nat → ClassId) (dI : Nat → Nat → Nat) (h0 : Nat) (pr : Nat) (p1 : Nat) (p2 : Nat) (p3 : Nat) (p4 : Nat) (sz : Nat)  : Met l yX5_init (Cond.code yX5_init cX5_init 2 none :: zw) ({ frames := 12, cells := 12, slots := 25780, locals := 400 }) (va_Pc [.ref h0, .ref pr] (zP dC dI sz [] [(h0, .inr (5, [.null, .null, .null, .int 0, .null, .int 0, .int 0, .null, .null, .null, .int 0, .null, .int 0, .int 0, .int 0, .int 0, .int 0, .int 0, .int 0, .long 0])), (pr, .inr (9, [.ref p1, .ref p2, .ref p3, .ref p4]))])) (va_Qv (fun u : Unit => True) (fun u => zQ dC dI (va_A [(h0, .inr (5, [.null, .null, .null, .int 0, .null, .int 0, .int 0, .null, .null, .null, .int 0, .null, .int 0, .int 0, .int 0, .int 0, .int 0, .int 0, .int 0, .long 0])), (pr, .inr (9, [.ref p1, .ref p2, .ref p3, .ref p4]))] sz) [] [(pr, .inr (9, [.ref p1, .ref p2, .ref p3, .ref p4]))]) (va_A [(h0, .inr (5, [.null, .null, .null, .int 0, .null, .int 0, .int 0, .null, .null, .null, .int 0, .null, .int 0, .int 0, .int 0, .int 0, .int 0, .int 0, .int 0, .long 0])), (pr, .inr (9, [.ref p1, .ref p2, .ref p3, .ref p4]))] sz)) 12 25780 (va_A [(h0, .inr (5, [.null, .null, .null, .int 0, .null, .int 0, .int 0, .null, .null, .null, .int 0, .null, .int 0, .int 0, .int 0, .int 0, .int 0, .int 0, .int 0, .long 0])), (pr, .inr (9, [.ref p1, .ref p2, .ref p3, .ref p4]))] sz) := by
  refine Met.ofW (cc := cX5_init) (maxL := 2) (ret := none) (by decide) rfl ?_
  intro p e s m args below meth c s₁ B hml hv
  obtain ⟨rfl, hsz, hP, hK, hD0, hN, hT⟩ := hv
  have hx := B.exec
  have hb := B.bytes
  have hr := B.returns
  have hts := atoms_spec (ws := Cond.code yX5_init cX5_init 2 none :: zw) B.pre
  have hA : ∀ w ∈ zw, w.before _ s = true := fun w h => hts w (List.mem_cons_of_mem _ h)
  have hown : s.vm.findClass RX5 = some m.cls := findClass_of_methodNamed B.named
  have hlocks := B.notSynchronized
  have hin : meth.name = "<init>" := (name_of_methodNamed B.named B.method).1
  subst hsz
  have hD := hD0.self (sz := s.heap.size)
  generalize hAe : va_A [(h0, .inr (5, [.null, .null, .null, .int 0, .null, .int 0, .int 0, .null, .null, .null, .int 0, .null, .int 0, .int 0, .int 0, .int 0, .int 0, .int 0, .int 0, .long 0])), (pr, .inr (9, [.ref p1, .ref p2, .ref p3, .ref p4]))] s.heap.size = A at hD hT ⊢
  have hAA : ∀ q : Nat, s.heap.size ≤ q → A q := fun q h => by rw [← hAe]; exact Or.inr h
  have hS : va_S A s.heap s.heap [] := va_S.rf
  have hl := lv_entry ([.ref h0, .ref pr]) (n := 2) (Nat.le_of_ble_eq_true rfl)
  rw [lg_entry_eq]
  generalize (lg_sl ([.ref h0, .ref pr]) ++ List.replicate (2 - (lg_sl ([.ref h0, .ref pr])).length) Slot.unset).toArray = ls at hl ⊢
  have hl : lv_has ls 2 [(0, .ref h0), (1, .ref pr)] := hl
  refine lv_aload_n hx hb dX5_init_0 rfl (lv_at hl 0 rfl) ?_
  refine W.objInit hx hb hown (hA _ wi_423) (hA _ wi_162) (hA _ wi_163) rfl (by rw [hml]; exact hl.1) rfl dX5_init_1 (Nat.le_of_ble_eq_true rfl) (Nat.le_of_ble_eq_true rfl) ?_
  refine W.eq (g2 := F0 m 4 ls []) rfl ?_
  refine lv_aload_n hx hb dX5_init_4 rfl (lv_at hl 0 rfl) ?_
  refine lv_iconst (v := 1) hx hb dX5_init_5 (by decide) ?_
  refine va_put (D := (dC, dI)) (ci := 5) (v := .int 1) (ty := .boolean) (C := RX5) (T := TX5) (N := 20) hx hb hA zin_X5 tyX5 tyX5_ok nmX5 hown hK hP hD hS 0 rfl rfl 3 (by decide) (hA _ wi_487) (fun _ h9 => h9) rfl (by decide +kernel) rfl rfl (Nat.le_of_ble_eq_true rfl) dX5_init_6 (fun H locs hP hD hS => ?_)
  have hP : va_P (dC, dI) vwCl [(h0, .inr (5, [.null, .null, .null, .int 1, .null, .int 0, .int 0, .null, .null, .null, .int 0, .null, .int 0, .int 0, .int 0, .int 0, .int 0, .int 0, .int 0, .long 0])), (pr, .inr (9, [.ref p1, .ref p2, .ref p3, .ref p4]))] H := hP
  have hD : va_D A [(h0, .inr (5, [.null, .null, .null, .int 1, .null, .int 0, .int 0, .null, .null, .null, .int 0, .null, .int 0, .int 0, .int 0, .int 0, .int 0, .int 0, .int 0, .long 0])), (pr, .inr (9, [.ref p1, .ref p2, .ref p3, .ref p4]))] := hD
  refine lv_aload_n hx hb dX5_init_9 rfl (lv_at hl 0 rfl) ?_
  refine lv_sipush (v := 22424) hx hb dX5_init_10 (by decide) ?_
  refine va_newa (atype := .long) (ty := .long) (a0 := (22424, .inr (.inl (fun _ => 0)))) (N' := 22424) hx hb (hA _ wi_283) rfl hK hP hD hS hAA (fun _ => rfl) (by decide) (by decide) (by decide) (Nat.le_of_ble_eq_true rfl) (Nat.le_of_ble_eq_true rfl) dX5_init_13 (fun q_1 cA_2 H hK hP hD hS => ?_)
  have hP : va_P (dC, dI) vwCl [(h0, .inr (5, [.null, .null, .null, .int 1, .null, .int 0, .int 0, .null, .null, .null, .int 0, .null, .int 0, .int 0, .int 0, .int 0, .int 0, .int 0, .int 0, .long 0])), (pr, .inr (9, [.ref p1, .ref p2, .ref p3, .ref p4])), (q_1, .inl (cA_2, 22424, .inr (.inl (fun _ => 0))))] H := hP
  have hD : va_D A [(h0, .inr (5, [.null, .null, .null, .int 1, .null, .int 0, .int 0, .null, .null, .null, .int 0, .null, .int 0, .int 0, .int 0, .int 0, .int 0, .int 0, .int 0, .long 0])), (pr, .inr (9, [.ref p1, .ref p2, .ref p3, .ref p4])), (q_1, .inl (cA_2, 22424, .inr (.inl (fun _ => 0))))] := hD
  have hK : va_K (dC, dI) vwCl [(cA_2, .long)] s := hK
  refine W.widen (k := 1) (n := 22424) (Nat.le_of_ble_eq_true rfl) (Nat.le_of_ble_eq_true rfl) ?_
  refine va_putF (D := (dC, dI)) (ci := 5) (v := .ref q_1) (ty := .array .long) (C := RX5) (T := TX5) (N := 20) hx hb hA zin_X5 tyX5 tyX5_ok nmX5 hown hK hP hD hS 0 rfl rfl 4 (by decide) (hA _ wi_488) (fun _ h9 => h9) rfl hin rfl (by decide +kernel) rfl rfl (Nat.le_of_ble_eq_true rfl) dX5_init_15 (fun H locs hP hD hS => ?_)
  have hP : va_P (dC, dI) vwCl [(h0, .inr (5, [.null, .null, .null, .int 1, .ref q_1, .int 0, .int 0, .null, .null, .null, .int 0, .null, .int 0, .int 0, .int 0, .int 0, .int 0, .int 0, .int 0, .long 0])), (pr, .inr (9, [.ref p1, .ref p2, .ref p3, .ref p4])), (q_1, .inl (cA_2, 22424, .inr (.inl (fun _ => 0))))] H := hP
  have hD : va_D A [(h0, .inr (5, [.null, .null, .null, .int 1, .ref q_1, .int 0, .int 0, .null, .null, .null, .int 0, .null, .int 0, .int 0, .int 0, .int 0, .int 0, .int 0, .int 0, .long 0])), (pr, .inr (9, [.ref p1, .ref p2, .ref p3, .ref p4])), (q_1, .inl (cA_2, 22424, .inr (.inl (fun _ => 0))))] := hD
  refine lv_aload_n hx hb dX5_init_18 rfl (lv_at hl 0 rfl) ?_
  refine lv_iconst (v := 0) hx hb dX5_init_19 (by decide) ?_
  refine va_put (D := (dC, dI)) (ci := 5) (v := .int 0) (ty := .int) (C := RX5) (T := TX5) (N := 20) hx hb hA zin_X5 tyX5 tyX5_ok nmX5 hown hK hP hD hS 0 rfl rfl 5 (by decide) (hA _ wi_489) (fun _ h9 => h9) rfl (by decide +kernel) rfl rfl (Nat.le_of_ble_eq_true rfl) dX5_init_20 (fun H locs hP hD hS => ?_)
  have hP : va_P (dC, dI) vwCl [(h0, .inr (5, [.null, .null, .null, .int 1, .ref q_1, .int 0, .int 0, .null, .null, .null, .int 0, .null, .int 0, .int 0, .int 0, .int 0, .int 0, .int 0, .int 0, .long 0])), (pr, .inr (9, [.ref p1, .ref p2, .ref p3, .ref p4])), (q_1, .inl (cA_2, 22424, .inr (.inl (fun _ => 0))))] H := hP
  have hD : va_D A [(h0, .inr (5, [.null, .null, .null, .int 1, .ref q_1, .int 0, .int 0, .null, .null, .null, .int 0, .null, .int 0, .int 0, .int 0, .int 0, .int 0, .int 0, .int 0, .long 0])), (pr, .inr (9, [.ref p1, .ref p2, .ref p3, .ref p4])), (q_1, .inl (cA_2, 22424, .inr (.inl (fun _ => 0))))] := hD
  refine lv_aload_n hx hb dX5_init_23 rfl (lv_at hl 0 rfl) ?_
  refine lv_iconst (v := 0) hx hb dX5_init_24 (by decide) ?_
  refine va_put (D := (dC, dI)) (ci := 5) (v := .int 0) (ty := .int) (C := RX5) (T := TX5) (N := 20) hx hb hA zin_X5 tyX5 tyX5_ok nmX5 hown hK hP hD hS 0 rfl rfl 6 (by decide) (hA _ wi_490) (fun _ h9 => h9) rfl (by decide +kernel) rfl rfl (Nat.le_of_ble_eq_true rfl) dX5_init_25 (fun H locs hP hD hS => ?_)
  have hP : va_P (dC, dI) vwCl [(h0, .inr (5, [.null, .null, .null, .int 1, .ref q_1, .int 0, .int 0, .null, .null, .null, .int 0, .null, .int 0, .int 0, .int 0, .int 0, .int 0, .int 0, .int 0, .long 0])), (pr, .inr (9, [.ref p1, .ref p2, .ref p3, .ref p4])), (q_1, .inl (cA_2, 22424, .inr (.inl (fun _ => 0))))] H := hP
  have hD : va_D A [(h0, .inr (5, [.null, .null, .null, .int 1, .ref q_1, .int 0, .int 0, .null, .null, .null, .int 0, .null, .int 0, .int 0, .int 0, .int 0, .int 0, .int 0, .int 0, .long 0])), (pr, .inr (9, [.ref p1, .ref p2, .ref p3, .ref p4])), (q_1, .inl (cA_2, 22424, .inr (.inl (fun _ => 0))))] := hD
  refine lv_aload_n hx hb dX5_init_28 rfl (lv_at hl 0 rfl) ?_
  refine lv_bipush (v := 100) hx hb dX5_init_29 (by decide) ?_
  refine va_newa (atype := .int) (ty := .int) (a0 := (100, .inl (fun _ => 0))) (N' := 100) hx hb (hA _ wi_220) rfl hK hP hD hS hAA (fun _ => rfl) (by decide) (by decide) (by decide) (Nat.le_of_ble_eq_true rfl) (Nat.le_of_ble_eq_true rfl) dX5_init_31 (fun q_3 cA_4 H hK hP hD hS => ?_)
  have hP : va_P (dC, dI) vwCl [(h0, .inr (5, [.null, .null, .null, .int 1, .ref q_1, .int 0, .int 0, .null, .null, .null, .int 0, .null, .int 0, .int 0, .int 0, .int 0, .int 0, .int 0, .int 0, .long 0])), (pr, .inr (9, [.ref p1, .ref p2, .ref p3, .ref p4])), (q_1, .inl (cA_2, 22424, .inr (.inl (fun _ => 0)))), (q_3, .inl (cA_4, 100, .inl (fun _ => 0)))] H := hP
  have hD : va_D A [(h0, .inr (5, [.null, .null, .null, .int 1, .ref q_1, .int 0, .int 0, .null, .null, .null, .int 0, .null, .int 0, .int 0, .int 0, .int 0, .int 0, .int 0, .int 0, .long 0])), (pr, .inr (9, [.ref p1, .ref p2, .ref p3, .ref p4])), (q_1, .inl (cA_2, 22424, .inr (.inl (fun _ => 0)))), (q_3, .inl (cA_4, 100, .inl (fun _ => 0)))] := hD
  have hK : va_K (dC, dI) vwCl [(cA_2, .long), (cA_4, .int)] s := hK
  refine W.widen (k := 2) (n := 22524) (Nat.le_of_ble_eq_true rfl) (Nat.le_of_ble_eq_true rfl) ?_
  refine va_putF (D := (dC, dI)) (ci := 5) (v := .ref q_3) (ty := .array .int) (C := RX5) (T := TX5) (N := 20) hx hb hA zin_X5 tyX5 tyX5_ok nmX5 hown hK hP hD hS 0 rfl rfl 7 (by decide) (hA _ wi_491) (fun _ h9 => h9) rfl hin rfl (by decide +kernel) rfl rfl (Nat.le_of_ble_eq_true rfl) dX5_init_33 (fun H locs hP hD hS => ?_)
  have hP : va_P (dC, dI) vwCl [(h0, .inr (5, [.null, .null, .null, .int 1, .ref q_1, .int 0, .int 0, .ref q_3, .null, .null, .int 0, .null, .int 0, .int 0, .int 0, .int 0, .int 0, .int 0, .int 0, .long 0])), (pr, .inr (9, [.ref p1, .ref p2, .ref p3, .ref p4])), (q_1, .inl (cA_2, 22424, .inr (.inl (fun _ => 0)))), (q_3, .inl (cA_4, 100, .inl (fun _ => 0)))] H := hP
  have hD : va_D A [(h0, .inr (5, [.null, .null, .null, .int 1, .ref q_1, .int 0, .int 0, .ref q_3, .null, .null, .int 0, .null, .int 0, .int 0, .int 0, .int 0, .int 0, .int 0, .int 0, .long 0])), (pr, .inr (9, [.ref p1, .ref p2, .ref p3, .ref p4])), (q_1, .inl (cA_2, 22424, .inr (.inl (fun _ => 0)))), (q_3, .inl (cA_4, 100, .inl (fun _ => 0)))] := hD
  refine lv_aload_n hx hb dX5_init_36 rfl (lv_at hl 0 rfl) ?_
  refine lv_bipush (v := 100) hx hb dX5_init_37 (by decide) ?_
  refine va_newa (atype := .int) (ty := .int) (a0 := (100, .inl (fun _ => 0))) (N' := 100) hx hb (hA _ wi_220) rfl hK hP hD hS hAA (fun _ => rfl) (by decide) (by decide) (by decide) (Nat.le_of_ble_eq_true rfl) (Nat.le_of_ble_eq_true rfl) dX5_init_39 (fun q_5 cA_6 H hK hP hD hS => ?_)
  have hP : va_P (dC, dI) vwCl [(h0, .inr (5, [.null, .null, .null, .int 1, .ref q_1, .int 0, .int 0, .ref q_3, .null, .null, .int 0, .null, .int 0, .int 0, .int 0, .int 0, .int 0, .int 0, .int 0, .long 0])), (pr, .inr (9, [.ref p1, .ref p2, .ref p3, .ref p4])), (q_1, .inl (cA_2, 22424, .inr (.inl (fun _ => 0)))), (q_3, .inl (cA_4, 100, .inl (fun _ => 0))), (q_5, .inl (cA_6, 100, .inl (fun _ => 0)))] H := hP
  have hD : va_D A [(h0, .inr (5, [.null, .null, .null, .int 1, .ref q_1, .int 0, .int 0, .ref q_3, .null, .null, .int 0, .null, .int 0, .int 0, .int 0, .int 0, .int 0, .int 0, .int 0, .long 0])), (pr, .inr (9, [.ref p1, .ref p2, .ref p3, .ref p4])), (q_1, .inl (cA_2, 22424, .inr (.inl (fun _ => 0)))), (q_3, .inl (cA_4, 100, .inl (fun _ => 0))), (q_5, .inl (cA_6, 100, .inl (fun _ => 0)))] := hD
  have hK : va_K (dC, dI) vwCl [(cA_2, .long), (cA_4, .int), (cA_6, .int)] s := hK
  refine W.widen (k := 3) (n := 22624) (Nat.le_of_ble_eq_true rfl) (Nat.le_of_ble_eq_true rfl) ?_
  refine va_putF (D := (dC, dI)) (ci := 5) (v := .ref q_5) (ty := .array .int) (C := RX5) (T := TX5) (N := 20) hx hb hA zin_X5 tyX5 tyX5_ok nmX5 hown hK hP hD hS 0 rfl rfl 8 (by decide) (hA _ wi_492) (fun _ h9 => h9) rfl hin rfl (by decide +kernel) rfl rfl (Nat.le_of_ble_eq_true rfl) dX5_init_41 (fun H locs hP hD hS => ?_)
  have hP : va_P (dC, dI) vwCl [(h0, .inr (5, [.null, .null, .null, .int 1, .ref q_1, .int 0, .int 0, .ref q_3, .ref q_5, .null, .int 0, .null, .int 0, .int 0, .int 0, .int 0, .int 0, .int 0, .int 0, .long 0])), (pr, .inr (9, [.ref p1, .ref p2, .ref p3, .ref p4])), (q_1, .inl (cA_2, 22424, .inr (.inl (fun _ => 0)))), (q_3, .inl (cA_4, 100, .inl (fun _ => 0))), (q_5, .inl (cA_6, 100, .inl (fun _ => 0)))] H := hP
  have hD : va_D A [(h0, .inr (5, [.null, .null, .null, .int 1, .ref q_1, .int 0, .int 0, .ref q_3, .ref q_5, .null, .int 0, .null, .int 0, .int 0, .int 0, .int 0, .int 0, .int 0, .int 0, .long 0])), (pr, .inr (9, [.ref p1, .ref p2, .ref p3, .ref p4])), (q_1, .inl (cA_2, 22424, .inr (.inl (fun _ => 0)))), (q_3, .inl (cA_4, 100, .inl (fun _ => 0))), (q_5, .inl (cA_6, 100, .inl (fun _ => 0)))] := hD
  refine lv_aload_n hx hb dX5_init_44 rfl (lv_at hl 0 rfl) ?_
  refine lv_bipush (v := 100) hx hb dX5_init_45 (by decide) ?_
  refine va_newa (atype := .int) (ty := .int) (a0 := (100, .inl (fun _ => 0))) (N' := 100) hx hb (hA _ wi_220) rfl hK hP hD hS hAA (fun _ => rfl) (by decide) (by decide) (by decide) (Nat.le_of_ble_eq_true rfl) (Nat.le_of_ble_eq_true rfl) dX5_init_47 (fun q_7 cA_8 H hK hP hD hS => ?_)
  have hP : va_P (dC, dI) vwCl [(h0, .inr (5, [.null, .null, .null, .int 1, .ref q_1, .int 0, .int 0, .ref q_3, .ref q_5, .null, .int 0, .null, .int 0, .int 0, .int 0, .int 0, .int 0, .int 0, .int 0, .long 0])), (pr, .inr (9, [.ref p1, .ref p2, .ref p3, .ref p4])), (q_1, .inl (cA_2, 22424, .inr (.inl (fun _ => 0)))), (q_3, .inl (cA_4, 100, .inl (fun _ => 0))), (q_5, .inl (cA_6, 100, .inl (fun _ => 0))), (q_7, .inl (cA_8, 100, .inl (fun _ => 0)))] H := hP
  have hD : va_D A [(h0, .inr (5, [.null, .null, .null, .int 1, .ref q_1, .int 0, .int 0, .ref q_3, .ref q_5, .null, .int 0, .null, .int 0, .int 0, .int 0, .int 0, .int 0, .int 0, .int 0, .long 0])), (pr, .inr (9, [.ref p1, .ref p2, .ref p3, .ref p4])), (q_1, .inl (cA_2, 22424, .inr (.inl (fun _ => 0)))), (q_3, .inl (cA_4, 100, .inl (fun _ => 0))), (q_5, .inl (cA_6, 100, .inl (fun _ => 0))), (q_7, .inl (cA_8, 100, .inl (fun _ => 0)))] := hD
  have hK : va_K (dC, dI) vwCl [(cA_2, .long), (cA_4, .int), (cA_6, .int), (cA_8, .int)] s := hK
  refine W.widen (k := 4) (n := 22724) (Nat.le_of_ble_eq_true rfl) (Nat.le_of_ble_eq_true rfl) ?_
  refine va_putF (D := (dC, dI)) (ci := 5) (v := .ref q_7) (ty := .array .int) (C := RX5) (T := TX5) (N := 20) hx hb hA zin_X5 tyX5 tyX5_ok nmX5 hown hK hP hD hS 0 rfl rfl 9 (by decide) (hA _ wi_493) (fun _ h9 => h9) rfl hin rfl (by decide +kernel) rfl rfl (Nat.le_of_ble_eq_true rfl) dX5_init_49 (fun H locs hP hD hS => ?_)
  have hP : va_P (dC, dI) vwCl [(h0, .inr (5, [.null, .null, .null, .int 1, .ref q_1, .int 0, .int 0, .ref q_3, .ref q_5, .ref q_7, .int 0, .null, .int 0, .int 0, .int 0, .int 0, .int 0, .int 0, .int 0, .long 0])), (pr, .inr (9, [.ref p1, .ref p2, .ref p3, .ref p4])), (q_1, .inl (cA_2, 22424, .inr (.inl (fun _ => 0)))), (q_3, .inl (cA_4, 100, .inl (fun _ => 0))), (q_5, .inl (cA_6, 100, .inl (fun _ => 0))), (q_7, .inl (cA_8, 100, .inl (fun _ => 0)))] H := hP
  have hD : va_D A [(h0, .inr (5, [.null, .null, .null, .int 1, .ref q_1, .int 0, .int 0, .ref q_3, .ref q_5, .ref q_7, .int 0, .null, .int 0, .int 0, .int 0, .int 0, .int 0, .int 0, .int 0, .long 0])), (pr, .inr (9, [.ref p1, .ref p2, .ref p3, .ref p4])), (q_1, .inl (cA_2, 22424, .inr (.inl (fun _ => 0)))), (q_3, .inl (cA_4, 100, .inl (fun _ => 0))), (q_5, .inl (cA_6, 100, .inl (fun _ => 0))), (q_7, .inl (cA_8, 100, .inl (fun _ => 0)))] := hD
  refine lv_aload_n hx hb dX5_init_52 rfl (lv_at hl 0 rfl) ?_
  refine lv_iconst (v := 0) hx hb dX5_init_53 (by decide) ?_
  refine va_put (D := (dC, dI)) (ci := 5) (v := .int 0) (ty := .int) (C := RX5) (T := TX5) (N := 20) hx hb hA zin_X5 tyX5 tyX5_ok nmX5 hown hK hP hD hS 0 rfl rfl 10 (by decide) (hA _ wi_494) (fun _ h9 => h9) rfl (by decide +kernel) rfl rfl (Nat.le_of_ble_eq_true rfl) dX5_init_54 (fun H locs hP hD hS => ?_)
  have hP : va_P (dC, dI) vwCl [(h0, .inr (5, [.null, .null, .null, .int 1, .ref q_1, .int 0, .int 0, .ref q_3, .ref q_5, .ref q_7, .int 0, .null, .int 0, .int 0, .int 0, .int 0, .int 0, .int 0, .int 0, .long 0])), (pr, .inr (9, [.ref p1, .ref p2, .ref p3, .ref p4])), (q_1, .inl (cA_2, 22424, .inr (.inl (fun _ => 0)))), (q_3, .inl (cA_4, 100, .inl (fun _ => 0))), (q_5, .inl (cA_6, 100, .inl (fun _ => 0))), (q_7, .inl (cA_8, 100, .inl (fun _ => 0)))] H := hP
  have hD : va_D A [(h0, .inr (5, [.null, .null, .null, .int 1, .ref q_1, .int 0, .int 0, .ref q_3, .ref q_5, .ref q_7, .int 0, .null, .int 0, .int 0, .int 0, .int 0, .int 0, .int 0, .int 0, .long 0])), (pr, .inr (9, [.ref p1, .ref p2, .ref p3, .ref p4])), (q_1, .inl (cA_2, 22424, .inr (.inl (fun _ => 0)))), (q_3, .inl (cA_4, 100, .inl (fun _ => 0))), (q_5, .inl (cA_6, 100, .inl (fun _ => 0))), (q_7, .inl (cA_8, 100, .inl (fun _ => 0)))] := hD
  refine lv_aload_n hx hb dX5_init_57 rfl (lv_at hl 0 rfl) ?_
  refine lv_sipush (v := 3000) hx hb dX5_init_58 (by decide) ?_
  refine va_newa (atype := .int) (ty := .int) (a0 := (3000, .inl (fun _ => 0))) (N' := 3000) hx hb (hA _ wi_220) rfl hK hP hD hS hAA (fun _ => rfl) (by decide) (by decide) (by decide) (Nat.le_of_ble_eq_true rfl) (Nat.le_of_ble_eq_true rfl) dX5_init_61 (fun q_9 cA_10 H hK hP hD hS => ?_)
  have hP : va_P (dC, dI) vwCl [(h0, .inr (5, [.null, .null, .null, .int 1, .ref q_1, .int 0, .int 0, .ref q_3, .ref q_5, .ref q_7, .int 0, .null, .int 0, .int 0, .int 0, .int 0, .int 0, .int 0, .int 0, .long 0])), (pr, .inr (9, [.ref p1, .ref p2, .ref p3, .ref p4])), (q_1, .inl (cA_2, 22424, .inr (.inl (fun _ => 0)))), (q_3, .inl (cA_4, 100, .inl (fun _ => 0))), (q_5, .inl (cA_6, 100, .inl (fun _ => 0))), (q_7, .inl (cA_8, 100, .inl (fun _ => 0))), (q_9, .inl (cA_10, 3000, .inl (fun _ => 0)))] H := hP
  have hD : va_D A [(h0, .inr (5, [.null, .null, .null, .int 1, .ref q_1, .int 0, .int 0, .ref q_3, .ref q_5, .ref q_7, .int 0, .null, .int 0, .int 0, .int 0, .int 0, .int 0, .int 0, .int 0, .long 0])), (pr, .inr (9, [.ref p1, .ref p2, .ref p3, .ref p4])), (q_1, .inl (cA_2, 22424, .inr (.inl (fun _ => 0)))), (q_3, .inl (cA_4, 100, .inl (fun _ => 0))), (q_5, .inl (cA_6, 100, .inl (fun _ => 0))), (q_7, .inl (cA_8, 100, .inl (fun _ => 0))), (q_9, .inl (cA_10, 3000, .inl (fun _ => 0)))] := hD
  have hK : va_K (dC, dI) vwCl [(cA_2, .long), (cA_4, .int), (cA_6, .int), (cA_8, .int), (cA_10, .int)] s := hK
  refine W.widen (k := 5) (n := 25724) (Nat.le_of_ble_eq_true rfl) (Nat.le_of_ble_eq_true rfl) ?_
  refine va_putF (D := (dC, dI)) (ci := 5) (v := .ref q_9) (ty := .array .int) (C := RX5) (T := TX5) (N := 20) hx hb hA zin_X5 tyX5 tyX5_ok nmX5 hown hK hP hD hS 0 rfl rfl 11 (by decide) (hA _ wi_495) (fun _ h9 => h9) rfl hin rfl (by decide +kernel) rfl rfl (Nat.le_of_ble_eq_true rfl) dX5_init_63 (fun H locs hP hD hS => ?_)
  have hP : va_P (dC, dI) vwCl [(h0, .inr (5, [.null, .null, .null, .int 1, .ref q_1, .int 0, .int 0, .ref q_3, .ref q_5, .ref q_7, .int 0, .ref q_9, .int 0, .int 0, .int 0, .int 0, .int 0, .int 0, .int 0, .long 0])), (pr, .inr (9, [.ref p1, .ref p2, .ref p3, .ref p4])), (q_1, .inl (cA_2, 22424, .inr (.inl (fun _ => 0)))), (q_3, .inl (cA_4, 100, .inl (fun _ => 0))), (q_5, .inl (cA_6, 100, .inl (fun _ => 0))), (q_7, .inl (cA_8, 100, .inl (fun _ => 0))), (q_9, .inl (cA_10, 3000, .inl (fun _ => 0)))] H := hP
  have hD : va_D A [(h0, .inr (5, [.null, .null, .null, .int 1, .ref q_1, .int 0, .int 0, .ref q_3, .ref q_5, .ref q_7, .int 0, .ref q_9, .int 0, .int 0, .int 0, .int 0, .int 0, .int 0, .int 0, .long 0])), (pr, .inr (9, [.ref p1, .ref p2, .ref p3, .ref p4])), (q_1, .inl (cA_2, 22424, .inr (.inl (fun _ => 0)))), (q_3, .inl (cA_4, 100, .inl (fun _ => 0))), (q_5, .inl (cA_6, 100, .inl (fun _ => 0))), (q_7, .inl (cA_8, 100, .inl (fun _ => 0))), (q_9, .inl (cA_10, 3000, .inl (fun _ => 0)))] := hD
  refine lv_aload_n hx hb dX5_init_66 rfl (lv_at hl 0 rfl) ?_
  refine lv_iconst (v := 0) hx hb dX5_init_67 (by decide) ?_
  refine va_put (D := (dC, dI)) (ci := 5) (v := .int 0) (ty := .int) (C := RX5) (T := TX5) (N := 20) hx hb hA zin_X5 tyX5 tyX5_ok nmX5 hown hK hP hD hS 0 rfl rfl 12 (by decide) (hA _ wi_496) (fun _ h9 => h9) rfl (by decide +kernel) rfl rfl (Nat.le_of_ble_eq_true rfl) dX5_init_68 (fun H locs hP hD hS => ?_)
  have hP : va_P (dC, dI) vwCl [(h0, .inr (5, [.null, .null, .null, .int 1, .ref q_1, .int 0, .int 0, .ref q_3, .ref q_5, .ref q_7, .int 0, .ref q_9, .int 0, .int 0, .int 0, .int 0, .int 0, .int 0, .int 0, .long 0])), (pr, .inr (9, [.ref p1, .ref p2, .ref p3, .ref p4])), (q_1, .inl (cA_2, 22424, .inr (.inl (fun _ => 0)))), (q_3, .inl (cA_4, 100, .inl (fun _ => 0))), (q_5, .inl (cA_6, 100, .inl (fun _ => 0))), (q_7, .inl (cA_8, 100, .inl (fun _ => 0))), (q_9, .inl (cA_10, 3000, .inl (fun _ => 0)))] H := hP
  have hD : va_D A [(h0, .inr (5, [.null, .null, .null, .int 1, .ref q_1, .int 0, .int 0, .ref q_3, .ref q_5, .ref q_7, .int 0, .ref q_9, .int 0, .int 0, .int 0, .int 0, .int 0, .int 0, .int 0, .long 0])), (pr, .inr (9, [.ref p1, .ref p2, .ref p3, .ref p4])), (q_1, .inl (cA_2, 22424, .inr (.inl (fun _ => 0)))), (q_3, .inl (cA_4, 100, .inl (fun _ => 0))), (q_5, .inl (cA_6, 100, .inl (fun _ => 0))), (q_7, .inl (cA_8, 100, .inl (fun _ => 0))), (q_9, .inl (cA_10, 3000, .inl (fun _ => 0)))] := hD
  refine lv_aload_n hx hb dX5_init_71 rfl (lv_at hl 0 rfl) ?_
  refine lv_iconst (v := (-1)) hx hb dX5_init_72 (by decide) ?_
  refine va_put (D := (dC, dI)) (ci := 5) (v := .int (-1)) (ty := .int) (C := RX5) (T := TX5) (N := 20) hx hb hA zin_X5 tyX5 tyX5_ok nmX5 hown hK hP hD hS 0 rfl rfl 13 (by decide) (hA _ wi_497) (fun _ h9 => h9) rfl (by decide +kernel) rfl rfl (Nat.le_of_ble_eq_true rfl) dX5_init_73 (fun H locs hP hD hS => ?_)
  have hP : va_P (dC, dI) vwCl [(h0, .inr (5, [.null, .null, .null, .int 1, .ref q_1, .int 0, .int 0, .ref q_3, .ref q_5, .ref q_7, .int 0, .ref q_9, .int 0, .int (-1), .int 0, .int 0, .int 0, .int 0, .int 0, .long 0])), (pr, .inr (9, [.ref p1, .ref p2, .ref p3, .ref p4])), (q_1, .inl (cA_2, 22424, .inr (.inl (fun _ => 0)))), (q_3, .inl (cA_4, 100, .inl (fun _ => 0))), (q_5, .inl (cA_6, 100, .inl (fun _ => 0))), (q_7, .inl (cA_8, 100, .inl (fun _ => 0))), (q_9, .inl (cA_10, 3000, .inl (fun _ => 0)))] H := hP
  have hD : va_D A [(h0, .inr (5, [.null, .null, .null, .int 1, .ref q_1, .int 0, .int 0, .ref q_3, .ref q_5, .ref q_7, .int 0, .ref q_9, .int 0, .int (-1), .int 0, .int 0, .int 0, .int 0, .int 0, .long 0])), (pr, .inr (9, [.ref p1, .ref p2, .ref p3, .ref p4])), (q_1, .inl (cA_2, 22424, .inr (.inl (fun _ => 0)))), (q_3, .inl (cA_4, 100, .inl (fun _ => 0))), (q_5, .inl (cA_6, 100, .inl (fun _ => 0))), (q_7, .inl (cA_8, 100, .inl (fun _ => 0))), (q_9, .inl (cA_10, 3000, .inl (fun _ => 0)))] := hD
  refine lv_aload_n hx hb dX5_init_76 rfl (lv_at hl 0 rfl) ?_
  refine lv_iconst (v := 0) hx hb dX5_init_77 (by decide) ?_
  refine va_put (D := (dC, dI)) (ci := 5) (v := .int 0) (ty := .int) (C := RX5) (T := TX5) (N := 20) hx hb hA zin_X5 tyX5 tyX5_ok nmX5 hown hK hP hD hS 0 rfl rfl 14 (by decide) (hA _ wi_498) (fun _ h9 => h9) rfl (by decide +kernel) rfl rfl (Nat.le_of_ble_eq_true rfl) dX5_init_78 (fun H locs hP hD hS => ?_)
  have hP : va_P (dC, dI) vwCl [(h0, .inr (5, [.null, .null, .null, .int 1, .ref q_1, .int 0, .int 0, .ref q_3, .ref q_5, .ref q_7, .int 0, .ref q_9, .int 0, .int (-1), .int 0, .int 0, .int 0, .int 0, .int 0, .long 0])), (pr, .inr (9, [.ref p1, .ref p2, .ref p3, .ref p4])), (q_1, .inl (cA_2, 22424, .inr (.inl (fun _ => 0)))), (q_3, .inl (cA_4, 100, .inl (fun _ => 0))), (q_5, .inl (cA_6, 100, .inl (fun _ => 0))), (q_7, .inl (cA_8, 100, .inl (fun _ => 0))), (q_9, .inl (cA_10, 3000, .inl (fun _ => 0)))] H := hP
  have hD : va_D A [(h0, .inr (5, [.null, .null, .null, .int 1, .ref q_1, .int 0, .int 0, .ref q_3, .ref q_5, .ref q_7, .int 0, .ref q_9, .int 0, .int (-1), .int 0, .int 0, .int 0, .int 0, .int 0, .long 0])), (pr, .inr (9, [.ref p1, .ref p2, .ref p3, .ref p4])), (q_1, .inl (cA_2, 22424, .inr (.inl (fun _ => 0)))), (q_3, .inl (cA_4, 100, .inl (fun _ => 0))), (q_5, .inl (cA_6, 100, .inl (fun _ => 0))), (q_7, .inl (cA_8, 100, .inl (fun _ => 0))), (q_9, .inl (cA_10, 3000, .inl (fun _ => 0)))] := hD
  refine lv_aload_n hx hb dX5_init_81 rfl (lv_at hl 0 rfl) ?_
  refine lv_iconst (v := 0) hx hb dX5_init_82 (by decide) ?_
  refine va_put (D := (dC, dI)) (ci := 5) (v := .int 0) (ty := .int) (C := RX5) (T := TX5) (N := 20) hx hb hA zin_X5 tyX5 tyX5_ok nmX5 hown hK hP hD hS 0 rfl rfl 15 (by decide) (hA _ wi_499) (fun _ h9 => h9) rfl (by decide +kernel) rfl rfl (Nat.le_of_ble_eq_true rfl) dX5_init_83 (fun H locs hP hD hS => ?_)
  have hP : va_P (dC, dI) vwCl [(h0, .inr (5, [.null, .null, .null, .int 1, .ref q_1, .int 0, .int 0, .ref q_3, .ref q_5, .ref q_7, .int 0, .ref q_9, .int 0, .int (-1), .int 0, .int 0, .int 0, .int 0, .int 0, .long 0])), (pr, .inr (9, [.ref p1, .ref p2, .ref p3, .ref p4])), (q_1, .inl (cA_2, 22424, .inr (.inl (fun _ => 0)))), (q_3, .inl (cA_4, 100, .inl (fun _ => 0))), (q_5, .inl (cA_6, 100, .inl (fun _ => 0))), (q_7, .inl (cA_8, 100, .inl (fun _ => 0))), (q_9, .inl (cA_10, 3000, .inl (fun _ => 0)))] H := hP
  have hD : va_D A [(h0, .inr (5, [.null, .null, .null, .int 1, .ref q_1, .int 0, .int 0, .ref q_3, .ref q_5, .ref q_7, .int 0, .ref q_9, .int 0, .int (-1), .int 0, .int 0, .int 0, .int 0, .int 0, .long 0])), (pr, .inr (9, [.ref p1, .ref p2, .ref p3, .ref p4])), (q_1, .inl (cA_2, 22424, .inr (.inl (fun _ => 0)))), (q_3, .inl (cA_4, 100, .inl (fun _ => 0))), (q_5, .inl (cA_6, 100, .inl (fun _ => 0))), (q_7, .inl (cA_8, 100, .inl (fun _ => 0))), (q_9, .inl (cA_10, 3000, .inl (fun _ => 0)))] := hD
  refine lv_aload_n hx hb dX5_init_86 rfl (lv_at hl 0 rfl) ?_
  refine lv_iconst (v := 0) hx hb dX5_init_87 (by decide) ?_
  refine va_put (D := (dC, dI)) (ci := 5) (v := .int 0) (ty := .int) (C := RX5) (T := TX5) (N := 20) hx hb hA zin_X5 tyX5 tyX5_ok nmX5 hown hK hP hD hS 0 rfl rfl 16 (by decide) (hA _ wi_501) (fun _ h9 => h9) rfl (by decide +kernel) rfl rfl (Nat.le_of_ble_eq_true rfl) dX5_init_88 (fun H locs hP hD hS => ?_)
  have hP : va_P (dC, dI) vwCl [(h0, .inr (5, [.null, .null, .null, .int 1, .ref q_1, .int 0, .int 0, .ref q_3, .ref q_5, .ref q_7, .int 0, .ref q_9, .int 0, .int (-1), .int 0, .int 0, .int 0, .int 0, .int 0, .long 0])), (pr, .inr (9, [.ref p1, .ref p2, .ref p3, .ref p4])), (q_1, .inl (cA_2, 22424, .inr (.inl (fun _ => 0)))), (q_3, .inl (cA_4, 100, .inl (fun _ => 0))), (q_5, .inl (cA_6, 100, .inl (fun _ => 0))), (q_7, .inl (cA_8, 100, .inl (fun _ => 0))), (q_9, .inl (cA_10, 3000, .inl (fun _ => 0)))] H := hP
  have hD : va_D A [(h0, .inr (5, [.null, .null, .null, .int 1, .ref q_1, .int 0, .int 0, .ref q_3, .ref q_5, .ref q_7, .int 0, .ref q_9, .int 0, .int (-1), .int 0, .int 0, .int 0, .int 0, .int 0, .long 0])), (pr, .inr (9, [.ref p1, .ref p2, .ref p3, .ref p4])), (q_1, .inl (cA_2, 22424, .inr (.inl (fun _ => 0)))), (q_3, .inl (cA_4, 100, .inl (fun _ => 0))), (q_5, .inl (cA_6, 100, .inl (fun _ => 0))), (q_7, .inl (cA_8, 100, .inl (fun _ => 0))), (q_9, .inl (cA_10, 3000, .inl (fun _ => 0)))] := hD
  refine lv_aload_n hx hb dX5_init_91 rfl (lv_at hl 0 rfl) ?_
  refine lv_iconst (v := 0) hx hb dX5_init_92 (by decide) ?_
  refine va_put (D := (dC, dI)) (ci := 5) (v := .int 0) (ty := .int) (C := RX5) (T := TX5) (N := 20) hx hb hA zin_X5 tyX5 tyX5_ok nmX5 hown hK hP hD hS 0 rfl rfl 17 (by decide) (hA _ wi_503) (fun _ h9 => h9) rfl (by decide +kernel) rfl rfl (Nat.le_of_ble_eq_true rfl) dX5_init_93 (fun H locs hP hD hS => ?_)
  have hP : va_P (dC, dI) vwCl [(h0, .inr (5, [.null, .null, .null, .int 1, .ref q_1, .int 0, .int 0, .ref q_3, .ref q_5, .ref q_7, .int 0, .ref q_9, .int 0, .int (-1), .int 0, .int 0, .int 0, .int 0, .int 0, .long 0])), (pr, .inr (9, [.ref p1, .ref p2, .ref p3, .ref p4])), (q_1, .inl (cA_2, 22424, .inr (.inl (fun _ => 0)))), (q_3, .inl (cA_4, 100, .inl (fun _ => 0))), (q_5, .inl (cA_6, 100, .inl (fun _ => 0))), (q_7, .inl (cA_8, 100, .inl (fun _ => 0))), (q_9, .inl (cA_10, 3000, .inl (fun _ => 0)))] H := hP
  have hD : va_D A [(h0, .inr (5, [.null, .null, .null, .int 1, .ref q_1, .int 0, .int 0, .ref q_3, .ref q_5, .ref q_7, .int 0, .ref q_9, .int 0, .int (-1), .int 0, .int 0, .int 0, .int 0, .int 0, .long 0])), (pr, .inr (9, [.ref p1, .ref p2, .ref p3, .ref p4])), (q_1, .inl (cA_2, 22424, .inr (.inl (fun _ => 0)))), (q_3, .inl (cA_4, 100, .inl (fun _ => 0))), (q_5, .inl (cA_6, 100, .inl (fun _ => 0))), (q_7, .inl (cA_8, 100, .inl (fun _ => 0))), (q_9, .inl (cA_10, 3000, .inl (fun _ => 0)))] := hD
  refine lv_aload_n hx hb dX5_init_96 rfl (lv_at hl 0 rfl) ?_
  refine lv_iconst (v := (-1)) hx hb dX5_init_97 (by decide) ?_
  refine va_put (D := (dC, dI)) (ci := 5) (v := .int (-1)) (ty := .int) (C := RX5) (T := TX5) (N := 20) hx hb hA zin_X5 tyX5 tyX5_ok nmX5 hown hK hP hD hS 0 rfl rfl 18 (by decide) (hA _ wi_505) (fun _ h9 => h9) rfl (by decide +kernel) rfl rfl (Nat.le_of_ble_eq_true rfl) dX5_init_98 (fun H locs hP hD hS => ?_)
  have hP : va_P (dC, dI) vwCl [(h0, .inr (5, [.null, .null, .null, .int 1, .ref q_1, .int 0, .int 0, .ref q_3, .ref q_5, .ref q_7, .int 0, .ref q_9, .int 0, .int (-1), .int 0, .int 0, .int 0, .int 0, .int (-1), .long 0])), (pr, .inr (9, [.ref p1, .ref p2, .ref p3, .ref p4])), (q_1, .inl (cA_2, 22424, .inr (.inl (fun _ => 0)))), (q_3, .inl (cA_4, 100, .inl (fun _ => 0))), (q_5, .inl (cA_6, 100, .inl (fun _ => 0))), (q_7, .inl (cA_8, 100, .inl (fun _ => 0))), (q_9, .inl (cA_10, 3000, .inl (fun _ => 0)))] H := hP
  have hD : va_D A [(h0, .inr (5, [.null, .null, .null, .int 1, .ref q_1, .int 0, .int 0, .ref q_3, .ref q_5, .ref q_7, .int 0, .ref q_9, .int 0, .int (-1), .int 0, .int 0, .int 0, .int 0, .int (-1), .long 0])), (pr, .inr (9, [.ref p1, .ref p2, .ref p3, .ref p4])), (q_1, .inl (cA_2, 22424, .inr (.inl (fun _ => 0)))), (q_3, .inl (cA_4, 100, .inl (fun _ => 0))), (q_5, .inl (cA_6, 100, .inl (fun _ => 0))), (q_7, .inl (cA_8, 100, .inl (fun _ => 0))), (q_9, .inl (cA_10, 3000, .inl (fun _ => 0)))] := hD
  refine lv_aload_n hx hb dX5_init_101 rfl (lv_at hl 0 rfl) ?_
  refine lv_lconst (v := 0) hx hb dX5_init_102 (by decide) ?_
  refine va_put (D := (dC, dI)) (ci := 5) (v := .long 0) (ty := .long) (C := RX5) (T := TX5) (N := 20) hx hb hA zin_X5 tyX5 tyX5_ok nmX5 hown hK hP hD hS 0 rfl rfl 19 (by decide) (hA _ wi_507) (fun _ h9 => h9) rfl (by decide +kernel) rfl rfl (Nat.le_of_ble_eq_true rfl) dX5_init_103 (fun H locs hP hD hS => ?_)
  have hP : va_P (dC, dI) vwCl [(h0, .inr (5, [.null, .null, .null, .int 1, .ref q_1, .int 0, .int 0, .ref q_3, .ref q_5, .ref q_7, .int 0, .ref q_9, .int 0, .int (-1), .int 0, .int 0, .int 0, .int 0, .int (-1), .long 0])), (pr, .inr (9, [.ref p1, .ref p2, .ref p3, .ref p4])), (q_1, .inl (cA_2, 22424, .inr (.inl (fun _ => 0)))), (q_3, .inl (cA_4, 100, .inl (fun _ => 0))), (q_5, .inl (cA_6, 100, .inl (fun _ => 0))), (q_7, .inl (cA_8, 100, .inl (fun _ => 0))), (q_9, .inl (cA_10, 3000, .inl (fun _ => 0)))] H := hP
  have hD : va_D A [(h0, .inr (5, [.null, .null, .null, .int 1, .ref q_1, .int 0, .int 0, .ref q_3, .ref q_5, .ref q_7, .int 0, .ref q_9, .int 0, .int (-1), .int 0, .int 0, .int 0, .int 0, .int (-1), .long 0])), (pr, .inr (9, [.ref p1, .ref p2, .ref p3, .ref p4])), (q_1, .inl (cA_2, 22424, .inr (.inl (fun _ => 0)))), (q_3, .inl (cA_4, 100, .inl (fun _ => 0))), (q_5, .inl (cA_6, 100, .inl (fun _ => 0))), (q_7, .inl (cA_8, 100, .inl (fun _ => 0))), (q_9, .inl (cA_10, 3000, .inl (fun _ => 0)))] := hD
  refine lv_aload_n hx hb dX5_init_106 rfl (lv_at hl 0 rfl) ?_
  refine lv_aload_n hx hb dX5_init_107 rfl (lv_at hl 1 rfl) ?_
  refine va_put (D := (dC, dI)) (ci := 5) (v := .ref pr) (ty := .object "ReuseHouse$Program") (C := RX5) (T := TX5) (N := 20) hx hb hA zin_X5 tyX5 tyX5_ok nmX5 hown hK hP hD hS 0 rfl rfl 0 (by decide) (hA _ wi_484) (fun _ h9 => h9) rfl (by decide +kernel) rfl rfl (Nat.le_of_ble_eq_true rfl) dX5_init_108 (fun H locs hP hD hS => ?_)
  have hP : va_P (dC, dI) vwCl [(h0, .inr (5, [.ref pr, .null, .null, .int 1, .ref q_1, .int 0, .int 0, .ref q_3, .ref q_5, .ref q_7, .int 0, .ref q_9, .int 0, .int (-1), .int 0, .int 0, .int 0, .int 0, .int (-1), .long 0])), (pr, .inr (9, [.ref p1, .ref p2, .ref p3, .ref p4])), (q_1, .inl (cA_2, 22424, .inr (.inl (fun _ => 0)))), (q_3, .inl (cA_4, 100, .inl (fun _ => 0))), (q_5, .inl (cA_6, 100, .inl (fun _ => 0))), (q_7, .inl (cA_8, 100, .inl (fun _ => 0))), (q_9, .inl (cA_10, 3000, .inl (fun _ => 0)))] H := hP
  have hD : va_D A [(h0, .inr (5, [.ref pr, .null, .null, .int 1, .ref q_1, .int 0, .int 0, .ref q_3, .ref q_5, .ref q_7, .int 0, .ref q_9, .int 0, .int (-1), .int 0, .int 0, .int 0, .int 0, .int (-1), .long 0])), (pr, .inr (9, [.ref p1, .ref p2, .ref p3, .ref p4])), (q_1, .inl (cA_2, 22424, .inr (.inl (fun _ => 0)))), (q_3, .inl (cA_4, 100, .inl (fun _ => 0))), (q_5, .inl (cA_6, 100, .inl (fun _ => 0))), (q_7, .inl (cA_8, 100, .inl (fun _ => 0))), (q_9, .inl (cA_10, 3000, .inl (fun _ => 0)))] := hD
  refine lv_aload_n hx hb dX5_init_111 rfl (lv_at hl 0 rfl) ?_
  refine lv_aload_n hx hb dX5_init_112 rfl (lv_at hl 1 rfl) ?_
  refine va_get (D := (dC, dI)) (ci := 9) (v := .ref p1) (C := RX9) (T := TX9) (N := 4) hx hb hA zin_X9 hown hK hP 1 rfl rfl 0 (by decide) (hA _ wi_309) (fun _ h9 => h9) rfl dX5_init_113 ?_
  refine va_put (D := (dC, dI)) (ci := 5) (v := .ref p1) (ty := .object "ReuseHouse$Code") (C := RX5) (T := TX5) (N := 20) hx hb hA zin_X5 tyX5 tyX5_ok nmX5 hown hK hP hD hS 0 rfl rfl 1 (by decide) (hA _ wi_485) (fun _ h9 => h9) rfl (by decide +kernel) rfl rfl (Nat.le_of_ble_eq_true rfl) dX5_init_116 (fun H locs hP hD hS => ?_)
  have hP : va_P (dC, dI) vwCl [(h0, .inr (5, [.ref pr, .ref p1, .null, .int 1, .ref q_1, .int 0, .int 0, .ref q_3, .ref q_5, .ref q_7, .int 0, .ref q_9, .int 0, .int (-1), .int 0, .int 0, .int 0, .int 0, .int (-1), .long 0])), (pr, .inr (9, [.ref p1, .ref p2, .ref p3, .ref p4])), (q_1, .inl (cA_2, 22424, .inr (.inl (fun _ => 0)))), (q_3, .inl (cA_4, 100, .inl (fun _ => 0))), (q_5, .inl (cA_6, 100, .inl (fun _ => 0))), (q_7, .inl (cA_8, 100, .inl (fun _ => 0))), (q_9, .inl (cA_10, 3000, .inl (fun _ => 0)))] H := hP
  have hD : va_D A [(h0, .inr (5, [.ref pr, .ref p1, .null, .int 1, .ref q_1, .int 0, .int 0, .ref q_3, .ref q_5, .ref q_7, .int 0, .ref q_9, .int 0, .int (-1), .int 0, .int 0, .int 0, .int 0, .int (-1), .long 0])), (pr, .inr (9, [.ref p1, .ref p2, .ref p3, .ref p4])), (q_1, .inl (cA_2, 22424, .inr (.inl (fun _ => 0)))), (q_3, .inl (cA_4, 100, .inl (fun _ => 0))), (q_5, .inl (cA_6, 100, .inl (fun _ => 0))), (q_7, .inl (cA_8, 100, .inl (fun _ => 0))), (q_9, .inl (cA_10, 3000, .inl (fun _ => 0)))] := hD
  refine lv_aload_n hx hb dX5_init_119 rfl (lv_at hl 0 rfl) ?_
  refine va_new (ci := 1) (fs := [.null, .null, .null, .null, .int 0, .int 0, .int 0, .int 0, .int 0, .int 0, .int 0, .int 0, .int 0]) (C := RX1) (T := TX1) (N := 13) hx hb hA zin_X1 tyX1 tyX1_ok hown (hA _ wi_424) (hA _ wi_425) (hA _ wi_140) hK hP hD hS hAA rfl zd_X1 (Nat.le_of_ble_eq_true rfl) (Nat.le_of_ble_eq_true rfl) dX5_init_120 (fun q_11 H hP hD hS => ?_)
  have hP : va_P (dC, dI) vwCl [(h0, .inr (5, [.ref pr, .ref p1, .null, .int 1, .ref q_1, .int 0, .int 0, .ref q_3, .ref q_5, .ref q_7, .int 0, .ref q_9, .int 0, .int (-1), .int 0, .int 0, .int 0, .int 0, .int (-1), .long 0])), (pr, .inr (9, [.ref p1, .ref p2, .ref p3, .ref p4])), (q_1, .inl (cA_2, 22424, .inr (.inl (fun _ => 0)))), (q_3, .inl (cA_4, 100, .inl (fun _ => 0))), (q_5, .inl (cA_6, 100, .inl (fun _ => 0))), (q_7, .inl (cA_8, 100, .inl (fun _ => 0))), (q_9, .inl (cA_10, 3000, .inl (fun _ => 0))), (q_11, .inr (1, [.null, .null, .null, .null, .int 0, .int 0, .int 0, .int 0, .int 0, .int 0, .int 0, .int 0, .int 0]))] H := hP
  have hD : va_D A [(h0, .inr (5, [.ref pr, .ref p1, .null, .int 1, .ref q_1, .int 0, .int 0, .ref q_3, .ref q_5, .ref q_7, .int 0, .ref q_9, .int 0, .int (-1), .int 0, .int 0, .int 0, .int 0, .int (-1), .long 0])), (pr, .inr (9, [.ref p1, .ref p2, .ref p3, .ref p4])), (q_1, .inl (cA_2, 22424, .inr (.inl (fun _ => 0)))), (q_3, .inl (cA_4, 100, .inl (fun _ => 0))), (q_5, .inl (cA_6, 100, .inl (fun _ => 0))), (q_7, .inl (cA_8, 100, .inl (fun _ => 0))), (q_9, .inl (cA_10, 3000, .inl (fun _ => 0))), (q_11, .inr (1, [.null, .null, .null, .null, .int 0, .int 0, .int 0, .int 0, .int 0, .int 0, .int 0, .int 0, .int 0]))] := hD
  refine W.widen (k := 6) (n := 25737) (Nat.le_of_ble_eq_true rfl) (Nat.le_of_ble_eq_true rfl) ?_
  refine lv_dup hx hb dX5_init_123 rfl ?_
  refine lv_iconst (v := 0) hx hb dX5_init_124 (by decide) ?_
  have hPc := hP.sub (ws' := [(q_11, .inr (1, [.null, .null, .null, .null, .int 0, .int 0, .int 0, .int 0, .int 0, .int 0, .int 0, .int 0, .int 0]))]) [7] rfl
  have hDc := hD.sub (ws' := [(q_11, .inr (1, [.null, .null, .null, .null, .int 0, .int 0, .int 0, .int 0, .int 0, .int 0, .int 0, .int 0, .int 0]))]) [7] (by decide) rfl
  have hKc := hK.sub (tys' := []) [] rfl
  have hFc := va_free (wc := [(q_11, .inr (1, [.null, .null, .null, .null, .int 0, .int 0, .int 0, .int 0, .int 0, .int 0, .int 0, .int 0, .int 0]))]) hD hS hAA [7] rfl
  refine va_callv (va_runI (As := [.int 0]) (rest := [.ref q_11, .ref h0]) ⟨hx, hb, hml, hown, hA⟩ (c_X1_init_0 l dC dI q_11 H.size) (cwI 1 hA (zw_good wi_428) rfl rfl rfl (hA _ wi_140) (hA _ wi_426) (hA _ wi_427) rfl (by decide +kernel) ⟨(Nat.le_of_ble_eq_true rfl), (Nat.le_of_ble_eq_true rfl)⟩) ⟨zP_blind, zz_pre hKc hPc hDc hN hT hS hFc⟩ rfl rfl hl.1 rfl (lv_room (Nat.le_of_ble_eq_true rfl)) dX5_init_125 ⟨(Nat.le_of_ble_eq_true rfl), (Nat.le_of_ble_eq_true rfl)⟩) hS (fun q _ h => hFc q h) hFc (fun u t H1 locs ht hvm hw hB hz1 hk1 hS => ?_)
  obtain ⟨hP1, hK1, hD1⟩ := hB
  rw [ht] at hP1
  have hK1 := va_K.moved hvm.symm hK1
  obtain ⟨hP, hD⟩ := va_join (wr := [(h0, .inr (5, [.ref pr, .ref p1, .null, .int 1, .ref q_1, .int 0, .int 0, .ref q_3, .ref q_5, .ref q_7, .int 0, .ref q_9, .int 0, .int (-1), .int 0, .int 0, .int 0, .int 0, .int (-1), .long 0])), (pr, .inr (9, [.ref p1, .ref p2, .ref p3, .ref p4])), (q_1, .inl (cA_2, 22424, .inr (.inl (fun _ => 0)))), (q_3, .inl (cA_4, 100, .inl (fun _ => 0))), (q_5, .inl (cA_6, 100, .inl (fun _ => 0))), (q_7, .inl (cA_8, 100, .inl (fun _ => 0))), (q_9, .inl (cA_10, 3000, .inl (fun _ => 0)))]) (w1 := []) hP hD [7] [0, 1, 2, 3, 4, 5, 6] rfl rfl (by decide) (by decide) hk1 hFc hP1 hD1
  have hK := (hK.sub (tys' := [(cA_2, .long), (cA_4, .int), (cA_6, .int), (cA_8, .int), (cA_10, .int)]) [0, 1, 2, 3, 4] rfl).app hK1
  generalize H1 = H at hP hS ⊢
  have hP : va_P (dC, dI) vwCl [(h0, .inr (5, [.ref pr, .ref p1, .null, .int 1, .ref q_1, .int 0, .int 0, .ref q_3, .ref q_5, .ref q_7, .int 0, .ref q_9, .int 0, .int (-1), .int 0, .int 0, .int 0, .int 0, .int (-1), .long 0])), (pr, .inr (9, [.ref p1, .ref p2, .ref p3, .ref p4])), (q_1, .inl (cA_2, 22424, .inr (.inl (fun _ => 0)))), (q_3, .inl (cA_4, 100, .inl (fun _ => 0))), (q_5, .inl (cA_6, 100, .inl (fun _ => 0))), (q_7, .inl (cA_8, 100, .inl (fun _ => 0))), (q_9, .inl (cA_10, 3000, .inl (fun _ => 0)))] H := hP
  have hD : va_D A [(h0, .inr (5, [.ref pr, .ref p1, .null, .int 1, .ref q_1, .int 0, .int 0, .ref q_3, .ref q_5, .ref q_7, .int 0, .ref q_9, .int 0, .int (-1), .int 0, .int 0, .int 0, .int 0, .int (-1), .long 0])), (pr, .inr (9, [.ref p1, .ref p2, .ref p3, .ref p4])), (q_1, .inl (cA_2, 22424, .inr (.inl (fun _ => 0)))), (q_3, .inl (cA_4, 100, .inl (fun _ => 0))), (q_5, .inl (cA_6, 100, .inl (fun _ => 0))), (q_7, .inl (cA_8, 100, .inl (fun _ => 0))), (q_9, .inl (cA_10, 3000, .inl (fun _ => 0)))] := hD
  have hK : va_K (dC, dI) vwCl [(cA_2, .long), (cA_4, .int), (cA_6, .int), (cA_8, .int), (cA_10, .int)] s := hK
  refine W.widen (k := 12) (n := 25780) (Nat.le_of_ble_eq_true rfl) (Nat.le_of_ble_eq_true rfl) ?_
  refine va_put (D := (dC, dI)) (ci := 5) (v := .ref q_11) (ty := .object "ReuseHouse$Cells") (C := RX5) (T := TX5) (N := 20) hx hb hA zin_X5 tyX5 tyX5_ok nmX5 hown hK hP hD hS 0 rfl rfl 2 (by decide) (hA _ wi_486) (fun _ h9 => h9) rfl (by decide +kernel) rfl rfl (Nat.le_of_ble_eq_true rfl) dX5_init_128 (fun H locs hP hD hS => ?_)
  have hP : va_P (dC, dI) vwCl [(h0, .inr (5, [.ref pr, .ref p1, .ref q_11, .int 1, .ref q_1, .int 0, .int 0, .ref q_3, .ref q_5, .ref q_7, .int 0, .ref q_9, .int 0, .int (-1), .int 0, .int 0, .int 0, .int 0, .int (-1), .long 0])), (pr, .inr (9, [.ref p1, .ref p2, .ref p3, .ref p4])), (q_1, .inl (cA_2, 22424, .inr (.inl (fun _ => 0)))), (q_3, .inl (cA_4, 100, .inl (fun _ => 0))), (q_5, .inl (cA_6, 100, .inl (fun _ => 0))), (q_7, .inl (cA_8, 100, .inl (fun _ => 0))), (q_9, .inl (cA_10, 3000, .inl (fun _ => 0)))] H := hP
  have hD : va_D A [(h0, .inr (5, [.ref pr, .ref p1, .ref q_11, .int 1, .ref q_1, .int 0, .int 0, .ref q_3, .ref q_5, .ref q_7, .int 0, .ref q_9, .int 0, .int (-1), .int 0, .int 0, .int 0, .int 0, .int (-1), .long 0])), (pr, .inr (9, [.ref p1, .ref p2, .ref p3, .ref p4])), (q_1, .inl (cA_2, 22424, .inr (.inl (fun _ => 0)))), (q_3, .inl (cA_4, 100, .inl (fun _ => 0))), (q_5, .inl (cA_6, 100, .inl (fun _ => 0))), (q_7, .inl (cA_8, 100, .inl (fun _ => 0))), (q_9, .inl (cA_10, 3000, .inl (fun _ => 0)))] := hD
  have hP9 := hP.sub (ws' := [(pr, .inr (9, [.ref p1, .ref p2, .ref p3, .ref p4]))]) [1] rfl
  have hD9 := hD.sub (ws' := [(pr, .inr (9, [.ref p1, .ref p2, .ref p3, .ref p4]))]) [1] (by decide) rfl
  have hK9 := hK.sub (tys' := []) [] rfl
  exact W.vret hx hb hr (fun t ht hW => ⟨⟨(), rfl, trivial, by rw [ht]; exact hP9, va_K.moved hW.alike hK9, hD9⟩, hS.F ht⟩) hS.2.2 dX5_init_131
set_option maxHeartbeats 4000000 in
set_option maxRecDepth 100000 in
theorem c_X7_init (l : Launch) (dC : Nat → ClassId) (dI : Nat → Nat → Nat) (h0 : Nat) (sz : Nat)  : Met l yX7_init (Cond.code yX7_init cX7_init 1 none :: zw) ({ frames := 12, cells := 30, slots := 29716, locals := 400 }) (va_Pc [.ref h0] (zP dC dI sz [] [(h0, .inr (7, [.null, .null, .null, .int 0, .null, .null, .int 0, .int 0, .int 0]))])) (va_Qv (fun u : Nat × Nat × Nat × Nat × Nat × Nat × Nat × Nat × Nat × Nat × Nat × Nat × Nat × Nat × Nat × Nat × Nat × Nat × Nat × Nat × Nat × Nat × Nat × Nat × Nat × Nat × Nat × Nat × Nat × ClassId × ClassId × ClassId => match u with | (ztok, zdr, zp_needs, zp_names, zp_built, zt_sorts, zt_places, zt_words, zdcode, zdarms, zdkinds, zdfunctions, zdc_op, zdc_a, zdc_b, zdc_place, zdc_next, zdc_needed, zda_kind, zda_next, zda_before, zda_leave, zda_firstSlot, zda_builds, zdk_word, zdk_fields, zdf_word, zdf_enter, zdf_facts, zk_sorts, zk_places, zk_words) => True) (fun u => match u with | (ztok, zdr, zp_needs, zp_names, zp_built, zt_sorts, zt_places, zt_words, zdcode, zdarms, zdkinds, zdfunctions, zdc_op, zdc_a, zdc_b, zdc_place, zdc_next, zdc_needed, zda_kind, zda_next, zda_before, zda_leave, zda_firstSlot, zda_builds, zdk_word, zdk_fields, zdf_word, zdf_enter, zdf_facts, zk_sorts, zk_places, zk_words) => zQ dC dI (va_A [(h0, .inr (7, [.null, .null, .null, .int 0, .null, .null, .int 0, .int 0, .int 0]))] sz) [(zk_sorts, .int), (zk_places, .int), (zk_words, .long)] [(h0, .inr (7, [.ref ztok, .ref zp_needs, .ref zp_names, .int 0, .ref zp_built, .ref zdr, .int 0, .int 0, .int (-1)])), (ztok, .inr (10, [.ref zt_sorts, .ref zt_places, .ref zt_words, .int 0, .int 0, .int 256, .int 0, .long 0])), (zt_sorts, .inl (zk_sorts, 2001, .inl (fun _ => 0))), (zt_places, .inl (zk_places, 2001, .inl (fun _ => 0))), (zt_words, .inl (zk_words, 2001, .inr (.inl (fun _ => 0)))), (zdr, .inr (9, [.ref zdcode, .ref zdarms, .ref zdkinds, .ref zdfunctions])), (zdcode, .inr (2, [.ref zdc_op, .ref zdc_a, .ref zdc_b, .ref zdc_place, .ref zdc_next, .ref zdc_needed, .int 0, .int (-1)])), (zdarms, .inr (0, [.ref zda_kind, .ref zda_next, .ref zda_before, .ref zda_leave, .ref zda_firstSlot, .ref zda_builds, .int 0])), (zdkinds, .inr (4, [.ref zdk_word, .ref zdk_fields, .int 0])), (zdfunctions, .inr (3, [.ref zdf_word, .ref zdf_enter, .ref zdf_facts, .int 0]))]) (va_A [(h0, .inr (7, [.null, .null, .null, .int 0, .null, .null, .int 0, .int 0, .int 0]))] sz)) 30 29716 (va_A [(h0, .inr (7, [.null, .null, .null, .int 0, .null, .null, .int 0, .int 0, .int 0]))] sz) := by
  refine Met.ofW (cc := cX7_init) (maxL := 1) (ret := none) (by decide) rfl ?_
  intro p e s m args below meth c s₁ B hml hv
  obtain ⟨rfl, hsz, hP, hK, hD0, hN, hT⟩ := hv
  have hx := B.exec
  have hb := B.bytes
  have hr := B.returns
  have hts := atoms_spec (ws := Cond.code yX7_init cX7_init 1 none :: zw) B.pre
  have hA : ∀ w ∈ zw, w.before _ s = true := fun w h => hts w (List.mem_cons_of_mem _ h)
  have hown : s.vm.findClass RX7 = some m.cls := findClass_of_methodNamed B.named
  have hlocks := B.notSynchronized
  have hin : meth.name = "<init>" := (name_of_methodNamed B.named B.method).1
  subst hsz
  have hD := hD0.self (sz := s.heap.size)
  generalize hAe : va_A [(h0, .inr (7, [.null, .null, .null, .int 0, .null, .null, .int 0, .int 0, .int 0]))] s.heap.size = A at hD hT ⊢
  have hAA : ∀ q : Nat, s.heap.size ≤ q → A q := fun q h => by rw [← hAe]; exact Or.inr h
  have hS : va_S A s.heap s.heap [] := va_S.rf
  have hl := lv_entry ([.ref h0]) (n := 1) (Nat.le_of_ble_eq_true rfl)
  rw [lg_entry_eq]
  generalize (lg_sl ([.ref h0]) ++ List.replicate (1 - (lg_sl ([.ref h0])).length) Slot.unset).toArray = ls at hl ⊢
  have hl : lv_has ls 1 [(0, .ref h0)] := hl
  refine lv_aload_n hx hb dX7_init_0 rfl (lv_at hl 0 rfl) ?_
  refine W.objInit hx hb hown (hA _ wi_339) (hA _ wi_162) (hA _ wi_163) rfl (by rw [hml]; exact hl.1) rfl dX7_init_1 (Nat.le_of_ble_eq_true rfl) (Nat.le_of_ble_eq_true rfl) ?_
  refine W.eq (g2 := F0 m 4 ls []) rfl ?_
  refine lv_aload_n hx hb dX7_init_4 rfl (lv_at hl 0 rfl) ?_
  refine va_new (ci := 10) (fs := [.null, .null, .null, .int 0, .int 0, .int 0, .int 0, .long 0]) (C := RX10) (T := TX10) (N := 8) hx hb hA zin_X10 tyX10 tyX10_ok hown (hA _ wi_340) (hA _ wi_341) (hA _ wi_137) hK hP hD hS hAA rfl zd_X10 (Nat.le_of_ble_eq_true rfl) (Nat.le_of_ble_eq_true rfl) dX7_init_5 (fun q_1 H hP hD hS => ?_)
  have hP : va_P (dC, dI) vwCl [(h0, .inr (7, [.null, .null, .null, .int 0, .null, .null, .int 0, .int 0, .int 0])), (q_1, .inr (10, [.null, .null, .null, .int 0, .int 0, .int 0, .int 0, .long 0]))] H := hP
  have hD : va_D A [(h0, .inr (7, [.null, .null, .null, .int 0, .null, .null, .int 0, .int 0, .int 0])), (q_1, .inr (10, [.null, .null, .null, .int 0, .int 0, .int 0, .int 0, .long 0]))] := hD
  refine W.widen (k := 1) (n := 8) (Nat.le_of_ble_eq_true rfl) (Nat.le_of_ble_eq_true rfl) ?_
  refine lv_dup hx hb dX7_init_8 rfl ?_
  have hPc := hP.sub (ws' := [(q_1, .inr (10, [.null, .null, .null, .int 0, .int 0, .int 0, .int 0, .long 0]))]) [1] rfl
  have hDc := hD.sub (ws' := [(q_1, .inr (10, [.null, .null, .null, .int 0, .int 0, .int 0, .int 0, .long 0]))]) [1] (by decide) rfl
  have hKc := hK.sub (tys' := []) [] rfl
  have hFc := va_free (wc := [(q_1, .inr (10, [.null, .null, .null, .int 0, .int 0, .int 0, .int 0, .long 0]))]) hD hS hAA [1] rfl
  refine va_callv (va_runIN (As := []) (rest := [.ref q_1, .ref h0]) ⟨hx, hb, hml, hown, hA⟩ (c_X10_init l dC dI q_1 H.size) ⟨va_cnB 0 hA (zw_good wi_344) rfl rfl rfl (hN.2.1 ("ReuseHouse$Parser", 11, yX10_init, "ReuseHouse") (by decide +kernel)) (hA _ wi_137) (by decide +kernel) ⟨(Nat.le_of_ble_eq_true rfl), (Nat.le_of_ble_eq_true rfl)⟩, rfl, hA _ wi_343⟩ ⟨zP_blind, zz_pre hKc hPc hDc hN hT hS hFc⟩ rfl rfl hl.1 rfl (lv_room (Nat.le_of_ble_eq_true rfl)) dX7_init_9 ⟨(Nat.le_of_ble_eq_true rfl), (Nat.le_of_ble_eq_true rfl)⟩) hS (fun q _ h => hFc q h) hFc (fun u t H1 locs ht hvm hw hB hz1 hk1 hS => ?_)
  obtain ⟨z_sorts_3, z_places_4, z_words_5, k_sorts_6, k_places_7, k_words_8⟩ := u
  obtain ⟨hP1, hK1, hD1⟩ := hB
  rw [ht] at hP1
  have hK1 := va_K.moved hvm.symm hK1
  obtain ⟨hP, hD⟩ := va_join (wr := [(h0, .inr (7, [.null, .null, .null, .int 0, .null, .null, .int 0, .int 0, .int 0]))]) (w1 := [(q_1, .inr (10, [.ref z_sorts_3, .ref z_places_4, .ref z_words_5, .int 0, .int 0, .int 256, .int 0, .long 0])), (z_sorts_3, .inl (k_sorts_6, 2001, .inl (fun _ => 0))), (z_places_4, .inl (k_places_7, 2001, .inl (fun _ => 0))), (z_words_5, .inl (k_words_8, 2001, .inr (.inl (fun _ => 0))))]) hP hD [1] [0] rfl rfl (by decide) (by decide) hk1 hFc hP1 hD1
  have hK := (hK.sub (tys' := []) [] rfl).app hK1
  generalize H1 = H at hP hS ⊢
  have hP : va_P (dC, dI) vwCl [(h0, .inr (7, [.null, .null, .null, .int 0, .null, .null, .int 0, .int 0, .int 0])), (q_1, .inr (10, [.ref z_sorts_3, .ref z_places_4, .ref z_words_5, .int 0, .int 0, .int 256, .int 0, .long 0])), (z_sorts_3, .inl (k_sorts_6, 2001, .inl (fun _ => 0))), (z_places_4, .inl (k_places_7, 2001, .inl (fun _ => 0))), (z_words_5, .inl (k_words_8, 2001, .inr (.inl (fun _ => 0))))] H := hP
  have hD : va_D A [(h0, .inr (7, [.null, .null, .null, .int 0, .null, .null, .int 0, .int 0, .int 0])), (q_1, .inr (10, [.ref z_sorts_3, .ref z_places_4, .ref z_words_5, .int 0, .int 0, .int 256, .int 0, .long 0])), (z_sorts_3, .inl (k_sorts_6, 2001, .inl (fun _ => 0))), (z_places_4, .inl (k_places_7, 2001, .inl (fun _ => 0))), (z_words_5, .inl (k_words_8, 2001, .inr (.inl (fun _ => 0))))] := hD
  have hK : va_K (dC, dI) vwCl [(k_sorts_6, .int), (k_places_7, .int), (k_words_8, .long)] s := hK
  refine W.widen (k := 4) (n := 6011) (Nat.le_of_ble_eq_true rfl) (Nat.le_of_ble_eq_true rfl) ?_
  refine va_putF (D := (dC, dI)) (ci := 7) (v := .ref q_1) (ty := .object "ReuseHouse$Tokens") (C := RX7) (T := TX7) (N := 9) hx hb hA zin_X7 tyX7 tyX7_ok nmX7 hown hK hP hD hS 0 rfl rfl 0 (by decide) (hA _ wi_387) (fun _ h9 => h9) rfl hin rfl (by decide +kernel) rfl rfl (Nat.le_of_ble_eq_true rfl) dX7_init_12 (fun H locs hP hD hS => ?_)
  have hP : va_P (dC, dI) vwCl [(h0, .inr (7, [.ref q_1, .null, .null, .int 0, .null, .null, .int 0, .int 0, .int 0])), (q_1, .inr (10, [.ref z_sorts_3, .ref z_places_4, .ref z_words_5, .int 0, .int 0, .int 256, .int 0, .long 0])), (z_sorts_3, .inl (k_sorts_6, 2001, .inl (fun _ => 0))), (z_places_4, .inl (k_places_7, 2001, .inl (fun _ => 0))), (z_words_5, .inl (k_words_8, 2001, .inr (.inl (fun _ => 0))))] H := hP
  have hD : va_D A [(h0, .inr (7, [.ref q_1, .null, .null, .int 0, .null, .null, .int 0, .int 0, .int 0])), (q_1, .inr (10, [.ref z_sorts_3, .ref z_places_4, .ref z_words_5, .int 0, .int 0, .int 256, .int 0, .long 0])), (z_sorts_3, .inl (k_sorts_6, 2001, .inl (fun _ => 0))), (z_places_4, .inl (k_places_7, 2001, .inl (fun _ => 0))), (z_words_5, .inl (k_words_8, 2001, .inr (.inl (fun _ => 0))))] := hD
  refine lv_aload_n hx hb dX7_init_15 rfl (lv_at hl 0 rfl) ?_
  refine va_new (ci := 6) (fs := [.null]) (C := RX6) (T := TX6) (N := 1) hx hb hA zin_X6 tyX6 tyX6_ok hown (hA _ wi_375) (hA _ wi_376) (hA _ wi_138) hK hP hD hS hAA rfl zd_X6 (Nat.le_of_ble_eq_true rfl) (Nat.le_of_ble_eq_true rfl) dX7_init_16 (fun q_9 H hP hD hS => ?_)
  have hP : va_P (dC, dI) vwCl [(h0, .inr (7, [.ref q_1, .null, .null, .int 0, .null, .null, .int 0, .int 0, .int 0])), (q_1, .inr (10, [.ref z_sorts_3, .ref z_places_4, .ref z_words_5, .int 0, .int 0, .int 256, .int 0, .long 0])), (z_sorts_3, .inl (k_sorts_6, 2001, .inl (fun _ => 0))), (z_places_4, .inl (k_places_7, 2001, .inl (fun _ => 0))), (z_words_5, .inl (k_words_8, 2001, .inr (.inl (fun _ => 0)))), (q_9, .inr (6, [.null]))] H := hP
  have hD : va_D A [(h0, .inr (7, [.ref q_1, .null, .null, .int 0, .null, .null, .int 0, .int 0, .int 0])), (q_1, .inr (10, [.ref z_sorts_3, .ref z_places_4, .ref z_words_5, .int 0, .int 0, .int 256, .int 0, .long 0])), (z_sorts_3, .inl (k_sorts_6, 2001, .inl (fun _ => 0))), (z_places_4, .inl (k_places_7, 2001, .inl (fun _ => 0))), (z_words_5, .inl (k_words_8, 2001, .inr (.inl (fun _ => 0)))), (q_9, .inr (6, [.null]))] := hD
  refine W.widen (k := 5) (n := 6012) (Nat.le_of_ble_eq_true rfl) (Nat.le_of_ble_eq_true rfl) ?_
  refine lv_dup hx hb dX7_init_19 rfl ?_
  have hPc := hP.sub (ws' := [(q_9, .inr (6, [.null]))]) [5] rfl
  have hDc := hD.sub (ws' := [(q_9, .inr (6, [.null]))]) [5] (by decide) rfl
  have hKc := hK.sub (tys' := []) [] rfl
  have hFc := va_free (wc := [(q_9, .inr (6, [.null]))]) hD hS hAA [5] rfl
  refine va_callv (va_runIN (As := []) (rest := [.ref q_9, .ref h0]) ⟨hx, hb, hml, hown, hA⟩ (c_X6_init l dC dI q_9 H.size) ⟨va_cnB 0 hA (zw_good wi_379) rfl rfl rfl (hN.2.1 ("ReuseHouse$Parser", 20, yX6_init, "ReuseHouse") (by decide +kernel)) (hA _ wi_138) (by decide +kernel) ⟨(Nat.le_of_ble_eq_true rfl), (Nat.le_of_ble_eq_true rfl)⟩, rfl, hA _ wi_378⟩ ⟨zP_blind, zz_pre hKc hPc hDc hN hT hS hFc⟩ rfl rfl hl.1 rfl (lv_room (Nat.le_of_ble_eq_true rfl)) dX7_init_20 ⟨(Nat.le_of_ble_eq_true rfl), (Nat.le_of_ble_eq_true rfl)⟩) hS (fun q _ h => hFc q h) hFc (fun u t H1 locs ht hvm hw hB hz1 hk1 hS => ?_)
  obtain ⟨hP1, hK1, hD1⟩ := hB
  rw [ht] at hP1
  have hK1 := va_K.moved hvm.symm hK1
  obtain ⟨hP, hD⟩ := va_join (wr := [(h0, .inr (7, [.ref q_1, .null, .null, .int 0, .null, .null, .int 0, .int 0, .int 0])), (q_1, .inr (10, [.ref z_sorts_3, .ref z_places_4, .ref z_words_5, .int 0, .int 0, .int 256, .int 0, .long 0])), (z_sorts_3, .inl (k_sorts_6, 2001, .inl (fun _ => 0))), (z_places_4, .inl (k_places_7, 2001, .inl (fun _ => 0))), (z_words_5, .inl (k_words_8, 2001, .inr (.inl (fun _ => 0))))]) (w1 := []) hP hD [5] [0, 1, 2, 3, 4] rfl rfl (by decide) (by decide) hk1 hFc hP1 hD1
  have hK := (hK.sub (tys' := [(k_sorts_6, .int), (k_places_7, .int), (k_words_8, .long)]) [0, 1, 2] rfl).app hK1
  generalize H1 = H at hP hS ⊢
  have hP : va_P (dC, dI) vwCl [(h0, .inr (7, [.ref q_1, .null, .null, .int 0, .null, .null, .int 0, .int 0, .int 0])), (q_1, .inr (10, [.ref z_sorts_3, .ref z_places_4, .ref z_words_5, .int 0, .int 0, .int 256, .int 0, .long 0])), (z_sorts_3, .inl (k_sorts_6, 2001, .inl (fun _ => 0))), (z_places_4, .inl (k_places_7, 2001, .inl (fun _ => 0))), (z_words_5, .inl (k_words_8, 2001, .inr (.inl (fun _ => 0))))] H := hP
  have hD : va_D A [(h0, .inr (7, [.ref q_1, .null, .null, .int 0, .null, .null, .int 0, .int 0, .int 0])), (q_1, .inr (10, [.ref z_sorts_3, .ref z_places_4, .ref z_words_5, .int 0, .int 0, .int 256, .int 0, .long 0])), (z_sorts_3, .inl (k_sorts_6, 2001, .inl (fun _ => 0))), (z_places_4, .inl (k_places_7, 2001, .inl (fun _ => 0))), (z_words_5, .inl (k_words_8, 2001, .inr (.inl (fun _ => 0))))] := hD
  have hK : va_K (dC, dI) vwCl [(k_sorts_6, .int), (k_places_7, .int), (k_words_8, .long)] s := hK
  refine W.widen (k := 6) (n := 9012) (Nat.le_of_ble_eq_true rfl) (Nat.le_of_ble_eq_true rfl) ?_
  refine va_putF (D := (dC, dI)) (ci := 7) (v := .ref q_9) (ty := .object "ReuseHouse$Needs") (C := RX7) (T := TX7) (N := 9) hx hb hA zin_X7 tyX7 tyX7_ok nmX7 hown hK hP hD hS 0 rfl rfl 1 (by decide) (hA _ wi_388) (fun _ h9 => h9) rfl hin rfl (by decide +kernel) rfl rfl (Nat.le_of_ble_eq_true rfl) dX7_init_23 (fun H locs hP hD hS => ?_)
  have hP : va_P (dC, dI) vwCl [(h0, .inr (7, [.ref q_1, .ref q_9, .null, .int 0, .null, .null, .int 0, .int 0, .int 0])), (q_1, .inr (10, [.ref z_sorts_3, .ref z_places_4, .ref z_words_5, .int 0, .int 0, .int 256, .int 0, .long 0])), (z_sorts_3, .inl (k_sorts_6, 2001, .inl (fun _ => 0))), (z_places_4, .inl (k_places_7, 2001, .inl (fun _ => 0))), (z_words_5, .inl (k_words_8, 2001, .inr (.inl (fun _ => 0))))] H := hP
  have hD : va_D A [(h0, .inr (7, [.ref q_1, .ref q_9, .null, .int 0, .null, .null, .int 0, .int 0, .int 0])), (q_1, .inr (10, [.ref z_sorts_3, .ref z_places_4, .ref z_words_5, .int 0, .int 0, .int 256, .int 0, .long 0])), (z_sorts_3, .inl (k_sorts_6, 2001, .inl (fun _ => 0))), (z_places_4, .inl (k_places_7, 2001, .inl (fun _ => 0))), (z_words_5, .inl (k_words_8, 2001, .inr (.inl (fun _ => 0))))] := hD
  refine lv_aload_n hx hb dX7_init_26 rfl (lv_at hl 0 rfl) ?_
  refine lv_bipush (v := 24) hx hb dX7_init_27 (by decide) ?_
  refine va_newa (atype := .long) (ty := .long) (a0 := (24, .inr (.inl (fun _ => 0)))) (N' := 24) hx hb (hA _ wi_283) rfl hK hP hD hS hAA (fun _ => rfl) (by decide) (by decide) (by decide) (Nat.le_of_ble_eq_true rfl) (Nat.le_of_ble_eq_true rfl) dX7_init_29 (fun q_11 cA_12 H hK hP hD hS => ?_)
  have hP : va_P (dC, dI) vwCl [(h0, .inr (7, [.ref q_1, .ref q_9, .null, .int 0, .null, .null, .int 0, .int 0, .int 0])), (q_1, .inr (10, [.ref z_sorts_3, .ref z_places_4, .ref z_words_5, .int 0, .int 0, .int 256, .int 0, .long 0])), (z_sorts_3, .inl (k_sorts_6, 2001, .inl (fun _ => 0))), (z_places_4, .inl (k_places_7, 2001, .inl (fun _ => 0))), (z_words_5, .inl (k_words_8, 2001, .inr (.inl (fun _ => 0)))), (q_11, .inl (cA_12, 24, .inr (.inl (fun _ => 0))))] H := hP
  have hD : va_D A [(h0, .inr (7, [.ref q_1, .ref q_9, .null, .int 0, .null, .null, .int 0, .int 0, .int 0])), (q_1, .inr (10, [.ref z_sorts_3, .ref z_places_4, .ref z_words_5, .int 0, .int 0, .int 256, .int 0, .long 0])), (z_sorts_3, .inl (k_sorts_6, 2001, .inl (fun _ => 0))), (z_places_4, .inl (k_places_7, 2001, .inl (fun _ => 0))), (z_words_5, .inl (k_words_8, 2001, .inr (.inl (fun _ => 0)))), (q_11, .inl (cA_12, 24, .inr (.inl (fun _ => 0))))] := hD
  have hK : va_K (dC, dI) vwCl [(k_sorts_6, .int), (k_places_7, .int), (k_words_8, .long), (cA_12, .long)] s := hK
  refine W.widen (k := 7) (n := 9036) (Nat.le_of_ble_eq_true rfl) (Nat.le_of_ble_eq_true rfl) ?_
  refine va_putF (D := (dC, dI)) (ci := 7) (v := .ref q_11) (ty := .array .long) (C := RX7) (T := TX7) (N := 9) hx hb hA zin_X7 tyX7 tyX7_ok nmX7 hown hK hP hD hS 0 rfl rfl 2 (by decide) (hA _ wi_389) (fun _ h9 => h9) rfl hin rfl (by decide +kernel) rfl rfl (Nat.le_of_ble_eq_true rfl) dX7_init_31 (fun H locs hP hD hS => ?_)
  have hP : va_P (dC, dI) vwCl [(h0, .inr (7, [.ref q_1, .ref q_9, .ref q_11, .int 0, .null, .null, .int 0, .int 0, .int 0])), (q_1, .inr (10, [.ref z_sorts_3, .ref z_places_4, .ref z_words_5, .int 0, .int 0, .int 256, .int 0, .long 0])), (z_sorts_3, .inl (k_sorts_6, 2001, .inl (fun _ => 0))), (z_places_4, .inl (k_places_7, 2001, .inl (fun _ => 0))), (z_words_5, .inl (k_words_8, 2001, .inr (.inl (fun _ => 0)))), (q_11, .inl (cA_12, 24, .inr (.inl (fun _ => 0))))] H := hP
  have hD : va_D A [(h0, .inr (7, [.ref q_1, .ref q_9, .ref q_11, .int 0, .null, .null, .int 0, .int 0, .int 0])), (q_1, .inr (10, [.ref z_sorts_3, .ref z_places_4, .ref z_words_5, .int 0, .int 0, .int 256, .int 0, .long 0])), (z_sorts_3, .inl (k_sorts_6, 2001, .inl (fun _ => 0))), (z_places_4, .inl (k_places_7, 2001, .inl (fun _ => 0))), (z_words_5, .inl (k_words_8, 2001, .inr (.inl (fun _ => 0)))), (q_11, .inl (cA_12, 24, .inr (.inl (fun _ => 0))))] := hD
  refine lv_aload_n hx hb dX7_init_34 rfl (lv_at hl 0 rfl) ?_
  refine lv_iconst (v := 0) hx hb dX7_init_35 (by decide) ?_
  refine va_put (D := (dC, dI)) (ci := 7) (v := .int 0) (ty := .int) (C := RX7) (T := TX7) (N := 9) hx hb hA zin_X7 tyX7 tyX7_ok nmX7 hown hK hP hD hS 0 rfl rfl 3 (by decide) (hA _ wi_390) (fun _ h9 => h9) rfl (by decide +kernel) rfl rfl (Nat.le_of_ble_eq_true rfl) dX7_init_36 (fun H locs hP hD hS => ?_)
  have hP : va_P (dC, dI) vwCl [(h0, .inr (7, [.ref q_1, .ref q_9, .ref q_11, .int 0, .null, .null, .int 0, .int 0, .int 0])), (q_1, .inr (10, [.ref z_sorts_3, .ref z_places_4, .ref z_words_5, .int 0, .int 0, .int 256, .int 0, .long 0])), (z_sorts_3, .inl (k_sorts_6, 2001, .inl (fun _ => 0))), (z_places_4, .inl (k_places_7, 2001, .inl (fun _ => 0))), (z_words_5, .inl (k_words_8, 2001, .inr (.inl (fun _ => 0)))), (q_11, .inl (cA_12, 24, .inr (.inl (fun _ => 0))))] H := hP
  have hD : va_D A [(h0, .inr (7, [.ref q_1, .ref q_9, .ref q_11, .int 0, .null, .null, .int 0, .int 0, .int 0])), (q_1, .inr (10, [.ref z_sorts_3, .ref z_places_4, .ref z_words_5, .int 0, .int 0, .int 256, .int 0, .long 0])), (z_sorts_3, .inl (k_sorts_6, 2001, .inl (fun _ => 0))), (z_places_4, .inl (k_places_7, 2001, .inl (fun _ => 0))), (z_words_5, .inl (k_words_8, 2001, .inr (.inl (fun _ => 0)))), (q_11, .inl (cA_12, 24, .inr (.inl (fun _ => 0))))] := hD
  refine lv_aload_n hx hb dX7_init_39 rfl (lv_at hl 0 rfl) ?_
  refine lv_iconst (v := 4) hx hb dX7_init_40 (by decide) ?_
  refine va_newa (atype := .int) (ty := .int) (a0 := (4, .inl (fun _ => 0))) (N' := 4) hx hb (hA _ wi_220) rfl hK hP hD hS hAA (fun _ => rfl) (by decide) (by decide) (by decide) (Nat.le_of_ble_eq_true rfl) (Nat.le_of_ble_eq_true rfl) dX7_init_41 (fun q_13 cA_14 H hK hP hD hS => ?_)
  have hP : va_P (dC, dI) vwCl [(h0, .inr (7, [.ref q_1, .ref q_9, .ref q_11, .int 0, .null, .null, .int 0, .int 0, .int 0])), (q_1, .inr (10, [.ref z_sorts_3, .ref z_places_4, .ref z_words_5, .int 0, .int 0, .int 256, .int 0, .long 0])), (z_sorts_3, .inl (k_sorts_6, 2001, .inl (fun _ => 0))), (z_places_4, .inl (k_places_7, 2001, .inl (fun _ => 0))), (z_words_5, .inl (k_words_8, 2001, .inr (.inl (fun _ => 0)))), (q_11, .inl (cA_12, 24, .inr (.inl (fun _ => 0)))), (q_13, .inl (cA_14, 4, .inl (fun _ => 0)))] H := hP
  have hD : va_D A [(h0, .inr (7, [.ref q_1, .ref q_9, .ref q_11, .int 0, .null, .null, .int 0, .int 0, .int 0])), (q_1, .inr (10, [.ref z_sorts_3, .ref z_places_4, .ref z_words_5, .int 0, .int 0, .int 256, .int 0, .long 0])), (z_sorts_3, .inl (k_sorts_6, 2001, .inl (fun _ => 0))), (z_places_4, .inl (k_places_7, 2001, .inl (fun _ => 0))), (z_words_5, .inl (k_words_8, 2001, .inr (.inl (fun _ => 0)))), (q_11, .inl (cA_12, 24, .inr (.inl (fun _ => 0)))), (q_13, .inl (cA_14, 4, .inl (fun _ => 0)))] := hD
  have hK : va_K (dC, dI) vwCl [(k_sorts_6, .int), (k_places_7, .int), (k_words_8, .long), (cA_12, .long), (cA_14, .int)] s := hK
  refine W.widen (k := 8) (n := 9040) (Nat.le_of_ble_eq_true rfl) (Nat.le_of_ble_eq_true rfl) ?_
  refine va_putF (D := (dC, dI)) (ci := 7) (v := .ref q_13) (ty := .array .int) (C := RX7) (T := TX7) (N := 9) hx hb hA zin_X7 tyX7 tyX7_ok nmX7 hown hK hP hD hS 0 rfl rfl 4 (by decide) (hA _ wi_391) (fun _ h9 => h9) rfl hin rfl (by decide +kernel) rfl rfl (Nat.le_of_ble_eq_true rfl) dX7_init_43 (fun H locs hP hD hS => ?_)
  have hP : va_P (dC, dI) vwCl [(h0, .inr (7, [.ref q_1, .ref q_9, .ref q_11, .int 0, .ref q_13, .null, .int 0, .int 0, .int 0])), (q_1, .inr (10, [.ref z_sorts_3, .ref z_places_4, .ref z_words_5, .int 0, .int 0, .int 256, .int 0, .long 0])), (z_sorts_3, .inl (k_sorts_6, 2001, .inl (fun _ => 0))), (z_places_4, .inl (k_places_7, 2001, .inl (fun _ => 0))), (z_words_5, .inl (k_words_8, 2001, .inr (.inl (fun _ => 0)))), (q_11, .inl (cA_12, 24, .inr (.inl (fun _ => 0)))), (q_13, .inl (cA_14, 4, .inl (fun _ => 0)))] H := hP
  have hD : va_D A [(h0, .inr (7, [.ref q_1, .ref q_9, .ref q_11, .int 0, .ref q_13, .null, .int 0, .int 0, .int 0])), (q_1, .inr (10, [.ref z_sorts_3, .ref z_places_4, .ref z_words_5, .int 0, .int 0, .int 256, .int 0, .long 0])), (z_sorts_3, .inl (k_sorts_6, 2001, .inl (fun _ => 0))), (z_places_4, .inl (k_places_7, 2001, .inl (fun _ => 0))), (z_words_5, .inl (k_words_8, 2001, .inr (.inl (fun _ => 0)))), (q_11, .inl (cA_12, 24, .inr (.inl (fun _ => 0)))), (q_13, .inl (cA_14, 4, .inl (fun _ => 0)))] := hD
  refine lv_aload_n hx hb dX7_init_46 rfl (lv_at hl 0 rfl) ?_
  refine va_new (ci := 9) (fs := [.null, .null, .null, .null]) (C := RX9) (T := TX9) (N := 4) hx hb hA zin_X9 tyX9 tyX9_ok hown (hA _ wi_385) (hA _ wi_165) (hA _ wi_131) hK hP hD hS hAA rfl zd_X9 (Nat.le_of_ble_eq_true rfl) (Nat.le_of_ble_eq_true rfl) dX7_init_47 (fun q_15 H hP hD hS => ?_)
  have hP : va_P (dC, dI) vwCl [(h0, .inr (7, [.ref q_1, .ref q_9, .ref q_11, .int 0, .ref q_13, .null, .int 0, .int 0, .int 0])), (q_1, .inr (10, [.ref z_sorts_3, .ref z_places_4, .ref z_words_5, .int 0, .int 0, .int 256, .int 0, .long 0])), (z_sorts_3, .inl (k_sorts_6, 2001, .inl (fun _ => 0))), (z_places_4, .inl (k_places_7, 2001, .inl (fun _ => 0))), (z_words_5, .inl (k_words_8, 2001, .inr (.inl (fun _ => 0)))), (q_11, .inl (cA_12, 24, .inr (.inl (fun _ => 0)))), (q_13, .inl (cA_14, 4, .inl (fun _ => 0))), (q_15, .inr (9, [.null, .null, .null, .null]))] H := hP
  have hD : va_D A [(h0, .inr (7, [.ref q_1, .ref q_9, .ref q_11, .int 0, .ref q_13, .null, .int 0, .int 0, .int 0])), (q_1, .inr (10, [.ref z_sorts_3, .ref z_places_4, .ref z_words_5, .int 0, .int 0, .int 256, .int 0, .long 0])), (z_sorts_3, .inl (k_sorts_6, 2001, .inl (fun _ => 0))), (z_places_4, .inl (k_places_7, 2001, .inl (fun _ => 0))), (z_words_5, .inl (k_words_8, 2001, .inr (.inl (fun _ => 0)))), (q_11, .inl (cA_12, 24, .inr (.inl (fun _ => 0)))), (q_13, .inl (cA_14, 4, .inl (fun _ => 0))), (q_15, .inr (9, [.null, .null, .null, .null]))] := hD
  refine W.widen (k := 9) (n := 9044) (Nat.le_of_ble_eq_true rfl) (Nat.le_of_ble_eq_true rfl) ?_
  refine lv_dup hx hb dX7_init_50 rfl ?_
  have hPc := hP.sub (ws' := [(q_15, .inr (9, [.null, .null, .null, .null]))]) [7] rfl
  have hDc := hD.sub (ws' := [(q_15, .inr (9, [.null, .null, .null, .null]))]) [7] (by decide) rfl
  have hKc := hK.sub (tys' := []) [] rfl
  have hFc := va_free (wc := [(q_15, .inr (9, [.null, .null, .null, .null]))]) hD hS hAA [7] rfl
  refine va_callv (va_runIN (As := []) (rest := [.ref q_15, .ref h0]) ⟨hx, hb, hml, hown, hA⟩ (c_X9_init l dC dI q_15 H.size) ⟨va_cnB 0 hA (zw_good wi_168) rfl rfl rfl (hN.2.1 ("ReuseHouse$Parser", 39, yX9_init, "ReuseHouse") (by decide +kernel)) (hA _ wi_131) (by decide +kernel) ⟨(Nat.le_of_ble_eq_true rfl), (Nat.le_of_ble_eq_true rfl)⟩, rfl, hA _ wi_167⟩ ⟨zP_blind, zz_pre hKc hPc hDc hN hT hS hFc⟩ rfl rfl hl.1 rfl (lv_room (Nat.le_of_ble_eq_true rfl)) dX7_init_51 ⟨(Nat.le_of_ble_eq_true rfl), (Nat.le_of_ble_eq_true rfl)⟩) hS (fun q _ h => hFc q h) hFc (fun u t H1 locs ht hvm hw hB hz1 hk1 hS => ?_)
  obtain ⟨zcode_17, zarms_18, zkinds_19, zfunctions_20, zc_op_21, zc_a_22, zc_b_23, zc_place_24, zc_next_25, zc_needed_26, za_kind_27, za_next_28, za_before_29, za_leave_30, za_firstSlot_31, za_builds_32, zk_word_33, zk_fields_34, zf_word_35, zf_enter_36, zf_facts_37⟩ := u
  obtain ⟨hP1, hK1, hD1⟩ := hB
  rw [ht] at hP1
  have hK1 := va_K.moved hvm.symm hK1
  obtain ⟨hP, hD⟩ := va_join (wr := [(h0, .inr (7, [.ref q_1, .ref q_9, .ref q_11, .int 0, .ref q_13, .null, .int 0, .int 0, .int 0])), (q_1, .inr (10, [.ref z_sorts_3, .ref z_places_4, .ref z_words_5, .int 0, .int 0, .int 256, .int 0, .long 0])), (z_sorts_3, .inl (k_sorts_6, 2001, .inl (fun _ => 0))), (z_places_4, .inl (k_places_7, 2001, .inl (fun _ => 0))), (z_words_5, .inl (k_words_8, 2001, .inr (.inl (fun _ => 0)))), (q_11, .inl (cA_12, 24, .inr (.inl (fun _ => 0)))), (q_13, .inl (cA_14, 4, .inl (fun _ => 0)))]) (w1 := [(q_15, .inr (9, [.ref zcode_17, .ref zarms_18, .ref zkinds_19, .ref zfunctions_20])), (zcode_17, .inr (2, [.ref zc_op_21, .ref zc_a_22, .ref zc_b_23, .ref zc_place_24, .ref zc_next_25, .ref zc_needed_26, .int 0, .int (-1)])), (zarms_18, .inr (0, [.ref za_kind_27, .ref za_next_28, .ref za_before_29, .ref za_leave_30, .ref za_firstSlot_31, .ref za_builds_32, .int 0])), (zkinds_19, .inr (4, [.ref zk_word_33, .ref zk_fields_34, .int 0])), (zfunctions_20, .inr (3, [.ref zf_word_35, .ref zf_enter_36, .ref zf_facts_37, .int 0]))]) hP hD [7] [0, 1, 2, 3, 4, 5, 6] rfl rfl (by decide) (by decide) hk1 hFc hP1 hD1
  have hK := (hK.sub (tys' := [(k_sorts_6, .int), (k_places_7, .int), (k_words_8, .long), (cA_12, .long), (cA_14, .int)]) [0, 1, 2, 3, 4] rfl).app hK1
  generalize H1 = H at hP hS ⊢
  have hP : va_P (dC, dI) vwCl [(h0, .inr (7, [.ref q_1, .ref q_9, .ref q_11, .int 0, .ref q_13, .null, .int 0, .int 0, .int 0])), (q_1, .inr (10, [.ref z_sorts_3, .ref z_places_4, .ref z_words_5, .int 0, .int 0, .int 256, .int 0, .long 0])), (z_sorts_3, .inl (k_sorts_6, 2001, .inl (fun _ => 0))), (z_places_4, .inl (k_places_7, 2001, .inl (fun _ => 0))), (z_words_5, .inl (k_words_8, 2001, .inr (.inl (fun _ => 0)))), (q_11, .inl (cA_12, 24, .inr (.inl (fun _ => 0)))), (q_13, .inl (cA_14, 4, .inl (fun _ => 0))), (q_15, .inr (9, [.ref zcode_17, .ref zarms_18, .ref zkinds_19, .ref zfunctions_20])), (zcode_17, .inr (2, [.ref zc_op_21, .ref zc_a_22, .ref zc_b_23, .ref zc_place_24, .ref zc_next_25, .ref zc_needed_26, .int 0, .int (-1)])), (zarms_18, .inr (0, [.ref za_kind_27, .ref za_next_28, .ref za_before_29, .ref za_leave_30, .ref za_firstSlot_31, .ref za_builds_32, .int 0])), (zkinds_19, .inr (4, [.ref zk_word_33, .ref zk_fields_34, .int 0])), (zfunctions_20, .inr (3, [.ref zf_word_35, .ref zf_enter_36, .ref zf_facts_37, .int 0]))] H := hP
  have hD : va_D A [(h0, .inr (7, [.ref q_1, .ref q_9, .ref q_11, .int 0, .ref q_13, .null, .int 0, .int 0, .int 0])), (q_1, .inr (10, [.ref z_sorts_3, .ref z_places_4, .ref z_words_5, .int 0, .int 0, .int 256, .int 0, .long 0])), (z_sorts_3, .inl (k_sorts_6, 2001, .inl (fun _ => 0))), (z_places_4, .inl (k_places_7, 2001, .inl (fun _ => 0))), (z_words_5, .inl (k_words_8, 2001, .inr (.inl (fun _ => 0)))), (q_11, .inl (cA_12, 24, .inr (.inl (fun _ => 0)))), (q_13, .inl (cA_14, 4, .inl (fun _ => 0))), (q_15, .inr (9, [.ref zcode_17, .ref zarms_18, .ref zkinds_19, .ref zfunctions_20])), (zcode_17, .inr (2, [.ref zc_op_21, .ref zc_a_22, .ref zc_b_23, .ref zc_place_24, .ref zc_next_25, .ref zc_needed_26, .int 0, .int (-1)])), (zarms_18, .inr (0, [.ref za_kind_27, .ref za_next_28, .ref za_before_29, .ref za_leave_30, .ref za_firstSlot_31, .ref za_builds_32, .int 0])), (zkinds_19, .inr (4, [.ref zk_word_33, .ref zk_fields_34, .int 0])), (zfunctions_20, .inr (3, [.ref zf_word_35, .ref zf_enter_36, .ref zf_facts_37, .int 0]))] := hD
  have hK : va_K (dC, dI) vwCl [(k_sorts_6, .int), (k_places_7, .int), (k_words_8, .long), (cA_12, .long), (cA_14, .int)] s := hK
  refine W.widen (k := 30) (n := 29716) (Nat.le_of_ble_eq_true rfl) (Nat.le_of_ble_eq_true rfl) ?_
  refine va_put (D := (dC, dI)) (ci := 7) (v := .ref q_15) (ty := .object "ReuseHouse$Program") (C := RX7) (T := TX7) (N := 9) hx hb hA zin_X7 tyX7 tyX7_ok nmX7 hown hK hP hD hS 0 rfl rfl 5 (by decide) (hA _ wi_392) (fun _ h9 => h9) rfl (by decide +kernel) rfl rfl (Nat.le_of_ble_eq_true rfl) dX7_init_54 (fun H locs hP hD hS => ?_)
  have hP : va_P (dC, dI) vwCl [(h0, .inr (7, [.ref q_1, .ref q_9, .ref q_11, .int 0, .ref q_13, .ref q_15, .int 0, .int 0, .int 0])), (q_1, .inr (10, [.ref z_sorts_3, .ref z_places_4, .ref z_words_5, .int 0, .int 0, .int 256, .int 0, .long 0])), (z_sorts_3, .inl (k_sorts_6, 2001, .inl (fun _ => 0))), (z_places_4, .inl (k_places_7, 2001, .inl (fun _ => 0))), (z_words_5, .inl (k_words_8, 2001, .inr (.inl (fun _ => 0)))), (q_11, .inl (cA_12, 24, .inr (.inl (fun _ => 0)))), (q_13, .inl (cA_14, 4, .inl (fun _ => 0))), (q_15, .inr (9, [.ref zcode_17, .ref zarms_18, .ref zkinds_19, .ref zfunctions_20])), (zcode_17, .inr (2, [.ref zc_op_21, .ref zc_a_22, .ref zc_b_23, .ref zc_place_24, .ref zc_next_25, .ref zc_needed_26, .int 0, .int (-1)])), (zarms_18, .inr (0, [.ref za_kind_27, .ref za_next_28, .ref za_before_29, .ref za_leave_30, .ref za_firstSlot_31, .ref za_builds_32, .int 0])), (zkinds_19, .inr (4, [.ref zk_word_33, .ref zk_fields_34, .int 0])), (zfunctions_20, .inr (3, [.ref zf_word_35, .ref zf_enter_36, .ref zf_facts_37, .int 0]))] H := hP
  have hD : va_D A [(h0, .inr (7, [.ref q_1, .ref q_9, .ref q_11, .int 0, .ref q_13, .ref q_15, .int 0, .int 0, .int 0])), (q_1, .inr (10, [.ref z_sorts_3, .ref z_places_4, .ref z_words_5, .int 0, .int 0, .int 256, .int 0, .long 0])), (z_sorts_3, .inl (k_sorts_6, 2001, .inl (fun _ => 0))), (z_places_4, .inl (k_places_7, 2001, .inl (fun _ => 0))), (z_words_5, .inl (k_words_8, 2001, .inr (.inl (fun _ => 0)))), (q_11, .inl (cA_12, 24, .inr (.inl (fun _ => 0)))), (q_13, .inl (cA_14, 4, .inl (fun _ => 0))), (q_15, .inr (9, [.ref zcode_17, .ref zarms_18, .ref zkinds_19, .ref zfunctions_20])), (zcode_17, .inr (2, [.ref zc_op_21, .ref zc_a_22, .ref zc_b_23, .ref zc_place_24, .ref zc_next_25, .ref zc_needed_26, .int 0, .int (-1)])), (zarms_18, .inr (0, [.ref za_kind_27, .ref za_next_28, .ref za_before_29, .ref za_leave_30, .ref za_firstSlot_31, .ref za_builds_32, .int 0])), (zkinds_19, .inr (4, [.ref zk_word_33, .ref zk_fields_34, .int 0])), (zfunctions_20, .inr (3, [.ref zf_word_35, .ref zf_enter_36, .ref zf_facts_37, .int 0]))] := hD
  refine lv_aload_n hx hb dX7_init_57 rfl (lv_at hl 0 rfl) ?_
  refine lv_iconst (v := 0) hx hb dX7_init_58 (by decide) ?_
  refine va_put (D := (dC, dI)) (ci := 7) (v := .int 0) (ty := .int) (C := RX7) (T := TX7) (N := 9) hx hb hA zin_X7 tyX7 tyX7_ok nmX7 hown hK hP hD hS 0 rfl rfl 6 (by decide) (hA _ wi_394) (fun _ h9 => h9) rfl (by decide +kernel) rfl rfl (Nat.le_of_ble_eq_true rfl) dX7_init_59 (fun H locs hP hD hS => ?_)
  have hP : va_P (dC, dI) vwCl [(h0, .inr (7, [.ref q_1, .ref q_9, .ref q_11, .int 0, .ref q_13, .ref q_15, .int 0, .int 0, .int 0])), (q_1, .inr (10, [.ref z_sorts_3, .ref z_places_4, .ref z_words_5, .int 0, .int 0, .int 256, .int 0, .long 0])), (z_sorts_3, .inl (k_sorts_6, 2001, .inl (fun _ => 0))), (z_places_4, .inl (k_places_7, 2001, .inl (fun _ => 0))), (z_words_5, .inl (k_words_8, 2001, .inr (.inl (fun _ => 0)))), (q_11, .inl (cA_12, 24, .inr (.inl (fun _ => 0)))), (q_13, .inl (cA_14, 4, .inl (fun _ => 0))), (q_15, .inr (9, [.ref zcode_17, .ref zarms_18, .ref zkinds_19, .ref zfunctions_20])), (zcode_17, .inr (2, [.ref zc_op_21, .ref zc_a_22, .ref zc_b_23, .ref zc_place_24, .ref zc_next_25, .ref zc_needed_26, .int 0, .int (-1)])), (zarms_18, .inr (0, [.ref za_kind_27, .ref za_next_28, .ref za_before_29, .ref za_leave_30, .ref za_firstSlot_31, .ref za_builds_32, .int 0])), (zkinds_19, .inr (4, [.ref zk_word_33, .ref zk_fields_34, .int 0])), (zfunctions_20, .inr (3, [.ref zf_word_35, .ref zf_enter_36, .ref zf_facts_37, .int 0]))] H := hP
  have hD : va_D A [(h0, .inr (7, [.ref q_1, .ref q_9, .ref q_11, .int 0, .ref q_13, .ref q_15, .int 0, .int 0, .int 0])), (q_1, .inr (10, [.ref z_sorts_3, .ref z_places_4, .ref z_words_5, .int 0, .int 0, .int 256, .int 0, .long 0])), (z_sorts_3, .inl (k_sorts_6, 2001, .inl (fun _ => 0))), (z_places_4, .inl (k_places_7, 2001, .inl (fun _ => 0))), (z_words_5, .inl (k_words_8, 2001, .inr (.inl (fun _ => 0)))), (q_11, .inl (cA_12, 24, .inr (.inl (fun _ => 0)))), (q_13, .inl (cA_14, 4, .inl (fun _ => 0))), (q_15, .inr (9, [.ref zcode_17, .ref zarms_18, .ref zkinds_19, .ref zfunctions_20])), (zcode_17, .inr (2, [.ref zc_op_21, .ref zc_a_22, .ref zc_b_23, .ref zc_place_24, .ref zc_next_25, .ref zc_needed_26, .int 0, .int (-1)])), (zarms_18, .inr (0, [.ref za_kind_27, .ref za_next_28, .ref za_before_29, .ref za_leave_30, .ref za_firstSlot_31, .ref za_builds_32, .int 0])), (zkinds_19, .inr (4, [.ref zk_word_33, .ref zk_fields_34, .int 0])), (zfunctions_20, .inr (3, [.ref zf_word_35, .ref zf_enter_36, .ref zf_facts_37, .int 0]))] := hD
  refine lv_aload_n hx hb dX7_init_62 rfl (lv_at hl 0 rfl) ?_
  refine lv_iconst (v := 0) hx hb dX7_init_63 (by decide) ?_
  refine va_put (D := (dC, dI)) (ci := 7) (v := .int 0) (ty := .int) (C := RX7) (T := TX7) (N := 9) hx hb hA zin_X7 tyX7 tyX7_ok nmX7 hown hK hP hD hS 0 rfl rfl 7 (by decide) (hA _ wi_395) (fun _ h9 => h9) rfl (by decide +kernel) rfl rfl (Nat.le_of_ble_eq_true rfl) dX7_init_64 (fun H locs hP hD hS => ?_)
  have hP : va_P (dC, dI) vwCl [(h0, .inr (7, [.ref q_1, .ref q_9, .ref q_11, .int 0, .ref q_13, .ref q_15, .int 0, .int 0, .int 0])), (q_1, .inr (10, [.ref z_sorts_3, .ref z_places_4, .ref z_words_5, .int 0, .int 0, .int 256, .int 0, .long 0])), (z_sorts_3, .inl (k_sorts_6, 2001, .inl (fun _ => 0))), (z_places_4, .inl (k_places_7, 2001, .inl (fun _ => 0))), (z_words_5, .inl (k_words_8, 2001, .inr (.inl (fun _ => 0)))), (q_11, .inl (cA_12, 24, .inr (.inl (fun _ => 0)))), (q_13, .inl (cA_14, 4, .inl (fun _ => 0))), (q_15, .inr (9, [.ref zcode_17, .ref zarms_18, .ref zkinds_19, .ref zfunctions_20])), (zcode_17, .inr (2, [.ref zc_op_21, .ref zc_a_22, .ref zc_b_23, .ref zc_place_24, .ref zc_next_25, .ref zc_needed_26, .int 0, .int (-1)])), (zarms_18, .inr (0, [.ref za_kind_27, .ref za_next_28, .ref za_before_29, .ref za_leave_30, .ref za_firstSlot_31, .ref za_builds_32, .int 0])), (zkinds_19, .inr (4, [.ref zk_word_33, .ref zk_fields_34, .int 0])), (zfunctions_20, .inr (3, [.ref zf_word_35, .ref zf_enter_36, .ref zf_facts_37, .int 0]))] H := hP
  have hD : va_D A [(h0, .inr (7, [.ref q_1, .ref q_9, .ref q_11, .int 0, .ref q_13, .ref q_15, .int 0, .int 0, .int 0])), (q_1, .inr (10, [.ref z_sorts_3, .ref z_places_4, .ref z_words_5, .int 0, .int 0, .int 256, .int 0, .long 0])), (z_sorts_3, .inl (k_sorts_6, 2001, .inl (fun _ => 0))), (z_places_4, .inl (k_places_7, 2001, .inl (fun _ => 0))), (z_words_5, .inl (k_words_8, 2001, .inr (.inl (fun _ => 0)))), (q_11, .inl (cA_12, 24, .inr (.inl (fun _ => 0)))), (q_13, .inl (cA_14, 4, .inl (fun _ => 0))), (q_15, .inr (9, [.ref zcode_17, .ref zarms_18, .ref zkinds_19, .ref zfunctions_20])), (zcode_17, .inr (2, [.ref zc_op_21, .ref zc_a_22, .ref zc_b_23, .ref zc_place_24, .ref zc_next_25, .ref zc_needed_26, .int 0, .int (-1)])), (zarms_18, .inr (0, [.ref za_kind_27, .ref za_next_28, .ref za_before_29, .ref za_leave_30, .ref za_firstSlot_31, .ref za_builds_32, .int 0])), (zkinds_19, .inr (4, [.ref zk_word_33, .ref zk_fields_34, .int 0])), (zfunctions_20, .inr (3, [.ref zf_word_35, .ref zf_enter_36, .ref zf_facts_37, .int 0]))] := hD
  refine lv_aload_n hx hb dX7_init_67 rfl (lv_at hl 0 rfl) ?_
  refine lv_iconst (v := (-1)) hx hb dX7_init_68 (by decide) ?_
  refine va_put (D := (dC, dI)) (ci := 7) (v := .int (-1)) (ty := .int) (C := RX7) (T := TX7) (N := 9) hx hb hA zin_X7 tyX7 tyX7_ok nmX7 hown hK hP hD hS 0 rfl rfl 8 (by decide) (hA _ wi_397) (fun _ h9 => h9) rfl (by decide +kernel) rfl rfl (Nat.le_of_ble_eq_true rfl) dX7_init_69 (fun H locs hP hD hS => ?_)
  have hP : va_P (dC, dI) vwCl [(h0, .inr (7, [.ref q_1, .ref q_9, .ref q_11, .int 0, .ref q_13, .ref q_15, .int 0, .int 0, .int (-1)])), (q_1, .inr (10, [.ref z_sorts_3, .ref z_places_4, .ref z_words_5, .int 0, .int 0, .int 256, .int 0, .long 0])), (z_sorts_3, .inl (k_sorts_6, 2001, .inl (fun _ => 0))), (z_places_4, .inl (k_places_7, 2001, .inl (fun _ => 0))), (z_words_5, .inl (k_words_8, 2001, .inr (.inl (fun _ => 0)))), (q_11, .inl (cA_12, 24, .inr (.inl (fun _ => 0)))), (q_13, .inl (cA_14, 4, .inl (fun _ => 0))), (q_15, .inr (9, [.ref zcode_17, .ref zarms_18, .ref zkinds_19, .ref zfunctions_20])), (zcode_17, .inr (2, [.ref zc_op_21, .ref zc_a_22, .ref zc_b_23, .ref zc_place_24, .ref zc_next_25, .ref zc_needed_26, .int 0, .int (-1)])), (zarms_18, .inr (0, [.ref za_kind_27, .ref za_next_28, .ref za_before_29, .ref za_leave_30, .ref za_firstSlot_31, .ref za_builds_32, .int 0])), (zkinds_19, .inr (4, [.ref zk_word_33, .ref zk_fields_34, .int 0])), (zfunctions_20, .inr (3, [.ref zf_word_35, .ref zf_enter_36, .ref zf_facts_37, .int 0]))] H := hP
  have hD : va_D A [(h0, .inr (7, [.ref q_1, .ref q_9, .ref q_11, .int 0, .ref q_13, .ref q_15, .int 0, .int 0, .int (-1)])), (q_1, .inr (10, [.ref z_sorts_3, .ref z_places_4, .ref z_words_5, .int 0, .int 0, .int 256, .int 0, .long 0])), (z_sorts_3, .inl (k_sorts_6, 2001, .inl (fun _ => 0))), (z_places_4, .inl (k_places_7, 2001, .inl (fun _ => 0))), (z_words_5, .inl (k_words_8, 2001, .inr (.inl (fun _ => 0)))), (q_11, .inl (cA_12, 24, .inr (.inl (fun _ => 0)))), (q_13, .inl (cA_14, 4, .inl (fun _ => 0))), (q_15, .inr (9, [.ref zcode_17, .ref zarms_18, .ref zkinds_19, .ref zfunctions_20])), (zcode_17, .inr (2, [.ref zc_op_21, .ref zc_a_22, .ref zc_b_23, .ref zc_place_24, .ref zc_next_25, .ref zc_needed_26, .int 0, .int (-1)])), (zarms_18, .inr (0, [.ref za_kind_27, .ref za_next_28, .ref za_before_29, .ref za_leave_30, .ref za_firstSlot_31, .ref za_builds_32, .int 0])), (zkinds_19, .inr (4, [.ref zk_word_33, .ref zk_fields_34, .int 0])), (zfunctions_20, .inr (3, [.ref zf_word_35, .ref zf_enter_36, .ref zf_facts_37, .int 0]))] := hD
  have hP9 := hP.sub (ws' := [(h0, .inr (7, [.ref q_1, .ref q_9, .ref q_11, .int 0, .ref q_13, .ref q_15, .int 0, .int 0, .int (-1)])), (q_1, .inr (10, [.ref z_sorts_3, .ref z_places_4, .ref z_words_5, .int 0, .int 0, .int 256, .int 0, .long 0])), (z_sorts_3, .inl (k_sorts_6, 2001, .inl (fun _ => 0))), (z_places_4, .inl (k_places_7, 2001, .inl (fun _ => 0))), (z_words_5, .inl (k_words_8, 2001, .inr (.inl (fun _ => 0)))), (q_15, .inr (9, [.ref zcode_17, .ref zarms_18, .ref zkinds_19, .ref zfunctions_20])), (zcode_17, .inr (2, [.ref zc_op_21, .ref zc_a_22, .ref zc_b_23, .ref zc_place_24, .ref zc_next_25, .ref zc_needed_26, .int 0, .int (-1)])), (zarms_18, .inr (0, [.ref za_kind_27, .ref za_next_28, .ref za_before_29, .ref za_leave_30, .ref za_firstSlot_31, .ref za_builds_32, .int 0])), (zkinds_19, .inr (4, [.ref zk_word_33, .ref zk_fields_34, .int 0])), (zfunctions_20, .inr (3, [.ref zf_word_35, .ref zf_enter_36, .ref zf_facts_37, .int 0]))]) [0, 1, 2, 3, 4, 7, 8, 9, 10, 11] rfl
  have hD9 := hD.sub (ws' := [(h0, .inr (7, [.ref q_1, .ref q_9, .ref q_11, .int 0, .ref q_13, .ref q_15, .int 0, .int 0, .int (-1)])), (q_1, .inr (10, [.ref z_sorts_3, .ref z_places_4, .ref z_words_5, .int 0, .int 0, .int 256, .int 0, .long 0])), (z_sorts_3, .inl (k_sorts_6, 2001, .inl (fun _ => 0))), (z_places_4, .inl (k_places_7, 2001, .inl (fun _ => 0))), (z_words_5, .inl (k_words_8, 2001, .inr (.inl (fun _ => 0)))), (q_15, .inr (9, [.ref zcode_17, .ref zarms_18, .ref zkinds_19, .ref zfunctions_20])), (zcode_17, .inr (2, [.ref zc_op_21, .ref zc_a_22, .ref zc_b_23, .ref zc_place_24, .ref zc_next_25, .ref zc_needed_26, .int 0, .int (-1)])), (zarms_18, .inr (0, [.ref za_kind_27, .ref za_next_28, .ref za_before_29, .ref za_leave_30, .ref za_firstSlot_31, .ref za_builds_32, .int 0])), (zkinds_19, .inr (4, [.ref zk_word_33, .ref zk_fields_34, .int 0])), (zfunctions_20, .inr (3, [.ref zf_word_35, .ref zf_enter_36, .ref zf_facts_37, .int 0]))]) [0, 1, 2, 3, 4, 7, 8, 9, 10, 11] (by decide) rfl
  have hK9 := hK.sub (tys' := [(k_sorts_6, .int), (k_places_7, .int), (k_words_8, .long)]) [0, 1, 2] rfl
  exact W.vret hx hb hr (fun t ht hW => ⟨⟨(q_1, q_15, q_9, q_11, q_13, z_sorts_3, z_places_4, z_words_5, zcode_17, zarms_18, zkinds_19, zfunctions_20, zc_op_21, zc_a_22, zc_b_23, zc_place_24, zc_next_25, zc_needed_26, za_kind_27, za_next_28, za_before_29, za_leave_30, za_firstSlot_31, za_builds_32, zk_word_33, zk_fields_34, zf_word_35, zf_enter_36, zf_facts_37, k_sorts_6, k_places_7, k_words_8), rfl, trivial, by rw [ht]; exact hP9, va_K.moved hW.alike hK9, hD9⟩, hS.F ht⟩) hS.2.2 dX7_init_72
