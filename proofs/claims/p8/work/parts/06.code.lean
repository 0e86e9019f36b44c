theorem wi_197 : Cond.fieldLink RX2 30 "ReuseHouse$Code" "size" "I" ∈ zw := zw_in (List.mem_of_getElem? (i := 197) (by decide +kernel)) (by decide +kernel)
theorem wi_176 : Cond.fieldLink RX2 9 "ReuseHouse$Code" "op" "[I" ∈ zw := zw_in (List.mem_of_getElem? (i := 176) (by decide +kernel)) (by decide +kernel)
theorem wi_180 : Cond.fieldLink RX2 15 "ReuseHouse$Code" "a" "[I" ∈ zw := zw_in (List.mem_of_getElem? (i := 180) (by decide +kernel)) (by decide +kernel)
theorem wi_184 : Cond.fieldLink RX2 18 "ReuseHouse$Code" "b" "[I" ∈ zw := zw_in (List.mem_of_getElem? (i := 184) (by decide +kernel)) (by decide +kernel)
theorem wi_188 : Cond.fieldLink RX2 21 "ReuseHouse$Code" "place" "[I" ∈ zw := zw_in (List.mem_of_getElem? (i := 188) (by decide +kernel)) (by decide +kernel)
theorem wi_194 : Cond.fieldLink RX2 27 "ReuseHouse$Code" "needed" "[I" ∈ zw := zw_in (List.mem_of_getElem? (i := 194) (by decide +kernel)) (by decide +kernel)
theorem wi_191 : Cond.fieldLink RX2 24 "ReuseHouse$Code" "next" "[I" ∈ zw := zw_in (List.mem_of_getElem? (i := 191) (by decide +kernel)) (by decide +kernel)
theorem wi_200 : Cond.fieldLink RX2 34 "ReuseHouse$Code" "tail" "I" ∈ zw := zw_in (List.mem_of_getElem? (i := 200) (by decide +kernel)) (by decide +kernel)
theorem wi_925 : Cond.code yX2_insertBehind cX2_insertBehind 5 (some .int) ∈ zw := zw_in (List.mem_of_getElem? (i := 925) (by decide +kernel)) (by decide +kernel)
theorem wi_922 : Cond.methodLink RX2 37 yX2_insertBehind ∈ zw := zw_in (List.mem_of_getElem? (i := 922) (by decide +kernel)) (by decide +kernel)
theorem wi_923 : Cond.instanceMethod yX2_insertBehind ∈ zw := zw_in (List.mem_of_getElem? (i := 923) (by decide +kernel)) (by decide +kernel)
theorem wi_924 : Cond.selects RX2 yX2_insertBehind yX2_insertBehind ∈ zw := zw_in (List.mem_of_getElem? (i := 924) (by decide +kernel)) (by decide +kernel)
theorem wi_132 : Cond.initialized RX2 ∈ zw := zw_in (List.mem_of_getElem? (i := 132) (by decide +kernel)) (by decide +kernel)
theorem dX2_append_0 : decode cX2_append 0 = .ok (.aload_n 0, 1) := by decide +kernel
theorem dX2_append_1 : decode cX2_append 1 = .ok (.aload_n 0, 1) := by decide +kernel
theorem dX2_append_2 : decode cX2_append 2 = .ok (.getfield 34, 3) := by decide +kernel
theorem dX2_append_5 : decode cX2_append 5 = .ok (.iload_n 1, 1) := by decide +kernel
theorem dX2_append_6 : decode cX2_append 6 = .ok (.iload_n 2, 1) := by decide +kernel
theorem dX2_append_7 : decode cX2_append 7 = .ok (.invokevirtual 37, 3) := by decide +kernel
theorem dX2_append_10 : decode cX2_append 10 = .ok (.istore 4, 2) := by decide +kernel
theorem dX2_append_12 : decode cX2_append 12 = .ok (.aload_n 0, 1) := by decide +kernel
theorem dX2_append_13 : decode cX2_append 13 = .ok (.getfield 15, 3) := by decide +kernel
theorem dX2_append_16 : decode cX2_append 16 = .ok (.iload 4, 2) := by decide +kernel
theorem dX2_append_18 : decode cX2_append 18 = .ok (.iload_n 3, 1) := by decide +kernel
theorem dX2_append_19 : decode cX2_append 19 = .ok (.iastore, 1) := by decide +kernel
theorem dX2_append_20 : decode cX2_append 20 = .ok (.iload 4, 2) := by decide +kernel
theorem dX2_append_22 : decode cX2_append 22 = .ok (.ireturn, 1) := by decide +kernel
theorem dX2_appendStep_0 : decode cX2_appendStep 0 = .ok (.aload_n 0, 1) := by decide +kernel
theorem dX2_appendStep_1 : decode cX2_appendStep 1 = .ok (.aload_n 0, 1) := by decide +kernel
theorem dX2_appendStep_2 : decode cX2_appendStep 2 = .ok (.getfield 34, 3) := by decide +kernel
theorem dX2_appendStep_5 : decode cX2_appendStep 5 = .ok (.iconst 1, 1) := by decide +kernel
theorem dX2_appendStep_6 : decode cX2_appendStep 6 = .ok (.iload_n 1, 1) := by decide +kernel
theorem dX2_appendStep_7 : decode cX2_appendStep 7 = .ok (.invokevirtual 37, 3) := by decide +kernel
theorem dX2_appendStep_10 : decode cX2_appendStep 10 = .ok (.pop, 1) := by decide +kernel
theorem dX2_appendStep_11 : decode cX2_appendStep 11 = .ok (.return_, 1) := by decide +kernel
theorem dX2_insertBehind_0 : decode cX2_insertBehind 0 = .ok (.aload_n 0, 1) := by decide +kernel
theorem dX2_insertBehind_1 : decode cX2_insertBehind 1 = .ok (.getfield 30, 3) := by decide +kernel
theorem dX2_insertBehind_4 : decode cX2_insertBehind 4 = .ok (.sipush 3000, 3) := by decide +kernel
theorem dX2_insertBehind_7 : decode cX2_insertBehind 7 = .ok (.if_icmp .lt 7, 3) := by decide +kernel
theorem dX2_insertBehind_10 : decode cX2_insertBehind 10 = .ok (.sipush 2999, 3) := by decide +kernel
theorem dX2_insertBehind_13 : decode cX2_insertBehind 13 = .ok (.ireturn, 1) := by decide +kernel
theorem dX2_insertBehind_14 : decode cX2_insertBehind 14 = .ok (.aload_n 0, 1) := by decide +kernel
theorem dX2_insertBehind_15 : decode cX2_insertBehind 15 = .ok (.getfield 30, 3) := by decide +kernel
theorem dX2_insertBehind_18 : decode cX2_insertBehind 18 = .ok (.istore 4, 2) := by decide +kernel
theorem dX2_insertBehind_20 : decode cX2_insertBehind 20 = .ok (.aload_n 0, 1) := by decide +kernel
theorem dX2_insertBehind_21 : decode cX2_insertBehind 21 = .ok (.dup, 1) := by decide +kernel
theorem dX2_insertBehind_22 : decode cX2_insertBehind 22 = .ok (.getfield 30, 3) := by decide +kernel
theorem dX2_insertBehind_25 : decode cX2_insertBehind 25 = .ok (.iconst 1, 1) := by decide +kernel
theorem dX2_insertBehind_26 : decode cX2_insertBehind 26 = .ok (.iadd, 1) := by decide +kernel
theorem dX2_insertBehind_27 : decode cX2_insertBehind 27 = .ok (.putfield 30, 3) := by decide +kernel
theorem dX2_insertBehind_30 : decode cX2_insertBehind 30 = .ok (.aload_n 0, 1) := by decide +kernel
theorem dX2_insertBehind_31 : decode cX2_insertBehind 31 = .ok (.getfield 9, 3) := by decide +kernel
theorem dX2_insertBehind_34 : decode cX2_insertBehind 34 = .ok (.iload 4, 2) := by decide +kernel
theorem dX2_insertBehind_36 : decode cX2_insertBehind 36 = .ok (.iload_n 2, 1) := by decide +kernel
theorem dX2_insertBehind_37 : decode cX2_insertBehind 37 = .ok (.iastore, 1) := by decide +kernel
theorem dX2_insertBehind_38 : decode cX2_insertBehind 38 = .ok (.aload_n 0, 1) := by decide +kernel
theorem dX2_insertBehind_39 : decode cX2_insertBehind 39 = .ok (.getfield 15, 3) := by decide +kernel
theorem dX2_insertBehind_42 : decode cX2_insertBehind 42 = .ok (.iload 4, 2) := by decide +kernel
theorem dX2_insertBehind_44 : decode cX2_insertBehind 44 = .ok (.iconst (-1), 1) := by decide +kernel
theorem dX2_insertBehind_45 : decode cX2_insertBehind 45 = .ok (.iastore, 1) := by decide +kernel
theorem dX2_insertBehind_46 : decode cX2_insertBehind 46 = .ok (.aload_n 0, 1) := by decide +kernel
theorem dX2_insertBehind_47 : decode cX2_insertBehind 47 = .ok (.getfield 18, 3) := by decide +kernel
theorem dX2_insertBehind_50 : decode cX2_insertBehind 50 = .ok (.iload 4, 2) := by decide +kernel
theorem dX2_insertBehind_52 : decode cX2_insertBehind 52 = .ok (.iconst (-1), 1) := by decide +kernel
theorem dX2_insertBehind_53 : decode cX2_insertBehind 53 = .ok (.iastore, 1) := by decide +kernel
theorem dX2_insertBehind_54 : decode cX2_insertBehind 54 = .ok (.aload_n 0, 1) := by decide +kernel
theorem dX2_insertBehind_55 : decode cX2_insertBehind 55 = .ok (.getfield 21, 3) := by decide +kernel
theorem dX2_insertBehind_58 : decode cX2_insertBehind 58 = .ok (.iload 4, 2) := by decide +kernel
theorem dX2_insertBehind_60 : decode cX2_insertBehind 60 = .ok (.iload_n 3, 1) := by decide +kernel
theorem dX2_insertBehind_61 : decode cX2_insertBehind 61 = .ok (.iastore, 1) := by decide +kernel
theorem dX2_insertBehind_62 : decode cX2_insertBehind 62 = .ok (.aload_n 0, 1) := by decide +kernel
theorem dX2_insertBehind_63 : decode cX2_insertBehind 63 = .ok (.getfield 27, 3) := by decide +kernel
theorem dX2_insertBehind_66 : decode cX2_insertBehind 66 = .ok (.iload 4, 2) := by decide +kernel
theorem dX2_insertBehind_68 : decode cX2_insertBehind 68 = .ok (.iconst 0, 1) := by decide +kernel
theorem dX2_insertBehind_69 : decode cX2_insertBehind 69 = .ok (.iastore, 1) := by decide +kernel
theorem dX2_insertBehind_70 : decode cX2_insertBehind 70 = .ok (.aload_n 0, 1) := by decide +kernel
theorem dX2_insertBehind_71 : decode cX2_insertBehind 71 = .ok (.getfield 24, 3) := by decide +kernel
theorem dX2_insertBehind_74 : decode cX2_insertBehind 74 = .ok (.iload 4, 2) := by decide +kernel
theorem dX2_insertBehind_76 : decode cX2_insertBehind 76 = .ok (.iload_n 1, 1) := by decide +kernel
theorem dX2_insertBehind_77 : decode cX2_insertBehind 77 = .ok (.iconst (-1), 1) := by decide +kernel
theorem dX2_insertBehind_78 : decode cX2_insertBehind 78 = .ok (.if_icmp .ne 7, 3) := by decide +kernel
theorem dX2_insertBehind_81 : decode cX2_insertBehind 81 = .ok (.iconst (-1), 1) := by decide +kernel
theorem dX2_insertBehind_82 : decode cX2_insertBehind 82 = .ok (.goto 9, 3) := by decide +kernel
theorem dX2_insertBehind_85 : decode cX2_insertBehind 85 = .ok (.aload_n 0, 1) := by decide +kernel
theorem dX2_insertBehind_86 : decode cX2_insertBehind 86 = .ok (.getfield 24, 3) := by decide +kernel
theorem dX2_insertBehind_89 : decode cX2_insertBehind 89 = .ok (.iload_n 1, 1) := by decide +kernel
theorem dX2_insertBehind_90 : decode cX2_insertBehind 90 = .ok (.iaload, 1) := by decide +kernel
theorem dX2_insertBehind_91 : decode cX2_insertBehind 91 = .ok (.iastore, 1) := by decide +kernel
theorem dX2_insertBehind_92 : decode cX2_insertBehind 92 = .ok (.iload_n 1, 1) := by decide +kernel
theorem dX2_insertBehind_93 : decode cX2_insertBehind 93 = .ok (.iconst (-1), 1) := by decide +kernel
theorem dX2_insertBehind_94 : decode cX2_insertBehind 94 = .ok (.if_icmp .eq 11, 3) := by decide +kernel
theorem dX2_insertBehind_97 : decode cX2_insertBehind 97 = .ok (.aload_n 0, 1) := by decide +kernel
theorem dX2_insertBehind_98 : decode cX2_insertBehind 98 = .ok (.getfield 24, 3) := by decide +kernel
theorem dX2_insertBehind_101 : decode cX2_insertBehind 101 = .ok (.iload_n 1, 1) := by decide +kernel
theorem dX2_insertBehind_102 : decode cX2_insertBehind 102 = .ok (.iload 4, 2) := by decide +kernel
theorem dX2_insertBehind_104 : decode cX2_insertBehind 104 = .ok (.iastore, 1) := by decide +kernel
theorem dX2_insertBehind_105 : decode cX2_insertBehind 105 = .ok (.iload_n 1, 1) := by decide +kernel
theorem dX2_insertBehind_106 : decode cX2_insertBehind 106 = .ok (.aload_n 0, 1) := by decide +kernel
theorem dX2_insertBehind_107 : decode cX2_insertBehind 107 = .ok (.getfield 34, 3) := by decide +kernel
theorem dX2_insertBehind_110 : decode cX2_insertBehind 110 = .ok (.if_icmp .ne 9, 3) := by decide +kernel
theorem dX2_insertBehind_113 : decode cX2_insertBehind 113 = .ok (.aload_n 0, 1) := by decide +kernel
theorem dX2_insertBehind_114 : decode cX2_insertBehind 114 = .ok (.iload 4, 2) := by decide +kernel
theorem dX2_insertBehind_116 : decode cX2_insertBehind 116 = .ok (.putfield 34, 3) := by decide +kernel
theorem dX2_insertBehind_119 : decode cX2_insertBehind 119 = .ok (.iload 4, 2) := by decide +kernel
theorem dX2_insertBehind_121 : decode cX2_insertBehind 121 = .ok (.ireturn, 1) := by decide +kernel
theorem dX2_neededBehind_0 : decode cX2_neededBehind 0 = .ok (.iload_n 1, 1) := by decide +kernel
theorem dX2_neededBehind_1 : decode cX2_neededBehind 1 = .ok (.iconst (-1), 1) := by decide +kernel
theorem dX2_neededBehind_2 : decode cX2_neededBehind 2 = .ok (.if_icmp .ne 7, 3) := by decide +kernel
theorem dX2_neededBehind_5 : decode cX2_neededBehind 5 = .ok (.iconst (-1), 1) := by decide +kernel
theorem dX2_neededBehind_6 : decode cX2_neededBehind 6 = .ok (.goto 9, 3) := by decide +kernel
theorem dX2_neededBehind_9 : decode cX2_neededBehind 9 = .ok (.aload_n 0, 1) := by decide +kernel
theorem dX2_neededBehind_10 : decode cX2_neededBehind 10 = .ok (.getfield 24, 3) := by decide +kernel
theorem dX2_neededBehind_13 : decode cX2_neededBehind 13 = .ok (.iload_n 1, 1) := by decide +kernel
theorem dX2_neededBehind_14 : decode cX2_neededBehind 14 = .ok (.iaload, 1) := by decide +kernel
theorem dX2_neededBehind_15 : decode cX2_neededBehind 15 = .ok (.istore_n 2, 1) := by decide +kernel
theorem dX2_neededBehind_16 : decode cX2_neededBehind 16 = .ok (.iload_n 2, 1) := by decide +kernel
theorem dX2_neededBehind_17 : decode cX2_neededBehind 17 = .ok (.iconst (-1), 1) := by decide +kernel
theorem dX2_neededBehind_18 : decode cX2_neededBehind 18 = .ok (.if_icmp .ne 7, 3) := by decide +kernel
theorem dX2_neededBehind_21 : decode cX2_neededBehind 21 = .ok (.iconst 0, 1) := by decide +kernel
theorem dX2_neededBehind_22 : decode cX2_neededBehind 22 = .ok (.goto 9, 3) := by decide +kernel
theorem dX2_neededBehind_25 : decode cX2_neededBehind 25 = .ok (.aload_n 0, 1) := by decide +kernel
theorem dX2_neededBehind_26 : decode cX2_neededBehind 26 = .ok (.getfield 27, 3) := by decide +kernel
theorem dX2_neededBehind_29 : decode cX2_neededBehind 29 = .ok (.iload_n 2, 1) := by decide +kernel
theorem dX2_neededBehind_30 : decode cX2_neededBehind 30 = .ok (.iaload, 1) := by decide +kernel
theorem dX2_neededBehind_31 : decode cX2_neededBehind 31 = .ok (.ireturn, 1) := by decide +kernel
set_option maxHeartbeats 4000000 in
set_option maxRecDepth 100000 in
theorem c_X2_insertBehind (l : Launch) (dC : Nat → ClassId) (dI : Nat → Nat → Nat) (aK aV : Nat → Nat) (h0 : Nat) (cop : Nat) (ca : Nat) (cb : Nat) (cplace : Nat) (cnext : Nat) (cneeded : Nat) (ckop : ClassId) (cka : ClassId) (ckb : ClassId) (ckplace : ClassId) (cknext : ClassId) (ckneeded : ClassId) (z : Int32) (ta : Int32) (gop : Nat → Int32) (ga : Nat → Int32) (gb : Nat → Int32) (gplace : Nat → Int32) (gnext : Nat → Int32) (gneeded : Nat → Int32) (be : Int32) (o : Int32) (wh : Int32) (sz : Nat) (hz0 : 0 ≤ z.toInt) (hz1 : z.toInt ≤ 3000) (ht0 : -1 ≤ ta.toInt) (ht1 : ta.toInt < 3000) (hgn : zx 3000 gnext) (hb0 : -1 ≤ be.toInt) (hb1 : be.toInt < 3000) : Met l yX2_insertBehind (Cond.code yX2_insertBehind cX2_insertBehind 5 (some .int) :: zw) ({ frames := 8, cells := 0, slots := 0, locals := 200 }) (va_Pc [.ref h0, .int be, .int o, .int wh] (zP dC dI aK aV sz [(ckop, .int), (cka, .int), (ckb, .int), (ckplace, .int), (cknext, .int), (ckneeded, .int)] [(h0, .inr (2, [.ref cop, .ref ca, .ref cb, .ref cplace, .ref cnext, .ref cneeded, .int z, .int ta])), (cop, .inl (ckop, 3000, .inl gop)), (ca, .inl (cka, 3000, .inl ga)), (cb, .inl (ckb, 3000, .inl gb)), (cplace, .inl (ckplace, 3000, .inl gplace)), (cnext, .inl (cknext, 3000, .inl gnext)), (cneeded, .inl (ckneeded, 3000, .inl gneeded))])) (va_Qi (fun (r : Int32) (u : Int32 × Int32 × (Nat → Int32) × (Nat → Int32) × (Nat → Int32) × (Nat → Int32) × (Nat → Int32) × (Nat → Int32)) => match u with | (z2, t2, nop, na, nb, nplace, nnext, nneeded) => (0 ≤ r.toInt) ∧ (r.toInt < 3000) ∧ (z.toInt ≤ z2.toInt) ∧ (z2.toInt ≤ z.toInt + 1) ∧ (z2.toInt ≤ 3000) ∧ (-1 ≤ t2.toInt) ∧ (t2.toInt < 3000) ∧ (zx 3000 nnext)) (fun u => match u with | (z2, t2, nop, na, nb, nplace, nnext, nneeded) => zQ dC dI (va_A [(h0, .inr (2, [.ref cop, .ref ca, .ref cb, .ref cplace, .ref cnext, .ref cneeded, .int z, .int ta])), (cop, .inl (ckop, 3000, .inl gop)), (ca, .inl (cka, 3000, .inl ga)), (cb, .inl (ckb, 3000, .inl gb)), (cplace, .inl (ckplace, 3000, .inl gplace)), (cnext, .inl (cknext, 3000, .inl gnext)), (cneeded, .inl (ckneeded, 3000, .inl gneeded))] sz) [(ckop, .int), (cka, .int), (ckb, .int), (ckplace, .int), (cknext, .int), (ckneeded, .int)] [(h0, .inr (2, [.ref cop, .ref ca, .ref cb, .ref cplace, .ref cnext, .ref cneeded, .int z2, .int t2])), (cop, .inl (ckop, 3000, .inl nop)), (ca, .inl (cka, 3000, .inl na)), (cb, .inl (ckb, 3000, .inl nb)), (cplace, .inl (ckplace, 3000, .inl nplace)), (cnext, .inl (cknext, 3000, .inl nnext)), (cneeded, .inl (ckneeded, 3000, .inl nneeded))]) (va_A [(h0, .inr (2, [.ref cop, .ref ca, .ref cb, .ref cplace, .ref cnext, .ref cneeded, .int z, .int ta])), (cop, .inl (ckop, 3000, .inl gop)), (ca, .inl (cka, 3000, .inl ga)), (cb, .inl (ckb, 3000, .inl gb)), (cplace, .inl (ckplace, 3000, .inl gplace)), (cnext, .inl (cknext, 3000, .inl gnext)), (cneeded, .inl (ckneeded, 3000, .inl gneeded))] sz)) 0 0 (va_A [(h0, .inr (2, [.ref cop, .ref ca, .ref cb, .ref cplace, .ref cnext, .ref cneeded, .int z, .int ta])), (cop, .inl (ckop, 3000, .inl gop)), (ca, .inl (cka, 3000, .inl ga)), (cb, .inl (ckb, 3000, .inl gb)), (cplace, .inl (ckplace, 3000, .inl gplace)), (cnext, .inl (cknext, 3000, .inl gnext)), (cneeded, .inl (ckneeded, 3000, .inl gneeded))] sz) := by
  refine Met.ofW (cc := cX2_insertBehind) (maxL := 5) (ret := (some .int)) (by decide) rfl ?_
  intro p e s m args below meth c s₁ B hml hv
  obtain ⟨rfl, hsz, hP, hK, hD0, hN, hT⟩ := hv
  have hx := B.exec
  have hb := B.bytes
  have hr := B.returns
  have hts := atoms_spec (ws := Cond.code yX2_insertBehind cX2_insertBehind 5 (some .int) :: zw) B.pre
  have hA : ∀ w ∈ zw, w.before _ s = true := fun w h => hts w (List.mem_cons_of_mem _ h)
  have hown : s.vm.findClass RX2 = some m.cls := findClass_of_methodNamed B.named
  have hlocks := B.notSynchronized
  subst hsz
  have hD := hD0.self (sz := s.heap.size)
  generalize hAe : va_A [(h0, .inr (2, [.ref cop, .ref ca, .ref cb, .ref cplace, .ref cnext, .ref cneeded, .int z, .int ta])), (cop, .inl (ckop, 3000, .inl gop)), (ca, .inl (cka, 3000, .inl ga)), (cb, .inl (ckb, 3000, .inl gb)), (cplace, .inl (ckplace, 3000, .inl gplace)), (cnext, .inl (cknext, 3000, .inl gnext)), (cneeded, .inl (ckneeded, 3000, .inl gneeded))] s.heap.size = A at hD hT ⊢
  have hAA : ∀ q : Nat, s.heap.size ≤ q → A q := fun q h => by rw [← hAe]; exact Or.inr h
  have hS : va_S A s.heap s.heap [] := va_S.rf
  have hl := lv_entry ([.ref h0, .int be, .int o, .int wh]) (n := 5) (Nat.le_of_ble_eq_true rfl)
  rw [lg_entry_eq]
  generalize (lg_sl ([.ref h0, .int be, .int o, .int wh]) ++ List.replicate (5 - (lg_sl ([.ref h0, .int be, .int o, .int wh])).length) Slot.unset).toArray = ls at hl ⊢
  have hl : lv_has ls 5 [(0, .ref h0), (1, .int be), (2, .int o), (3, .int wh)] := hl
  refine lv_aload_n hx hb dX2_insertBehind_0 rfl (lv_at hl 0 rfl) ?_
  refine va_get (D := (dC, dI)) (ci := 2) (v := .int z) (C := RX2) (T := TX2) (N := 8) hx hb hA zin_X2 hown hK hP 0 rfl rfl 6 (by decide) (hA _ wi_197) (fun _ h9 => h9) rfl dX2_insertBehind_1 ?_
  refine lv_sipush (v := 3000) hx hb dX2_insertBehind_4 (by decide) ?_
  refine lv_icmp_lt (tgt := 14) hx hb dX2_insertBehind_7 (by decide) (fun c_1 => ?_) (fun c_1 => ?_)
  · have ic_1 : z.toInt < 3000 := zi_lt c_1
    refine lv_aload_n hx hb dX2_insertBehind_14 rfl (lv_at hl 0 rfl) ?_
    refine va_get (D := (dC, dI)) (ci := 2) (v := .int z) (C := RX2) (T := TX2) (N := 8) hx hb hA zin_X2 hown hK hP 0 rfl rfl 6 (by decide) (hA _ wi_197) (fun _ h9 => h9) rfl dX2_insertBehind_15 ?_
    refine lv_istore (lv' := [(4, .int z), (0, .ref h0), (1, .int be), (2, .int o), (3, .int wh)]) hx hb dX2_insertBehind_18 hl (by decide) rfl (fun ls hl => ?_)
    refine lv_aload_n hx hb dX2_insertBehind_20 rfl (lv_at hl 1 rfl) ?_
    refine lv_dup hx hb dX2_insertBehind_21 rfl ?_
    refine va_get (D := (dC, dI)) (ci := 2) (v := .int z) (C := RX2) (T := TX2) (N := 8) hx hb hA zin_X2 hown hK hP 0 rfl rfl 6 (by decide) (hA _ wi_197) (fun _ h9 => h9) rfl dX2_insertBehind_22 ?_
    refine lv_iconst (v := 1) hx hb dX2_insertBehind_25 (by decide) ?_
    refine lv_iadd hx hb dX2_insertBehind_26 ?_
    refine lv_topi (fun x_2 ex_2 => ?_)
    have ix_2 : x_2.toInt = z.toInt + 1 := by rw [ex_2]; exact zi_addc (by decide) (by omega) (by omega)
    refine va_put (D := (dC, dI)) (ci := 2) (v := .int x_2) (ty := .int) (C := RX2) (T := TX2) (N := 8) hx hb hA zin_X2 tyX2 tyX2_ok nmX2 hown hK hP hD hS 0 rfl rfl 6 (by decide) (hA _ wi_197) (fun _ h9 => h9) rfl (by decide +kernel) rfl rfl (Nat.le_of_ble_eq_true rfl) dX2_insertBehind_27 (fun H locs hP hD hS => ?_)
    have hP : va_P (dC, dI) vwCl [(h0, .inr (2, [.ref cop, .ref ca, .ref cb, .ref cplace, .ref cnext, .ref cneeded, .int x_2, .int ta])), (cop, .inl (ckop, 3000, .inl gop)), (ca, .inl (cka, 3000, .inl ga)), (cb, .inl (ckb, 3000, .inl gb)), (cplace, .inl (ckplace, 3000, .inl gplace)), (cnext, .inl (cknext, 3000, .inl gnext)), (cneeded, .inl (ckneeded, 3000, .inl gneeded))] H := hP
    have hD : va_D A [(h0, .inr (2, [.ref cop, .ref ca, .ref cb, .ref cplace, .ref cnext, .ref cneeded, .int x_2, .int ta])), (cop, .inl (ckop, 3000, .inl gop)), (ca, .inl (cka, 3000, .inl ga)), (cb, .inl (ckb, 3000, .inl gb)), (cplace, .inl (ckplace, 3000, .inl gplace)), (cnext, .inl (cknext, 3000, .inl gnext)), (cneeded, .inl (ckneeded, 3000, .inl gneeded))] := hD
    refine lv_aload_n hx hb dX2_insertBehind_30 rfl (lv_at hl 1 rfl) ?_
    refine va_get (D := (dC, dI)) (ci := 2) (v := .ref cop) (C := RX2) (T := TX2) (N := 8) hx hb hA zin_X2 hown hK hP 0 rfl rfl 0 (by decide) (hA _ wi_176) (fun _ h9 => h9) rfl dX2_insertBehind_31 ?_
    refine lv_iload hx hb dX2_insertBehind_34 (lv_at hl 0 rfl) ?_
    refine lv_iload_n hx hb dX2_insertBehind_36 rfl (lv_at hl 3 rfl) ?_
    refine va_iast hx hb hK hP hD hS 1 0 rfl rfl (vp_in_iff.mpr ⟨by omega, by omega⟩) dX2_insertBehind_37 (fun H locs hP hD hS => ?_)
    obtain ⟨f_3, ef_3⟩ : ∃ gz9 : Nat → Int32, gz9 = upd gop (Int32.toNatClampNeg z) o := ⟨_, rfl⟩
    rw [← ef_3] at hP hD
    have hP : va_P (dC, dI) vwCl [(h0, .inr (2, [.ref cop, .ref ca, .ref cb, .ref cplace, .ref cnext, .ref cneeded, .int x_2, .int ta])), (cop, .inl (ckop, 3000, .inl f_3)), (ca, .inl (cka, 3000, .inl ga)), (cb, .inl (ckb, 3000, .inl gb)), (cplace, .inl (ckplace, 3000, .inl gplace)), (cnext, .inl (cknext, 3000, .inl gnext)), (cneeded, .inl (ckneeded, 3000, .inl gneeded))] H := hP
    have hD : va_D A [(h0, .inr (2, [.ref cop, .ref ca, .ref cb, .ref cplace, .ref cnext, .ref cneeded, .int x_2, .int ta])), (cop, .inl (ckop, 3000, .inl f_3)), (ca, .inl (cka, 3000, .inl ga)), (cb, .inl (ckb, 3000, .inl gb)), (cplace, .inl (ckplace, 3000, .inl gplace)), (cnext, .inl (cknext, 3000, .inl gnext)), (cneeded, .inl (ckneeded, 3000, .inl gneeded))] := hD
    refine lv_aload_n hx hb dX2_insertBehind_38 rfl (lv_at hl 1 rfl) ?_
    refine va_get (D := (dC, dI)) (ci := 2) (v := .ref ca) (C := RX2) (T := TX2) (N := 8) hx hb hA zin_X2 hown hK hP 0 rfl rfl 1 (by decide) (hA _ wi_180) (fun _ h9 => h9) rfl dX2_insertBehind_39 ?_
    refine lv_iload hx hb dX2_insertBehind_42 (lv_at hl 0 rfl) ?_
    refine lv_iconst (v := (-1)) hx hb dX2_insertBehind_44 (by decide) ?_
    refine va_iast hx hb hK hP hD hS 2 1 rfl rfl (vp_in_iff.mpr ⟨by omega, by omega⟩) dX2_insertBehind_45 (fun H locs hP hD hS => ?_)
    obtain ⟨f_4, ef_4⟩ : ∃ gz9 : Nat → Int32, gz9 = upd ga (Int32.toNatClampNeg z) (-1) := ⟨_, rfl⟩
    rw [← ef_4] at hP hD
    have hP : va_P (dC, dI) vwCl [(h0, .inr (2, [.ref cop, .ref ca, .ref cb, .ref cplace, .ref cnext, .ref cneeded, .int x_2, .int ta])), (cop, .inl (ckop, 3000, .inl f_3)), (ca, .inl (cka, 3000, .inl f_4)), (cb, .inl (ckb, 3000, .inl gb)), (cplace, .inl (ckplace, 3000, .inl gplace)), (cnext, .inl (cknext, 3000, .inl gnext)), (cneeded, .inl (ckneeded, 3000, .inl gneeded))] H := hP
    have hD : va_D A [(h0, .inr (2, [.ref cop, .ref ca, .ref cb, .ref cplace, .ref cnext, .ref cneeded, .int x_2, .int ta])), (cop, .inl (ckop, 3000, .inl f_3)), (ca, .inl (cka, 3000, .inl f_4)), (cb, .inl (ckb, 3000, .inl gb)), (cplace, .inl (ckplace, 3000, .inl gplace)), (cnext, .inl (cknext, 3000, .inl gnext)), (cneeded, .inl (ckneeded, 3000, .inl gneeded))] := hD
    refine lv_aload_n hx hb dX2_insertBehind_46 rfl (lv_at hl 1 rfl) ?_
    refine va_get (D := (dC, dI)) (ci := 2) (v := .ref cb) (C := RX2) (T := TX2) (N := 8) hx hb hA zin_X2 hown hK hP 0 rfl rfl 2 (by decide) (hA _ wi_184) (fun _ h9 => h9) rfl dX2_insertBehind_47 ?_
    refine lv_iload hx hb dX2_insertBehind_50 (lv_at hl 0 rfl) ?_
    refine lv_iconst (v := (-1)) hx hb dX2_insertBehind_52 (by decide) ?_
    refine va_iast hx hb hK hP hD hS 3 2 rfl rfl (vp_in_iff.mpr ⟨by omega, by omega⟩) dX2_insertBehind_53 (fun H locs hP hD hS => ?_)
    obtain ⟨f_5, ef_5⟩ : ∃ gz9 : Nat → Int32, gz9 = upd gb (Int32.toNatClampNeg z) (-1) := ⟨_, rfl⟩
    rw [← ef_5] at hP hD
    have hP : va_P (dC, dI) vwCl [(h0, .inr (2, [.ref cop, .ref ca, .ref cb, .ref cplace, .ref cnext, .ref cneeded, .int x_2, .int ta])), (cop, .inl (ckop, 3000, .inl f_3)), (ca, .inl (cka, 3000, .inl f_4)), (cb, .inl (ckb, 3000, .inl f_5)), (cplace, .inl (ckplace, 3000, .inl gplace)), (cnext, .inl (cknext, 3000, .inl gnext)), (cneeded, .inl (ckneeded, 3000, .inl gneeded))] H := hP
    have hD : va_D A [(h0, .inr (2, [.ref cop, .ref ca, .ref cb, .ref cplace, .ref cnext, .ref cneeded, .int x_2, .int ta])), (cop, .inl (ckop, 3000, .inl f_3)), (ca, .inl (cka, 3000, .inl f_4)), (cb, .inl (ckb, 3000, .inl f_5)), (cplace, .inl (ckplace, 3000, .inl gplace)), (cnext, .inl (cknext, 3000, .inl gnext)), (cneeded, .inl (ckneeded, 3000, .inl gneeded))] := hD
    refine lv_aload_n hx hb dX2_insertBehind_54 rfl (lv_at hl 1 rfl) ?_
    refine va_get (D := (dC, dI)) (ci := 2) (v := .ref cplace) (C := RX2) (T := TX2) (N := 8) hx hb hA zin_X2 hown hK hP 0 rfl rfl 3 (by decide) (hA _ wi_188) (fun _ h9 => h9) rfl dX2_insertBehind_55 ?_
    refine lv_iload hx hb dX2_insertBehind_58 (lv_at hl 0 rfl) ?_
    refine lv_iload_n hx hb dX2_insertBehind_60 rfl (lv_at hl 4 rfl) ?_
    refine va_iast hx hb hK hP hD hS 4 3 rfl rfl (vp_in_iff.mpr ⟨by omega, by omega⟩) dX2_insertBehind_61 (fun H locs hP hD hS => ?_)
    obtain ⟨f_6, ef_6⟩ : ∃ gz9 : Nat → Int32, gz9 = upd gplace (Int32.toNatClampNeg z) wh := ⟨_, rfl⟩
    rw [← ef_6] at hP hD
    have hP : va_P (dC, dI) vwCl [(h0, .inr (2, [.ref cop, .ref ca, .ref cb, .ref cplace, .ref cnext, .ref cneeded, .int x_2, .int ta])), (cop, .inl (ckop, 3000, .inl f_3)), (ca, .inl (cka, 3000, .inl f_4)), (cb, .inl (ckb, 3000, .inl f_5)), (cplace, .inl (ckplace, 3000, .inl f_6)), (cnext, .inl (cknext, 3000, .inl gnext)), (cneeded, .inl (ckneeded, 3000, .inl gneeded))] H := hP
    have hD : va_D A [(h0, .inr (2, [.ref cop, .ref ca, .ref cb, .ref cplace, .ref cnext, .ref cneeded, .int x_2, .int ta])), (cop, .inl (ckop, 3000, .inl f_3)), (ca, .inl (cka, 3000, .inl f_4)), (cb, .inl (ckb, 3000, .inl f_5)), (cplace, .inl (ckplace, 3000, .inl f_6)), (cnext, .inl (cknext, 3000, .inl gnext)), (cneeded, .inl (ckneeded, 3000, .inl gneeded))] := hD
    refine lv_aload_n hx hb dX2_insertBehind_62 rfl (lv_at hl 1 rfl) ?_
    refine va_get (D := (dC, dI)) (ci := 2) (v := .ref cneeded) (C := RX2) (T := TX2) (N := 8) hx hb hA zin_X2 hown hK hP 0 rfl rfl 5 (by decide) (hA _ wi_194) (fun _ h9 => h9) rfl dX2_insertBehind_63 ?_
    refine lv_iload hx hb dX2_insertBehind_66 (lv_at hl 0 rfl) ?_
    refine lv_iconst (v := 0) hx hb dX2_insertBehind_68 (by decide) ?_
    refine va_iast hx hb hK hP hD hS 6 5 rfl rfl (vp_in_iff.mpr ⟨by omega, by omega⟩) dX2_insertBehind_69 (fun H locs hP hD hS => ?_)
    obtain ⟨f_7, ef_7⟩ : ∃ gz9 : Nat → Int32, gz9 = upd gneeded (Int32.toNatClampNeg z) 0 := ⟨_, rfl⟩
    rw [← ef_7] at hP hD
    have hP : va_P (dC, dI) vwCl [(h0, .inr (2, [.ref cop, .ref ca, .ref cb, .ref cplace, .ref cnext, .ref cneeded, .int x_2, .int ta])), (cop, .inl (ckop, 3000, .inl f_3)), (ca, .inl (cka, 3000, .inl f_4)), (cb, .inl (ckb, 3000, .inl f_5)), (cplace, .inl (ckplace, 3000, .inl f_6)), (cnext, .inl (cknext, 3000, .inl gnext)), (cneeded, .inl (ckneeded, 3000, .inl f_7))] H := hP
    have hD : va_D A [(h0, .inr (2, [.ref cop, .ref ca, .ref cb, .ref cplace, .ref cnext, .ref cneeded, .int x_2, .int ta])), (cop, .inl (ckop, 3000, .inl f_3)), (ca, .inl (cka, 3000, .inl f_4)), (cb, .inl (ckb, 3000, .inl f_5)), (cplace, .inl (ckplace, 3000, .inl f_6)), (cnext, .inl (cknext, 3000, .inl gnext)), (cneeded, .inl (ckneeded, 3000, .inl f_7))] := hD
    refine lv_aload_n hx hb dX2_insertBehind_70 rfl (lv_at hl 1 rfl) ?_
    refine va_get (D := (dC, dI)) (ci := 2) (v := .ref cnext) (C := RX2) (T := TX2) (N := 8) hx hb hA zin_X2 hown hK hP 0 rfl rfl 4 (by decide) (hA _ wi_191) (fun _ h9 => h9) rfl dX2_insertBehind_71 ?_
    refine lv_iload hx hb dX2_insertBehind_74 (lv_at hl 0 rfl) ?_
    refine lv_iload_n hx hb dX2_insertBehind_76 rfl (lv_at hl 2 rfl) ?_
    refine lv_iconst (v := (-1)) hx hb dX2_insertBehind_77 (by decide) ?_
    refine lv_icmp_ne (tgt := 85) hx hb dX2_insertBehind_78 (by decide) (fun c_8 => ?_) (fun c_8 => ?_)
    · have ic_8 : be.toInt ≠ (-1) := zi_ne c_8
      refine lv_aload_n hx hb dX2_insertBehind_85 rfl (lv_at hl 1 rfl) ?_
      refine va_get (D := (dC, dI)) (ci := 2) (v := .ref cnext) (C := RX2) (T := TX2) (N := 8) hx hb hA zin_X2 hown hK hP 0 rfl rfl 4 (by decide) (hA _ wi_191) (fun _ h9 => h9) rfl dX2_insertBehind_86 ?_
      refine lv_iload_n hx hb dX2_insertBehind_89 rfl (lv_at hl 2 rfl) ?_
      refine va_iald hx hb hK hP 5 4 rfl rfl (vp_in_iff.mpr ⟨by omega, by omega⟩) dX2_insertBehind_90 ?_
      refine lv_topi (fun x_9 ex_9 => ?_)
      have ix_9 : -1 ≤ x_9.toInt ∧ x_9.toInt < 3000 := by rw [ex_9]; exact hgn _
      refine va_iast hx hb hK hP hD hS 5 4 rfl rfl (vp_in_iff.mpr ⟨by omega, by omega⟩) dX2_insertBehind_91 (fun H locs hP hD hS => ?_)
      obtain ⟨f_10, ef_10⟩ : ∃ gz9 : Nat → Int32, gz9 = upd gnext (Int32.toNatClampNeg z) x_9 := ⟨_, rfl⟩
      rw [← ef_10] at hP hD
      have hp_f_10 : zx 3000 f_10 := by rw [ef_10]; exact zx_upd hgn (by omega) (by omega)
      have hP : va_P (dC, dI) vwCl [(h0, .inr (2, [.ref cop, .ref ca, .ref cb, .ref cplace, .ref cnext, .ref cneeded, .int x_2, .int ta])), (cop, .inl (ckop, 3000, .inl f_3)), (ca, .inl (cka, 3000, .inl f_4)), (cb, .inl (ckb, 3000, .inl f_5)), (cplace, .inl (ckplace, 3000, .inl f_6)), (cnext, .inl (cknext, 3000, .inl f_10)), (cneeded, .inl (ckneeded, 3000, .inl f_7))] H := hP
      have hD : va_D A [(h0, .inr (2, [.ref cop, .ref ca, .ref cb, .ref cplace, .ref cnext, .ref cneeded, .int x_2, .int ta])), (cop, .inl (ckop, 3000, .inl f_3)), (ca, .inl (cka, 3000, .inl f_4)), (cb, .inl (ckb, 3000, .inl f_5)), (cplace, .inl (ckplace, 3000, .inl f_6)), (cnext, .inl (cknext, 3000, .inl f_10)), (cneeded, .inl (ckneeded, 3000, .inl f_7))] := hD
      refine lv_iload_n hx hb dX2_insertBehind_92 rfl (lv_at hl 2 rfl) ?_
      refine lv_iconst (v := (-1)) hx hb dX2_insertBehind_93 (by decide) ?_
      refine lv_icmp_eq (tgt := 105) hx hb dX2_insertBehind_94 (by decide) (fun c_11 => ?_) (fun c_11 => ?_)
      · have ic_11 : be.toInt = (-1) := zi_eq c_11
        refine lv_iload_n hx hb dX2_insertBehind_105 rfl (lv_at hl 2 rfl) ?_
        refine lv_aload_n hx hb dX2_insertBehind_106 rfl (lv_at hl 1 rfl) ?_
        refine va_get (D := (dC, dI)) (ci := 2) (v := .int ta) (C := RX2) (T := TX2) (N := 8) hx hb hA zin_X2 hown hK hP 0 rfl rfl 7 (by decide) (hA _ wi_200) (fun _ h9 => h9) rfl dX2_insertBehind_107 ?_
        refine lv_icmp_ne (tgt := 119) hx hb dX2_insertBehind_110 (by decide) (fun c_12 => ?_) (fun c_12 => ?_)
        · have ic_12 : be.toInt ≠ ta.toInt := zi_ne c_12
          refine lv_iload hx hb dX2_insertBehind_119 (lv_at hl 0 rfl) ?_
          have hP9 := hP.sub (ws' := [(h0, .inr (2, [.ref cop, .ref ca, .ref cb, .ref cplace, .ref cnext, .ref cneeded, .int x_2, .int ta])), (cop, .inl (ckop, 3000, .inl f_3)), (ca, .inl (cka, 3000, .inl f_4)), (cb, .inl (ckb, 3000, .inl f_5)), (cplace, .inl (ckplace, 3000, .inl f_6)), (cnext, .inl (cknext, 3000, .inl f_10)), (cneeded, .inl (ckneeded, 3000, .inl f_7))]) [0, 1, 2, 3, 4, 5, 6] rfl
          have hD9 := hD.sub (ws' := [(h0, .inr (2, [.ref cop, .ref ca, .ref cb, .ref cplace, .ref cnext, .ref cneeded, .int x_2, .int ta])), (cop, .inl (ckop, 3000, .inl f_3)), (ca, .inl (cka, 3000, .inl f_4)), (cb, .inl (ckb, 3000, .inl f_5)), (cplace, .inl (ckplace, 3000, .inl f_6)), (cnext, .inl (cknext, 3000, .inl f_10)), (cneeded, .inl (ckneeded, 3000, .inl f_7))]) [0, 1, 2, 3, 4, 5, 6] (by decide) rfl
          have hK9 := hK.sub (tys' := [(ckop, .int), (cka, .int), (ckb, .int), (ckplace, .int), (cknext, .int), (ckneeded, .int)]) [0, 1, 2, 3, 4, 5] rfl
          exact W.iret (v := z) hx hb hr (fun t ht hW => ⟨⟨z, (x_2, ta, f_3, f_4, f_5, f_6, f_10, f_7), rfl, ⟨by omega, by omega, by omega, by omega, by omega, by omega, by omega, hp_f_10⟩, by rw [ht]; exact hP9, va_K.moved hW.alike hK9, hD9⟩, hS.F ht⟩) hS.2.2 dX2_insertBehind_121
        · have ic_12 : be.toInt = ta.toInt := zi_eq c_12
          refine lv_aload_n hx hb dX2_insertBehind_113 rfl (lv_at hl 1 rfl) ?_
          refine lv_iload hx hb dX2_insertBehind_114 (lv_at hl 0 rfl) ?_
          refine va_put (D := (dC, dI)) (ci := 2) (v := .int z) (ty := .int) (C := RX2) (T := TX2) (N := 8) hx hb hA zin_X2 tyX2 tyX2_ok nmX2 hown hK hP hD hS 0 rfl rfl 7 (by decide) (hA _ wi_200) (fun _ h9 => h9) rfl (by decide +kernel) rfl rfl (Nat.le_of_ble_eq_true rfl) dX2_insertBehind_116 (fun H locs hP hD hS => ?_)
          have hP : va_P (dC, dI) vwCl [(h0, .inr (2, [.ref cop, .ref ca, .ref cb, .ref cplace, .ref cnext, .ref cneeded, .int x_2, .int z])), (cop, .inl (ckop, 3000, .inl f_3)), (ca, .inl (cka, 3000, .inl f_4)), (cb, .inl (ckb, 3000, .inl f_5)), (cplace, .inl (ckplace, 3000, .inl f_6)), (cnext, .inl (cknext, 3000, .inl f_10)), (cneeded, .inl (ckneeded, 3000, .inl f_7))] H := hP
          have hD : va_D A [(h0, .inr (2, [.ref cop, .ref ca, .ref cb, .ref cplace, .ref cnext, .ref cneeded, .int x_2, .int z])), (cop, .inl (ckop, 3000, .inl f_3)), (ca, .inl (cka, 3000, .inl f_4)), (cb, .inl (ckb, 3000, .inl f_5)), (cplace, .inl (ckplace, 3000, .inl f_6)), (cnext, .inl (cknext, 3000, .inl f_10)), (cneeded, .inl (ckneeded, 3000, .inl f_7))] := hD
          refine lv_iload hx hb dX2_insertBehind_119 (lv_at hl 0 rfl) ?_
          have hP9 := hP.sub (ws' := [(h0, .inr (2, [.ref cop, .ref ca, .ref cb, .ref cplace, .ref cnext, .ref cneeded, .int x_2, .int z])), (cop, .inl (ckop, 3000, .inl f_3)), (ca, .inl (cka, 3000, .inl f_4)), (cb, .inl (ckb, 3000, .inl f_5)), (cplace, .inl (ckplace, 3000, .inl f_6)), (cnext, .inl (cknext, 3000, .inl f_10)), (cneeded, .inl (ckneeded, 3000, .inl f_7))]) [0, 1, 2, 3, 4, 5, 6] rfl
          have hD9 := hD.sub (ws' := [(h0, .inr (2, [.ref cop, .ref ca, .ref cb, .ref cplace, .ref cnext, .ref cneeded, .int x_2, .int z])), (cop, .inl (ckop, 3000, .inl f_3)), (ca, .inl (cka, 3000, .inl f_4)), (cb, .inl (ckb, 3000, .inl f_5)), (cplace, .inl (ckplace, 3000, .inl f_6)), (cnext, .inl (cknext, 3000, .inl f_10)), (cneeded, .inl (ckneeded, 3000, .inl f_7))]) [0, 1, 2, 3, 4, 5, 6] (by decide) rfl
          have hK9 := hK.sub (tys' := [(ckop, .int), (cka, .int), (ckb, .int), (ckplace, .int), (cknext, .int), (ckneeded, .int)]) [0, 1, 2, 3, 4, 5] rfl
          exact W.iret (v := z) hx hb hr (fun t ht hW => ⟨⟨z, (x_2, z, f_3, f_4, f_5, f_6, f_10, f_7), rfl, ⟨by omega, by omega, by omega, by omega, by omega, by omega, by omega, hp_f_10⟩, by rw [ht]; exact hP9, va_K.moved hW.alike hK9, hD9⟩, hS.F ht⟩) hS.2.2 dX2_insertBehind_121
      · have ic_11 : be.toInt ≠ (-1) := zi_ne c_11
        refine lv_aload_n hx hb dX2_insertBehind_97 rfl (lv_at hl 1 rfl) ?_
        refine va_get (D := (dC, dI)) (ci := 2) (v := .ref cnext) (C := RX2) (T := TX2) (N := 8) hx hb hA zin_X2 hown hK hP 0 rfl rfl 4 (by decide) (hA _ wi_191) (fun _ h9 => h9) rfl dX2_insertBehind_98 ?_
        refine lv_iload_n hx hb dX2_insertBehind_101 rfl (lv_at hl 2 rfl) ?_
        refine lv_iload hx hb dX2_insertBehind_102 (lv_at hl 0 rfl) ?_
        refine va_iast hx hb hK hP hD hS 5 4 rfl rfl (vp_in_iff.mpr ⟨by omega, by omega⟩) dX2_insertBehind_104 (fun H locs hP hD hS => ?_)
        obtain ⟨f_13, ef_13⟩ : ∃ gz9 : Nat → Int32, gz9 = upd f_10 (Int32.toNatClampNeg be) z := ⟨_, rfl⟩
        rw [← ef_13] at hP hD
        have hp_f_13 : zx 3000 f_13 := by rw [ef_13]; exact zx_upd hp_f_10 (by omega) (by omega)
        have hP : va_P (dC, dI) vwCl [(h0, .inr (2, [.ref cop, .ref ca, .ref cb, .ref cplace, .ref cnext, .ref cneeded, .int x_2, .int ta])), (cop, .inl (ckop, 3000, .inl f_3)), (ca, .inl (cka, 3000, .inl f_4)), (cb, .inl (ckb, 3000, .inl f_5)), (cplace, .inl (ckplace, 3000, .inl f_6)), (cnext, .inl (cknext, 3000, .inl f_13)), (cneeded, .inl (ckneeded, 3000, .inl f_7))] H := hP
        have hD : va_D A [(h0, .inr (2, [.ref cop, .ref ca, .ref cb, .ref cplace, .ref cnext, .ref cneeded, .int x_2, .int ta])), (cop, .inl (ckop, 3000, .inl f_3)), (ca, .inl (cka, 3000, .inl f_4)), (cb, .inl (ckb, 3000, .inl f_5)), (cplace, .inl (ckplace, 3000, .inl f_6)), (cnext, .inl (cknext, 3000, .inl f_13)), (cneeded, .inl (ckneeded, 3000, .inl f_7))] := hD
        refine lv_iload_n hx hb dX2_insertBehind_105 rfl (lv_at hl 2 rfl) ?_
        refine lv_aload_n hx hb dX2_insertBehind_106 rfl (lv_at hl 1 rfl) ?_
        refine va_get (D := (dC, dI)) (ci := 2) (v := .int ta) (C := RX2) (T := TX2) (N := 8) hx hb hA zin_X2 hown hK hP 0 rfl rfl 7 (by decide) (hA _ wi_200) (fun _ h9 => h9) rfl dX2_insertBehind_107 ?_
        refine lv_icmp_ne (tgt := 119) hx hb dX2_insertBehind_110 (by decide) (fun c_14 => ?_) (fun c_14 => ?_)
        · have ic_14 : be.toInt ≠ ta.toInt := zi_ne c_14
          refine lv_iload hx hb dX2_insertBehind_119 (lv_at hl 0 rfl) ?_
          have hP9 := hP.sub (ws' := [(h0, .inr (2, [.ref cop, .ref ca, .ref cb, .ref cplace, .ref cnext, .ref cneeded, .int x_2, .int ta])), (cop, .inl (ckop, 3000, .inl f_3)), (ca, .inl (cka, 3000, .inl f_4)), (cb, .inl (ckb, 3000, .inl f_5)), (cplace, .inl (ckplace, 3000, .inl f_6)), (cnext, .inl (cknext, 3000, .inl f_13)), (cneeded, .inl (ckneeded, 3000, .inl f_7))]) [0, 1, 2, 3, 4, 5, 6] rfl
          have hD9 := hD.sub (ws' := [(h0, .inr (2, [.ref cop, .ref ca, .ref cb, .ref cplace, .ref cnext, .ref cneeded, .int x_2, .int ta])), (cop, .inl (ckop, 3000, .inl f_3)), (ca, .inl (cka, 3000, .inl f_4)), (cb, .inl (ckb, 3000, .inl f_5)), (cplace, .inl (ckplace, 3000, .inl f_6)), (cnext, .inl (cknext, 3000, .inl f_13)), (cneeded, .inl (ckneeded, 3000, .inl f_7))]) [0, 1, 2, 3, 4, 5, 6] (by decide) rfl
          have hK9 := hK.sub (tys' := [(ckop, .int), (cka, .int), (ckb, .int), (ckplace, .int), (cknext, .int), (ckneeded, .int)]) [0, 1, 2, 3, 4, 5] rfl
          exact W.iret (v := z) hx hb hr (fun t ht hW => ⟨⟨z, (x_2, ta, f_3, f_4, f_5, f_6, f_13, f_7), rfl, ⟨by omega, by omega, by omega, by omega, by omega, by omega, by omega, hp_f_13⟩, by rw [ht]; exact hP9, va_K.moved hW.alike hK9, hD9⟩, hS.F ht⟩) hS.2.2 dX2_insertBehind_121
        · have ic_14 : be.toInt = ta.toInt := zi_eq c_14
          refine lv_aload_n hx hb dX2_insertBehind_113 rfl (lv_at hl 1 rfl) ?_
          refine lv_iload hx hb dX2_insertBehind_114 (lv_at hl 0 rfl) ?_
          refine va_put (D := (dC, dI)) (ci := 2) (v := .int z) (ty := .int) (C := RX2) (T := TX2) (N := 8) hx hb hA zin_X2 tyX2 tyX2_ok nmX2 hown hK hP hD hS 0 rfl rfl 7 (by decide) (hA _ wi_200) (fun _ h9 => h9) rfl (by decide +kernel) rfl rfl (Nat.le_of_ble_eq_true rfl) dX2_insertBehind_116 (fun H locs hP hD hS => ?_)
          have hP : va_P (dC, dI) vwCl [(h0, .inr (2, [.ref cop, .ref ca, .ref cb, .ref cplace, .ref cnext, .ref cneeded, .int x_2, .int z])), (cop, .inl (ckop, 3000, .inl f_3)), (ca, .inl (cka, 3000, .inl f_4)), (cb, .inl (ckb, 3000, .inl f_5)), (cplace, .inl (ckplace, 3000, .inl f_6)), (cnext, .inl (cknext, 3000, .inl f_13)), (cneeded, .inl (ckneeded, 3000, .inl f_7))] H := hP
          have hD : va_D A [(h0, .inr (2, [.ref cop, .ref ca, .ref cb, .ref cplace, .ref cnext, .ref cneeded, .int x_2, .int z])), (cop, .inl (ckop, 3000, .inl f_3)), (ca, .inl (cka, 3000, .inl f_4)), (cb, .inl (ckb, 3000, .inl f_5)), (cplace, .inl (ckplace, 3000, .inl f_6)), (cnext, .inl (cknext, 3000, .inl f_13)), (cneeded, .inl (ckneeded, 3000, .inl f_7))] := hD
          refine lv_iload hx hb dX2_insertBehind_119 (lv_at hl 0 rfl) ?_
          have hP9 := hP.sub (ws' := [(h0, .inr (2, [.ref cop, .ref ca, .ref cb, .ref cplace, .ref cnext, .ref cneeded, .int x_2, .int z])), (cop, .inl (ckop, 3000, .inl f_3)), (ca, .inl (cka, 3000, .inl f_4)), (cb, .inl (ckb, 3000, .inl f_5)), (cplace, .inl (ckplace, 3000, .inl f_6)), (cnext, .inl (cknext, 3000, .inl f_13)), (cneeded, .inl (ckneeded, 3000, .inl f_7))]) [0, 1, 2, 3, 4, 5, 6] rfl
          have hD9 := hD.sub (ws' := [(h0, .inr (2, [.ref cop, .ref ca, .ref cb, .ref cplace, .ref cnext, .ref cneeded, .int x_2, .int z])), (cop, .inl (ckop, 3000, .inl f_3)), (ca, .inl (cka, 3000, .inl f_4)), (cb, .inl (ckb, 3000, .inl f_5)), (cplace, .inl (ckplace, 3000, .inl f_6)), (cnext, .inl (cknext, 3000, .inl f_13)), (cneeded, .inl (ckneeded, 3000, .inl f_7))]) [0, 1, 2, 3, 4, 5, 6] (by decide) rfl
          have hK9 := hK.sub (tys' := [(ckop, .int), (cka, .int), (ckb, .int), (ckplace, .int), (cknext, .int), (ckneeded, .int)]) [0, 1, 2, 3, 4, 5] rfl
          exact W.iret (v := z) hx hb hr (fun t ht hW => ⟨⟨z, (x_2, z, f_3, f_4, f_5, f_6, f_13, f_7), rfl, ⟨by omega, by omega, by omega, by omega, by omega, by omega, by omega, hp_f_13⟩, by rw [ht]; exact hP9, va_K.moved hW.alike hK9, hD9⟩, hS.F ht⟩) hS.2.2 dX2_insertBehind_121
    · have ic_8 : be.toInt = (-1) := zi_eq c_8
      refine lv_iconst (v := (-1)) hx hb dX2_insertBehind_81 (by decide) ?_
      refine lv_goto (tgt := 91) hx hb dX2_insertBehind_82 (by decide) ?_
      refine va_iast hx hb hK hP hD hS 5 4 rfl rfl (vp_in_iff.mpr ⟨by omega, by omega⟩) dX2_insertBehind_91 (fun H locs hP hD hS => ?_)
      obtain ⟨f_15, ef_15⟩ : ∃ gz9 : Nat → Int32, gz9 = upd gnext (Int32.toNatClampNeg z) (-1) := ⟨_, rfl⟩
      rw [← ef_15] at hP hD
      have hp_f_15 : zx 3000 f_15 := by rw [ef_15]; exact zx_upd hgn (by have h9 : Int32.toInt (-1) = (-1) := (by decide); omega) (by have h9 : Int32.toInt (-1) = (-1) := (by decide); omega)
      have hP : va_P (dC, dI) vwCl [(h0, .inr (2, [.ref cop, .ref ca, .ref cb, .ref cplace, .ref cnext, .ref cneeded, .int x_2, .int ta])), (cop, .inl (ckop, 3000, .inl f_3)), (ca, .inl (cka, 3000, .inl f_4)), (cb, .inl (ckb, 3000, .inl f_5)), (cplace, .inl (ckplace, 3000, .inl f_6)), (cnext, .inl (cknext, 3000, .inl f_15)), (cneeded, .inl (ckneeded, 3000, .inl f_7))] H := hP
      have hD : va_D A [(h0, .inr (2, [.ref cop, .ref ca, .ref cb, .ref cplace, .ref cnext, .ref cneeded, .int x_2, .int ta])), (cop, .inl (ckop, 3000, .inl f_3)), (ca, .inl (cka, 3000, .inl f_4)), (cb, .inl (ckb, 3000, .inl f_5)), (cplace, .inl (ckplace, 3000, .inl f_6)), (cnext, .inl (cknext, 3000, .inl f_15)), (cneeded, .inl (ckneeded, 3000, .inl f_7))] := hD
      refine lv_iload_n hx hb dX2_insertBehind_92 rfl (lv_at hl 2 rfl) ?_
      refine lv_iconst (v := (-1)) hx hb dX2_insertBehind_93 (by decide) ?_
      refine lv_icmp_eq (tgt := 105) hx hb dX2_insertBehind_94 (by decide) (fun c_16 => ?_) (fun c_16 => ?_)
      · have ic_16 : be.toInt = (-1) := zi_eq c_16
        refine lv_iload_n hx hb dX2_insertBehind_105 rfl (lv_at hl 2 rfl) ?_
        refine lv_aload_n hx hb dX2_insertBehind_106 rfl (lv_at hl 1 rfl) ?_
        refine va_get (D := (dC, dI)) (ci := 2) (v := .int ta) (C := RX2) (T := TX2) (N := 8) hx hb hA zin_X2 hown hK hP 0 rfl rfl 7 (by decide) (hA _ wi_200) (fun _ h9 => h9) rfl dX2_insertBehind_107 ?_
        refine lv_icmp_ne (tgt := 119) hx hb dX2_insertBehind_110 (by decide) (fun c_17 => ?_) (fun c_17 => ?_)
        · have ic_17 : be.toInt ≠ ta.toInt := zi_ne c_17
          refine lv_iload hx hb dX2_insertBehind_119 (lv_at hl 0 rfl) ?_
          have hP9 := hP.sub (ws' := [(h0, .inr (2, [.ref cop, .ref ca, .ref cb, .ref cplace, .ref cnext, .ref cneeded, .int x_2, .int ta])), (cop, .inl (ckop, 3000, .inl f_3)), (ca, .inl (cka, 3000, .inl f_4)), (cb, .inl (ckb, 3000, .inl f_5)), (cplace, .inl (ckplace, 3000, .inl f_6)), (cnext, .inl (cknext, 3000, .inl f_15)), (cneeded, .inl (ckneeded, 3000, .inl f_7))]) [0, 1, 2, 3, 4, 5, 6] rfl
          have hD9 := hD.sub (ws' := [(h0, .inr (2, [.ref cop, .ref ca, .ref cb, .ref cplace, .ref cnext, .ref cneeded, .int x_2, .int ta])), (cop, .inl (ckop, 3000, .inl f_3)), (ca, .inl (cka, 3000, .inl f_4)), (cb, .inl (ckb, 3000, .inl f_5)), (cplace, .inl (ckplace, 3000, .inl f_6)), (cnext, .inl (cknext, 3000, .inl f_15)), (cneeded, .inl (ckneeded, 3000, .inl f_7))]) [0, 1, 2, 3, 4, 5, 6] (by decide) rfl
          have hK9 := hK.sub (tys' := [(ckop, .int), (cka, .int), (ckb, .int), (ckplace, .int), (cknext, .int), (ckneeded, .int)]) [0, 1, 2, 3, 4, 5] rfl
          exact W.iret (v := z) hx hb hr (fun t ht hW => ⟨⟨z, (x_2, ta, f_3, f_4, f_5, f_6, f_15, f_7), rfl, ⟨by omega, by omega, by omega, by omega, by omega, by omega, by omega, hp_f_15⟩, by rw [ht]; exact hP9, va_K.moved hW.alike hK9, hD9⟩, hS.F ht⟩) hS.2.2 dX2_insertBehind_121
        · have ic_17 : be.toInt = ta.toInt := zi_eq c_17
          refine lv_aload_n hx hb dX2_insertBehind_113 rfl (lv_at hl 1 rfl) ?_
          refine lv_iload hx hb dX2_insertBehind_114 (lv_at hl 0 rfl) ?_
          refine va_put (D := (dC, dI)) (ci := 2) (v := .int z) (ty := .int) (C := RX2) (T := TX2) (N := 8) hx hb hA zin_X2 tyX2 tyX2_ok nmX2 hown hK hP hD hS 0 rfl rfl 7 (by decide) (hA _ wi_200) (fun _ h9 => h9) rfl (by decide +kernel) rfl rfl (Nat.le_of_ble_eq_true rfl) dX2_insertBehind_116 (fun H locs hP hD hS => ?_)
          have hP : va_P (dC, dI) vwCl [(h0, .inr (2, [.ref cop, .ref ca, .ref cb, .ref cplace, .ref cnext, .ref cneeded, .int x_2, .int z])), (cop, .inl (ckop, 3000, .inl f_3)), (ca, .inl (cka, 3000, .inl f_4)), (cb, .inl (ckb, 3000, .inl f_5)), (cplace, .inl (ckplace, 3000, .inl f_6)), (cnext, .inl (cknext, 3000, .inl f_15)), (cneeded, .inl (ckneeded, 3000, .inl f_7))] H := hP
          have hD : va_D A [(h0, .inr (2, [.ref cop, .ref ca, .ref cb, .ref cplace, .ref cnext, .ref cneeded, .int x_2, .int z])), (cop, .inl (ckop, 3000, .inl f_3)), (ca, .inl (cka, 3000, .inl f_4)), (cb, .inl (ckb, 3000, .inl f_5)), (cplace, .inl (ckplace, 3000, .inl f_6)), (cnext, .inl (cknext, 3000, .inl f_15)), (cneeded, .inl (ckneeded, 3000, .inl f_7))] := hD
          refine lv_iload hx hb dX2_insertBehind_119 (lv_at hl 0 rfl) ?_
          have hP9 := hP.sub (ws' := [(h0, .inr (2, [.ref cop, .ref ca, .ref cb, .ref cplace, .ref cnext, .ref cneeded, .int x_2, .int z])), (cop, .inl (ckop, 3000, .inl f_3)), (ca, .inl (cka, 3000, .inl f_4)), (cb, .inl (ckb, 3000, .inl f_5)), (cplace, .inl (ckplace, 3000, .inl f_6)), (cnext, .inl (cknext, 3000, .inl f_15)), (cneeded, .inl (ckneeded, 3000, .inl f_7))]) [0, 1, 2, 3, 4, 5, 6] rfl
          have hD9 := hD.sub (ws' := [(h0, .inr (2, [.ref cop, .ref ca, .ref cb, .ref cplace, .ref cnext, .ref cneeded, .int x_2, .int z])), (cop, .inl (ckop, 3000, .inl f_3)), (ca, .inl (cka, 3000, .inl f_4)), (cb, .inl (ckb, 3000, .inl f_5)), (cplace, .inl (ckplace, 3000, .inl f_6)), (cnext, .inl (cknext, 3000, .inl f_15)), (cneeded, .inl (ckneeded, 3000, .inl f_7))]) [0, 1, 2, 3, 4, 5, 6] (by decide) rfl
          have hK9 := hK.sub (tys' := [(ckop, .int), (cka, .int), (ckb, .int), (ckplace, .int), (cknext, .int), (ckneeded, .int)]) [0, 1, 2, 3, 4, 5] rfl
          exact W.iret (v := z) hx hb hr (fun t ht hW => ⟨⟨z, (x_2, z, f_3, f_4, f_5, f_6, f_15, f_7), rfl, ⟨by omega, by omega, by omega, by omega, by omega, by omega, by omega, hp_f_15⟩, by rw [ht]; exact hP9, va_K.moved hW.alike hK9, hD9⟩, hS.F ht⟩) hS.2.2 dX2_insertBehind_121
      · have ic_16 : be.toInt ≠ (-1) := zi_ne c_16
        refine lv_aload_n hx hb dX2_insertBehind_97 rfl (lv_at hl 1 rfl) ?_
        refine va_get (D := (dC, dI)) (ci := 2) (v := .ref cnext) (C := RX2) (T := TX2) (N := 8) hx hb hA zin_X2 hown hK hP 0 rfl rfl 4 (by decide) (hA _ wi_191) (fun _ h9 => h9) rfl dX2_insertBehind_98 ?_
        refine lv_iload_n hx hb dX2_insertBehind_101 rfl (lv_at hl 2 rfl) ?_
        refine lv_iload hx hb dX2_insertBehind_102 (lv_at hl 0 rfl) ?_
        refine va_iast hx hb hK hP hD hS 5 4 rfl rfl (vp_in_iff.mpr ⟨by omega, by omega⟩) dX2_insertBehind_104 (fun H locs hP hD hS => ?_)
        obtain ⟨f_18, ef_18⟩ : ∃ gz9 : Nat → Int32, gz9 = upd f_15 (Int32.toNatClampNeg be) z := ⟨_, rfl⟩
        rw [← ef_18] at hP hD
        have hp_f_18 : zx 3000 f_18 := by rw [ef_18]; exact zx_upd hp_f_15 (by omega) (by omega)
        have hP : va_P (dC, dI) vwCl [(h0, .inr (2, [.ref cop, .ref ca, .ref cb, .ref cplace, .ref cnext, .ref cneeded, .int x_2, .int ta])), (cop, .inl (ckop, 3000, .inl f_3)), (ca, .inl (cka, 3000, .inl f_4)), (cb, .inl (ckb, 3000, .inl f_5)), (cplace, .inl (ckplace, 3000, .inl f_6)), (cnext, .inl (cknext, 3000, .inl f_18)), (cneeded, .inl (ckneeded, 3000, .inl f_7))] H := hP
        have hD : va_D A [(h0, .inr (2, [.ref cop, .ref ca, .ref cb, .ref cplace, .ref cnext, .ref cneeded, .int x_2, .int ta])), (cop, .inl (ckop, 3000, .inl f_3)), (ca, .inl (cka, 3000, .inl f_4)), (cb, .inl (ckb, 3000, .inl f_5)), (cplace, .inl (ckplace, 3000, .inl f_6)), (cnext, .inl (cknext, 3000, .inl f_18)), (cneeded, .inl (ckneeded, 3000, .inl f_7))] := hD
        refine lv_iload_n hx hb dX2_insertBehind_105 rfl (lv_at hl 2 rfl) ?_
        refine lv_aload_n hx hb dX2_insertBehind_106 rfl (lv_at hl 1 rfl) ?_
        refine va_get (D := (dC, dI)) (ci := 2) (v := .int ta) (C := RX2) (T := TX2) (N := 8) hx hb hA zin_X2 hown hK hP 0 rfl rfl 7 (by decide) (hA _ wi_200) (fun _ h9 => h9) rfl dX2_insertBehind_107 ?_
        refine lv_icmp_ne (tgt := 119) hx hb dX2_insertBehind_110 (by decide) (fun c_19 => ?_) (fun c_19 => ?_)
        · have ic_19 : be.toInt ≠ ta.toInt := zi_ne c_19
          refine lv_iload hx hb dX2_insertBehind_119 (lv_at hl 0 rfl) ?_
          have hP9 := hP.sub (ws' := [(h0, .inr (2, [.ref cop, .ref ca, .ref cb, .ref cplace, .ref cnext, .ref cneeded, .int x_2, .int ta])), (cop, .inl (ckop, 3000, .inl f_3)), (ca, .inl (cka, 3000, .inl f_4)), (cb, .inl (ckb, 3000, .inl f_5)), (cplace, .inl (ckplace, 3000, .inl f_6)), (cnext, .inl (cknext, 3000, .inl f_18)), (cneeded, .inl (ckneeded, 3000, .inl f_7))]) [0, 1, 2, 3, 4, 5, 6] rfl
          have hD9 := hD.sub (ws' := [(h0, .inr (2, [.ref cop, .ref ca, .ref cb, .ref cplace, .ref cnext, .ref cneeded, .int x_2, .int ta])), (cop, .inl (ckop, 3000, .inl f_3)), (ca, .inl (cka, 3000, .inl f_4)), (cb, .inl (ckb, 3000, .inl f_5)), (cplace, .inl (ckplace, 3000, .inl f_6)), (cnext, .inl (cknext, 3000, .inl f_18)), (cneeded, .inl (ckneeded, 3000, .inl f_7))]) [0, 1, 2, 3, 4, 5, 6] (by decide) rfl
          have hK9 := hK.sub (tys' := [(ckop, .int), (cka, .int), (ckb, .int), (ckplace, .int), (cknext, .int), (ckneeded, .int)]) [0, 1, 2, 3, 4, 5] rfl
          exact W.iret (v := z) hx hb hr (fun t ht hW => ⟨⟨z, (x_2, ta, f_3, f_4, f_5, f_6, f_18, f_7), rfl, ⟨by omega, by omega, by omega, by omega, by omega, by omega, by omega, hp_f_18⟩, by rw [ht]; exact hP9, va_K.moved hW.alike hK9, hD9⟩, hS.F ht⟩) hS.2.2 dX2_insertBehind_121
        · have ic_19 : be.toInt = ta.toInt := zi_eq c_19
          refine lv_aload_n hx hb dX2_insertBehind_113 rfl (lv_at hl 1 rfl) ?_
          refine lv_iload hx hb dX2_insertBehind_114 (lv_at hl 0 rfl) ?_
          refine va_put (D := (dC, dI)) (ci := 2) (v := .int z) (ty := .int) (C := RX2) (T := TX2) (N := 8) hx hb hA zin_X2 tyX2 tyX2_ok nmX2 hown hK hP hD hS 0 rfl rfl 7 (by decide) (hA _ wi_200) (fun _ h9 => h9) rfl (by decide +kernel) rfl rfl (Nat.le_of_ble_eq_true rfl) dX2_insertBehind_116 (fun H locs hP hD hS => ?_)
          have hP : va_P (dC, dI) vwCl [(h0, .inr (2, [.ref cop, .ref ca, .ref cb, .ref cplace, .ref cnext, .ref cneeded, .int x_2, .int z])), (cop, .inl (ckop, 3000, .inl f_3)), (ca, .inl (cka, 3000, .inl f_4)), (cb, .inl (ckb, 3000, .inl f_5)), (cplace, .inl (ckplace, 3000, .inl f_6)), (cnext, .inl (cknext, 3000, .inl f_18)), (cneeded, .inl (ckneeded, 3000, .inl f_7))] H := hP
          have hD : va_D A [(h0, .inr (2, [.ref cop, .ref ca, .ref cb, .ref cplace, .ref cnext, .ref cneeded, .int x_2, .int z])), (cop, .inl (ckop, 3000, .inl f_3)), (ca, .inl (cka, 3000, .inl f_4)), (cb, .inl (ckb, 3000, .inl f_5)), (cplace, .inl (ckplace, 3000, .inl f_6)), (cnext, .inl (cknext, 3000, .inl f_18)), (cneeded, .inl (ckneeded, 3000, .inl f_7))] := hD
          refine lv_iload hx hb dX2_insertBehind_119 (lv_at hl 0 rfl) ?_
          have hP9 := hP.sub (ws' := [(h0, .inr (2, [.ref cop, .ref ca, .ref cb, .ref cplace, .ref cnext, .ref cneeded, .int x_2, .int z])), (cop, .inl (ckop, 3000, .inl f_3)), (ca, .inl (cka, 3000, .inl f_4)), (cb, .inl (ckb, 3000, .inl f_5)), (cplace, .inl (ckplace, 3000, .inl f_6)), (cnext, .inl (cknext, 3000, .inl f_18)), (cneeded, .inl (ckneeded, 3000, .inl f_7))]) [0, 1, 2, 3, 4, 5, 6] rfl
          have hD9 := hD.sub (ws' := [(h0, .inr (2, [.ref cop, .ref ca, .ref cb, .ref cplace, .ref cnext, .ref cneeded, .int x_2, .int z])), (cop, .inl (ckop, 3000, .inl f_3)), (ca, .inl (cka, 3000, .inl f_4)), (cb, .inl (ckb, 3000, .inl f_5)), (cplace, .inl (ckplace, 3000, .inl f_6)), (cnext, .inl (cknext, 3000, .inl f_18)), (cneeded, .inl (ckneeded, 3000, .inl f_7))]) [0, 1, 2, 3, 4, 5, 6] (by decide) rfl
          have hK9 := hK.sub (tys' := [(ckop, .int), (cka, .int), (ckb, .int), (ckplace, .int), (cknext, .int), (ckneeded, .int)]) [0, 1, 2, 3, 4, 5] rfl
          exact W.iret (v := z) hx hb hr (fun t ht hW => ⟨⟨z, (x_2, z, f_3, f_4, f_5, f_6, f_18, f_7), rfl, ⟨by omega, by omega, by omega, by omega, by omega, by omega, by omega, hp_f_18⟩, by rw [ht]; exact hP9, va_K.moved hW.alike hK9, hD9⟩, hS.F ht⟩) hS.2.2 dX2_insertBehind_121
  · have ic_1 : 3000 ≤ z.toInt := zi_nlt c_1
    refine lv_sipush (v := 2999) hx hb dX2_insertBehind_10 (by decide) ?_
    have hlit : Int32.toInt 2999 = 2999 := by decide
    have hP9 := hP.sub (ws' := [(h0, .inr (2, [.ref cop, .ref ca, .ref cb, .ref cplace, .ref cnext, .ref cneeded, .int z, .int ta])), (cop, .inl (ckop, 3000, .inl gop)), (ca, .inl (cka, 3000, .inl ga)), (cb, .inl (ckb, 3000, .inl gb)), (cplace, .inl (ckplace, 3000, .inl gplace)), (cnext, .inl (cknext, 3000, .inl gnext)), (cneeded, .inl (ckneeded, 3000, .inl gneeded))]) [0, 1, 2, 3, 4, 5, 6] rfl
    have hD9 := hD.sub (ws' := [(h0, .inr (2, [.ref cop, .ref ca, .ref cb, .ref cplace, .ref cnext, .ref cneeded, .int z, .int ta])), (cop, .inl (ckop, 3000, .inl gop)), (ca, .inl (cka, 3000, .inl ga)), (cb, .inl (ckb, 3000, .inl gb)), (cplace, .inl (ckplace, 3000, .inl gplace)), (cnext, .inl (cknext, 3000, .inl gnext)), (cneeded, .inl (ckneeded, 3000, .inl gneeded))]) [0, 1, 2, 3, 4, 5, 6] (by decide) rfl
    have hK9 := hK.sub (tys' := [(ckop, .int), (cka, .int), (ckb, .int), (ckplace, .int), (cknext, .int), (ckneeded, .int)]) [0, 1, 2, 3, 4, 5] rfl
    exact W.iret (v := 2999) hx hb hr (fun t ht hW => ⟨⟨2999, (z, ta, gop, ga, gb, gplace, gnext, gneeded), rfl, ⟨by omega, by omega, by omega, by omega, by omega, by omega, by omega, hgn⟩, by rw [ht]; exact hP9, va_K.moved hW.alike hK9, hD9⟩, hS.F ht⟩) hS.2.2 dX2_insertBehind_13
set_option maxHeartbeats 4000000 in
set_option maxRecDepth 100000 in
theorem c_X2_append (l : Launch) (dC : Nat → ClassId) (dI : Nat → Nat → Nat) (aK aV : Nat → Nat) (h0 : Nat) (cop : Nat) (ca : Nat) (cb : Nat) (cplace : Nat) (cnext : Nat) (cneeded : Nat) (ckop : ClassId) (cka : ClassId) (ckb : ClassId) (ckplace : ClassId) (cknext : ClassId) (ckneeded : ClassId) (z : Int32) (ta : Int32) (gop : Nat → Int32) (ga : Nat → Int32) (gb : Nat → Int32) (gplace : Nat → Int32) (gnext : Nat → Int32) (gneeded : Nat → Int32) (o : Int32) (wh : Int32) (nu : Int32) (sz : Nat) (hz0 : 0 ≤ z.toInt) (hz1 : z.toInt ≤ 3000) (ht0 : -1 ≤ ta.toInt) (ht1 : ta.toInt < 3000) (hgn : zx 3000 gnext) : Met l yX2_append (Cond.code yX2_append cX2_append 5 (some .int) :: zw) ({ frames := 10, cells := 0, slots := 0, locals := 300 }) (va_Pc [.ref h0, .int o, .int wh, .int nu] (zP dC dI aK aV sz [(ckop, .int), (cka, .int), (ckb, .int), (ckplace, .int), (cknext, .int), (ckneeded, .int)] [(h0, .inr (2, [.ref cop, .ref ca, .ref cb, .ref cplace, .ref cnext, .ref cneeded, .int z, .int ta])), (cop, .inl (ckop, 3000, .inl gop)), (ca, .inl (cka, 3000, .inl ga)), (cb, .inl (ckb, 3000, .inl gb)), (cplace, .inl (ckplace, 3000, .inl gplace)), (cnext, .inl (cknext, 3000, .inl gnext)), (cneeded, .inl (ckneeded, 3000, .inl gneeded))])) (va_Qi (fun (r : Int32) (u : Int32 × Int32 × (Nat → Int32) × (Nat → Int32) × (Nat → Int32) × (Nat → Int32) × (Nat → Int32) × (Nat → Int32)) => match u with | (z2, t2, nop, na, nb, nplace, nnext, nneeded) => (0 ≤ r.toInt) ∧ (r.toInt < 3000) ∧ (z.toInt ≤ z2.toInt) ∧ (z2.toInt ≤ z.toInt + 1) ∧ (z2.toInt ≤ 3000) ∧ (-1 ≤ t2.toInt) ∧ (t2.toInt < 3000) ∧ (zx 3000 nnext)) (fun u => match u with | (z2, t2, nop, na, nb, nplace, nnext, nneeded) => zQ dC dI (va_A [(h0, .inr (2, [.ref cop, .ref ca, .ref cb, .ref cplace, .ref cnext, .ref cneeded, .int z, .int ta])), (cop, .inl (ckop, 3000, .inl gop)), (ca, .inl (cka, 3000, .inl ga)), (cb, .inl (ckb, 3000, .inl gb)), (cplace, .inl (ckplace, 3000, .inl gplace)), (cnext, .inl (cknext, 3000, .inl gnext)), (cneeded, .inl (ckneeded, 3000, .inl gneeded))] sz) [(ckop, .int), (cka, .int), (ckb, .int), (ckplace, .int), (cknext, .int), (ckneeded, .int)] [(h0, .inr (2, [.ref cop, .ref ca, .ref cb, .ref cplace, .ref cnext, .ref cneeded, .int z2, .int t2])), (cop, .inl (ckop, 3000, .inl nop)), (ca, .inl (cka, 3000, .inl na)), (cb, .inl (ckb, 3000, .inl nb)), (cplace, .inl (ckplace, 3000, .inl nplace)), (cnext, .inl (cknext, 3000, .inl nnext)), (cneeded, .inl (ckneeded, 3000, .inl nneeded))]) (va_A [(h0, .inr (2, [.ref cop, .ref ca, .ref cb, .ref cplace, .ref cnext, .ref cneeded, .int z, .int ta])), (cop, .inl (ckop, 3000, .inl gop)), (ca, .inl (cka, 3000, .inl ga)), (cb, .inl (ckb, 3000, .inl gb)), (cplace, .inl (ckplace, 3000, .inl gplace)), (cnext, .inl (cknext, 3000, .inl gnext)), (cneeded, .inl (ckneeded, 3000, .inl gneeded))] sz)) 0 0 (va_A [(h0, .inr (2, [.ref cop, .ref ca, .ref cb, .ref cplace, .ref cnext, .ref cneeded, .int z, .int ta])), (cop, .inl (ckop, 3000, .inl gop)), (ca, .inl (cka, 3000, .inl ga)), (cb, .inl (ckb, 3000, .inl gb)), (cplace, .inl (ckplace, 3000, .inl gplace)), (cnext, .inl (cknext, 3000, .inl gnext)), (cneeded, .inl (ckneeded, 3000, .inl gneeded))] sz) := by
  refine Met.ofW (cc := cX2_append) (maxL := 5) (ret := (some .int)) (by decide) rfl ?_
  intro p e s m args below meth c s₁ B hml hv
  obtain ⟨rfl, hsz, hP, hK, hD0, hN, hT⟩ := hv
  have hx := B.exec
  have hb := B.bytes
  have hr := B.returns
  have hts := atoms_spec (ws := Cond.code yX2_append cX2_append 5 (some .int) :: zw) B.pre
  have hA : ∀ w ∈ zw, w.before _ s = true := fun w h => hts w (List.mem_cons_of_mem _ h)
  have hown : s.vm.findClass RX2 = some m.cls := findClass_of_methodNamed B.named
  have hlocks := B.notSynchronized
  subst hsz
  have hD := hD0.self (sz := s.heap.size)
  generalize hAe : va_A [(h0, .inr (2, [.ref cop, .ref ca, .ref cb, .ref cplace, .ref cnext, .ref cneeded, .int z, .int ta])), (cop, .inl (ckop, 3000, .inl gop)), (ca, .inl (cka, 3000, .inl ga)), (cb, .inl (ckb, 3000, .inl gb)), (cplace, .inl (ckplace, 3000, .inl gplace)), (cnext, .inl (cknext, 3000, .inl gnext)), (cneeded, .inl (ckneeded, 3000, .inl gneeded))] s.heap.size = A at hD hT ⊢
  have hAA : ∀ q : Nat, s.heap.size ≤ q → A q := fun q h => by rw [← hAe]; exact Or.inr h
  have hS : va_S A s.heap s.heap [] := va_S.rf
  have hl := lv_entry ([.ref h0, .int o, .int wh, .int nu]) (n := 5) (Nat.le_of_ble_eq_true rfl)
  rw [lg_entry_eq]
  generalize (lg_sl ([.ref h0, .int o, .int wh, .int nu]) ++ List.replicate (5 - (lg_sl ([.ref h0, .int o, .int wh, .int nu])).length) Slot.unset).toArray = ls at hl ⊢
  have hl : lv_has ls 5 [(0, .ref h0), (1, .int o), (2, .int wh), (3, .int nu)] := hl
  refine lv_aload_n hx hb dX2_append_0 rfl (lv_at hl 0 rfl) ?_
  refine lv_aload_n hx hb dX2_append_1 rfl (lv_at hl 0 rfl) ?_
  refine va_get (D := (dC, dI)) (ci := 2) (v := .int ta) (C := RX2) (T := TX2) (N := 8) hx hb hA zin_X2 hown hK hP 0 rfl rfl 7 (by decide) (hA _ wi_200) (fun _ h9 => h9) rfl dX2_append_2 ?_
  refine lv_iload_n hx hb dX2_append_5 rfl (lv_at hl 1 rfl) ?_
  refine lv_iload_n hx hb dX2_append_6 rfl (lv_at hl 2 rfl) ?_
  have hPc := hP.sub (ws' := [(h0, .inr (2, [.ref cop, .ref ca, .ref cb, .ref cplace, .ref cnext, .ref cneeded, .int z, .int ta])), (cop, .inl (ckop, 3000, .inl gop)), (ca, .inl (cka, 3000, .inl ga)), (cb, .inl (ckb, 3000, .inl gb)), (cplace, .inl (ckplace, 3000, .inl gplace)), (cnext, .inl (cknext, 3000, .inl gnext)), (cneeded, .inl (ckneeded, 3000, .inl gneeded))]) [0, 1, 2, 3, 4, 5, 6] rfl
  have hDc := hD.sub (ws' := [(h0, .inr (2, [.ref cop, .ref ca, .ref cb, .ref cplace, .ref cnext, .ref cneeded, .int z, .int ta])), (cop, .inl (ckop, 3000, .inl gop)), (ca, .inl (cka, 3000, .inl ga)), (cb, .inl (ckb, 3000, .inl gb)), (cplace, .inl (ckplace, 3000, .inl gplace)), (cnext, .inl (cknext, 3000, .inl gnext)), (cneeded, .inl (ckneeded, 3000, .inl gneeded))]) [0, 1, 2, 3, 4, 5, 6] (by decide) rfl
  have hKc := hK.sub (tys' := [(ckop, .int), (cka, .int), (ckb, .int), (ckplace, .int), (cknext, .int), (ckneeded, .int)]) [0, 1, 2, 3, 4, 5] rfl
  have hFc := va_free (wc := [(h0, .inr (2, [.ref cop, .ref ca, .ref cb, .ref cplace, .ref cnext, .ref cneeded, .int z, .int ta])), (cop, .inl (ckop, 3000, .inl gop)), (ca, .inl (cka, 3000, .inl ga)), (cb, .inl (ckb, 3000, .inl gb)), (cplace, .inl (ckplace, 3000, .inl gplace)), (cnext, .inl (cknext, 3000, .inl gnext)), (cneeded, .inl (ckneeded, 3000, .inl gneeded))]) hD hS hAA [0, 1, 2, 3, 4, 5, 6] rfl
  refine va_calli (va_runV (As := [.int ta, .int o, .int wh]) (rest := []) ⟨hx, hb, hml, hown, hA⟩ (c_X2_insertBehind l dC dI aK aV h0 cop ca cb cplace cnext cneeded ckop cka ckb ckplace cknext ckneeded z ta gop ga gb gplace gnext gneeded ta o wh s.heap.size (by omega) (by omega) (by omega) (by omega) hgn (by omega) (by omega)) (cwV 3 hA (zw_V wi_922 wi_923 wi_924 wi_132 (zw_good wi_925)) rfl rfl rfl (by decide +kernel) ⟨(Nat.le_of_ble_eq_true rfl), (Nat.le_of_ble_eq_true rfl)⟩) ⟨zP_blind, va_recv hKc hPc (ci := 2) (q0 := 0) rfl rfl, zz_pre hKc hPc hDc hN hT hS hFc⟩ rfl rfl hl.1 rfl (lv_room (Nat.le_of_ble_eq_true rfl)) dX2_append_7 ⟨(Nat.le_of_ble_eq_true rfl), (Nat.le_of_ble_eq_true rfl)⟩) hS (fun q _ h => hFc q h) hFc (fun r_1 u t H1 locs ht hvm hw hB hz1 hk1 hS => ?_)
  obtain ⟨z_2, t_3, nop_4, na_5, nb_6, nplace_7, nnext_8, nneeded_9⟩ := u
  obtain ⟨hP1, hK1, hD1⟩ := hB
  rw [ht] at hP1
  have hK1 := va_K.moved hvm.symm hK1
  obtain ⟨hP, hD⟩ := va_join (wr := []) (w1 := [(h0, .inr (2, [.ref cop, .ref ca, .ref cb, .ref cplace, .ref cnext, .ref cneeded, .int z_2, .int t_3])), (cop, .inl (ckop, 3000, .inl nop_4)), (ca, .inl (cka, 3000, .inl na_5)), (cb, .inl (ckb, 3000, .inl nb_6)), (cplace, .inl (ckplace, 3000, .inl nplace_7)), (cnext, .inl (cknext, 3000, .inl nnext_8)), (cneeded, .inl (ckneeded, 3000, .inl nneeded_9))]) hP hD [0, 1, 2, 3, 4, 5, 6] [] rfl rfl (by decide) (by decide) hk1 hFc hP1 hD1
  have hK := (hK.sub (tys' := []) [] rfl).app hK1
  generalize H1 = H at hP hS ⊢
  have hP : va_P (dC, dI) vwCl [(h0, .inr (2, [.ref cop, .ref ca, .ref cb, .ref cplace, .ref cnext, .ref cneeded, .int z_2, .int t_3])), (cop, .inl (ckop, 3000, .inl nop_4)), (ca, .inl (cka, 3000, .inl na_5)), (cb, .inl (ckb, 3000, .inl nb_6)), (cplace, .inl (ckplace, 3000, .inl nplace_7)), (cnext, .inl (cknext, 3000, .inl nnext_8)), (cneeded, .inl (ckneeded, 3000, .inl nneeded_9))] H := hP
  have hD : va_D A [(h0, .inr (2, [.ref cop, .ref ca, .ref cb, .ref cplace, .ref cnext, .ref cneeded, .int z_2, .int t_3])), (cop, .inl (ckop, 3000, .inl nop_4)), (ca, .inl (cka, 3000, .inl na_5)), (cb, .inl (ckb, 3000, .inl nb_6)), (cplace, .inl (ckplace, 3000, .inl nplace_7)), (cnext, .inl (cknext, 3000, .inl nnext_8)), (cneeded, .inl (ckneeded, 3000, .inl nneeded_9))] := hD
  have hK : va_K (dC, dI) vwCl [(ckop, .int), (cka, .int), (ckb, .int), (ckplace, .int), (cknext, .int), (ckneeded, .int)] s := hK
  have hw_r_1 := hw
  try dsimp only at hw_r_1
  obtain ⟨hq_10, hq_11, hq_12, hq_13, hq_14, hq_15, hq_16, hq_17⟩ := hw
  refine lv_istore (lv' := [(4, .int r_1), (0, .ref h0), (1, .int o), (2, .int wh), (3, .int nu)]) hx hb dX2_append_10 hl (by decide) rfl (fun ls hl => ?_)
  refine lv_aload_n hx hb dX2_append_12 rfl (lv_at hl 1 rfl) ?_
  refine va_get (D := (dC, dI)) (ci := 2) (v := .ref ca) (C := RX2) (T := TX2) (N := 8) hx hb hA zin_X2 hown hK hP 0 rfl rfl 1 (by decide) (hA _ wi_180) (fun _ h9 => h9) rfl dX2_append_13 ?_
  refine lv_iload hx hb dX2_append_16 (lv_at hl 0 rfl) ?_
  refine lv_iload_n hx hb dX2_append_18 rfl (lv_at hl 4 rfl) ?_
  refine va_iast hx hb hK hP hD hS 2 1 rfl rfl (vp_in_iff.mpr ⟨by omega, by omega⟩) dX2_append_19 (fun H locs hP hD hS => ?_)
  obtain ⟨f_18, ef_18⟩ : ∃ gz9 : Nat → Int32, gz9 = upd na_5 (Int32.toNatClampNeg r_1) nu := ⟨_, rfl⟩
  rw [← ef_18] at hP hD
  have hP : va_P (dC, dI) vwCl [(h0, .inr (2, [.ref cop, .ref ca, .ref cb, .ref cplace, .ref cnext, .ref cneeded, .int z_2, .int t_3])), (cop, .inl (ckop, 3000, .inl nop_4)), (ca, .inl (cka, 3000, .inl f_18)), (cb, .inl (ckb, 3000, .inl nb_6)), (cplace, .inl (ckplace, 3000, .inl nplace_7)), (cnext, .inl (cknext, 3000, .inl nnext_8)), (cneeded, .inl (ckneeded, 3000, .inl nneeded_9))] H := hP
  have hD : va_D A [(h0, .inr (2, [.ref cop, .ref ca, .ref cb, .ref cplace, .ref cnext, .ref cneeded, .int z_2, .int t_3])), (cop, .inl (ckop, 3000, .inl nop_4)), (ca, .inl (cka, 3000, .inl f_18)), (cb, .inl (ckb, 3000, .inl nb_6)), (cplace, .inl (ckplace, 3000, .inl nplace_7)), (cnext, .inl (cknext, 3000, .inl nnext_8)), (cneeded, .inl (ckneeded, 3000, .inl nneeded_9))] := hD
  refine lv_iload hx hb dX2_append_20 (lv_at hl 0 rfl) ?_
  have hP9 := hP.sub (ws' := [(h0, .inr (2, [.ref cop, .ref ca, .ref cb, .ref cplace, .ref cnext, .ref cneeded, .int z_2, .int t_3])), (cop, .inl (ckop, 3000, .inl nop_4)), (ca, .inl (cka, 3000, .inl f_18)), (cb, .inl (ckb, 3000, .inl nb_6)), (cplace, .inl (ckplace, 3000, .inl nplace_7)), (cnext, .inl (cknext, 3000, .inl nnext_8)), (cneeded, .inl (ckneeded, 3000, .inl nneeded_9))]) [0, 1, 2, 3, 4, 5, 6] rfl
  have hD9 := hD.sub (ws' := [(h0, .inr (2, [.ref cop, .ref ca, .ref cb, .ref cplace, .ref cnext, .ref cneeded, .int z_2, .int t_3])), (cop, .inl (ckop, 3000, .inl nop_4)), (ca, .inl (cka, 3000, .inl f_18)), (cb, .inl (ckb, 3000, .inl nb_6)), (cplace, .inl (ckplace, 3000, .inl nplace_7)), (cnext, .inl (cknext, 3000, .inl nnext_8)), (cneeded, .inl (ckneeded, 3000, .inl nneeded_9))]) [0, 1, 2, 3, 4, 5, 6] (by decide) rfl
  have hK9 := hK.sub (tys' := [(ckop, .int), (cka, .int), (ckb, .int), (ckplace, .int), (cknext, .int), (ckneeded, .int)]) [0, 1, 2, 3, 4, 5] rfl
  exact W.iret (v := r_1) hx hb hr (fun t ht hW => ⟨⟨r_1, (z_2, t_3, nop_4, f_18, nb_6, nplace_7, nnext_8, nneeded_9), rfl, ⟨by omega, by omega, by omega, by omega, by omega, by omega, by omega, hq_17⟩, by rw [ht]; exact hP9, va_K.moved hW.alike hK9, hD9⟩, hS.F ht⟩) hS.2.2 dX2_append_22
set_option maxHeartbeats 4000000 in
set_option maxRecDepth 100000 in
theorem c_X2_appendStep (l : Launch) (dC : Nat → ClassId) (dI : Nat → Nat → Nat) (aK aV : Nat → Nat) (h0 : Nat) (cop : Nat) (ca : Nat) (cb : Nat) (cplace : Nat) (cnext : Nat) (cneeded : Nat) (ckop : ClassId) (cka : ClassId) (ckb : ClassId) (ckplace : ClassId) (cknext : ClassId) (ckneeded : ClassId) (z : Int32) (ta : Int32) (gop : Nat → Int32) (ga : Nat → Int32) (gb : Nat → Int32) (gplace : Nat → Int32) (gnext : Nat → Int32) (gneeded : Nat → Int32) (wh : Int32) (sz : Nat) (hz0 : 0 ≤ z.toInt) (hz1 : z.toInt ≤ 3000) (ht0 : -1 ≤ ta.toInt) (ht1 : ta.toInt < 3000) (hgn : zx 3000 gnext) : Met l yX2_appendStep (Cond.code yX2_appendStep cX2_appendStep 2 none :: zw) ({ frames := 10, cells := 0, slots := 0, locals := 300 }) (va_Pc [.ref h0, .int wh] (zP dC dI aK aV sz [(ckop, .int), (cka, .int), (ckb, .int), (ckplace, .int), (cknext, .int), (ckneeded, .int)] [(h0, .inr (2, [.ref cop, .ref ca, .ref cb, .ref cplace, .ref cnext, .ref cneeded, .int z, .int ta])), (cop, .inl (ckop, 3000, .inl gop)), (ca, .inl (cka, 3000, .inl ga)), (cb, .inl (ckb, 3000, .inl gb)), (cplace, .inl (ckplace, 3000, .inl gplace)), (cnext, .inl (cknext, 3000, .inl gnext)), (cneeded, .inl (ckneeded, 3000, .inl gneeded))])) (va_Qv (fun u : Int32 × Int32 × (Nat → Int32) × (Nat → Int32) × (Nat → Int32) × (Nat → Int32) × (Nat → Int32) × (Nat → Int32) => match u with | (z2, t2, nop, na, nb, nplace, nnext, nneeded) => (z.toInt ≤ z2.toInt) ∧ (z2.toInt ≤ z.toInt + 1) ∧ (z2.toInt ≤ 3000) ∧ (-1 ≤ t2.toInt) ∧ (t2.toInt < 3000) ∧ (zx 3000 nnext)) (fun u => match u with | (z2, t2, nop, na, nb, nplace, nnext, nneeded) => zQ dC dI (va_A [(h0, .inr (2, [.ref cop, .ref ca, .ref cb, .ref cplace, .ref cnext, .ref cneeded, .int z, .int ta])), (cop, .inl (ckop, 3000, .inl gop)), (ca, .inl (cka, 3000, .inl ga)), (cb, .inl (ckb, 3000, .inl gb)), (cplace, .inl (ckplace, 3000, .inl gplace)), (cnext, .inl (cknext, 3000, .inl gnext)), (cneeded, .inl (ckneeded, 3000, .inl gneeded))] sz) [(ckop, .int), (cka, .int), (ckb, .int), (ckplace, .int), (cknext, .int), (ckneeded, .int)] [(h0, .inr (2, [.ref cop, .ref ca, .ref cb, .ref cplace, .ref cnext, .ref cneeded, .int z2, .int t2])), (cop, .inl (ckop, 3000, .inl nop)), (ca, .inl (cka, 3000, .inl na)), (cb, .inl (ckb, 3000, .inl nb)), (cplace, .inl (ckplace, 3000, .inl nplace)), (cnext, .inl (cknext, 3000, .inl nnext)), (cneeded, .inl (ckneeded, 3000, .inl nneeded))]) (va_A [(h0, .inr (2, [.ref cop, .ref ca, .ref cb, .ref cplace, .ref cnext, .ref cneeded, .int z, .int ta])), (cop, .inl (ckop, 3000, .inl gop)), (ca, .inl (cka, 3000, .inl ga)), (cb, .inl (ckb, 3000, .inl gb)), (cplace, .inl (ckplace, 3000, .inl gplace)), (cnext, .inl (cknext, 3000, .inl gnext)), (cneeded, .inl (ckneeded, 3000, .inl gneeded))] sz)) 0 0 (va_A [(h0, .inr (2, [.ref cop, .ref ca, .ref cb, .ref cplace, .ref cnext, .ref cneeded, .int z, .int ta])), (cop, .inl (ckop, 3000, .inl gop)), (ca, .inl (cka, 3000, .inl ga)), (cb, .inl (ckb, 3000, .inl gb)), (cplace, .inl (ckplace, 3000, .inl gplace)), (cnext, .inl (cknext, 3000, .inl gnext)), (cneeded, .inl (ckneeded, 3000, .inl gneeded))] sz) := by
  refine Met.ofW (cc := cX2_appendStep) (maxL := 2) (ret := none) (by decide) rfl ?_
  intro p e s m args below meth c s₁ B hml hv
  obtain ⟨rfl, hsz, hP, hK, hD0, hN, hT⟩ := hv
  have hx := B.exec
  have hb := B.bytes
  have hr := B.returns
  have hts := atoms_spec (ws := Cond.code yX2_appendStep cX2_appendStep 2 none :: zw) B.pre
  have hA : ∀ w ∈ zw, w.before _ s = true := fun w h => hts w (List.mem_cons_of_mem _ h)
  have hown : s.vm.findClass RX2 = some m.cls := findClass_of_methodNamed B.named
  have hlocks := B.notSynchronized
  subst hsz
  have hD := hD0.self (sz := s.heap.size)
  generalize hAe : va_A [(h0, .inr (2, [.ref cop, .ref ca, .ref cb, .ref cplace, .ref cnext, .ref cneeded, .int z, .int ta])), (cop, .inl (ckop, 3000, .inl gop)), (ca, .inl (cka, 3000, .inl ga)), (cb, .inl (ckb, 3000, .inl gb)), (cplace, .inl (ckplace, 3000, .inl gplace)), (cnext, .inl (cknext, 3000, .inl gnext)), (cneeded, .inl (ckneeded, 3000, .inl gneeded))] s.heap.size = A at hD hT ⊢
  have hAA : ∀ q : Nat, s.heap.size ≤ q → A q := fun q h => by rw [← hAe]; exact Or.inr h
  have hS : va_S A s.heap s.heap [] := va_S.rf
  have hl := lv_entry ([.ref h0, .int wh]) (n := 2) (Nat.le_of_ble_eq_true rfl)
  rw [lg_entry_eq]
  generalize (lg_sl ([.ref h0, .int wh]) ++ List.replicate (2 - (lg_sl ([.ref h0, .int wh])).length) Slot.unset).toArray = ls at hl ⊢
  have hl : lv_has ls 2 [(0, .ref h0), (1, .int wh)] := hl
  refine lv_aload_n hx hb dX2_appendStep_0 rfl (lv_at hl 0 rfl) ?_
  refine lv_aload_n hx hb dX2_appendStep_1 rfl (lv_at hl 0 rfl) ?_
  refine va_get (D := (dC, dI)) (ci := 2) (v := .int ta) (C := RX2) (T := TX2) (N := 8) hx hb hA zin_X2 hown hK hP 0 rfl rfl 7 (by decide) (hA _ wi_200) (fun _ h9 => h9) rfl dX2_appendStep_2 ?_
  refine lv_iconst (v := 1) hx hb dX2_appendStep_5 (by decide) ?_
  refine lv_iload_n hx hb dX2_appendStep_6 rfl (lv_at hl 1 rfl) ?_
  have hPc := hP.sub (ws' := [(h0, .inr (2, [.ref cop, .ref ca, .ref cb, .ref cplace, .ref cnext, .ref cneeded, .int z, .int ta])), (cop, .inl (ckop, 3000, .inl gop)), (ca, .inl (cka, 3000, .inl ga)), (cb, .inl (ckb, 3000, .inl gb)), (cplace, .inl (ckplace, 3000, .inl gplace)), (cnext, .inl (cknext, 3000, .inl gnext)), (cneeded, .inl (ckneeded, 3000, .inl gneeded))]) [0, 1, 2, 3, 4, 5, 6] rfl
  have hDc := hD.sub (ws' := [(h0, .inr (2, [.ref cop, .ref ca, .ref cb, .ref cplace, .ref cnext, .ref cneeded, .int z, .int ta])), (cop, .inl (ckop, 3000, .inl gop)), (ca, .inl (cka, 3000, .inl ga)), (cb, .inl (ckb, 3000, .inl gb)), (cplace, .inl (ckplace, 3000, .inl gplace)), (cnext, .inl (cknext, 3000, .inl gnext)), (cneeded, .inl (ckneeded, 3000, .inl gneeded))]) [0, 1, 2, 3, 4, 5, 6] (by decide) rfl
  have hKc := hK.sub (tys' := [(ckop, .int), (cka, .int), (ckb, .int), (ckplace, .int), (cknext, .int), (ckneeded, .int)]) [0, 1, 2, 3, 4, 5] rfl
  have hFc := va_free (wc := [(h0, .inr (2, [.ref cop, .ref ca, .ref cb, .ref cplace, .ref cnext, .ref cneeded, .int z, .int ta])), (cop, .inl (ckop, 3000, .inl gop)), (ca, .inl (cka, 3000, .inl ga)), (cb, .inl (ckb, 3000, .inl gb)), (cplace, .inl (ckplace, 3000, .inl gplace)), (cnext, .inl (cknext, 3000, .inl gnext)), (cneeded, .inl (ckneeded, 3000, .inl gneeded))]) hD hS hAA [0, 1, 2, 3, 4, 5, 6] rfl
  refine va_calli (va_runV (As := [.int ta, .int 1, .int wh]) (rest := []) ⟨hx, hb, hml, hown, hA⟩ (c_X2_insertBehind l dC dI aK aV h0 cop ca cb cplace cnext cneeded ckop cka ckb ckplace cknext ckneeded z ta gop ga gb gplace gnext gneeded ta 1 wh s.heap.size (by omega) (by omega) (by omega) (by omega) hgn (by omega) (by omega)) (cwV 3 hA (zw_V wi_922 wi_923 wi_924 wi_132 (zw_good wi_925)) rfl rfl rfl (by decide +kernel) ⟨(Nat.le_of_ble_eq_true rfl), (Nat.le_of_ble_eq_true rfl)⟩) ⟨zP_blind, va_recv hKc hPc (ci := 2) (q0 := 0) rfl rfl, zz_pre hKc hPc hDc hN hT hS hFc⟩ rfl rfl hl.1 rfl (lv_room (Nat.le_of_ble_eq_true rfl)) dX2_appendStep_7 ⟨(Nat.le_of_ble_eq_true rfl), (Nat.le_of_ble_eq_true rfl)⟩) hS (fun q _ h => hFc q h) hFc (fun r_1 u t H1 locs ht hvm hw hB hz1 hk1 hS => ?_)
  obtain ⟨z_2, t_3, nop_4, na_5, nb_6, nplace_7, nnext_8, nneeded_9⟩ := u
  obtain ⟨hP1, hK1, hD1⟩ := hB
  rw [ht] at hP1
  have hK1 := va_K.moved hvm.symm hK1
  obtain ⟨hP, hD⟩ := va_join (wr := []) (w1 := [(h0, .inr (2, [.ref cop, .ref ca, .ref cb, .ref cplace, .ref cnext, .ref cneeded, .int z_2, .int t_3])), (cop, .inl (ckop, 3000, .inl nop_4)), (ca, .inl (cka, 3000, .inl na_5)), (cb, .inl (ckb, 3000, .inl nb_6)), (cplace, .inl (ckplace, 3000, .inl nplace_7)), (cnext, .inl (cknext, 3000, .inl nnext_8)), (cneeded, .inl (ckneeded, 3000, .inl nneeded_9))]) hP hD [0, 1, 2, 3, 4, 5, 6] [] rfl rfl (by decide) (by decide) hk1 hFc hP1 hD1
  have hK := (hK.sub (tys' := []) [] rfl).app hK1
  generalize H1 = H at hP hS ⊢
  have hP : va_P (dC, dI) vwCl [(h0, .inr (2, [.ref cop, .ref ca, .ref cb, .ref cplace, .ref cnext, .ref cneeded, .int z_2, .int t_3])), (cop, .inl (ckop, 3000, .inl nop_4)), (ca, .inl (cka, 3000, .inl na_5)), (cb, .inl (ckb, 3000, .inl nb_6)), (cplace, .inl (ckplace, 3000, .inl nplace_7)), (cnext, .inl (cknext, 3000, .inl nnext_8)), (cneeded, .inl (ckneeded, 3000, .inl nneeded_9))] H := hP
  have hD : va_D A [(h0, .inr (2, [.ref cop, .ref ca, .ref cb, .ref cplace, .ref cnext, .ref cneeded, .int z_2, .int t_3])), (cop, .inl (ckop, 3000, .inl nop_4)), (ca, .inl (cka, 3000, .inl na_5)), (cb, .inl (ckb, 3000, .inl nb_6)), (cplace, .inl (ckplace, 3000, .inl nplace_7)), (cnext, .inl (cknext, 3000, .inl nnext_8)), (cneeded, .inl (ckneeded, 3000, .inl nneeded_9))] := hD
  have hK : va_K (dC, dI) vwCl [(ckop, .int), (cka, .int), (ckb, .int), (ckplace, .int), (cknext, .int), (ckneeded, .int)] s := hK
  have hw_r_1 := hw
  try dsimp only at hw_r_1
  obtain ⟨hq_10, hq_11, hq_12, hq_13, hq_14, hq_15, hq_16, hq_17⟩ := hw
  refine lv_pop hx hb dX2_appendStep_10 rfl ?_
  have hP9 := hP.sub (ws' := [(h0, .inr (2, [.ref cop, .ref ca, .ref cb, .ref cplace, .ref cnext, .ref cneeded, .int z_2, .int t_3])), (cop, .inl (ckop, 3000, .inl nop_4)), (ca, .inl (cka, 3000, .inl na_5)), (cb, .inl (ckb, 3000, .inl nb_6)), (cplace, .inl (ckplace, 3000, .inl nplace_7)), (cnext, .inl (cknext, 3000, .inl nnext_8)), (cneeded, .inl (ckneeded, 3000, .inl nneeded_9))]) [0, 1, 2, 3, 4, 5, 6] rfl
  have hD9 := hD.sub (ws' := [(h0, .inr (2, [.ref cop, .ref ca, .ref cb, .ref cplace, .ref cnext, .ref cneeded, .int z_2, .int t_3])), (cop, .inl (ckop, 3000, .inl nop_4)), (ca, .inl (cka, 3000, .inl na_5)), (cb, .inl (ckb, 3000, .inl nb_6)), (cplace, .inl (ckplace, 3000, .inl nplace_7)), (cnext, .inl (cknext, 3000, .inl nnext_8)), (cneeded, .inl (ckneeded, 3000, .inl nneeded_9))]) [0, 1, 2, 3, 4, 5, 6] (by decide) rfl
  have hK9 := hK.sub (tys' := [(ckop, .int), (cka, .int), (ckb, .int), (ckplace, .int), (cknext, .int), (ckneeded, .int)]) [0, 1, 2, 3, 4, 5] rfl
  exact W.vret hx hb hr (fun t ht hW => ⟨⟨(z_2, t_3, nop_4, na_5, nb_6, nplace_7, nnext_8, nneeded_9), rfl, ⟨by omega, by omega, by omega, by omega, by omega, hq_17⟩, by rw [ht]; exact hP9, va_K.moved hW.alike hK9, hD9⟩, hS.F ht⟩) hS.2.2 dX2_appendStep_11
set_option maxHeartbeats 4000000 in
set_option maxRecDepth 100000 in
theorem c_X2_neededBehind (l : Launch) (dC : Nat → ClassId) (dI : Nat → Nat → Nat) (aK aV : Nat → Nat) (h0 : Nat) (cop : Nat) (ca : Nat) (cb : Nat) (cplace : Nat) (cnext : Nat) (cneeded : Nat) (ckop : ClassId) (cka : ClassId) (ckb : ClassId) (ckplace : ClassId) (cknext : ClassId) (ckneeded : ClassId) (z : Int32) (ta : Int32) (gop : Nat → Int32) (ga : Nat → Int32) (gb : Nat → Int32) (gplace : Nat → Int32) (gnext : Nat → Int32) (gneeded : Nat → Int32) (row : Int32) (sz : Nat) (hz0 : 0 ≤ z.toInt) (hz1 : z.toInt ≤ 3000) (ht0 : -1 ≤ ta.toInt) (ht1 : ta.toInt < 3000) (hgn : zx 3000 gnext) (hb0 : -1 ≤ row.toInt) (hb1 : row.toInt < 3000) : Met l yX2_neededBehind (Cond.code yX2_neededBehind cX2_neededBehind 3 (some .int) :: zw) ({ frames := 8, cells := 0, slots := 0, locals := 200 }) (va_Pc [.ref h0, .int row] (zP dC dI aK aV sz [(ckop, .int), (cka, .int), (ckb, .int), (ckplace, .int), (cknext, .int), (ckneeded, .int)] [(h0, .inr (2, [.ref cop, .ref ca, .ref cb, .ref cplace, .ref cnext, .ref cneeded, .int z, .int ta])), (cop, .inl (ckop, 3000, .inl gop)), (ca, .inl (cka, 3000, .inl ga)), (cb, .inl (ckb, 3000, .inl gb)), (cplace, .inl (ckplace, 3000, .inl gplace)), (cnext, .inl (cknext, 3000, .inl gnext)), (cneeded, .inl (ckneeded, 3000, .inl gneeded))])) (va_Qi (fun (r : Int32) (u : Unit) => True) (fun u => zQ dC dI (va_A [(h0, .inr (2, [.ref cop, .ref ca, .ref cb, .ref cplace, .ref cnext, .ref cneeded, .int z, .int ta])), (cop, .inl (ckop, 3000, .inl gop)), (ca, .inl (cka, 3000, .inl ga)), (cb, .inl (ckb, 3000, .inl gb)), (cplace, .inl (ckplace, 3000, .inl gplace)), (cnext, .inl (cknext, 3000, .inl gnext)), (cneeded, .inl (ckneeded, 3000, .inl gneeded))] sz) [(ckop, .int), (cka, .int), (ckb, .int), (ckplace, .int), (cknext, .int), (ckneeded, .int)] [(h0, .inr (2, [.ref cop, .ref ca, .ref cb, .ref cplace, .ref cnext, .ref cneeded, .int z, .int ta])), (cop, .inl (ckop, 3000, .inl gop)), (ca, .inl (cka, 3000, .inl ga)), (cb, .inl (ckb, 3000, .inl gb)), (cplace, .inl (ckplace, 3000, .inl gplace)), (cnext, .inl (cknext, 3000, .inl gnext)), (cneeded, .inl (ckneeded, 3000, .inl gneeded))]) (va_A [(h0, .inr (2, [.ref cop, .ref ca, .ref cb, .ref cplace, .ref cnext, .ref cneeded, .int z, .int ta])), (cop, .inl (ckop, 3000, .inl gop)), (ca, .inl (cka, 3000, .inl ga)), (cb, .inl (ckb, 3000, .inl gb)), (cplace, .inl (ckplace, 3000, .inl gplace)), (cnext, .inl (cknext, 3000, .inl gnext)), (cneeded, .inl (ckneeded, 3000, .inl gneeded))] sz)) 0 0 (va_A [(h0, .inr (2, [.ref cop, .ref ca, .ref cb, .ref cplace, .ref cnext, .ref cneeded, .int z, .int ta])), (cop, .inl (ckop, 3000, .inl gop)), (ca, .inl (cka, 3000, .inl ga)), (cb, .inl (ckb, 3000, .inl gb)), (cplace, .inl (ckplace, 3000, .inl gplace)), (cnext, .inl (cknext, 3000, .inl gnext)), (cneeded, .inl (ckneeded, 3000, .inl gneeded))] sz) := by
  refine Met.ofW (cc := cX2_neededBehind) (maxL := 3) (ret := (some .int)) (by decide) rfl ?_
  intro p e s m args below meth c s₁ B hml hv
  obtain ⟨rfl, hsz, hP, hK, hD0, hN, hT⟩ := hv
  have hx := B.exec
  have hb := B.bytes
  have hr := B.returns
  have hts := atoms_spec (ws := Cond.code yX2_neededBehind cX2_neededBehind 3 (some .int) :: zw) B.pre
  have hA : ∀ w ∈ zw, w.before _ s = true := fun w h => hts w (List.mem_cons_of_mem _ h)
  have hown : s.vm.findClass RX2 = some m.cls := findClass_of_methodNamed B.named
  have hlocks := B.notSynchronized
  subst hsz
  have hD := hD0.self (sz := s.heap.size)
  generalize hAe : va_A [(h0, .inr (2, [.ref cop, .ref ca, .ref cb, .ref cplace, .ref cnext, .ref cneeded, .int z, .int ta])), (cop, .inl (ckop, 3000, .inl gop)), (ca, .inl (cka, 3000, .inl ga)), (cb, .inl (ckb, 3000, .inl gb)), (cplace, .inl (ckplace, 3000, .inl gplace)), (cnext, .inl (cknext, 3000, .inl gnext)), (cneeded, .inl (ckneeded, 3000, .inl gneeded))] s.heap.size = A at hD hT ⊢
  have hAA : ∀ q : Nat, s.heap.size ≤ q → A q := fun q h => by rw [← hAe]; exact Or.inr h
  have hS : va_S A s.heap s.heap [] := va_S.rf
  have hl := lv_entry ([.ref h0, .int row]) (n := 3) (Nat.le_of_ble_eq_true rfl)
  rw [lg_entry_eq]
  generalize (lg_sl ([.ref h0, .int row]) ++ List.replicate (3 - (lg_sl ([.ref h0, .int row])).length) Slot.unset).toArray = ls at hl ⊢
  have hl : lv_has ls 3 [(0, .ref h0), (1, .int row)] := hl
  refine lv_iload_n hx hb dX2_neededBehind_0 rfl (lv_at hl 1 rfl) ?_
  refine lv_iconst (v := (-1)) hx hb dX2_neededBehind_1 (by decide) ?_
  refine lv_icmp_ne (tgt := 9) hx hb dX2_neededBehind_2 (by decide) (fun c_1 => ?_) (fun c_1 => ?_)
  · have ic_1 : row.toInt ≠ (-1) := zi_ne c_1
    refine lv_aload_n hx hb dX2_neededBehind_9 rfl (lv_at hl 0 rfl) ?_
    refine va_get (D := (dC, dI)) (ci := 2) (v := .ref cnext) (C := RX2) (T := TX2) (N := 8) hx hb hA zin_X2 hown hK hP 0 rfl rfl 4 (by decide) (hA _ wi_191) (fun _ h9 => h9) rfl dX2_neededBehind_10 ?_
    refine lv_iload_n hx hb dX2_neededBehind_13 rfl (lv_at hl 1 rfl) ?_
    refine va_iald hx hb hK hP 5 4 rfl rfl (vp_in_iff.mpr ⟨by omega, by omega⟩) dX2_neededBehind_14 ?_
    refine lv_topi (fun x_2 ex_2 => ?_)
    have ix_2 : -1 ≤ x_2.toInt ∧ x_2.toInt < 3000 := by rw [ex_2]; exact hgn _
    refine lv_istore_n (lv' := [(2, .int x_2), (0, .ref h0), (1, .int row)]) hx hb dX2_neededBehind_15 rfl hl (by decide) rfl (fun ls hl => ?_)
    refine lv_iload_n hx hb dX2_neededBehind_16 rfl (lv_at hl 0 rfl) ?_
    refine lv_iconst (v := (-1)) hx hb dX2_neededBehind_17 (by decide) ?_
    refine lv_icmp_ne (tgt := 25) hx hb dX2_neededBehind_18 (by decide) (fun c_3 => ?_) (fun c_3 => ?_)
    · have ic_3 : x_2.toInt ≠ (-1) := zi_ne c_3
      refine lv_aload_n hx hb dX2_neededBehind_25 rfl (lv_at hl 1 rfl) ?_
      refine va_get (D := (dC, dI)) (ci := 2) (v := .ref cneeded) (C := RX2) (T := TX2) (N := 8) hx hb hA zin_X2 hown hK hP 0 rfl rfl 5 (by decide) (hA _ wi_194) (fun _ h9 => h9) rfl dX2_neededBehind_26 ?_
      refine lv_iload_n hx hb dX2_neededBehind_29 rfl (lv_at hl 0 rfl) ?_
      refine va_iald hx hb hK hP 6 5 rfl rfl (vp_in_iff.mpr ⟨by omega, by omega⟩) dX2_neededBehind_30 ?_
      refine lv_topi (fun x_4 ex_4 => ?_)
      have hP9 := hP.sub (ws' := [(h0, .inr (2, [.ref cop, .ref ca, .ref cb, .ref cplace, .ref cnext, .ref cneeded, .int z, .int ta])), (cop, .inl (ckop, 3000, .inl gop)), (ca, .inl (cka, 3000, .inl ga)), (cb, .inl (ckb, 3000, .inl gb)), (cplace, .inl (ckplace, 3000, .inl gplace)), (cnext, .inl (cknext, 3000, .inl gnext)), (cneeded, .inl (ckneeded, 3000, .inl gneeded))]) [0, 1, 2, 3, 4, 5, 6] rfl
      have hD9 := hD.sub (ws' := [(h0, .inr (2, [.ref cop, .ref ca, .ref cb, .ref cplace, .ref cnext, .ref cneeded, .int z, .int ta])), (cop, .inl (ckop, 3000, .inl gop)), (ca, .inl (cka, 3000, .inl ga)), (cb, .inl (ckb, 3000, .inl gb)), (cplace, .inl (ckplace, 3000, .inl gplace)), (cnext, .inl (cknext, 3000, .inl gnext)), (cneeded, .inl (ckneeded, 3000, .inl gneeded))]) [0, 1, 2, 3, 4, 5, 6] (by decide) rfl
      have hK9 := hK.sub (tys' := [(ckop, .int), (cka, .int), (ckb, .int), (ckplace, .int), (cknext, .int), (ckneeded, .int)]) [0, 1, 2, 3, 4, 5] rfl
      exact W.iret (v := x_4) hx hb hr (fun t ht hW => ⟨⟨x_4, (), rfl, trivial, by rw [ht]; exact hP9, va_K.moved hW.alike hK9, hD9⟩, hS.F ht⟩) hS.2.2 dX2_neededBehind_31
    · have ic_3 : x_2.toInt = (-1) := zi_eq c_3
      refine lv_iconst (v := 0) hx hb dX2_neededBehind_21 (by decide) ?_
      refine lv_goto (tgt := 31) hx hb dX2_neededBehind_22 (by decide) ?_
      have hlit : Int32.toInt 0 = 0 := by decide
      have hP9 := hP.sub (ws' := [(h0, .inr (2, [.ref cop, .ref ca, .ref cb, .ref cplace, .ref cnext, .ref cneeded, .int z, .int ta])), (cop, .inl (ckop, 3000, .inl gop)), (ca, .inl (cka, 3000, .inl ga)), (cb, .inl (ckb, 3000, .inl gb)), (cplace, .inl (ckplace, 3000, .inl gplace)), (cnext, .inl (cknext, 3000, .inl gnext)), (cneeded, .inl (ckneeded, 3000, .inl gneeded))]) [0, 1, 2, 3, 4, 5, 6] rfl
      have hD9 := hD.sub (ws' := [(h0, .inr (2, [.ref cop, .ref ca, .ref cb, .ref cplace, .ref cnext, .ref cneeded, .int z, .int ta])), (cop, .inl (ckop, 3000, .inl gop)), (ca, .inl (cka, 3000, .inl ga)), (cb, .inl (ckb, 3000, .inl gb)), (cplace, .inl (ckplace, 3000, .inl gplace)), (cnext, .inl (cknext, 3000, .inl gnext)), (cneeded, .inl (ckneeded, 3000, .inl gneeded))]) [0, 1, 2, 3, 4, 5, 6] (by decide) rfl
      have hK9 := hK.sub (tys' := [(ckop, .int), (cka, .int), (ckb, .int), (ckplace, .int), (cknext, .int), (ckneeded, .int)]) [0, 1, 2, 3, 4, 5] rfl
      exact W.iret (v := 0) hx hb hr (fun t ht hW => ⟨⟨0, (), rfl, trivial, by rw [ht]; exact hP9, va_K.moved hW.alike hK9, hD9⟩, hS.F ht⟩) hS.2.2 dX2_neededBehind_31
  · have ic_1 : row.toInt = (-1) := zi_eq c_1
    refine lv_iconst (v := (-1)) hx hb dX2_neededBehind_5 (by decide) ?_
    refine lv_goto (tgt := 15) hx hb dX2_neededBehind_6 (by decide) ?_
    refine lv_istore_n (lv' := [(2, .int (-1)), (0, .ref h0), (1, .int row)]) hx hb dX2_neededBehind_15 rfl hl (by decide) rfl (fun ls hl => ?_)
    refine lv_iload_n hx hb dX2_neededBehind_16 rfl (lv_at hl 0 rfl) ?_
    refine lv_iconst (v := (-1)) hx hb dX2_neededBehind_17 (by decide) ?_
    refine lv_icmp_ne (tgt := 25) hx hb dX2_neededBehind_18 (by decide) (fun c_0 => absurd c_0 (by decide)) (fun _ => ?_)
    refine lv_iconst (v := 0) hx hb dX2_neededBehind_21 (by decide) ?_
    refine lv_goto (tgt := 31) hx hb dX2_neededBehind_22 (by decide) ?_
    have hlit : Int32.toInt 0 = 0 := by decide
    have hP9 := hP.sub (ws' := [(h0, .inr (2, [.ref cop, .ref ca, .ref cb, .ref cplace, .ref cnext, .ref cneeded, .int z, .int ta])), (cop, .inl (ckop, 3000, .inl gop)), (ca, .inl (cka, 3000, .inl ga)), (cb, .inl (ckb, 3000, .inl gb)), (cplace, .inl (ckplace, 3000, .inl gplace)), (cnext, .inl (cknext, 3000, .inl gnext)), (cneeded, .inl (ckneeded, 3000, .inl gneeded))]) [0, 1, 2, 3, 4, 5, 6] rfl
    have hD9 := hD.sub (ws' := [(h0, .inr (2, [.ref cop, .ref ca, .ref cb, .ref cplace, .ref cnext, .ref cneeded, .int z, .int ta])), (cop, .inl (ckop, 3000, .inl gop)), (ca, .inl (cka, 3000, .inl ga)), (cb, .inl (ckb, 3000, .inl gb)), (cplace, .inl (ckplace, 3000, .inl gplace)), (cnext, .inl (cknext, 3000, .inl gnext)), (cneeded, .inl (ckneeded, 3000, .inl gneeded))]) [0, 1, 2, 3, 4, 5, 6] (by decide) rfl
    have hK9 := hK.sub (tys' := [(ckop, .int), (cka, .int), (ckb, .int), (ckplace, .int), (cknext, .int), (ckneeded, .int)]) [0, 1, 2, 3, 4, 5] rfl
    exact W.iret (v := 0) hx hb hr (fun t ht hW => ⟨⟨0, (), rfl, trivial, by rw [ht]; exact hP9, va_K.moved hW.alike hK9, hD9⟩, hS.F ht⟩) hS.2.2 dX2_neededBehind_31
