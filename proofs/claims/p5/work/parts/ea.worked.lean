theorem wi_1985 : Cond.code yX14_ends cX14_ends 3 none ∈ zw := zw_in (List.mem_of_getElem? (i := 1985) (by decide +kernel)) (by decide +kernel)
theorem wi_1982 : Cond.methodLink RX14 502 yX14_ends ∈ zw := zw_in (List.mem_of_getElem? (i := 1982) (by decide +kernel)) (by decide +kernel)
theorem wi_1984 : Cond.instanceMethod yX14_ends ∈ zw := zw_in (List.mem_of_getElem? (i := 1984) (by decide +kernel)) (by decide +kernel)
theorem wi_124 : Cond.selects RX14 yX14_ends yX14_ends ∈ zw := zw_in (List.mem_of_getElem? (i := 124) (by decide +kernel)) (by decide +kernel)
theorem wi_1955 : Cond.code yX14_does cX14_does 9 none ∈ zw := zw_in (List.mem_of_getElem? (i := 1955) (by decide +kernel)) (by decide +kernel)
theorem wi_1952 : Cond.methodLink RX14 499 yX14_does ∈ zw := zw_in (List.mem_of_getElem? (i := 1952) (by decide +kernel)) (by decide +kernel)
theorem wi_1954 : Cond.instanceMethod yX14_does ∈ zw := zw_in (List.mem_of_getElem? (i := 1954) (by decide +kernel)) (by decide +kernel)
theorem wi_117 : Cond.selects RX14 yX14_does yX14_does ∈ zw := zw_in (List.mem_of_getElem? (i := 117) (by decide +kernel)) (by decide +kernel)
theorem wi_1932 : Cond.code yX14_works cX14_works 6 none ∈ zw := zw_in (List.mem_of_getElem? (i := 1932) (by decide +kernel)) (by decide +kernel)
theorem wi_1929 : Cond.methodLink RX14 496 yX14_works ∈ zw := zw_in (List.mem_of_getElem? (i := 1929) (by decide +kernel)) (by decide +kernel)
theorem wi_1931 : Cond.instanceMethod yX14_works ∈ zw := zw_in (List.mem_of_getElem? (i := 1931) (by decide +kernel)) (by decide +kernel)
theorem wi_112 : Cond.selects RX14 yX14_works yX14_works ∈ zw := zw_in (List.mem_of_getElem? (i := 112) (by decide +kernel)) (by decide +kernel)
theorem dX14_worked_0 : decode cX14_worked 0 = .ok (.aload_n 0, 1) := by decide +kernel
theorem dX14_worked_1 : decode cX14_worked 1 = .ok (.iconst 0, 1) := by decide +kernel
theorem dX14_worked_2 : decode cX14_worked 2 = .ok (.putfield 404, 3) := by decide +kernel
theorem dX14_worked_5 : decode cX14_worked 5 = .ok (.aload_n 0, 1) := by decide +kernel
theorem dX14_worked_6 : decode cX14_worked 6 = .ok (.iconst 0, 1) := by decide +kernel
theorem dX14_worked_7 : decode cX14_worked 7 = .ok (.putfield 407, 3) := by decide +kernel
theorem dX14_worked_10 : decode cX14_worked 10 = .ok (.aload_n 0, 1) := by decide +kernel
theorem dX14_worked_11 : decode cX14_worked 11 = .ok (.iconst 0, 1) := by decide +kernel
theorem dX14_worked_12 : decode cX14_worked 12 = .ok (.putfield 410, 3) := by decide +kernel
theorem dX14_worked_15 : decode cX14_worked 15 = .ok (.aload_n 0, 1) := by decide +kernel
theorem dX14_worked_16 : decode cX14_worked 16 = .ok (.iconst 0, 1) := by decide +kernel
theorem dX14_worked_17 : decode cX14_worked 17 = .ok (.putfield 478, 3) := by decide +kernel
theorem dX14_worked_20 : decode cX14_worked 20 = .ok (.bipush 6, 2) := by decide +kernel
theorem dX14_worked_22 : decode cX14_worked 22 = .ok (.newarray .int, 2) := by decide +kernel
theorem dX14_worked_24 : decode cX14_worked 24 = .ok (.dup, 1) := by decide +kernel
theorem dX14_worked_25 : decode cX14_worked 25 = .ok (.iconst 0, 1) := by decide +kernel
theorem dX14_worked_26 : decode cX14_worked 26 = .ok (.iload_n 3, 1) := by decide +kernel
theorem dX14_worked_27 : decode cX14_worked 27 = .ok (.iastore, 1) := by decide +kernel
theorem dX14_worked_28 : decode cX14_worked 28 = .ok (.dup, 1) := by decide +kernel
theorem dX14_worked_29 : decode cX14_worked 29 = .ok (.iconst 1, 1) := by decide +kernel
theorem dX14_worked_30 : decode cX14_worked 30 = .ok (.iload 4, 2) := by decide +kernel
theorem dX14_worked_32 : decode cX14_worked 32 = .ok (.iastore, 1) := by decide +kernel
theorem dX14_worked_33 : decode cX14_worked 33 = .ok (.dup, 1) := by decide +kernel
theorem dX14_worked_34 : decode cX14_worked 34 = .ok (.iconst 2, 1) := by decide +kernel
theorem dX14_worked_35 : decode cX14_worked 35 = .ok (.iload 5, 2) := by decide +kernel
theorem dX14_worked_37 : decode cX14_worked 37 = .ok (.iastore, 1) := by decide +kernel
theorem dX14_worked_38 : decode cX14_worked 38 = .ok (.dup, 1) := by decide +kernel
theorem dX14_worked_39 : decode cX14_worked 39 = .ok (.iconst 3, 1) := by decide +kernel
theorem dX14_worked_40 : decode cX14_worked 40 = .ok (.iload 6, 2) := by decide +kernel
theorem dX14_worked_42 : decode cX14_worked 42 = .ok (.iastore, 1) := by decide +kernel
theorem dX14_worked_43 : decode cX14_worked 43 = .ok (.dup, 1) := by decide +kernel
theorem dX14_worked_44 : decode cX14_worked 44 = .ok (.iconst 4, 1) := by decide +kernel
theorem dX14_worked_45 : decode cX14_worked 45 = .ok (.iconst 0, 1) := by decide +kernel
theorem dX14_worked_46 : decode cX14_worked 46 = .ok (.iastore, 1) := by decide +kernel
theorem dX14_worked_47 : decode cX14_worked 47 = .ok (.dup, 1) := by decide +kernel
theorem dX14_worked_48 : decode cX14_worked 48 = .ok (.iconst 5, 1) := by decide +kernel
theorem dX14_worked_49 : decode cX14_worked 49 = .ok (.iconst 0, 1) := by decide +kernel
theorem dX14_worked_50 : decode cX14_worked 50 = .ok (.iastore, 1) := by decide +kernel
theorem dX14_worked_51 : decode cX14_worked 51 = .ok (.astore 7, 2) := by decide +kernel
theorem dX14_worked_53 : decode cX14_worked 53 = .ok (.iconst 0, 1) := by decide +kernel
theorem dX14_worked_54 : decode cX14_worked 54 = .ok (.istore 8, 2) := by decide +kernel
theorem dX14_worked_56 : decode cX14_worked 56 = .ok (.iload 8, 2) := by decide +kernel
theorem dX14_worked_58 : decode cX14_worked 58 = .ok (.aload_n 0, 1) := by decide +kernel
theorem dX14_worked_59 : decode cX14_worked 59 = .ok (.getfield 23, 3) := by decide +kernel
theorem dX14_worked_62 : decode cX14_worked 62 = .ok (.getfield 325, 3) := by decide +kernel
theorem dX14_worked_65 : decode cX14_worked 65 = .ok (.iload_n 1, 1) := by decide +kernel
theorem dX14_worked_66 : decode cX14_worked 66 = .ok (.iaload, 1) := by decide +kernel
theorem dX14_worked_67 : decode cX14_worked 67 = .ok (.if_icmp .ge 21, 3) := by decide +kernel
theorem dX14_worked_70 : decode cX14_worked 70 = .ok (.aload_n 0, 1) := by decide +kernel
theorem dX14_worked_71 : decode cX14_worked 71 = .ok (.aload 7, 2) := by decide +kernel
theorem dX14_worked_73 : decode cX14_worked 73 = .ok (.iload 8, 2) := by decide +kernel
theorem dX14_worked_75 : decode cX14_worked 75 = .ok (.iaload, 1) := by decide +kernel
theorem dX14_worked_76 : decode cX14_worked 76 = .ok (.invokestatic 434, 3) := by decide +kernel
theorem dX14_worked_79 : decode cX14_worked 79 = .ok (.invokevirtual 438, 3) := by decide +kernel
theorem dX14_worked_82 : decode cX14_worked 82 = .ok (.iinc 8 1, 3) := by decide +kernel
theorem dX14_worked_85 : decode cX14_worked 85 = .ok (.goto (-29), 3) := by decide +kernel
theorem dX14_worked_88 : decode cX14_worked 88 = .ok (.aload_n 0, 1) := by decide +kernel
theorem dX14_worked_89 : decode cX14_worked 89 = .ok (.iconst (-1), 1) := by decide +kernel
theorem dX14_worked_90 : decode cX14_worked 90 = .ok (.putfield 34, 3) := by decide +kernel
theorem dX14_worked_93 : decode cX14_worked 93 = .ok (.aload_n 0, 1) := by decide +kernel
theorem dX14_worked_94 : decode cX14_worked 94 = .ok (.iload_n 1, 1) := by decide +kernel
theorem dX14_worked_95 : decode cX14_worked 95 = .ok (.iconst (-1), 1) := by decide +kernel
theorem dX14_worked_96 : decode cX14_worked 96 = .ok (.invokevirtual 460, 3) := by decide +kernel
theorem dX14_worked_99 : decode cX14_worked 99 = .ok (.aload_n 0, 1) := by decide +kernel
theorem dX14_worked_100 : decode cX14_worked 100 = .ok (.getfield 404, 3) := by decide +kernel
theorem dX14_worked_103 : decode cX14_worked 103 = .ok (.ifCond .le 93, 3) := by decide +kernel
theorem dX14_worked_106 : decode cX14_worked 106 = .ok (.aload_n 0, 1) := by decide +kernel
theorem dX14_worked_107 : decode cX14_worked 107 = .ok (.dup, 1) := by decide +kernel
theorem dX14_worked_108 : decode cX14_worked 108 = .ok (.getfield 404, 3) := by decide +kernel
theorem dX14_worked_111 : decode cX14_worked 111 = .ok (.iconst 1, 1) := by decide +kernel
theorem dX14_worked_112 : decode cX14_worked 112 = .ok (.isub, 1) := by decide +kernel
theorem dX14_worked_113 : decode cX14_worked 113 = .ok (.putfield 404, 3) := by decide +kernel
theorem dX14_worked_116 : decode cX14_worked 116 = .ok (.aload_n 0, 1) := by decide +kernel
theorem dX14_worked_117 : decode cX14_worked 117 = .ok (.getfield 60, 3) := by decide +kernel
theorem dX14_worked_120 : decode cX14_worked 120 = .ok (.aload_n 0, 1) := by decide +kernel
theorem dX14_worked_121 : decode cX14_worked 121 = .ok (.getfield 404, 3) := by decide +kernel
theorem dX14_worked_124 : decode cX14_worked 124 = .ok (.baload, 1) := by decide +kernel
theorem dX14_worked_125 : decode cX14_worked 125 = .ok (.istore 8, 2) := by decide +kernel
theorem dX14_worked_127 : decode cX14_worked 127 = .ok (.aload_n 0, 1) := by decide +kernel
theorem dX14_worked_128 : decode cX14_worked 128 = .ok (.getfield 63, 3) := by decide +kernel
theorem dX14_worked_131 : decode cX14_worked 131 = .ok (.aload_n 0, 1) := by decide +kernel
theorem dX14_worked_132 : decode cX14_worked 132 = .ok (.getfield 404, 3) := by decide +kernel
theorem dX14_worked_135 : decode cX14_worked 135 = .ok (.iaload, 1) := by decide +kernel
theorem dX14_worked_136 : decode cX14_worked 136 = .ok (.istore 9, 2) := by decide +kernel
theorem dX14_worked_138 : decode cX14_worked 138 = .ok (.iload 8, 2) := by decide +kernel
theorem dX14_worked_140 : decode cX14_worked 140 = .ok (.ifCond .ne 13, 3) := by decide +kernel
theorem dX14_worked_143 : decode cX14_worked 143 = .ok (.aload_n 0, 1) := by decide +kernel
theorem dX14_worked_144 : decode cX14_worked 144 = .ok (.iload 9, 2) := by decide +kernel
theorem dX14_worked_146 : decode cX14_worked 146 = .ok (.iload_n 2, 1) := by decide +kernel
theorem dX14_worked_147 : decode cX14_worked 147 = .ok (.invokevirtual 496, 3) := by decide +kernel
theorem dX14_worked_150 : decode cX14_worked 150 = .ok (.goto 43, 3) := by decide +kernel
theorem dX14_worked_153 : decode cX14_worked 153 = .ok (.iload 8, 2) := by decide +kernel
theorem dX14_worked_155 : decode cX14_worked 155 = .ok (.iconst 1, 1) := by decide +kernel
theorem dX14_worked_156 : decode cX14_worked 156 = .ok (.if_icmp .ne 12, 3) := by decide +kernel
theorem dX14_worked_159 : decode cX14_worked 159 = .ok (.aload_n 0, 1) := by decide +kernel
theorem dX14_worked_160 : decode cX14_worked 160 = .ok (.iload 9, 2) := by decide +kernel
theorem dX14_worked_162 : decode cX14_worked 162 = .ok (.invokevirtual 499, 3) := by decide +kernel
theorem dX14_worked_165 : decode cX14_worked 165 = .ok (.goto 28, 3) := by decide +kernel
theorem dX14_worked_168 : decode cX14_worked 168 = .ok (.iload 8, 2) := by decide +kernel
theorem dX14_worked_170 : decode cX14_worked 170 = .ok (.iconst 2, 1) := by decide +kernel
theorem dX14_worked_171 : decode cX14_worked 171 = .ok (.if_icmp .ne 12, 3) := by decide +kernel
theorem dX14_worked_174 : decode cX14_worked 174 = .ok (.aload_n 0, 1) := by decide +kernel
theorem dX14_worked_175 : decode cX14_worked 175 = .ok (.iload 9, 2) := by decide +kernel
theorem dX14_worked_177 : decode cX14_worked 177 = .ok (.invokevirtual 502, 3) := by decide +kernel
theorem dX14_worked_180 : decode cX14_worked 180 = .ok (.goto 13, 3) := by decide +kernel
theorem dX14_worked_183 : decode cX14_worked 183 = .ok (.aload_n 0, 1) := by decide +kernel
theorem dX14_worked_184 : decode cX14_worked 184 = .ok (.dup, 1) := by decide +kernel
theorem dX14_worked_185 : decode cX14_worked 185 = .ok (.getfield 410, 3) := by decide +kernel
theorem dX14_worked_188 : decode cX14_worked 188 = .ok (.iconst 1, 1) := by decide +kernel
theorem dX14_worked_189 : decode cX14_worked 189 = .ok (.isub, 1) := by decide +kernel
theorem dX14_worked_190 : decode cX14_worked 190 = .ok (.putfield 410, 3) := by decide +kernel
theorem dX14_worked_193 : decode cX14_worked 193 = .ok (.goto (-94), 3) := by decide +kernel
theorem dX14_worked_196 : decode cX14_worked 196 = .ok (.goto 20, 3) := by decide +kernel
theorem dX14_worked_199 : decode cX14_worked 199 = .ok (.astore 8, 2) := by decide +kernel
theorem dX14_worked_201 : decode cX14_worked 201 = .ok (.aload_n 0, 1) := by decide +kernel
theorem dX14_worked_202 : decode cX14_worked 202 = .ok (.aload 8, 2) := by decide +kernel
theorem dX14_worked_204 : decode cX14_worked 204 = .ok (.getfield 111, 3) := by decide +kernel
theorem dX14_worked_207 : decode cX14_worked 207 = .ok (.putfield 34, 3) := by decide +kernel
theorem dX14_worked_210 : decode cX14_worked 210 = .ok (.aload 8, 2) := by decide +kernel
theorem dX14_worked_212 : decode cX14_worked 212 = .ok (.getfield 108, 3) := by decide +kernel
theorem dX14_worked_215 : decode cX14_worked 215 = .ok (.ireturn, 1) := by decide +kernel
theorem dX14_worked_216 : decode cX14_worked 216 = .ok (.iconst 1, 1) := by decide +kernel
theorem dX14_worked_217 : decode cX14_worked 217 = .ok (.ireturn, 1) := by decide +kernel
theorem zR0 {sl va : Nat → Int64} {pr : Nat → Int32} {n : Nat} (h : ∀ j, j < n → zhs (va j) = 0) (c : Nat) : zRS 2400 sl (zpp (Int32.toInt 0) pr) c + zVS n va c = 0 := by
  have a : zRS 2400 sl (zpp (Int32.toInt 0) pr) c = 0 := zs_z (fun d _ => if_neg (fun g => by
    have := (zpp_iff.mp g).1
    have h0 : Int32.toInt 0 = 0 := by decide
    omega))
  have b : zVS n va c = 0 := zs_z (fun d hd => zr_n (by rw [h d hd]; decide))
  omega
theorem zSO_0 {kz : Int32} {fd : Nat → Int32} {sl : Nat → Int64} {pr : Nat → Int32} : zSO kz fd sl (zpp (Int32.toInt 0) pr) := fun j _ g => by
  have := (zpp_iff.mp g).1
  have h0 : Int32.toInt 0 = 0 := by decide
  omega
theorem zTS_b {S : Nat → Nat → Int32} {u b : Nat → Int32} {z : Nat} {pr tw tp : Nat → Int32} {t o h : Nat} (hm : ∀ k, k < z → (S 0 k).toInt = 3 ∨ (S 0 k).toInt = 4 → (S 6 k).toInt ≤ 6) (a : zTS S u b z pr tw tp t o h) : h ≤ 1 + 5 * t := by
  obtain ⟨M, a, -⟩ := a
  exact zTK_b hm a
theorem zWt_p {f : Nat → Int32} {t n : Nat} (e : n = t + 1) : zWt f n = zWt f t + if (f t).toInt = 1 then 4 else 1 := by rw [e]; rfl
