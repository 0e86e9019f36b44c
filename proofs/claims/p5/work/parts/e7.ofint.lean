section
set_option maxHeartbeats 4000000 in
set_option maxRecDepth 100000 in
theorem c_X14_ofInt_x (l : Launch) (dC : Nat → ClassId) (dI : Nat → Nat → Nat) (aK aV : Nat → Nat) (nu : Int32) (sz : Nat)  : Met l yX14_ofInt (Cond.code yX14_ofInt cX14_ofInt 1 (some .long) :: zw) ({ frames := 8, cells := 0, slots := 0, locals := 200 }) (va_Pc [.int nu] (zP dC dI aK aV sz [] [])) (va_Ql (fun (r : Int64) (u : Unit) => (zhs r = 0) ∧ (r = pv0 nu)) (fun u => zQ dC dI (va_A [] sz) [] []) (va_A [] sz)) 0 0 (va_A [] sz) := by
  refine Met.ofW (cc := cX14_ofInt) (maxL := 1) (ret := (some .long)) (by decide) rfl ?_
  intro p e s m args below meth c s₁ B hml hv
  obtain ⟨rfl, hsz, hP, hK, hD0, hN, hT⟩ := hv
  have hx := B.exec
  have hb := B.bytes
  have hr := B.returns
  have hts := atoms_spec (ws := Cond.code yX14_ofInt cX14_ofInt 1 (some .long) :: zw) B.pre
  have hA : ∀ w ∈ zw, w.before _ s = true := fun w h => hts w (List.mem_cons_of_mem _ h)
  have hown : s.vm.findClass RX14 = some m.cls := findClass_of_methodNamed B.named
  have hlocks := B.notSynchronized
  subst hsz
  have hD := hD0.self (sz := s.heap.size)
  generalize hAe : va_A [] s.heap.size = A at hD hT ⊢
  have hAA : ∀ q : Nat, s.heap.size ≤ q → A q := fun q h => by rw [← hAe]; exact Or.inr h
  have hS : va_S A s.heap s.heap [] := va_S.rf
  have hl := lv_entry ([.int nu]) (n := 1) (Nat.le_of_ble_eq_true rfl)
  rw [lg_entry_eq]
  generalize (lg_sl ([.int nu]) ++ List.replicate (1 - (lg_sl ([.int nu])).length) Slot.unset).toArray = ls at hl ⊢
  have hl : lv_has ls 1 [(0, .int nu)] := hl
  refine lv_iload_n hx hb dX14_ofInt_0 rfl (lv_at hl 0 rfl) ?_
  obtain ⟨x_1, ex_1⟩ : ∃ z : Int64, z = Int32.toInt64 nu := ⟨_, rfl⟩
  refine lv_i2l (v := x_1) hx hb dX14_ofInt_1 ex_1.symm ?_
  refine lv_ldc2 (v := 4294967295) hx hb hown (hA _ wi_1896) dX14_ofInt_2 ?_
  refine lv_land hx hb dX14_ofInt_5 ?_
  refine lv_topl (fun x_2 ex_2 => ?_)
  have hP9 := hP.sub (ws' := []) [] rfl
  have hD9 := hD.sub (ws' := []) [] (by decide) rfl
  have hK9 := hK.sub (tys' := []) [] rfl
  exact W.lret (v := x_2) hx hb hr (fun t ht hW => ⟨⟨x_2, (), rfl, ⟨(by rw [ex_2, ex_1]; exact (zof_int nu).1), (by rw [ex_2, ex_1]; rfl)⟩, by rw [ht]; exact hP9, va_K.moved hW.alike hK9, hD9⟩, hS.F ht⟩) hS.2.2 dX14_ofInt_6

end
section
theorem wi_1895 : Cond.code yX14_ofInt cX14_ofInt 1 (some .long) ∈ zw := zw_in (List.mem_of_getElem? (i := 1895) (by decide +kernel)) (by decide +kernel)
theorem wi_1893 : Cond.methodLink RX14 434 yX14_ofInt ∈ zw := zw_in (List.mem_of_getElem? (i := 1893) (by decide +kernel)) (by decide +kernel)
theorem wi_1894 : Cond.static yX14_ofInt ∈ zw := zw_in (List.mem_of_getElem? (i := 1894) (by decide +kernel)) (by decide +kernel)
theorem wi_1951 : Cond.code yX14_puts cX14_puts 6 none ∈ zw := zw_in (List.mem_of_getElem? (i := 1951) (by decide +kernel)) (by decide +kernel)
theorem wi_1948 : Cond.methodLink RX14 447 yX14_puts ∈ zw := zw_in (List.mem_of_getElem? (i := 1948) (by decide +kernel)) (by decide +kernel)
theorem wi_1950 : Cond.instanceMethod yX14_puts ∈ zw := zw_in (List.mem_of_getElem? (i := 1950) (by decide +kernel)) (by decide +kernel)
theorem wi_116 : Cond.selects RX14 yX14_puts yX14_puts ∈ zw := zw_in (List.mem_of_getElem? (i := 116) (by decide +kernel)) (by decide +kernel)
set_option maxRecDepth 1000000 in theorem wi_1940 : Cond.code yX14_matches cX14_matches 16 none ∈ zw := zw_in (List.mem_of_getElem? (i := 1940) (by rfl)) (by decide +kernel)
theorem wi_1937 : Cond.methodLink RX14 444 yX14_matches ∈ zw := zw_in (List.mem_of_getElem? (i := 1937) (by decide +kernel)) (by decide +kernel)
theorem wi_1939 : Cond.instanceMethod yX14_matches ∈ zw := zw_in (List.mem_of_getElem? (i := 1939) (by decide +kernel)) (by decide +kernel)
theorem wi_114 : Cond.selects RX14 yX14_matches yX14_matches ∈ zw := zw_in (List.mem_of_getElem? (i := 114) (by decide +kernel)) (by decide +kernel)
theorem dX14_works_0 : decode cX14_works 0 = .ok (.aload_n 0, 1) := by decide +kernel
theorem dX14_works_1 : decode cX14_works 1 = .ok (.getfield 431, 3) := by decide +kernel
theorem dX14_works_4 : decode cX14_works 4 = .ok (.iload_n 2, 1) := by decide +kernel
theorem dX14_works_5 : decode cX14_works 5 = .ok (.if_icmp .ne 18, 3) := by decide +kernel
theorem dX14_works_8 : decode cX14_works 8 = .ok (.aload_n 0, 1) := by decide +kernel
theorem dX14_works_9 : decode cX14_works 9 = .ok (.iconst 5, 1) := by decide +kernel
theorem dX14_works_10 : decode cX14_works 10 = .ok (.aload_n 0, 1) := by decide +kernel
theorem dX14_works_11 : decode cX14_works 11 = .ok (.getfield 23, 3) := by decide +kernel
theorem dX14_works_14 : decode cX14_works 14 = .ok (.getfield 197, 3) := by decide +kernel
theorem dX14_works_17 : decode cX14_works 17 = .ok (.iload_n 1, 1) := by decide +kernel
theorem dX14_works_18 : decode cX14_works 18 = .ok (.iaload, 1) := by decide +kernel
theorem dX14_works_19 : decode cX14_works 19 = .ok (.invokevirtual 181, 3) := by decide +kernel
theorem dX14_works_22 : decode cX14_works 22 = .ok (.athrow, 1) := by decide +kernel
theorem dX14_works_23 : decode cX14_works 23 = .ok (.aload_n 0, 1) := by decide +kernel
theorem dX14_works_24 : decode cX14_works 24 = .ok (.dup, 1) := by decide +kernel
theorem dX14_works_25 : decode cX14_works 25 = .ok (.getfield 431, 3) := by decide +kernel
theorem dX14_works_28 : decode cX14_works 28 = .ok (.iconst 1, 1) := by decide +kernel
theorem dX14_works_29 : decode cX14_works 29 = .ok (.iadd, 1) := by decide +kernel
theorem dX14_works_30 : decode cX14_works 30 = .ok (.putfield 431, 3) := by decide +kernel
theorem dX14_works_33 : decode cX14_works 33 = .ok (.aload_n 0, 1) := by decide +kernel
theorem dX14_works_34 : decode cX14_works 34 = .ok (.getfield 23, 3) := by decide +kernel
theorem dX14_works_37 : decode cX14_works 37 = .ok (.getfield 194, 3) := by decide +kernel
theorem dX14_works_40 : decode cX14_works 40 = .ok (.iload_n 1, 1) := by decide +kernel
theorem dX14_works_41 : decode cX14_works 41 = .ok (.baload, 1) := by decide +kernel
theorem dX14_works_42 : decode cX14_works 42 = .ok (.tableswitch 203 1 8 #[46, 65, 152, 152, 166, 203, 203, 144], 46) := by decide +kernel
theorem dX14_works_88 : decode cX14_works 88 = .ok (.aload_n 0, 1) := by decide +kernel
theorem dX14_works_89 : decode cX14_works 89 = .ok (.aload_n 0, 1) := by decide +kernel
theorem dX14_works_90 : decode cX14_works 90 = .ok (.getfield 23, 3) := by decide +kernel
theorem dX14_works_93 : decode cX14_works 93 = .ok (.getfield 199, 3) := by decide +kernel
theorem dX14_works_96 : decode cX14_works 96 = .ok (.iload_n 1, 1) := by decide +kernel
theorem dX14_works_97 : decode cX14_works 97 = .ok (.iaload, 1) := by decide +kernel
theorem dX14_works_98 : decode cX14_works 98 = .ok (.invokestatic 434, 3) := by decide +kernel
theorem dX14_works_101 : decode cX14_works 101 = .ok (.invokevirtual 438, 3) := by decide +kernel
theorem dX14_works_104 : decode cX14_works 104 = .ok (.goto 161, 3) := by decide +kernel
theorem dX14_works_107 : decode cX14_works 107 = .ok (.aload_n 0, 1) := by decide +kernel
theorem dX14_works_108 : decode cX14_works 108 = .ok (.getfield 23, 3) := by decide +kernel
theorem dX14_works_111 : decode cX14_works 111 = .ok (.getfield 199, 3) := by decide +kernel
theorem dX14_works_114 : decode cX14_works 114 = .ok (.iload_n 1, 1) := by decide +kernel
theorem dX14_works_115 : decode cX14_works 115 = .ok (.iaload, 1) := by decide +kernel
theorem dX14_works_116 : decode cX14_works 116 = .ok (.istore_n 3, 1) := by decide +kernel
theorem dX14_works_117 : decode cX14_works 117 = .ok (.aload_n 0, 1) := by decide +kernel
theorem dX14_works_118 : decode cX14_works 118 = .ok (.getfield 69, 3) := by decide +kernel
theorem dX14_works_121 : decode cX14_works 121 = .ok (.bipush 24, 2) := by decide +kernel
theorem dX14_works_123 : decode cX14_works 123 = .ok (.aload_n 0, 1) := by decide +kernel
theorem dX14_works_124 : decode cX14_works 124 = .ok (.invokevirtual 417, 3) := by decide +kernel
theorem dX14_works_127 : decode cX14_works 127 = .ok (.imul, 1) := by decide +kernel
theorem dX14_works_128 : decode cX14_works 128 = .ok (.iload_n 3, 1) := by decide +kernel
theorem dX14_works_129 : decode cX14_works 129 = .ok (.iadd, 1) := by decide +kernel
theorem dX14_works_130 : decode cX14_works 130 = .ok (.laload, 1) := by decide +kernel
theorem dX14_works_131 : decode cX14_works 131 = .ok (.lstore 4, 2) := by decide +kernel
theorem dX14_works_133 : decode cX14_works 133 = .ok (.aload_n 0, 1) := by decide +kernel
theorem dX14_works_134 : decode cX14_works 134 = .ok (.getfield 23, 3) := by decide +kernel
theorem dX14_works_137 : decode cX14_works 137 = .ok (.getfield 347, 3) := by decide +kernel
theorem dX14_works_140 : decode cX14_works 140 = .ok (.iload_n 1, 1) := by decide +kernel
theorem dX14_works_141 : decode cX14_works 141 = .ok (.iaload, 1) := by decide +kernel
theorem dX14_works_142 : decode cX14_works 142 = .ok (.iload_n 3, 1) := by decide +kernel
theorem dX14_works_143 : decode cX14_works 143 = .ok (.ishr, 1) := by decide +kernel
theorem dX14_works_144 : decode cX14_works 144 = .ok (.iconst 1, 1) := by decide +kernel
theorem dX14_works_145 : decode cX14_works 145 = .ok (.iand, 1) := by decide +kernel
theorem dX14_works_146 : decode cX14_works 146 = .ok (.iconst 1, 1) := by decide +kernel
theorem dX14_works_147 : decode cX14_works 147 = .ok (.if_icmp .ne 12, 3) := by decide +kernel
theorem dX14_works_150 : decode cX14_works 150 = .ok (.aload_n 0, 1) := by decide +kernel
theorem dX14_works_151 : decode cX14_works 151 = .ok (.lload 4, 2) := by decide +kernel
theorem dX14_works_153 : decode cX14_works 153 = .ok (.invokevirtual 441, 3) := by decide +kernel
theorem dX14_works_156 : decode cX14_works 156 = .ok (.goto 21, 3) := by decide +kernel
theorem dX14_works_159 : decode cX14_works 159 = .ok (.aload_n 0, 1) := by decide +kernel
theorem dX14_works_160 : decode cX14_works 160 = .ok (.getfield 72, 3) := by decide +kernel
theorem dX14_works_163 : decode cX14_works 163 = .ok (.aload_n 0, 1) := by decide +kernel
theorem dX14_works_164 : decode cX14_works 164 = .ok (.invokevirtual 417, 3) := by decide +kernel
theorem dX14_works_167 : decode cX14_works 167 = .ok (.dup2, 1) := by decide +kernel
theorem dX14_works_168 : decode cX14_works 168 = .ok (.iaload, 1) := by decide +kernel
theorem dX14_works_169 : decode cX14_works 169 = .ok (.iload_n 3, 1) := by decide +kernel
theorem dX14_works_170 : decode cX14_works 170 = .ok (.invokestatic 334, 3) := by decide +kernel
theorem dX14_works_173 : decode cX14_works 173 = .ok (.iconst (-1), 1) := by decide +kernel
theorem dX14_works_174 : decode cX14_works 174 = .ok (.ixor, 1) := by decide +kernel
theorem dX14_works_175 : decode cX14_works 175 = .ok (.iand, 1) := by decide +kernel
theorem dX14_works_176 : decode cX14_works 176 = .ok (.iastore, 1) := by decide +kernel
theorem dX14_works_177 : decode cX14_works 177 = .ok (.aload_n 0, 1) := by decide +kernel
theorem dX14_works_178 : decode cX14_works 178 = .ok (.lload 4, 2) := by decide +kernel
theorem dX14_works_180 : decode cX14_works 180 = .ok (.invokevirtual 438, 3) := by decide +kernel
theorem dX14_works_183 : decode cX14_works 183 = .ok (.goto 82, 3) := by decide +kernel
theorem dX14_works_186 : decode cX14_works 186 = .ok (.aload_n 0, 1) := by decide +kernel
theorem dX14_works_187 : decode cX14_works 187 = .ok (.iload_n 1, 1) := by decide +kernel
theorem dX14_works_188 : decode cX14_works 188 = .ok (.invokevirtual 444, 3) := by decide +kernel
theorem dX14_works_191 : decode cX14_works 191 = .ok (.goto 74, 3) := by decide +kernel
theorem dX14_works_194 : decode cX14_works 194 = .ok (.aload_n 0, 1) := by decide +kernel
theorem dX14_works_195 : decode cX14_works 195 = .ok (.iconst 1, 1) := by decide +kernel
theorem dX14_works_196 : decode cX14_works 196 = .ok (.iload_n 1, 1) := by decide +kernel
theorem dX14_works_197 : decode cX14_works 197 = .ok (.invokevirtual 420, 3) := by decide +kernel
theorem dX14_works_200 : decode cX14_works 200 = .ok (.aload_n 0, 1) := by decide +kernel
theorem dX14_works_201 : decode cX14_works 201 = .ok (.iload_n 1, 1) := by decide +kernel
theorem dX14_works_202 : decode cX14_works 202 = .ok (.invokevirtual 447, 3) := by decide +kernel
theorem dX14_works_205 : decode cX14_works 205 = .ok (.goto 60, 3) := by decide +kernel
theorem dX14_works_208 : decode cX14_works 208 = .ok (.aload_n 0, 1) := by decide +kernel
theorem dX14_works_209 : decode cX14_works 209 = .ok (.iconst 1, 1) := by decide +kernel
theorem dX14_works_210 : decode cX14_works 210 = .ok (.iload_n 1, 1) := by decide +kernel
theorem dX14_works_211 : decode cX14_works 211 = .ok (.invokevirtual 420, 3) := by decide +kernel
theorem dX14_works_214 : decode cX14_works 214 = .ok (.aload_n 0, 1) := by decide +kernel
theorem dX14_works_215 : decode cX14_works 215 = .ok (.iconst 0, 1) := by decide +kernel
theorem dX14_works_216 : decode cX14_works 216 = .ok (.aload_n 0, 1) := by decide +kernel
theorem dX14_works_217 : decode cX14_works 217 = .ok (.getfield 23, 3) := by decide +kernel
theorem dX14_works_220 : decode cX14_works 220 = .ok (.getfield 205, 3) := by decide +kernel
theorem dX14_works_223 : decode cX14_works 223 = .ok (.iload_n 1, 1) := by decide +kernel
theorem dX14_works_224 : decode cX14_works 224 = .ok (.iaload, 1) := by decide +kernel
theorem dX14_works_225 : decode cX14_works 225 = .ok (.invokevirtual 420, 3) := by decide +kernel
theorem dX14_works_228 : decode cX14_works 228 = .ok (.aload_n 0, 1) := by decide +kernel
theorem dX14_works_229 : decode cX14_works 229 = .ok (.iconst 0, 1) := by decide +kernel
theorem dX14_works_230 : decode cX14_works 230 = .ok (.aload_n 0, 1) := by decide +kernel
theorem dX14_works_231 : decode cX14_works 231 = .ok (.getfield 23, 3) := by decide +kernel
theorem dX14_works_234 : decode cX14_works 234 = .ok (.getfield 202, 3) := by decide +kernel
theorem dX14_works_237 : decode cX14_works 237 = .ok (.iload_n 1, 1) := by decide +kernel
theorem dX14_works_238 : decode cX14_works 238 = .ok (.iaload, 1) := by decide +kernel
theorem dX14_works_239 : decode cX14_works 239 = .ok (.invokevirtual 420, 3) := by decide +kernel
theorem dX14_works_242 : decode cX14_works 242 = .ok (.goto 23, 3) := by decide +kernel
theorem dX14_works_245 : decode cX14_works 245 = .ok (.aload_n 0, 1) := by decide +kernel
theorem dX14_works_246 : decode cX14_works 246 = .ok (.iconst 1, 1) := by decide +kernel
theorem dX14_works_247 : decode cX14_works 247 = .ok (.iload_n 1, 1) := by decide +kernel
theorem dX14_works_248 : decode cX14_works 248 = .ok (.invokevirtual 420, 3) := by decide +kernel
theorem dX14_works_251 : decode cX14_works 251 = .ok (.aload_n 0, 1) := by decide +kernel
theorem dX14_works_252 : decode cX14_works 252 = .ok (.iconst 0, 1) := by decide +kernel
theorem dX14_works_253 : decode cX14_works 253 = .ok (.aload_n 0, 1) := by decide +kernel
theorem dX14_works_254 : decode cX14_works 254 = .ok (.getfield 23, 3) := by decide +kernel
theorem dX14_works_257 : decode cX14_works 257 = .ok (.getfield 202, 3) := by decide +kernel
theorem dX14_works_260 : decode cX14_works 260 = .ok (.iload_n 1, 1) := by decide +kernel
theorem dX14_works_261 : decode cX14_works 261 = .ok (.iaload, 1) := by decide +kernel
theorem dX14_works_262 : decode cX14_works 262 = .ok (.invokevirtual 420, 3) := by decide +kernel
theorem dX14_works_265 : decode cX14_works 265 = .ok (.return_, 1) := by decide +kernel

end
