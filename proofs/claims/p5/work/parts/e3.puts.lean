section
theorem dX14_puts_0 : decode cX14_puts 0 = .ok (.aload_n 0, 1) := by decide +kernel
theorem dX14_puts_1 : decode cX14_puts 1 = .ok (.getfield 23, 3) := by decide +kernel
theorem dX14_puts_4 : decode cX14_puts 4 = .ok (.getfield 214, 3) := by decide +kernel
theorem dX14_puts_7 : decode cX14_puts 7 = .ok (.iload_n 1, 1) := by decide +kernel
theorem dX14_puts_8 : decode cX14_puts 8 = .ok (.iaload, 1) := by decide +kernel
theorem dX14_puts_9 : decode cX14_puts 9 = .ok (.istore_n 2, 1) := by decide +kernel
theorem dX14_puts_10 : decode cX14_puts 10 = .ok (.aload_n 0, 1) := by decide +kernel
theorem dX14_puts_11 : decode cX14_puts 11 = .ok (.getfield 404, 3) := by decide +kernel
theorem dX14_puts_14 : decode cX14_puts 14 = .ok (.istore_n 3, 1) := by decide +kernel
theorem dX14_puts_15 : decode cX14_puts 15 = .ok (.aload_n 0, 1) := by decide +kernel
theorem dX14_puts_16 : decode cX14_puts 16 = .ok (.getfield 23, 3) := by decide +kernel
theorem dX14_puts_19 : decode cX14_puts 19 = .ok (.getfield 202, 3) := by decide +kernel
theorem dX14_puts_22 : decode cX14_puts 22 = .ok (.iload_n 1, 1) := by decide +kernel
theorem dX14_puts_23 : decode cX14_puts 23 = .ok (.iaload, 1) := by decide +kernel
theorem dX14_puts_24 : decode cX14_puts 24 = .ok (.istore 4, 2) := by decide +kernel
theorem dX14_puts_26 : decode cX14_puts 26 = .ok (.iload 4, 2) := by decide +kernel
theorem dX14_puts_28 : decode cX14_puts 28 = .ok (.iconst (-1), 1) := by decide +kernel
theorem dX14_puts_29 : decode cX14_puts 29 = .ok (.if_icmp .eq 25, 3) := by decide +kernel
theorem dX14_puts_32 : decode cX14_puts 32 = .ok (.aload_n 0, 1) := by decide +kernel
theorem dX14_puts_33 : decode cX14_puts 33 = .ok (.iconst 0, 1) := by decide +kernel
theorem dX14_puts_34 : decode cX14_puts 34 = .ok (.iload 4, 2) := by decide +kernel
theorem dX14_puts_36 : decode cX14_puts 36 = .ok (.invokevirtual 420, 3) := by decide +kernel
theorem dX14_puts_39 : decode cX14_puts 39 = .ok (.aload_n 0, 1) := by decide +kernel
theorem dX14_puts_40 : decode cX14_puts 40 = .ok (.getfield 23, 3) := by decide +kernel
theorem dX14_puts_43 : decode cX14_puts 43 = .ok (.getfield 211, 3) := by decide +kernel
theorem dX14_puts_46 : decode cX14_puts 46 = .ok (.iload 4, 2) := by decide +kernel
theorem dX14_puts_48 : decode cX14_puts 48 = .ok (.iaload, 1) := by decide +kernel
theorem dX14_puts_49 : decode cX14_puts 49 = .ok (.istore 4, 2) := by decide +kernel
theorem dX14_puts_51 : decode cX14_puts 51 = .ok (.goto (-25), 3) := by decide +kernel
theorem dX14_puts_54 : decode cX14_puts 54 = .ok (.iconst 0, 1) := by decide +kernel
theorem dX14_puts_55 : decode cX14_puts 55 = .ok (.istore 4, 2) := by decide +kernel
theorem dX14_puts_57 : decode cX14_puts 57 = .ok (.iload 4, 2) := by decide +kernel
theorem dX14_puts_59 : decode cX14_puts 59 = .ok (.iload_n 2, 1) := by decide +kernel
theorem dX14_puts_60 : decode cX14_puts 60 = .ok (.iconst 2, 1) := by decide +kernel
theorem dX14_puts_61 : decode cX14_puts 61 = .ok (.idiv, 1) := by decide +kernel
theorem dX14_puts_62 : decode cX14_puts 62 = .ok (.if_icmp .ge 57, 3) := by decide +kernel
theorem dX14_puts_65 : decode cX14_puts 65 = .ok (.aload_n 0, 1) := by decide +kernel
theorem dX14_puts_66 : decode cX14_puts 66 = .ok (.getfield 63, 3) := by decide +kernel
theorem dX14_puts_69 : decode cX14_puts 69 = .ok (.iload_n 3, 1) := by decide +kernel
theorem dX14_puts_70 : decode cX14_puts 70 = .ok (.iload 4, 2) := by decide +kernel
theorem dX14_puts_72 : decode cX14_puts 72 = .ok (.iadd, 1) := by decide +kernel
theorem dX14_puts_73 : decode cX14_puts 73 = .ok (.iaload, 1) := by decide +kernel
theorem dX14_puts_74 : decode cX14_puts 74 = .ok (.istore 5, 2) := by decide +kernel
theorem dX14_puts_76 : decode cX14_puts 76 = .ok (.aload_n 0, 1) := by decide +kernel
theorem dX14_puts_77 : decode cX14_puts 77 = .ok (.getfield 63, 3) := by decide +kernel
theorem dX14_puts_80 : decode cX14_puts 80 = .ok (.iload_n 3, 1) := by decide +kernel
theorem dX14_puts_81 : decode cX14_puts 81 = .ok (.iload 4, 2) := by decide +kernel
theorem dX14_puts_83 : decode cX14_puts 83 = .ok (.iadd, 1) := by decide +kernel
theorem dX14_puts_84 : decode cX14_puts 84 = .ok (.aload_n 0, 1) := by decide +kernel
theorem dX14_puts_85 : decode cX14_puts 85 = .ok (.getfield 63, 3) := by decide +kernel
theorem dX14_puts_88 : decode cX14_puts 88 = .ok (.iload_n 3, 1) := by decide +kernel
theorem dX14_puts_89 : decode cX14_puts 89 = .ok (.iload_n 2, 1) := by decide +kernel
theorem dX14_puts_90 : decode cX14_puts 90 = .ok (.iadd, 1) := by decide +kernel
theorem dX14_puts_91 : decode cX14_puts 91 = .ok (.iconst 1, 1) := by decide +kernel
theorem dX14_puts_92 : decode cX14_puts 92 = .ok (.isub, 1) := by decide +kernel
theorem dX14_puts_93 : decode cX14_puts 93 = .ok (.iload 4, 2) := by decide +kernel
theorem dX14_puts_95 : decode cX14_puts 95 = .ok (.isub, 1) := by decide +kernel
theorem dX14_puts_96 : decode cX14_puts 96 = .ok (.iaload, 1) := by decide +kernel
theorem dX14_puts_97 : decode cX14_puts 97 = .ok (.iastore, 1) := by decide +kernel
theorem dX14_puts_98 : decode cX14_puts 98 = .ok (.aload_n 0, 1) := by decide +kernel
theorem dX14_puts_99 : decode cX14_puts 99 = .ok (.getfield 63, 3) := by decide +kernel
theorem dX14_puts_102 : decode cX14_puts 102 = .ok (.iload_n 3, 1) := by decide +kernel
theorem dX14_puts_103 : decode cX14_puts 103 = .ok (.iload_n 2, 1) := by decide +kernel
theorem dX14_puts_104 : decode cX14_puts 104 = .ok (.iadd, 1) := by decide +kernel
theorem dX14_puts_105 : decode cX14_puts 105 = .ok (.iconst 1, 1) := by decide +kernel
theorem dX14_puts_106 : decode cX14_puts 106 = .ok (.isub, 1) := by decide +kernel
theorem dX14_puts_107 : decode cX14_puts 107 = .ok (.iload 4, 2) := by decide +kernel
theorem dX14_puts_109 : decode cX14_puts 109 = .ok (.isub, 1) := by decide +kernel
theorem dX14_puts_110 : decode cX14_puts 110 = .ok (.iload 5, 2) := by decide +kernel
theorem dX14_puts_112 : decode cX14_puts 112 = .ok (.iastore, 1) := by decide +kernel
theorem dX14_puts_113 : decode cX14_puts 113 = .ok (.iinc 4 1, 3) := by decide +kernel
theorem dX14_puts_116 : decode cX14_puts 116 = .ok (.goto (-59), 3) := by decide +kernel
theorem dX14_puts_119 : decode cX14_puts 119 = .ok (.return_, 1) := by decide +kernel
/-- a stretch of rows that is turned round: i of each end are done -/
def zSw (R : List Nat) (a : Nat) (q : Nat → Int32) (i : Nat) : Prop := ∀ j, j < R.length → Int32.toInt (q (a + j)) = ((R.getD (if j < i ∨ R.length ≤ j + i then R.length - 1 - j else j) 0 : Nat) : Int)
theorem zSw_0 {R : List Nat} {a : Nat} {q : Nat → Int32} {i : Nat} (hi : i = 0) (h : ∀ j, j < R.length → Int32.toInt (q (a + j)) = ((R.getD j 0 : Nat) : Int)) : zSw R a q i := fun j hj => by rw [hi, if_neg (by omega)]; exact h j hj
theorem zSw_st {R : List Nat} {a : Nat} {q q1 q2 : Nat → Int32} {i : Nat} (h : zSw R a q i) (h2 : 2 * (i + 1) ≤ R.length) (e1 : q1 = upd q (a + i) (q (a + (R.length - 1 - i)))) (e2 : q2 = upd q1 (a + (R.length - 1 - i)) (q (a + i))) : zSw R a q2 (i + 1) := fun j hj => by
  have x1 : Int32.toInt (q (a + i)) = ((R.getD i 0 : Nat) : Int) := by rw [h i (by omega), if_neg (by omega)]
  have x2 : Int32.toInt (q (a + (R.length - 1 - i))) = ((R.getD (R.length - 1 - i) 0 : Nat) : Int) := by rw [h _ (by omega), if_neg (by omega)]
  by_cases g : j = R.length - 1 - i
  · rw [e2, g, zu_s, x1, if_pos (by omega), show R.length - 1 - (R.length - 1 - i) = i by omega]
  · by_cases g2 : j = i
    · rw [e2, zu_n (by omega), e1, g2, zu_s, x2, if_pos (by omega)]
    · rw [e2, zu_n (by omega), e1, zu_n (by omega), h j hj]
      by_cases g3 : j < i ∨ R.length ≤ j + i
      · rw [if_pos g3, if_pos (by omega)]
      · rw [if_neg g3, if_neg (by omega)]
theorem zSw_end {R : List Nat} {a : Nat} {q : Nat → Int32} {i : Nat} (h : zSw R a q i) (h2 : R.length ≤ 2 * i + 1) (j : Nat) (hj : j < R.length) : Int32.toInt (q (a + j)) = ((R.getD (R.length - 1 - j) 0 : Nat) : Int) := by
  rw [h j hj]
  by_cases g : j < i ∨ R.length ≤ j + i
  · rw [if_pos g]
  · rw [if_neg g, show R.length - 1 - j = j by omega]

set_option maxHeartbeats 4000000 in
set_option maxRecDepth 100000 in
theorem c_X14_puts_x (l : Launch) (dC : Nat → ClassId) (dI : Nat → Nat → Nat) (aK aV : Nat → Nat) (h0 : Nat) (m_thrown : Int32) (m_stop : Nat) (m_tape : Nat) (m_taped : Int32) (m_length : Int32) (m_at : Int32) (m_sort : Int32) (m_place : Int32) (m_sign : Int32) (m_letters : Int64) (m_p : Nat) (m_spare : Nat) (m_isTaken : Int32) (m_scope : Nat) (m_scoped : Int32) (m_deep : Int32) (m_counted : Int32) (m_fault : Int32) (m_where : Int32) (m_cellKind : Nat) (m_cellCount : Nat) (m_free : Nat) (m_pile : Nat) (m_cellField : Nat) (m_freeCount : Int32) (m_given : Int32) (m_nextPlain : Int32) (m_otherKind : Nat) (m_otherField : Nat) (m_isPlain : Int32) (m_hasRun : Int32) (m_hasValue : Int32) (m_hasOther : Int32) (m_value : Int64) (m_other : Int64) (m_steps : Int32) (m_made : Int32) (m_reused : Int32) (m_freed : Int32) (m_most : Int32) (m_doubled : Int32) (m_openMost : Int32) (m_taskWhat : Nat) (m_taskPart : Nat) (m_values : Nat) (m_tasks : Int32) (m_valued : Int32) (m_open : Int32) (m_slots : Nat) (m_present : Nat) (m_shell : Nat) (m_shellArm : Nat) (m_shellCall : Nat) (m_shells : Int32) (m_keptCounts : Nat) (m_asideKind : Nat) (m_asideCount : Nat) (m_asideField : Nat) (m_out : Nat) (m_side : Nat) (m_outs : Int32) (m_sides : Int32) (m_saying : Nat) (pr_what : Nat) (pr_place : Nat) (pr_own : Nat) (pr_one : Nat) (pr_two : Nat) (pr_three : Nat) (pr_beside : Nat) (pr_many : Nat) (pr_uses : Nat) (pr_behind : Nat) (pr_name : Nat) (pr_makes : Nat) (pr_parts : Int32) (pr_functionName : Nat) (pr_kindName : Nat) (pr_told : Nat) (pr_body : Nat) (pr_first : Nat) (pr_widest : Nat) (pr_fields : Nat) (pr_functions : Int32) (pr_kinds : Int32) (rk_many : ClassId) (rk_one : ClassId) (rk_beside : ClassId) (rg_many : Nat → Int32) (rg_one : Nat → Int32) (rg_beside : Nat → Int32) (kw : ClassId) (kq : ClassId) (zt : Nat) (gtw : Nat → Int32) (gtp : Nat → Int32) (pt : Int32) (gR : List Nat) (sz : Nat) (hlt : l.stackTraces = false) (hpt0 : 0 ≤ pt.toInt) (hpt1 : pt.toInt < 2100) (hts0 : 0 ≤ m_tasks.toInt) (hts1 : m_tasks.toInt ≤ 120190) (hts2 : m_tasks.toInt ≤ (zt : Int)) (hzt0 : 64 ≤ zt) (hzt1 : zt ≤ 240400) (htr : ∀ i : Nat, (i : Int) < Int32.toInt m_tasks → zbt (gtw i)) (hli : zli rg_beside (rg_one (Int32.toNatClampNeg pt)) gR) (hlr : ∀ r ∈ gR, r < 2100) (hll : (gR.length : Int) = Int32.toInt (rg_many (Int32.toNatClampNeg pt)) ∧ gR.length ≤ 6) : vw_Met m_stop l yX14_puts (Cond.code yX14_puts cX14_puts 6 none :: zw) ({ frames := 10, cells := ((8000 - zG zt)), slots := ((1000000 - 4 * zt)), locals := 300 }) (va_Pc [.ref h0, .int pt] (zP dC dI aK aV sz [(rk_many, .int), (rk_one, .int), (rk_beside, .int), (kw, .byte), (kq, .int)] [(h0, .inr (14, [.int m_thrown, .ref m_stop, .ref m_tape, .int m_taped, .int m_length, .int m_at, .int m_sort, .int m_place, .int m_sign, .long m_letters, .ref m_p, .ref m_spare, .int m_isTaken, .ref m_scope, .int m_scoped, .int m_deep, .int m_counted, .int m_fault, .int m_where, .ref m_cellKind, .ref m_cellCount, .ref m_free, .ref m_pile, .ref m_cellField, .int m_freeCount, .int m_given, .int m_nextPlain, .ref m_otherKind, .ref m_otherField, .int m_isPlain, .int m_hasRun, .int m_hasValue, .int m_hasOther, .long m_value, .long m_other, .int m_steps, .int m_made, .int m_reused, .int m_freed, .int m_most, .int m_doubled, .int m_openMost, .ref m_taskWhat, .ref m_taskPart, .ref m_values, .int m_tasks, .int m_valued, .int m_open, .ref m_slots, .ref m_present, .ref m_shell, .ref m_shellArm, .ref m_shellCall, .int m_shells, .ref m_keptCounts, .ref m_asideKind, .ref m_asideCount, .ref m_asideField, .ref m_out, .ref m_side, .int m_outs, .int m_sides, .ref m_saying])), (m_p, .inr (12, [.ref pr_what, .ref pr_place, .ref pr_own, .ref pr_one, .ref pr_two, .ref pr_three, .ref pr_beside, .ref pr_many, .ref pr_uses, .ref pr_behind, .ref pr_name, .ref pr_makes, .int pr_parts, .ref pr_functionName, .ref pr_kindName, .ref pr_told, .ref pr_body, .ref pr_first, .ref pr_widest, .ref pr_fields, .int pr_functions, .int pr_kinds])), (pr_many, .inl (rk_many, 2100, .inl rg_many)), (pr_one, .inl (rk_one, 2100, .inl rg_one)), (pr_beside, .inl (rk_beside, 2100, .inl rg_beside)), (m_taskWhat, .inl (kw, zt, .inl gtw)), (m_taskPart, .inl (kq, zt, .inl gtp))])) (fun kc kn : Nat => va_Qv (fun u : Int32 × Nat × Nat × ClassId × ClassId × Nat × (Nat → Int32) × (Nat → Int32) => match u with | (ts2, tw2, tq2, kw2, kq2, zt2, gtw2, gtp2) => (ts2.toInt = m_tasks.toInt + Int32.toInt (rg_many (Int32.toNatClampNeg pt))) ∧ (ts2.toInt ≤ (zt2 : Int)) ∧ (64 ≤ zt2) ∧ (zt2 ≤ 240400) ∧ ((∀ i : Nat, i < (Int32.toNatClampNeg m_tasks) → gtw2 i = gtw i ∧ gtp2 i = gtp i) ∧ ∀ i : Nat, i < gR.length → Int32.toInt (gtw2 ((Int32.toNatClampNeg m_tasks) + i)) = 0 ∧ Int32.toInt (gtp2 ((Int32.toNatClampNeg m_tasks) + i)) = ((gR.getD (gR.length - 1 - i) 0 : Nat) : Int)) ∧ (kc + (zG zt) ≤ zG zt2) ∧ (kn + (4 * zt) ≤ 4 * zt2)) (fun u => match u with | (ts2, tw2, tq2, kw2, kq2, zt2, gtw2, gtp2) => zQ dC dI (va_A [(h0, .inr (14, [.int m_thrown, .ref m_stop, .ref m_tape, .int m_taped, .int m_length, .int m_at, .int m_sort, .int m_place, .int m_sign, .long m_letters, .ref m_p, .ref m_spare, .int m_isTaken, .ref m_scope, .int m_scoped, .int m_deep, .int m_counted, .int m_fault, .int m_where, .ref m_cellKind, .ref m_cellCount, .ref m_free, .ref m_pile, .ref m_cellField, .int m_freeCount, .int m_given, .int m_nextPlain, .ref m_otherKind, .ref m_otherField, .int m_isPlain, .int m_hasRun, .int m_hasValue, .int m_hasOther, .long m_value, .long m_other, .int m_steps, .int m_made, .int m_reused, .int m_freed, .int m_most, .int m_doubled, .int m_openMost, .ref m_taskWhat, .ref m_taskPart, .ref m_values, .int m_tasks, .int m_valued, .int m_open, .ref m_slots, .ref m_present, .ref m_shell, .ref m_shellArm, .ref m_shellCall, .int m_shells, .ref m_keptCounts, .ref m_asideKind, .ref m_asideCount, .ref m_asideField, .ref m_out, .ref m_side, .int m_outs, .int m_sides, .ref m_saying])), (m_p, .inr (12, [.ref pr_what, .ref pr_place, .ref pr_own, .ref pr_one, .ref pr_two, .ref pr_three, .ref pr_beside, .ref pr_many, .ref pr_uses, .ref pr_behind, .ref pr_name, .ref pr_makes, .int pr_parts, .ref pr_functionName, .ref pr_kindName, .ref pr_told, .ref pr_body, .ref pr_first, .ref pr_widest, .ref pr_fields, .int pr_functions, .int pr_kinds])), (pr_many, .inl (rk_many, 2100, .inl rg_many)), (pr_one, .inl (rk_one, 2100, .inl rg_one)), (pr_beside, .inl (rk_beside, 2100, .inl rg_beside)), (m_taskWhat, .inl (kw, zt, .inl gtw)), (m_taskPart, .inl (kq, zt, .inl gtp))] sz) [(rk_many, .int), (rk_one, .int), (rk_beside, .int), (kw2, .byte), (kq2, .int)] [(h0, .inr (14, [.int m_thrown, .ref m_stop, .ref m_tape, .int m_taped, .int m_length, .int m_at, .int m_sort, .int m_place, .int m_sign, .long m_letters, .ref m_p, .ref m_spare, .int m_isTaken, .ref m_scope, .int m_scoped, .int m_deep, .int m_counted, .int m_fault, .int m_where, .ref m_cellKind, .ref m_cellCount, .ref m_free, .ref m_pile, .ref m_cellField, .int m_freeCount, .int m_given, .int m_nextPlain, .ref m_otherKind, .ref m_otherField, .int m_isPlain, .int m_hasRun, .int m_hasValue, .int m_hasOther, .long m_value, .long m_other, .int m_steps, .int m_made, .int m_reused, .int m_freed, .int m_most, .int m_doubled, .int m_openMost, .ref tw2, .ref tq2, .ref m_values, .int ts2, .int m_valued, .int m_open, .ref m_slots, .ref m_present, .ref m_shell, .ref m_shellArm, .ref m_shellCall, .int m_shells, .ref m_keptCounts, .ref m_asideKind, .ref m_asideCount, .ref m_asideField, .ref m_out, .ref m_side, .int m_outs, .int m_sides, .ref m_saying])), (m_p, .inr (12, [.ref pr_what, .ref pr_place, .ref pr_own, .ref pr_one, .ref pr_two, .ref pr_three, .ref pr_beside, .ref pr_many, .ref pr_uses, .ref pr_behind, .ref pr_name, .ref pr_makes, .int pr_parts, .ref pr_functionName, .ref pr_kindName, .ref pr_told, .ref pr_body, .ref pr_first, .ref pr_widest, .ref pr_fields, .int pr_functions, .int pr_kinds])), (pr_many, .inl (rk_many, 2100, .inl rg_many)), (pr_one, .inl (rk_one, 2100, .inl rg_one)), (pr_beside, .inl (rk_beside, 2100, .inl rg_beside)), (tw2, .inl (kw2, zt2, .inl gtw2)), (tq2, .inl (kq2, zt2, .inl gtp2))]) (va_A [(h0, .inr (14, [.int m_thrown, .ref m_stop, .ref m_tape, .int m_taped, .int m_length, .int m_at, .int m_sort, .int m_place, .int m_sign, .long m_letters, .ref m_p, .ref m_spare, .int m_isTaken, .ref m_scope, .int m_scoped, .int m_deep, .int m_counted, .int m_fault, .int m_where, .ref m_cellKind, .ref m_cellCount, .ref m_free, .ref m_pile, .ref m_cellField, .int m_freeCount, .int m_given, .int m_nextPlain, .ref m_otherKind, .ref m_otherField, .int m_isPlain, .int m_hasRun, .int m_hasValue, .int m_hasOther, .long m_value, .long m_other, .int m_steps, .int m_made, .int m_reused, .int m_freed, .int m_most, .int m_doubled, .int m_openMost, .ref m_taskWhat, .ref m_taskPart, .ref m_values, .int m_tasks, .int m_valued, .int m_open, .ref m_slots, .ref m_present, .ref m_shell, .ref m_shellArm, .ref m_shellCall, .int m_shells, .ref m_keptCounts, .ref m_asideKind, .ref m_asideCount, .ref m_asideField, .ref m_out, .ref m_side, .int m_outs, .int m_sides, .ref m_saying])), (m_p, .inr (12, [.ref pr_what, .ref pr_place, .ref pr_own, .ref pr_one, .ref pr_two, .ref pr_three, .ref pr_beside, .ref pr_many, .ref pr_uses, .ref pr_behind, .ref pr_name, .ref pr_makes, .int pr_parts, .ref pr_functionName, .ref pr_kindName, .ref pr_told, .ref pr_body, .ref pr_first, .ref pr_widest, .ref pr_fields, .int pr_functions, .int pr_kinds])), (pr_many, .inl (rk_many, 2100, .inl rg_many)), (pr_one, .inl (rk_one, 2100, .inl rg_one)), (pr_beside, .inl (rk_beside, 2100, .inl rg_beside)), (m_taskWhat, .inl (kw, zt, .inl gtw)), (m_taskPart, .inl (kq, zt, .inl gtp))] sz)) (fun kc kn : Nat => vx_X (fun _ : Unit => False) (fun _ _ _ => True) (va_A [(h0, .inr (14, [.int m_thrown, .ref m_stop, .ref m_tape, .int m_taped, .int m_length, .int m_at, .int m_sort, .int m_place, .int m_sign, .long m_letters, .ref m_p, .ref m_spare, .int m_isTaken, .ref m_scope, .int m_scoped, .int m_deep, .int m_counted, .int m_fault, .int m_where, .ref m_cellKind, .ref m_cellCount, .ref m_free, .ref m_pile, .ref m_cellField, .int m_freeCount, .int m_given, .int m_nextPlain, .ref m_otherKind, .ref m_otherField, .int m_isPlain, .int m_hasRun, .int m_hasValue, .int m_hasOther, .long m_value, .long m_other, .int m_steps, .int m_made, .int m_reused, .int m_freed, .int m_most, .int m_doubled, .int m_openMost, .ref m_taskWhat, .ref m_taskPart, .ref m_values, .int m_tasks, .int m_valued, .int m_open, .ref m_slots, .ref m_present, .ref m_shell, .ref m_shellArm, .ref m_shellCall, .int m_shells, .ref m_keptCounts, .ref m_asideKind, .ref m_asideCount, .ref m_asideField, .ref m_out, .ref m_side, .int m_outs, .int m_sides, .ref m_saying])), (m_p, .inr (12, [.ref pr_what, .ref pr_place, .ref pr_own, .ref pr_one, .ref pr_two, .ref pr_three, .ref pr_beside, .ref pr_many, .ref pr_uses, .ref pr_behind, .ref pr_name, .ref pr_makes, .int pr_parts, .ref pr_functionName, .ref pr_kindName, .ref pr_told, .ref pr_body, .ref pr_first, .ref pr_widest, .ref pr_fields, .int pr_functions, .int pr_kinds])), (pr_many, .inl (rk_many, 2100, .inl rg_many)), (pr_one, .inl (rk_one, 2100, .inl rg_one)), (pr_beside, .inl (rk_beside, 2100, .inl rg_beside)), (m_taskWhat, .inl (kw, zt, .inl gtw)), (m_taskPart, .inl (kq, zt, .inl gtp))] sz)) (va_A [(h0, .inr (14, [.int m_thrown, .ref m_stop, .ref m_tape, .int m_taped, .int m_length, .int m_at, .int m_sort, .int m_place, .int m_sign, .long m_letters, .ref m_p, .ref m_spare, .int m_isTaken, .ref m_scope, .int m_scoped, .int m_deep, .int m_counted, .int m_fault, .int m_where, .ref m_cellKind, .ref m_cellCount, .ref m_free, .ref m_pile, .ref m_cellField, .int m_freeCount, .int m_given, .int m_nextPlain, .ref m_otherKind, .ref m_otherField, .int m_isPlain, .int m_hasRun, .int m_hasValue, .int m_hasOther, .long m_value, .long m_other, .int m_steps, .int m_made, .int m_reused, .int m_freed, .int m_most, .int m_doubled, .int m_openMost, .ref m_taskWhat, .ref m_taskPart, .ref m_values, .int m_tasks, .int m_valued, .int m_open, .ref m_slots, .ref m_present, .ref m_shell, .ref m_shellArm, .ref m_shellCall, .int m_shells, .ref m_keptCounts, .ref m_asideKind, .ref m_asideCount, .ref m_asideField, .ref m_out, .ref m_side, .int m_outs, .int m_sides, .ref m_saying])), (m_p, .inr (12, [.ref pr_what, .ref pr_place, .ref pr_own, .ref pr_one, .ref pr_two, .ref pr_three, .ref pr_beside, .ref pr_many, .ref pr_uses, .ref pr_behind, .ref pr_name, .ref pr_makes, .int pr_parts, .ref pr_functionName, .ref pr_kindName, .ref pr_told, .ref pr_body, .ref pr_first, .ref pr_widest, .ref pr_fields, .int pr_functions, .int pr_kinds])), (pr_many, .inl (rk_many, 2100, .inl rg_many)), (pr_one, .inl (rk_one, 2100, .inl rg_one)), (pr_beside, .inl (rk_beside, 2100, .inl rg_beside)), (m_taskWhat, .inl (kw, zt, .inl gtw)), (m_taskPart, .inl (kq, zt, .inl gtp))] sz) := by
  refine vw_ofW (cc := cX14_puts) (maxL := 6) (ret := none) (by decide) rfl ?_
  intro p e s m args below meth c s₁ B hml hnh hv
  obtain ⟨rfl, hsz, hP, hK, hD0, hN, hT⟩ := hv
  have hx := B.exec
  have hb := B.bytes
  have hr := B.returns
  have hts := atoms_spec (ws := Cond.code yX14_puts cX14_puts 6 none :: zw) B.pre
  have hA : ∀ w ∈ zw, w.before _ s = true := fun w h => hts w (List.mem_cons_of_mem _ h)
  have hown : s.vm.findClass RX14 = some m.cls := findClass_of_methodNamed B.named
  have hlocks := B.notSynchronized
  subst hsz
  have hD := hD0.self (sz := s.heap.size)
  generalize hAe : va_A [(h0, .inr (14, [.int m_thrown, .ref m_stop, .ref m_tape, .int m_taped, .int m_length, .int m_at, .int m_sort, .int m_place, .int m_sign, .long m_letters, .ref m_p, .ref m_spare, .int m_isTaken, .ref m_scope, .int m_scoped, .int m_deep, .int m_counted, .int m_fault, .int m_where, .ref m_cellKind, .ref m_cellCount, .ref m_free, .ref m_pile, .ref m_cellField, .int m_freeCount, .int m_given, .int m_nextPlain, .ref m_otherKind, .ref m_otherField, .int m_isPlain, .int m_hasRun, .int m_hasValue, .int m_hasOther, .long m_value, .long m_other, .int m_steps, .int m_made, .int m_reused, .int m_freed, .int m_most, .int m_doubled, .int m_openMost, .ref m_taskWhat, .ref m_taskPart, .ref m_values, .int m_tasks, .int m_valued, .int m_open, .ref m_slots, .ref m_present, .ref m_shell, .ref m_shellArm, .ref m_shellCall, .int m_shells, .ref m_keptCounts, .ref m_asideKind, .ref m_asideCount, .ref m_asideField, .ref m_out, .ref m_side, .int m_outs, .int m_sides, .ref m_saying])), (m_p, .inr (12, [.ref pr_what, .ref pr_place, .ref pr_own, .ref pr_one, .ref pr_two, .ref pr_three, .ref pr_beside, .ref pr_many, .ref pr_uses, .ref pr_behind, .ref pr_name, .ref pr_makes, .int pr_parts, .ref pr_functionName, .ref pr_kindName, .ref pr_told, .ref pr_body, .ref pr_first, .ref pr_widest, .ref pr_fields, .int pr_functions, .int pr_kinds])), (pr_many, .inl (rk_many, 2100, .inl rg_many)), (pr_one, .inl (rk_one, 2100, .inl rg_one)), (pr_beside, .inl (rk_beside, 2100, .inl rg_beside)), (m_taskWhat, .inl (kw, zt, .inl gtw)), (m_taskPart, .inl (kq, zt, .inl gtp))] s.heap.size = A at hD hT ⊢
  have hAA : ∀ q : Nat, s.heap.size ≤ q → A q := fun q h => by rw [← hAe]; exact Or.inr h
  have hS : va_S A s.heap s.heap [] := va_S.rf
  have hl := lv_entry ([.ref h0, .int pt]) (n := 6) (Nat.le_of_ble_eq_true rfl)
  rw [lg_entry_eq]
  generalize (lg_sl ([.ref h0, .int pt]) ++ List.replicate (6 - (lg_sl ([.ref h0, .int pt])).length) Slot.unset).toArray = ls at hl ⊢
  have hl : lv_has ls 6 [(0, .ref h0), (1, .int pt)] := hl
  have hgl0_t := zG_le (z := zt)
  refine lv_aload_n hx hb dX14_puts_0 rfl (lv_at hl 0 rfl) ?_
  obtain ⟨hll1, hll2⟩ := hll
  have htn := zn_nat (x := m_tasks) (by omega)
  refine va_get (D := (dC, dI)) (ci := 14) (v := .ref m_p) (C := RX14) (T := TX14) (N := 63) hx hb hA zin_X14 hown hK hP 0 rfl rfl 10 (by decide) (hA _ wi_1507) (fun _ h9 => h9) rfl dX14_puts_1 ?_
  refine va_getN (D := (dC, dI)) (ci := 12) (v := .ref pr_many) (C := RX12) (T := TX12) (N := 22) hx hb hA zin_X12 hown hK hP 1 rfl rfl 7 (by decide) (va_Nw.use rfl (hN.1 ("ReuseHouseModel", 214, "ReuseHouseModel$Program", "many", "[I", "ReuseHouseModel") (by decide +kernel))) (fun _ h9 => h9) rfl dX14_puts_4 ?_
  refine lv_iload_n hx hb dX14_puts_7 rfl (lv_at hl 1 rfl) ?_
  refine va_iald hx hb hK hP 2 0 rfl rfl (vp_in_iff.mpr ⟨by omega, by omega⟩) dX14_puts_8 ?_
  refine lv_topi (fun x_1 ex_1 => ?_)
  have ix_1 : x_1.toInt = Int32.toInt (rg_many (Int32.toNatClampNeg pt)) := by rw [ex_1]
  refine lv_istore_n (lv' := [(2, .int x_1), (0, .ref h0), (1, .int pt)]) hx hb dX14_puts_9 rfl hl (by decide) rfl (fun ls hl => ?_)
  refine lv_aload_n hx hb dX14_puts_10 rfl (lv_at hl 1 rfl) ?_
  refine va_get (D := (dC, dI)) (ci := 14) (v := .int m_tasks) (C := RX14) (T := TX14) (N := 63) hx hb hA zin_X14 hown hK hP 0 rfl rfl 45 (by decide) (hA _ wi_1542) (fun _ h9 => h9) rfl dX14_puts_11 ?_
  refine lv_istore_n (lv' := [(3, .int m_tasks), (2, .int x_1), (0, .ref h0), (1, .int pt)]) hx hb dX14_puts_14 rfl hl (by decide) rfl (fun ls hl => ?_)
  refine lv_aload_n hx hb dX14_puts_15 rfl (lv_at hl 2 rfl) ?_
  refine va_get (D := (dC, dI)) (ci := 14) (v := .ref m_p) (C := RX14) (T := TX14) (N := 63) hx hb hA zin_X14 hown hK hP 0 rfl rfl 10 (by decide) (hA _ wi_1507) (fun _ h9 => h9) rfl dX14_puts_16 ?_
  refine va_getN (D := (dC, dI)) (ci := 12) (v := .ref pr_one) (C := RX12) (T := TX12) (N := 22) hx hb hA zin_X12 hown hK hP 1 rfl rfl 3 (by decide) (va_Nw.use rfl (hN.1 ("ReuseHouseModel", 202, "ReuseHouseModel$Program", "one", "[I", "ReuseHouseModel") (by decide +kernel))) (fun _ h9 => h9) rfl dX14_puts_19 ?_
  refine lv_iload_n hx hb dX14_puts_22 rfl (lv_at hl 3 rfl) ?_
  refine va_iald hx hb hK hP 3 1 rfl rfl (vp_in_iff.mpr ⟨by omega, by omega⟩) dX14_puts_23 ?_
  refine lv_topi (fun x_2 ex_2 => ?_)
  have qx_2 : x_2 = rg_one (Int32.toNatClampNeg pt) := ex_2
  refine lv_istore (lv' := [(4, .int x_2), (3, .int m_tasks), (2, .int x_1), (0, .ref h0), (1, .int pt)]) hx hb dX14_puts_24 hl (by decide) rfl (fun ls hl => ?_)
  have loop_26 : ∀ (n9 : Nat) (la : Int32) (lts : Int32) (gD : List Nat) (gA : List Nat) (lta : Nat) (lqa : Nat) (ltk : ClassId) (lqk : ClassId) (lzt : Nat) (lgw : Nat → Int32) (lgq : Nat → Int32) (H : Heap) (locs : List Loc) (ls : Array Slot), (gA.length + 1) ≤ n9 → lts.toInt = m_tasks.toInt + (gD.length : Int) → lts.toInt ≤ (lzt : Int) → 64 ≤ lzt → lzt ≤ 240400 → zG zt ≤ zG lzt → zt ≤ lzt → gR = gD ++ gA → zli rg_beside la gA → ((∀ i : Nat, i < (Int32.toNatClampNeg m_tasks) → lgw i = gtw i ∧ lgq i = gtp i) ∧ ∀ i : Nat, i < gD.length → Int32.toInt (lgw ((Int32.toNatClampNeg m_tasks) + i)) = 0 ∧ Int32.toInt (lgq ((Int32.toNatClampNeg m_tasks) + i)) = ((gD.getD i 0 : Nat) : Int)) → va_K (dC, dI) vwCl [(rk_many, .int), (rk_one, .int), (rk_beside, .int), (ltk, .byte), (lqk, .int)] s → va_P (dC, dI) vwCl [(h0, .inr (14, [.int m_thrown, .ref m_stop, .ref m_tape, .int m_taped, .int m_length, .int m_at, .int m_sort, .int m_place, .int m_sign, .long m_letters, .ref m_p, .ref m_spare, .int m_isTaken, .ref m_scope, .int m_scoped, .int m_deep, .int m_counted, .int m_fault, .int m_where, .ref m_cellKind, .ref m_cellCount, .ref m_free, .ref m_pile, .ref m_cellField, .int m_freeCount, .int m_given, .int m_nextPlain, .ref m_otherKind, .ref m_otherField, .int m_isPlain, .int m_hasRun, .int m_hasValue, .int m_hasOther, .long m_value, .long m_other, .int m_steps, .int m_made, .int m_reused, .int m_freed, .int m_most, .int m_doubled, .int m_openMost, .ref lta, .ref lqa, .ref m_values, .int lts, .int m_valued, .int m_open, .ref m_slots, .ref m_present, .ref m_shell, .ref m_shellArm, .ref m_shellCall, .int m_shells, .ref m_keptCounts, .ref m_asideKind, .ref m_asideCount, .ref m_asideField, .ref m_out, .ref m_side, .int m_outs, .int m_sides, .ref m_saying])), (m_p, .inr (12, [.ref pr_what, .ref pr_place, .ref pr_own, .ref pr_one, .ref pr_two, .ref pr_three, .ref pr_beside, .ref pr_many, .ref pr_uses, .ref pr_behind, .ref pr_name, .ref pr_makes, .int pr_parts, .ref pr_functionName, .ref pr_kindName, .ref pr_told, .ref pr_body, .ref pr_first, .ref pr_widest, .ref pr_fields, .int pr_functions, .int pr_kinds])), (pr_many, .inl (rk_many, 2100, .inl rg_many)), (pr_one, .inl (rk_one, 2100, .inl rg_one)), (pr_beside, .inl (rk_beside, 2100, .inl rg_beside)), (lta, .inl (ltk, lzt, .inl lgw)), (lqa, .inl (lqk, lzt, .inl lgq))] H → va_D A [(h0, .inr (14, [.int m_thrown, .ref m_stop, .ref m_tape, .int m_taped, .int m_length, .int m_at, .int m_sort, .int m_place, .int m_sign, .long m_letters, .ref m_p, .ref m_spare, .int m_isTaken, .ref m_scope, .int m_scoped, .int m_deep, .int m_counted, .int m_fault, .int m_where, .ref m_cellKind, .ref m_cellCount, .ref m_free, .ref m_pile, .ref m_cellField, .int m_freeCount, .int m_given, .int m_nextPlain, .ref m_otherKind, .ref m_otherField, .int m_isPlain, .int m_hasRun, .int m_hasValue, .int m_hasOther, .long m_value, .long m_other, .int m_steps, .int m_made, .int m_reused, .int m_freed, .int m_most, .int m_doubled, .int m_openMost, .ref lta, .ref lqa, .ref m_values, .int lts, .int m_valued, .int m_open, .ref m_slots, .ref m_present, .ref m_shell, .ref m_shellArm, .ref m_shellCall, .int m_shells, .ref m_keptCounts, .ref m_asideKind, .ref m_asideCount, .ref m_asideField, .ref m_out, .ref m_side, .int m_outs, .int m_sides, .ref m_saying])), (m_p, .inr (12, [.ref pr_what, .ref pr_place, .ref pr_own, .ref pr_one, .ref pr_two, .ref pr_three, .ref pr_beside, .ref pr_many, .ref pr_uses, .ref pr_behind, .ref pr_name, .ref pr_makes, .int pr_parts, .ref pr_functionName, .ref pr_kindName, .ref pr_told, .ref pr_body, .ref pr_first, .ref pr_widest, .ref pr_fields, .int pr_functions, .int pr_kinds])), (pr_many, .inl (rk_many, 2100, .inl rg_many)), (pr_one, .inl (rk_one, 2100, .inl rg_one)), (pr_beside, .inl (rk_beside, 2100, .inl rg_beside)), (lta, .inl (ltk, lzt, .inl lgw)), (lqa, .inl (lqk, lzt, .inl lgq))] → va_S A s.heap H locs → lv_has ls 6 [(4, .int la), (3, .int m_tasks), (2, .int x_1), (0, .ref h0), (1, .int pt)] → W p l e (headSpec (Cond.code yX14_puts cX14_puts 6 none :: zw) ({ frames := 10, cells := ((8000 - zG zt)), slots := ((1000000 - 4 * zt)), locals := 300 })).room s m #[.ref h0, .int pt] below meth c H locs (zG lzt - (zG zt)) (4 * lzt - (4 * zt)) (vw_MQ m_stop below (fun kc kn : Nat => va_Qv (fun u : Int32 × Nat × Nat × ClassId × ClassId × Nat × (Nat → Int32) × (Nat → Int32) => match u with | (ts2, tw2, tq2, kw2, kq2, zt2, gtw2, gtp2) => (ts2.toInt = m_tasks.toInt + Int32.toInt (rg_many (Int32.toNatClampNeg pt))) ∧ (ts2.toInt ≤ (zt2 : Int)) ∧ (64 ≤ zt2) ∧ (zt2 ≤ 240400) ∧ ((∀ i : Nat, i < (Int32.toNatClampNeg m_tasks) → gtw2 i = gtw i ∧ gtp2 i = gtp i) ∧ ∀ i : Nat, i < gR.length → Int32.toInt (gtw2 ((Int32.toNatClampNeg m_tasks) + i)) = 0 ∧ Int32.toInt (gtp2 ((Int32.toNatClampNeg m_tasks) + i)) = ((gR.getD (gR.length - 1 - i) 0 : Nat) : Int)) ∧ (kc + (zG zt) ≤ zG zt2) ∧ (kn + (4 * zt) ≤ 4 * zt2)) (fun u => match u with | (ts2, tw2, tq2, kw2, kq2, zt2, gtw2, gtp2) => zQ dC dI A [(rk_many, .int), (rk_one, .int), (rk_beside, .int), (kw2, .byte), (kq2, .int)] [(h0, .inr (14, [.int m_thrown, .ref m_stop, .ref m_tape, .int m_taped, .int m_length, .int m_at, .int m_sort, .int m_place, .int m_sign, .long m_letters, .ref m_p, .ref m_spare, .int m_isTaken, .ref m_scope, .int m_scoped, .int m_deep, .int m_counted, .int m_fault, .int m_where, .ref m_cellKind, .ref m_cellCount, .ref m_free, .ref m_pile, .ref m_cellField, .int m_freeCount, .int m_given, .int m_nextPlain, .ref m_otherKind, .ref m_otherField, .int m_isPlain, .int m_hasRun, .int m_hasValue, .int m_hasOther, .long m_value, .long m_other, .int m_steps, .int m_made, .int m_reused, .int m_freed, .int m_most, .int m_doubled, .int m_openMost, .ref tw2, .ref tq2, .ref m_values, .int ts2, .int m_valued, .int m_open, .ref m_slots, .ref m_present, .ref m_shell, .ref m_shellArm, .ref m_shellCall, .int m_shells, .ref m_keptCounts, .ref m_asideKind, .ref m_asideCount, .ref m_asideField, .ref m_out, .ref m_side, .int m_outs, .int m_sides, .ref m_saying])), (m_p, .inr (12, [.ref pr_what, .ref pr_place, .ref pr_own, .ref pr_one, .ref pr_two, .ref pr_three, .ref pr_beside, .ref pr_many, .ref pr_uses, .ref pr_behind, .ref pr_name, .ref pr_makes, .int pr_parts, .ref pr_functionName, .ref pr_kindName, .ref pr_told, .ref pr_body, .ref pr_first, .ref pr_widest, .ref pr_fields, .int pr_functions, .int pr_kinds])), (pr_many, .inl (rk_many, 2100, .inl rg_many)), (pr_one, .inl (rk_one, 2100, .inl rg_one)), (pr_beside, .inl (rk_beside, 2100, .inl rg_beside)), (tw2, .inl (kw2, zt2, .inl gtw2)), (tq2, .inl (kq2, zt2, .inl gtp2))]) A) (fun kc kn : Nat => vx_X (fun _ : Unit => False) (fun _ _ _ => True) A) #[.ref h0, .int pt] s A) (F0 m 26 ls []) := by
    intro n9
    induction n9 with
    | zero => intro la lts gD gA lta lqa ltk lqk lzt lgw lgq H locs ls hm hts3 hts4 hz3 hz4 hgz hgz2 hRD hlA hrw; exfalso; omega
    | succ n9 ih =>
      intro la lts gD gA lta lqa ltk lqk lzt lgw lgq H locs ls hm hts3 hts4 hz3 hz4 hgz hgz2 hRD hlA hrw hK hP hD hS hl
      have hgl_3 := zG_le (z := lzt)
      have hgz9 : gR.length = gD.length + gA.length := by rw [hRD, List.length_append]
      refine lv_iload hx hb dX14_puts_26 (lv_at hl 0 rfl) ?_
      refine lv_iconst (v := (-1)) hx hb dX14_puts_28 (by decide) ?_
      refine lv_icmp_eq (tgt := 54) hx hb dX14_puts_29 (by decide) (fun c_4 => ?_) (fun c_4 => ?_)
      · have ic_4 : la.toInt = (-1) := zi_eq c_4
        have hA0 := zli_nl hlA (by omega)
        have hl0 : gA.length = 0 := by rw [hA0]; rfl
        have hDR : gR = gD := by rw [hRD, hA0, List.append_nil]
        refine lv_iconst (v := 0) hx hb dX14_puts_54 (by decide) ?_
        refine lv_istore (lv' := [(4, .int 0), (3, .int m_tasks), (2, .int x_1), (0, .ref h0), (1, .int pt)]) hx hb dX14_puts_55 hl (by decide) rfl (fun ls hl => ?_)
        have loop_57 : ∀ (n9 : Nat) (i4 : Int32) (lq2 : Nat → Int32) (H : Heap) (locs : List Loc) (ls : Array Slot), (x_1.toInt - i4.toInt + 1).toNat ≤ n9 → 0 ≤ i4.toInt → 2 * i4.toInt ≤ x_1.toInt → ((∀ j : Nat, j < (Int32.toNatClampNeg m_tasks) → lq2 j = gtp j) ∧ zSw gR (Int32.toNatClampNeg m_tasks) lq2 (Int32.toNatClampNeg i4)) → va_P (dC, dI) vwCl [(h0, .inr (14, [.int m_thrown, .ref m_stop, .ref m_tape, .int m_taped, .int m_length, .int m_at, .int m_sort, .int m_place, .int m_sign, .long m_letters, .ref m_p, .ref m_spare, .int m_isTaken, .ref m_scope, .int m_scoped, .int m_deep, .int m_counted, .int m_fault, .int m_where, .ref m_cellKind, .ref m_cellCount, .ref m_free, .ref m_pile, .ref m_cellField, .int m_freeCount, .int m_given, .int m_nextPlain, .ref m_otherKind, .ref m_otherField, .int m_isPlain, .int m_hasRun, .int m_hasValue, .int m_hasOther, .long m_value, .long m_other, .int m_steps, .int m_made, .int m_reused, .int m_freed, .int m_most, .int m_doubled, .int m_openMost, .ref lta, .ref lqa, .ref m_values, .int lts, .int m_valued, .int m_open, .ref m_slots, .ref m_present, .ref m_shell, .ref m_shellArm, .ref m_shellCall, .int m_shells, .ref m_keptCounts, .ref m_asideKind, .ref m_asideCount, .ref m_asideField, .ref m_out, .ref m_side, .int m_outs, .int m_sides, .ref m_saying])), (m_p, .inr (12, [.ref pr_what, .ref pr_place, .ref pr_own, .ref pr_one, .ref pr_two, .ref pr_three, .ref pr_beside, .ref pr_many, .ref pr_uses, .ref pr_behind, .ref pr_name, .ref pr_makes, .int pr_parts, .ref pr_functionName, .ref pr_kindName, .ref pr_told, .ref pr_body, .ref pr_first, .ref pr_widest, .ref pr_fields, .int pr_functions, .int pr_kinds])), (pr_many, .inl (rk_many, 2100, .inl rg_many)), (pr_one, .inl (rk_one, 2100, .inl rg_one)), (pr_beside, .inl (rk_beside, 2100, .inl rg_beside)), (lta, .inl (ltk, lzt, .inl lgw)), (lqa, .inl (lqk, lzt, .inl lq2))] H → va_D A [(h0, .inr (14, [.int m_thrown, .ref m_stop, .ref m_tape, .int m_taped, .int m_length, .int m_at, .int m_sort, .int m_place, .int m_sign, .long m_letters, .ref m_p, .ref m_spare, .int m_isTaken, .ref m_scope, .int m_scoped, .int m_deep, .int m_counted, .int m_fault, .int m_where, .ref m_cellKind, .ref m_cellCount, .ref m_free, .ref m_pile, .ref m_cellField, .int m_freeCount, .int m_given, .int m_nextPlain, .ref m_otherKind, .ref m_otherField, .int m_isPlain, .int m_hasRun, .int m_hasValue, .int m_hasOther, .long m_value, .long m_other, .int m_steps, .int m_made, .int m_reused, .int m_freed, .int m_most, .int m_doubled, .int m_openMost, .ref lta, .ref lqa, .ref m_values, .int lts, .int m_valued, .int m_open, .ref m_slots, .ref m_present, .ref m_shell, .ref m_shellArm, .ref m_shellCall, .int m_shells, .ref m_keptCounts, .ref m_asideKind, .ref m_asideCount, .ref m_asideField, .ref m_out, .ref m_side, .int m_outs, .int m_sides, .ref m_saying])), (m_p, .inr (12, [.ref pr_what, .ref pr_place, .ref pr_own, .ref pr_one, .ref pr_two, .ref pr_three, .ref pr_beside, .ref pr_many, .ref pr_uses, .ref pr_behind, .ref pr_name, .ref pr_makes, .int pr_parts, .ref pr_functionName, .ref pr_kindName, .ref pr_told, .ref pr_body, .ref pr_first, .ref pr_widest, .ref pr_fields, .int pr_functions, .int pr_kinds])), (pr_many, .inl (rk_many, 2100, .inl rg_many)), (pr_one, .inl (rk_one, 2100, .inl rg_one)), (pr_beside, .inl (rk_beside, 2100, .inl rg_beside)), (lta, .inl (ltk, lzt, .inl lgw)), (lqa, .inl (lqk, lzt, .inl lq2))] → va_S A s.heap H locs → lv_has ls 6 [(4, .int i4), (3, .int m_tasks), (2, .int x_1), (0, .ref h0), (1, .int pt)] → W p l e (headSpec (Cond.code yX14_puts cX14_puts 6 none :: zw) ({ frames := 10, cells := ((8000 - zG zt)), slots := ((1000000 - 4 * zt)), locals := 300 })).room s m #[.ref h0, .int pt] below meth c H locs (zG lzt - (zG zt)) (4 * lzt - (4 * zt)) (vw_MQ m_stop below (fun kc kn : Nat => va_Qv (fun u : Int32 × Nat × Nat × ClassId × ClassId × Nat × (Nat → Int32) × (Nat → Int32) => match u with | (ts2, tw2, tq2, kw2, kq2, zt2, gtw2, gtp2) => (ts2.toInt = m_tasks.toInt + Int32.toInt (rg_many (Int32.toNatClampNeg pt))) ∧ (ts2.toInt ≤ (zt2 : Int)) ∧ (64 ≤ zt2) ∧ (zt2 ≤ 240400) ∧ ((∀ i : Nat, i < (Int32.toNatClampNeg m_tasks) → gtw2 i = gtw i ∧ gtp2 i = gtp i) ∧ ∀ i : Nat, i < gR.length → Int32.toInt (gtw2 ((Int32.toNatClampNeg m_tasks) + i)) = 0 ∧ Int32.toInt (gtp2 ((Int32.toNatClampNeg m_tasks) + i)) = ((gR.getD (gR.length - 1 - i) 0 : Nat) : Int)) ∧ (kc + (zG zt) ≤ zG zt2) ∧ (kn + (4 * zt) ≤ 4 * zt2)) (fun u => match u with | (ts2, tw2, tq2, kw2, kq2, zt2, gtw2, gtp2) => zQ dC dI A [(rk_many, .int), (rk_one, .int), (rk_beside, .int), (kw2, .byte), (kq2, .int)] [(h0, .inr (14, [.int m_thrown, .ref m_stop, .ref m_tape, .int m_taped, .int m_length, .int m_at, .int m_sort, .int m_place, .int m_sign, .long m_letters, .ref m_p, .ref m_spare, .int m_isTaken, .ref m_scope, .int m_scoped, .int m_deep, .int m_counted, .int m_fault, .int m_where, .ref m_cellKind, .ref m_cellCount, .ref m_free, .ref m_pile, .ref m_cellField, .int m_freeCount, .int m_given, .int m_nextPlain, .ref m_otherKind, .ref m_otherField, .int m_isPlain, .int m_hasRun, .int m_hasValue, .int m_hasOther, .long m_value, .long m_other, .int m_steps, .int m_made, .int m_reused, .int m_freed, .int m_most, .int m_doubled, .int m_openMost, .ref tw2, .ref tq2, .ref m_values, .int ts2, .int m_valued, .int m_open, .ref m_slots, .ref m_present, .ref m_shell, .ref m_shellArm, .ref m_shellCall, .int m_shells, .ref m_keptCounts, .ref m_asideKind, .ref m_asideCount, .ref m_asideField, .ref m_out, .ref m_side, .int m_outs, .int m_sides, .ref m_saying])), (m_p, .inr (12, [.ref pr_what, .ref pr_place, .ref pr_own, .ref pr_one, .ref pr_two, .ref pr_three, .ref pr_beside, .ref pr_many, .ref pr_uses, .ref pr_behind, .ref pr_name, .ref pr_makes, .int pr_parts, .ref pr_functionName, .ref pr_kindName, .ref pr_told, .ref pr_body, .ref pr_first, .ref pr_widest, .ref pr_fields, .int pr_functions, .int pr_kinds])), (pr_many, .inl (rk_many, 2100, .inl rg_many)), (pr_one, .inl (rk_one, 2100, .inl rg_one)), (pr_beside, .inl (rk_beside, 2100, .inl rg_beside)), (tw2, .inl (kw2, zt2, .inl gtw2)), (tq2, .inl (kq2, zt2, .inl gtp2))]) A) (fun kc kn : Nat => vx_X (fun _ : Unit => False) (fun _ _ _ => True) A) #[.ref h0, .int pt] s A) (F0 m 57 ls []) := by
          intro n9
          induction n9 with
          | zero => intro i4 lq2 H locs ls hm hi0 hi1 hsw; exfalso; omega
          | succ n9 ih_57 =>
            intro i4 lq2 H locs ls hm hi0 hi1 hsw hP hD hS hl
            have hin := zn_nat hi0
            refine lv_iload hx hb dX14_puts_57 (lv_at hl 0 rfl) ?_
            refine lv_iload_n hx hb dX14_puts_59 rfl (lv_at hl 2 rfl) ?_
            refine lv_iconst (v := 2) hx hb dX14_puts_60 (by decide) ?_
            refine lv_idiv hx hb dX14_puts_61 (by decide) ?_
            refine lv_topi (fun x_5 ex_5 => ?_)
            have ix_5 : x_5.toInt = x_1.toInt / 2 := by rw [ex_5]; exact (lg_idiv_nonneg (by omega) (by decide)).trans (by rw [show Int32.toInt 2 = 2 from by decide])
            refine lv_icmp_ge (tgt := 119) hx hb dX14_puts_62 (by decide) (fun c_6 => ?_) (fun c_6 => ?_)
            · have ic_6 : x_5.toInt ≤ i4.toInt := zi_le c_6
              have hDl : gR.length = gD.length := by rw [hDR]
              have hP9 := hP.sub (ws' := [(h0, .inr (14, [.int m_thrown, .ref m_stop, .ref m_tape, .int m_taped, .int m_length, .int m_at, .int m_sort, .int m_place, .int m_sign, .long m_letters, .ref m_p, .ref m_spare, .int m_isTaken, .ref m_scope, .int m_scoped, .int m_deep, .int m_counted, .int m_fault, .int m_where, .ref m_cellKind, .ref m_cellCount, .ref m_free, .ref m_pile, .ref m_cellField, .int m_freeCount, .int m_given, .int m_nextPlain, .ref m_otherKind, .ref m_otherField, .int m_isPlain, .int m_hasRun, .int m_hasValue, .int m_hasOther, .long m_value, .long m_other, .int m_steps, .int m_made, .int m_reused, .int m_freed, .int m_most, .int m_doubled, .int m_openMost, .ref lta, .ref lqa, .ref m_values, .int lts, .int m_valued, .int m_open, .ref m_slots, .ref m_present, .ref m_shell, .ref m_shellArm, .ref m_shellCall, .int m_shells, .ref m_keptCounts, .ref m_asideKind, .ref m_asideCount, .ref m_asideField, .ref m_out, .ref m_side, .int m_outs, .int m_sides, .ref m_saying])), (m_p, .inr (12, [.ref pr_what, .ref pr_place, .ref pr_own, .ref pr_one, .ref pr_two, .ref pr_three, .ref pr_beside, .ref pr_many, .ref pr_uses, .ref pr_behind, .ref pr_name, .ref pr_makes, .int pr_parts, .ref pr_functionName, .ref pr_kindName, .ref pr_told, .ref pr_body, .ref pr_first, .ref pr_widest, .ref pr_fields, .int pr_functions, .int pr_kinds])), (pr_many, .inl (rk_many, 2100, .inl rg_many)), (pr_one, .inl (rk_one, 2100, .inl rg_one)), (pr_beside, .inl (rk_beside, 2100, .inl rg_beside)), (lta, .inl (ltk, lzt, .inl lgw)), (lqa, .inl (lqk, lzt, .inl lq2))]) [0, 1, 2, 3, 4, 5, 6] rfl
              have hD9 := hD.sub (ws' := [(h0, .inr (14, [.int m_thrown, .ref m_stop, .ref m_tape, .int m_taped, .int m_length, .int m_at, .int m_sort, .int m_place, .int m_sign, .long m_letters, .ref m_p, .ref m_spare, .int m_isTaken, .ref m_scope, .int m_scoped, .int m_deep, .int m_counted, .int m_fault, .int m_where, .ref m_cellKind, .ref m_cellCount, .ref m_free, .ref m_pile, .ref m_cellField, .int m_freeCount, .int m_given, .int m_nextPlain, .ref m_otherKind, .ref m_otherField, .int m_isPlain, .int m_hasRun, .int m_hasValue, .int m_hasOther, .long m_value, .long m_other, .int m_steps, .int m_made, .int m_reused, .int m_freed, .int m_most, .int m_doubled, .int m_openMost, .ref lta, .ref lqa, .ref m_values, .int lts, .int m_valued, .int m_open, .ref m_slots, .ref m_present, .ref m_shell, .ref m_shellArm, .ref m_shellCall, .int m_shells, .ref m_keptCounts, .ref m_asideKind, .ref m_asideCount, .ref m_asideField, .ref m_out, .ref m_side, .int m_outs, .int m_sides, .ref m_saying])), (m_p, .inr (12, [.ref pr_what, .ref pr_place, .ref pr_own, .ref pr_one, .ref pr_two, .ref pr_three, .ref pr_beside, .ref pr_many, .ref pr_uses, .ref pr_behind, .ref pr_name, .ref pr_makes, .int pr_parts, .ref pr_functionName, .ref pr_kindName, .ref pr_told, .ref pr_body, .ref pr_first, .ref pr_widest, .ref pr_fields, .int pr_functions, .int pr_kinds])), (pr_many, .inl (rk_many, 2100, .inl rg_many)), (pr_one, .inl (rk_one, 2100, .inl rg_one)), (pr_beside, .inl (rk_beside, 2100, .inl rg_beside)), (lta, .inl (ltk, lzt, .inl lgw)), (lqa, .inl (lqk, lzt, .inl lq2))]) [0, 1, 2, 3, 4, 5, 6] (by decide) rfl
              have hK9 := hK.sub (tys' := [(rk_many, .int), (rk_one, .int), (rk_beside, .int), (ltk, .byte), (lqk, .int)]) [0, 1, 2, 3, 4] rfl
              exact vy_mono (vw_ret (zG lzt - (zG zt)) (4 * lzt - (4 * zt))) (vx_ret (W.vret hx hb hr (fun t ht hW => ⟨⟨(lts, lta, lqa, ltk, lqk, lzt, lgw, lq2), rfl, ⟨by omega, by omega, by omega, by omega, ⟨fun i hi => ⟨(hrw.1 i hi).1, hsw.1 i hi⟩, fun i hi => ⟨(hrw.2 i (by rw [← hDR]; exact hi)).1, zSw_end hsw.2 (by omega) i hi⟩⟩, by omega, by omega⟩, by rw [ht]; exact hP9, va_K.moved hW.alike hK9, hD9⟩, hS.F ht⟩) hS.2.2 dX14_puts_119))
            · have ic_6 : i4.toInt < x_5.toInt := zi_nle c_6
              refine lv_aload_n hx hb dX14_puts_65 rfl (lv_at hl 3 rfl) ?_
              refine va_get (D := (dC, dI)) (ci := 14) (v := .ref lqa) (C := RX14) (T := TX14) (N := 63) hx hb hA zin_X14 hown hK hP 0 rfl rfl 43 (by decide) (hA _ wi_1540) (fun _ h9 => h9) rfl dX14_puts_66 ?_
              refine lv_iload_n hx hb dX14_puts_69 rfl (lv_at hl 1 rfl) ?_
              refine lv_iload hx hb dX14_puts_70 (lv_at hl 0 rfl) ?_
              refine lv_iadd hx hb dX14_puts_72 ?_
              refine lv_topi (fun x_7 ex_7 => ?_)
              have ix_7 : x_7.toInt = m_tasks.toInt + i4.toInt := by rw [ex_7]; exact zi_addc rfl (by omega) (by omega)
              refine va_iald hx hb hK hP 6 4 rfl rfl (vp_in_iff.mpr ⟨by omega, by omega⟩) dX14_puts_73 ?_
              refine lv_topi (fun x_8 ex_8 => ?_)
              refine lv_istore (lv' := [(5, .int x_8), (4, .int i4), (3, .int m_tasks), (2, .int x_1), (0, .ref h0), (1, .int pt)]) hx hb dX14_puts_74 hl (by decide) rfl (fun ls hl => ?_)
              refine lv_aload_n hx hb dX14_puts_76 rfl (lv_at hl 4 rfl) ?_
              refine va_get (D := (dC, dI)) (ci := 14) (v := .ref lqa) (C := RX14) (T := TX14) (N := 63) hx hb hA zin_X14 hown hK hP 0 rfl rfl 43 (by decide) (hA _ wi_1540) (fun _ h9 => h9) rfl dX14_puts_77 ?_
              refine lv_iload_n hx hb dX14_puts_80 rfl (lv_at hl 2 rfl) ?_
              refine lv_iload hx hb dX14_puts_81 (lv_at hl 1 rfl) ?_
              refine lv_iadd hx hb dX14_puts_83 ?_
              refine lv_topi (fun x_9 ex_9 => ?_)
              have ix_9 : x_9.toInt = m_tasks.toInt + i4.toInt := by rw [ex_9]; exact zi_addc rfl (by omega) (by omega)
              refine lv_aload_n hx hb dX14_puts_84 rfl (lv_at hl 4 rfl) ?_
              refine va_get (D := (dC, dI)) (ci := 14) (v := .ref lqa) (C := RX14) (T := TX14) (N := 63) hx hb hA zin_X14 hown hK hP 0 rfl rfl 43 (by decide) (hA _ wi_1540) (fun _ h9 => h9) rfl dX14_puts_85 ?_
              refine lv_iload_n hx hb dX14_puts_88 rfl (lv_at hl 2 rfl) ?_
              refine lv_iload_n hx hb dX14_puts_89 rfl (lv_at hl 3 rfl) ?_
              refine lv_iadd hx hb dX14_puts_90 ?_
              refine lv_topi (fun x_10 ex_10 => ?_)
              have ix_10 : x_10.toInt = m_tasks.toInt + x_1.toInt := by rw [ex_10]; exact zi_addc rfl (by omega) (by omega)
              refine lv_iconst (v := 1) hx hb dX14_puts_91 (by decide) ?_
              refine lv_isub hx hb dX14_puts_92 ?_
              refine lv_topi (fun x_11 ex_11 => ?_)
              have ix_11 : x_11.toInt = x_10.toInt - 1 := by rw [ex_11]; exact zi_subc (by decide) (by omega) (by omega)
              refine lv_iload hx hb dX14_puts_93 (lv_at hl 1 rfl) ?_
              refine lv_isub hx hb dX14_puts_95 ?_
              refine lv_topi (fun x_12 ex_12 => ?_)
              have ix_12 : x_12.toInt = x_11.toInt - i4.toInt := by rw [ex_12]; exact zi_subc rfl (by omega) (by omega)
              refine va_iald hx hb hK hP 6 4 rfl rfl (vp_in_iff.mpr ⟨by omega, by omega⟩) dX14_puts_96 ?_
              refine lv_topi (fun x_13 ex_13 => ?_)
              refine va_iast hx hb hK hP hD hS 6 4 rfl rfl (vp_in_iff.mpr ⟨by omega, by omega⟩) dX14_puts_97 (fun H locs hP hD hS => ?_)
              obtain ⟨f_14, ef_14⟩ : ∃ gz9 : Nat → Int32, gz9 = upd lq2 (Int32.toNatClampNeg x_9) x_13 := ⟨_, rfl⟩
              rw [← ef_14] at hP hD
              have hP : va_P (dC, dI) vwCl [(h0, .inr (14, [.int m_thrown, .ref m_stop, .ref m_tape, .int m_taped, .int m_length, .int m_at, .int m_sort, .int m_place, .int m_sign, .long m_letters, .ref m_p, .ref m_spare, .int m_isTaken, .ref m_scope, .int m_scoped, .int m_deep, .int m_counted, .int m_fault, .int m_where, .ref m_cellKind, .ref m_cellCount, .ref m_free, .ref m_pile, .ref m_cellField, .int m_freeCount, .int m_given, .int m_nextPlain, .ref m_otherKind, .ref m_otherField, .int m_isPlain, .int m_hasRun, .int m_hasValue, .int m_hasOther, .long m_value, .long m_other, .int m_steps, .int m_made, .int m_reused, .int m_freed, .int m_most, .int m_doubled, .int m_openMost, .ref lta, .ref lqa, .ref m_values, .int lts, .int m_valued, .int m_open, .ref m_slots, .ref m_present, .ref m_shell, .ref m_shellArm, .ref m_shellCall, .int m_shells, .ref m_keptCounts, .ref m_asideKind, .ref m_asideCount, .ref m_asideField, .ref m_out, .ref m_side, .int m_outs, .int m_sides, .ref m_saying])), (m_p, .inr (12, [.ref pr_what, .ref pr_place, .ref pr_own, .ref pr_one, .ref pr_two, .ref pr_three, .ref pr_beside, .ref pr_many, .ref pr_uses, .ref pr_behind, .ref pr_name, .ref pr_makes, .int pr_parts, .ref pr_functionName, .ref pr_kindName, .ref pr_told, .ref pr_body, .ref pr_first, .ref pr_widest, .ref pr_fields, .int pr_functions, .int pr_kinds])), (pr_many, .inl (rk_many, 2100, .inl rg_many)), (pr_one, .inl (rk_one, 2100, .inl rg_one)), (pr_beside, .inl (rk_beside, 2100, .inl rg_beside)), (lta, .inl (ltk, lzt, .inl lgw)), (lqa, .inl (lqk, lzt, .inl f_14))] H := hP
              have hD : va_D A [(h0, .inr (14, [.int m_thrown, .ref m_stop, .ref m_tape, .int m_taped, .int m_length, .int m_at, .int m_sort, .int m_place, .int m_sign, .long m_letters, .ref m_p, .ref m_spare, .int m_isTaken, .ref m_scope, .int m_scoped, .int m_deep, .int m_counted, .int m_fault, .int m_where, .ref m_cellKind, .ref m_cellCount, .ref m_free, .ref m_pile, .ref m_cellField, .int m_freeCount, .int m_given, .int m_nextPlain, .ref m_otherKind, .ref m_otherField, .int m_isPlain, .int m_hasRun, .int m_hasValue, .int m_hasOther, .long m_value, .long m_other, .int m_steps, .int m_made, .int m_reused, .int m_freed, .int m_most, .int m_doubled, .int m_openMost, .ref lta, .ref lqa, .ref m_values, .int lts, .int m_valued, .int m_open, .ref m_slots, .ref m_present, .ref m_shell, .ref m_shellArm, .ref m_shellCall, .int m_shells, .ref m_keptCounts, .ref m_asideKind, .ref m_asideCount, .ref m_asideField, .ref m_out, .ref m_side, .int m_outs, .int m_sides, .ref m_saying])), (m_p, .inr (12, [.ref pr_what, .ref pr_place, .ref pr_own, .ref pr_one, .ref pr_two, .ref pr_three, .ref pr_beside, .ref pr_many, .ref pr_uses, .ref pr_behind, .ref pr_name, .ref pr_makes, .int pr_parts, .ref pr_functionName, .ref pr_kindName, .ref pr_told, .ref pr_body, .ref pr_first, .ref pr_widest, .ref pr_fields, .int pr_functions, .int pr_kinds])), (pr_many, .inl (rk_many, 2100, .inl rg_many)), (pr_one, .inl (rk_one, 2100, .inl rg_one)), (pr_beside, .inl (rk_beside, 2100, .inl rg_beside)), (lta, .inl (ltk, lzt, .inl lgw)), (lqa, .inl (lqk, lzt, .inl f_14))] := hD
              refine lv_aload_n hx hb dX14_puts_98 rfl (lv_at hl 4 rfl) ?_
              refine va_get (D := (dC, dI)) (ci := 14) (v := .ref lqa) (C := RX14) (T := TX14) (N := 63) hx hb hA zin_X14 hown hK hP 0 rfl rfl 43 (by decide) (hA _ wi_1540) (fun _ h9 => h9) rfl dX14_puts_99 ?_
              refine lv_iload_n hx hb dX14_puts_102 rfl (lv_at hl 2 rfl) ?_
              refine lv_iload_n hx hb dX14_puts_103 rfl (lv_at hl 3 rfl) ?_
              refine lv_iadd hx hb dX14_puts_104 ?_
              refine lv_topi (fun x_15 ex_15 => ?_)
              have ix_15 : x_15.toInt = m_tasks.toInt + x_1.toInt := by rw [ex_15]; exact zi_addc rfl (by omega) (by omega)
              refine lv_iconst (v := 1) hx hb dX14_puts_105 (by decide) ?_
              refine lv_isub hx hb dX14_puts_106 ?_
              refine lv_topi (fun x_16 ex_16 => ?_)
              have ix_16 : x_16.toInt = x_15.toInt - 1 := by rw [ex_16]; exact zi_subc (by decide) (by omega) (by omega)
              refine lv_iload hx hb dX14_puts_107 (lv_at hl 1 rfl) ?_
              refine lv_isub hx hb dX14_puts_109 ?_
              refine lv_topi (fun x_17 ex_17 => ?_)
              have ix_17 : x_17.toInt = x_16.toInt - i4.toInt := by rw [ex_17]; exact zi_subc rfl (by omega) (by omega)
              refine lv_iload hx hb dX14_puts_110 (lv_at hl 0 rfl) ?_
              refine va_iast hx hb hK hP hD hS 6 4 rfl rfl (vp_in_iff.mpr ⟨by omega, by omega⟩) dX14_puts_112 (fun H locs hP hD hS => ?_)
              obtain ⟨f_18, ef_18⟩ : ∃ gz9 : Nat → Int32, gz9 = upd f_14 (Int32.toNatClampNeg x_17) x_8 := ⟨_, rfl⟩
              rw [← ef_18] at hP hD
              have hP : va_P (dC, dI) vwCl [(h0, .inr (14, [.int m_thrown, .ref m_stop, .ref m_tape, .int m_taped, .int m_length, .int m_at, .int m_sort, .int m_place, .int m_sign, .long m_letters, .ref m_p, .ref m_spare, .int m_isTaken, .ref m_scope, .int m_scoped, .int m_deep, .int m_counted, .int m_fault, .int m_where, .ref m_cellKind, .ref m_cellCount, .ref m_free, .ref m_pile, .ref m_cellField, .int m_freeCount, .int m_given, .int m_nextPlain, .ref m_otherKind, .ref m_otherField, .int m_isPlain, .int m_hasRun, .int m_hasValue, .int m_hasOther, .long m_value, .long m_other, .int m_steps, .int m_made, .int m_reused, .int m_freed, .int m_most, .int m_doubled, .int m_openMost, .ref lta, .ref lqa, .ref m_values, .int lts, .int m_valued, .int m_open, .ref m_slots, .ref m_present, .ref m_shell, .ref m_shellArm, .ref m_shellCall, .int m_shells, .ref m_keptCounts, .ref m_asideKind, .ref m_asideCount, .ref m_asideField, .ref m_out, .ref m_side, .int m_outs, .int m_sides, .ref m_saying])), (m_p, .inr (12, [.ref pr_what, .ref pr_place, .ref pr_own, .ref pr_one, .ref pr_two, .ref pr_three, .ref pr_beside, .ref pr_many, .ref pr_uses, .ref pr_behind, .ref pr_name, .ref pr_makes, .int pr_parts, .ref pr_functionName, .ref pr_kindName, .ref pr_told, .ref pr_body, .ref pr_first, .ref pr_widest, .ref pr_fields, .int pr_functions, .int pr_kinds])), (pr_many, .inl (rk_many, 2100, .inl rg_many)), (pr_one, .inl (rk_one, 2100, .inl rg_one)), (pr_beside, .inl (rk_beside, 2100, .inl rg_beside)), (lta, .inl (ltk, lzt, .inl lgw)), (lqa, .inl (lqk, lzt, .inl f_18))] H := hP
              have hD : va_D A [(h0, .inr (14, [.int m_thrown, .ref m_stop, .ref m_tape, .int m_taped, .int m_length, .int m_at, .int m_sort, .int m_place, .int m_sign, .long m_letters, .ref m_p, .ref m_spare, .int m_isTaken, .ref m_scope, .int m_scoped, .int m_deep, .int m_counted, .int m_fault, .int m_where, .ref m_cellKind, .ref m_cellCount, .ref m_free, .ref m_pile, .ref m_cellField, .int m_freeCount, .int m_given, .int m_nextPlain, .ref m_otherKind, .ref m_otherField, .int m_isPlain, .int m_hasRun, .int m_hasValue, .int m_hasOther, .long m_value, .long m_other, .int m_steps, .int m_made, .int m_reused, .int m_freed, .int m_most, .int m_doubled, .int m_openMost, .ref lta, .ref lqa, .ref m_values, .int lts, .int m_valued, .int m_open, .ref m_slots, .ref m_present, .ref m_shell, .ref m_shellArm, .ref m_shellCall, .int m_shells, .ref m_keptCounts, .ref m_asideKind, .ref m_asideCount, .ref m_asideField, .ref m_out, .ref m_side, .int m_outs, .int m_sides, .ref m_saying])), (m_p, .inr (12, [.ref pr_what, .ref pr_place, .ref pr_own, .ref pr_one, .ref pr_two, .ref pr_three, .ref pr_beside, .ref pr_many, .ref pr_uses, .ref pr_behind, .ref pr_name, .ref pr_makes, .int pr_parts, .ref pr_functionName, .ref pr_kindName, .ref pr_told, .ref pr_body, .ref pr_first, .ref pr_widest, .ref pr_fields, .int pr_functions, .int pr_kinds])), (pr_many, .inl (rk_many, 2100, .inl rg_many)), (pr_one, .inl (rk_one, 2100, .inl rg_one)), (pr_beside, .inl (rk_beside, 2100, .inl rg_beside)), (lta, .inl (ltk, lzt, .inl lgw)), (lqa, .inl (lqk, lzt, .inl f_18))] := hD
              obtain ⟨x_19, ex_19⟩ : ∃ y : Int32, y = i4 + Int32.ofInt 1 := ⟨_, rfl⟩
              refine lv_iinc (v := x_19) (lv' := [(4, .int x_19), (5, .int x_8), (3, .int m_tasks), (2, .int x_1), (0, .ref h0), (1, .int pt)]) hx hb dX14_puts_113 hl (k := 1) rfl (by rw [ex_19]) (by decide) rfl (fun ls hl => ?_)
              have ix_19 : x_19.toInt = i4.toInt + 1 := by rw [ex_19]; exact zi_addc (by decide) (by omega) (by omega)
              refine lv_goto (tgt := 57) hx hb dX14_puts_116 (by decide) ?_
              have ha9 : Int32.toNatClampNeg x_19 = Int32.toNatClampNeg i4 + 1 := by have := zn_nat (x := x_19) (by omega); omega
              have h1i : Int32.toNatClampNeg x_9 = (Int32.toNatClampNeg m_tasks) + Int32.toNatClampNeg i4 := by have := zn_nat (x := x_9) (by omega); omega
              have h2i : Int32.toNatClampNeg x_17 = (Int32.toNatClampNeg m_tasks) + (gR.length - 1 - Int32.toNatClampNeg i4) := by have := zn_nat (x := x_17) (by omega); omega
              have h3i : Int32.toNatClampNeg x_12 = (Int32.toNatClampNeg m_tasks) + (gR.length - 1 - Int32.toNatClampNeg i4) := by have := zn_nat (x := x_12) (by omega); omega
              have h4i : Int32.toNatClampNeg x_7 = (Int32.toNatClampNeg m_tasks) + Int32.toNatClampNeg i4 := by have := zn_nat (x := x_7) (by omega); omega
              have hz_20 : (∀ j : Nat, j < (Int32.toNatClampNeg m_tasks) → f_18 j = gtp j) ∧ zSw gR (Int32.toNatClampNeg m_tasks) f_18 (Int32.toNatClampNeg x_19) := ⟨fun j hj => by rw [ef_18, zu_n (by omega), ef_14, zu_n (by omega)]; exact hsw.1 j hj, by rw [ha9]; exact zSw_st (q1 := f_14) hsw.2 (by omega) (by rw [ef_14, h1i, ex_13, h3i]) (by rw [ef_18, h2i, ex_8, h4i])⟩
              exact ih_57 x_19 f_18 _ _ _ (by omega) (by omega) (by omega) hz_20 (hP.sub [0, 1, 2, 3, 4, 5, 6] rfl) (hD.sub [0, 1, 2, 3, 4, 5, 6] (by decide) rfl) hS (lv_sub hl [0, 2, 3, 4, 5] rfl)
        have hz_21 : (∀ j : Nat, j < (Int32.toNatClampNeg m_tasks) → lgq j = gtp j) ∧ zSw gR (Int32.toNatClampNeg m_tasks) lgq (Int32.toNatClampNeg 0) := ⟨fun j hj => (hrw.1 j hj).2, zSw_0 rfl (fun j hj => by rw [hDR]; exact (hrw.2 j (by rw [← hDR]; exact hj)).2)⟩
        exact loop_57 _ 0 lgq _ _ _ (Nat.le_refl _) (by have h9_0 : Int32.toInt 0 = 0 := (by decide); omega) (by have h9_0 : Int32.toInt 0 = 0 := (by decide); omega) hz_21 (hP.sub [0, 1, 2, 3, 4, 5, 6] rfl) (hD.sub [0, 1, 2, 3, 4, 5, 6] (by decide) rfl) hS (lv_sub hl [0, 1, 2, 3, 4] rfl)
      · have ic_4 : la.toInt ≠ (-1) := zi_ne c_4
        obtain ⟨lA, hA9, hA8, hA7⟩ := zli_hd hlA (by omega)
        have hA6 : Int32.toNatClampNeg la < 2100 := hlr _ (by rw [hRD, hA9]; exact List.mem_append.mpr (Or.inr List.mem_cons_self))
        have hla9 := zn_nat hA7
        have hAl : gA.length = lA.length + 1 := by rw [hA9]; rfl
        refine lv_aload_n hx hb dX14_puts_32 rfl (lv_at hl 3 rfl) ?_
        refine lv_iconst (v := 0) hx hb dX14_puts_33 (by decide) ?_
        refine lv_iload hx hb dX14_puts_34 (lv_at hl 0 rfl) ?_
        have hPc := hP.sub (ws' := [(h0, .inr (14, [.int m_thrown, .ref m_stop, .ref m_tape, .int m_taped, .int m_length, .int m_at, .int m_sort, .int m_place, .int m_sign, .long m_letters, .ref m_p, .ref m_spare, .int m_isTaken, .ref m_scope, .int m_scoped, .int m_deep, .int m_counted, .int m_fault, .int m_where, .ref m_cellKind, .ref m_cellCount, .ref m_free, .ref m_pile, .ref m_cellField, .int m_freeCount, .int m_given, .int m_nextPlain, .ref m_otherKind, .ref m_otherField, .int m_isPlain, .int m_hasRun, .int m_hasValue, .int m_hasOther, .long m_value, .long m_other, .int m_steps, .int m_made, .int m_reused, .int m_freed, .int m_most, .int m_doubled, .int m_openMost, .ref lta, .ref lqa, .ref m_values, .int lts, .int m_valued, .int m_open, .ref m_slots, .ref m_present, .ref m_shell, .ref m_shellArm, .ref m_shellCall, .int m_shells, .ref m_keptCounts, .ref m_asideKind, .ref m_asideCount, .ref m_asideField, .ref m_out, .ref m_side, .int m_outs, .int m_sides, .ref m_saying])), (lta, .inl (ltk, lzt, .inl lgw)), (lqa, .inl (lqk, lzt, .inl lgq))]) [0, 5, 6] rfl
        have hDc := hD.sub (ws' := [(h0, .inr (14, [.int m_thrown, .ref m_stop, .ref m_tape, .int m_taped, .int m_length, .int m_at, .int m_sort, .int m_place, .int m_sign, .long m_letters, .ref m_p, .ref m_spare, .int m_isTaken, .ref m_scope, .int m_scoped, .int m_deep, .int m_counted, .int m_fault, .int m_where, .ref m_cellKind, .ref m_cellCount, .ref m_free, .ref m_pile, .ref m_cellField, .int m_freeCount, .int m_given, .int m_nextPlain, .ref m_otherKind, .ref m_otherField, .int m_isPlain, .int m_hasRun, .int m_hasValue, .int m_hasOther, .long m_value, .long m_other, .int m_steps, .int m_made, .int m_reused, .int m_freed, .int m_most, .int m_doubled, .int m_openMost, .ref lta, .ref lqa, .ref m_values, .int lts, .int m_valued, .int m_open, .ref m_slots, .ref m_present, .ref m_shell, .ref m_shellArm, .ref m_shellCall, .int m_shells, .ref m_keptCounts, .ref m_asideKind, .ref m_asideCount, .ref m_asideField, .ref m_out, .ref m_side, .int m_outs, .int m_sides, .ref m_saying])), (lta, .inl (ltk, lzt, .inl lgw)), (lqa, .inl (lqk, lzt, .inl lgq))]) [0, 5, 6] (by decide) rfl
        have hKc := hK.sub (tys' := [(ltk, .byte), (lqk, .int)]) [3, 4] rfl
        have hFc := va_free (wc := [(h0, .inr (14, [.int m_thrown, .ref m_stop, .ref m_tape, .int m_taped, .int m_length, .int m_at, .int m_sort, .int m_place, .int m_sign, .long m_letters, .ref m_p, .ref m_spare, .int m_isTaken, .ref m_scope, .int m_scoped, .int m_deep, .int m_counted, .int m_fault, .int m_where, .ref m_cellKind, .ref m_cellCount, .ref m_free, .ref m_pile, .ref m_cellField, .int m_freeCount, .int m_given, .int m_nextPlain, .ref m_otherKind, .ref m_otherField, .int m_isPlain, .int m_hasRun, .int m_hasValue, .int m_hasOther, .long m_value, .long m_other, .int m_steps, .int m_made, .int m_reused, .int m_freed, .int m_most, .int m_doubled, .int m_openMost, .ref lta, .ref lqa, .ref m_values, .int lts, .int m_valued, .int m_open, .ref m_slots, .ref m_present, .ref m_shell, .ref m_shellArm, .ref m_shellCall, .int m_shells, .ref m_keptCounts, .ref m_asideKind, .ref m_asideCount, .ref m_asideField, .ref m_out, .ref m_side, .int m_outs, .int m_sides, .ref m_saying])), (lta, .inl (ltk, lzt, .inl lgw)), (lqa, .inl (lqk, lzt, .inl lgq))]) hD hS hAA [0, 5, 6] rfl
        refine vw_callv (vw_runV (As := [.int 0, .int la]) (rest := []) ⟨hx, hb, hml, hown, hA⟩ (c_X14_task_x l dC dI aK aV h0 m_thrown m_stop m_tape m_taped m_length m_at m_sort m_place m_sign m_letters m_p m_spare m_isTaken m_scope m_scoped m_deep m_counted m_fault m_where m_cellKind m_cellCount m_free m_pile m_cellField m_freeCount m_given m_nextPlain m_otherKind m_otherField m_isPlain m_hasRun m_hasValue m_hasOther m_value m_other m_steps m_made m_reused m_freed m_most m_doubled m_openMost lta lqa m_values lts m_valued m_open m_slots m_present m_shell m_shellArm m_shellCall m_shells m_keptCounts m_asideKind m_asideCount m_asideField m_out m_side m_outs m_sides m_saying ltk lqk lzt lgw lgq 0 la H.size hlt (by omega) (by omega) (by omega) (by omega) (by omega) (by have h9_0 : Int32.toInt 0 = 0 := (by decide); omega) (by have h9_0 : Int32.toInt 0 = 0 := (by decide); omega) (fun i hi => by by_cases g : i < (Int32.toNatClampNeg m_tasks); (rw [(hrw.1 i g).1]; exact htr i (by omega)); have h9 := (hrw.2 (i - (Int32.toNatClampNeg m_tasks)) (by omega)).1; rw [show (Int32.toNatClampNeg m_tasks) + (i - (Int32.toNatClampNeg m_tasks)) = i by omega] at h9; exact ⟨by omega, by omega⟩)) (cwV 2 hA (zw_V wi_1925 wi_1927 wi_111 wi_143 (zw_good wi_1928)) rfl rfl rfl (by decide +kernel) ⟨(Nat.le_of_ble_eq_true rfl), (Nat.le_of_ble_eq_true rfl)⟩) ⟨zP_blind, va_recv hKc hPc (ci := 14) (q0 := 0) rfl rfl, zz_pre hKc hPc hDc hN hT hS hFc⟩ rfl rfl hl.1 rfl (lv_room (Nat.le_of_ble_eq_true rfl)) dX14_puts_36 ⟨by show (zG lzt - (zG zt)) + ((8000 - zG lzt)) ≤ ((8000 - zG zt)); omega, by show (4 * lzt - (4 * zt)) + ((1000000 - 4 * lzt)) ≤ ((1000000 - 4 * zt)); omega⟩) hS (fun q _ h => hFc q h) hFc (fun q _ h => hFc q h) (fun kc_23 kn_24 E9 ce9 u t H1 locs ht hvm hw hB hz1 hk1 hS hcell hcv hcl => absurd hw id) (fun kc_23 kn_24 u t H1 locs ht hvm hw hB hz1 hk1 hS => ?_)
        obtain ⟨y_ts2_25, y_tw2_26, y_tq2_27, y_kw2_28, y_kq2_29, y_zt2_30, y_gtw2_31, y_gtp2_32⟩ := u
        obtain ⟨hP1, hK1, hD1⟩ := hB
        rw [ht] at hP1
        have hK1 := va_K.moved hvm.symm hK1
        obtain ⟨hP, hD⟩ := va_join (wr := [(m_p, .inr (12, [.ref pr_what, .ref pr_place, .ref pr_own, .ref pr_one, .ref pr_two, .ref pr_three, .ref pr_beside, .ref pr_many, .ref pr_uses, .ref pr_behind, .ref pr_name, .ref pr_makes, .int pr_parts, .ref pr_functionName, .ref pr_kindName, .ref pr_told, .ref pr_body, .ref pr_first, .ref pr_widest, .ref pr_fields, .int pr_functions, .int pr_kinds])), (pr_many, .inl (rk_many, 2100, .inl rg_many)), (pr_one, .inl (rk_one, 2100, .inl rg_one)), (pr_beside, .inl (rk_beside, 2100, .inl rg_beside))]) (w1 := [(h0, .inr (14, [.int m_thrown, .ref m_stop, .ref m_tape, .int m_taped, .int m_length, .int m_at, .int m_sort, .int m_place, .int m_sign, .long m_letters, .ref m_p, .ref m_spare, .int m_isTaken, .ref m_scope, .int m_scoped, .int m_deep, .int m_counted, .int m_fault, .int m_where, .ref m_cellKind, .ref m_cellCount, .ref m_free, .ref m_pile, .ref m_cellField, .int m_freeCount, .int m_given, .int m_nextPlain, .ref m_otherKind, .ref m_otherField, .int m_isPlain, .int m_hasRun, .int m_hasValue, .int m_hasOther, .long m_value, .long m_other, .int m_steps, .int m_made, .int m_reused, .int m_freed, .int m_most, .int m_doubled, .int m_openMost, .ref y_tw2_26, .ref y_tq2_27, .ref m_values, .int y_ts2_25, .int m_valued, .int m_open, .ref m_slots, .ref m_present, .ref m_shell, .ref m_shellArm, .ref m_shellCall, .int m_shells, .ref m_keptCounts, .ref m_asideKind, .ref m_asideCount, .ref m_asideField, .ref m_out, .ref m_side, .int m_outs, .int m_sides, .ref m_saying])), (y_tw2_26, .inl (y_kw2_28, y_zt2_30, .inl y_gtw2_31)), (y_tq2_27, .inl (y_kq2_29, y_zt2_30, .inl y_gtp2_32))]) hP hD [0, 5, 6] [1, 2, 3, 4] rfl rfl (by decide) (by decide) hk1 hFc hP1 hD1
        have hK := (hK.sub (tys' := [(rk_many, .int), (rk_one, .int), (rk_beside, .int)]) [0, 1, 2] rfl).app hK1
        clear hPc hDc hFc hP1 hD1 hk1 hz1 ht hvm
        generalize H1 = H at hP hS ⊢
        have hP : va_P (dC, dI) vwCl [(m_p, .inr (12, [.ref pr_what, .ref pr_place, .ref pr_own, .ref pr_one, .ref pr_two, .ref pr_three, .ref pr_beside, .ref pr_many, .ref pr_uses, .ref pr_behind, .ref pr_name, .ref pr_makes, .int pr_parts, .ref pr_functionName, .ref pr_kindName, .ref pr_told, .ref pr_body, .ref pr_first, .ref pr_widest, .ref pr_fields, .int pr_functions, .int pr_kinds])), (pr_many, .inl (rk_many, 2100, .inl rg_many)), (pr_one, .inl (rk_one, 2100, .inl rg_one)), (pr_beside, .inl (rk_beside, 2100, .inl rg_beside)), (h0, .inr (14, [.int m_thrown, .ref m_stop, .ref m_tape, .int m_taped, .int m_length, .int m_at, .int m_sort, .int m_place, .int m_sign, .long m_letters, .ref m_p, .ref m_spare, .int m_isTaken, .ref m_scope, .int m_scoped, .int m_deep, .int m_counted, .int m_fault, .int m_where, .ref m_cellKind, .ref m_cellCount, .ref m_free, .ref m_pile, .ref m_cellField, .int m_freeCount, .int m_given, .int m_nextPlain, .ref m_otherKind, .ref m_otherField, .int m_isPlain, .int m_hasRun, .int m_hasValue, .int m_hasOther, .long m_value, .long m_other, .int m_steps, .int m_made, .int m_reused, .int m_freed, .int m_most, .int m_doubled, .int m_openMost, .ref y_tw2_26, .ref y_tq2_27, .ref m_values, .int y_ts2_25, .int m_valued, .int m_open, .ref m_slots, .ref m_present, .ref m_shell, .ref m_shellArm, .ref m_shellCall, .int m_shells, .ref m_keptCounts, .ref m_asideKind, .ref m_asideCount, .ref m_asideField, .ref m_out, .ref m_side, .int m_outs, .int m_sides, .ref m_saying])), (y_tw2_26, .inl (y_kw2_28, y_zt2_30, .inl y_gtw2_31)), (y_tq2_27, .inl (y_kq2_29, y_zt2_30, .inl y_gtp2_32))] H := hP
        have hD : va_D A [(m_p, .inr (12, [.ref pr_what, .ref pr_place, .ref pr_own, .ref pr_one, .ref pr_two, .ref pr_three, .ref pr_beside, .ref pr_many, .ref pr_uses, .ref pr_behind, .ref pr_name, .ref pr_makes, .int pr_parts, .ref pr_functionName, .ref pr_kindName, .ref pr_told, .ref pr_body, .ref pr_first, .ref pr_widest, .ref pr_fields, .int pr_functions, .int pr_kinds])), (pr_many, .inl (rk_many, 2100, .inl rg_many)), (pr_one, .inl (rk_one, 2100, .inl rg_one)), (pr_beside, .inl (rk_beside, 2100, .inl rg_beside)), (h0, .inr (14, [.int m_thrown, .ref m_stop, .ref m_tape, .int m_taped, .int m_length, .int m_at, .int m_sort, .int m_place, .int m_sign, .long m_letters, .ref m_p, .ref m_spare, .int m_isTaken, .ref m_scope, .int m_scoped, .int m_deep, .int m_counted, .int m_fault, .int m_where, .ref m_cellKind, .ref m_cellCount, .ref m_free, .ref m_pile, .ref m_cellField, .int m_freeCount, .int m_given, .int m_nextPlain, .ref m_otherKind, .ref m_otherField, .int m_isPlain, .int m_hasRun, .int m_hasValue, .int m_hasOther, .long m_value, .long m_other, .int m_steps, .int m_made, .int m_reused, .int m_freed, .int m_most, .int m_doubled, .int m_openMost, .ref y_tw2_26, .ref y_tq2_27, .ref m_values, .int y_ts2_25, .int m_valued, .int m_open, .ref m_slots, .ref m_present, .ref m_shell, .ref m_shellArm, .ref m_shellCall, .int m_shells, .ref m_keptCounts, .ref m_asideKind, .ref m_asideCount, .ref m_asideField, .ref m_out, .ref m_side, .int m_outs, .int m_sides, .ref m_saying])), (y_tw2_26, .inl (y_kw2_28, y_zt2_30, .inl y_gtw2_31)), (y_tq2_27, .inl (y_kq2_29, y_zt2_30, .inl y_gtp2_32))] := hD
        have hK : va_K (dC, dI) vwCl [(rk_many, .int), (rk_one, .int), (rk_beside, .int), (y_kw2_28, .byte), (y_kq2_29, .int)] s := hK
        obtain ⟨hq_33, hq_34, hq_35, hq_36, hq_37, hq_38, hq_39, hq_40⟩ := hw
        try dsimp only at hq_33 hq_34 hq_35 hq_36 hq_37 hq_38 hq_39 hq_40
        refine W.widen (k := (zG y_zt2_30 - (zG zt))) (n := (4 * y_zt2_30 - (4 * zt))) (by omega) (by omega) ?_
        have hgl_41 := zG_le (z := y_zt2_30)
        refine lv_aload_n hx hb dX14_puts_39 rfl (lv_at hl 3 rfl) ?_
        refine va_get (D := (dC, dI)) (ci := 14) (v := .ref m_p) (C := RX14) (T := TX14) (N := 63) hx hb hA zin_X14 hown hK hP 4 rfl rfl 10 (by decide) (hA _ wi_1507) (fun _ h9 => h9) rfl dX14_puts_40 ?_
        refine va_getN (D := (dC, dI)) (ci := 12) (v := .ref pr_beside) (C := RX12) (T := TX12) (N := 22) hx hb hA zin_X12 hown hK hP 0 rfl rfl 6 (by decide) (va_Nw.use rfl (hN.1 ("ReuseHouseModel", 211, "ReuseHouseModel$Program", "beside", "[I", "ReuseHouseModel") (by decide +kernel))) (fun _ h9 => h9) rfl dX14_puts_43 ?_
        refine lv_iload hx hb dX14_puts_46 (lv_at hl 0 rfl) ?_
        refine va_iald hx hb hK hP 3 2 rfl rfl (vp_in_iff.mpr ⟨by omega, by omega⟩) dX14_puts_48 ?_
        refine lv_topi (fun x_42 ex_42 => ?_)
        refine lv_istore (lv' := [(4, .int x_42), (3, .int m_tasks), (2, .int x_1), (0, .ref h0), (1, .int pt)]) hx hb dX14_puts_49 hl (by decide) rfl (fun ls hl => ?_)
        refine lv_goto (tgt := 26) hx hb dX14_puts_51 (by decide) ?_
        have hln9 : (gD ++ [Int32.toNatClampNeg la]).length = gD.length + 1 := by rw [List.length_append]; rfl
        have hz_43 : gR = (gD ++ [Int32.toNatClampNeg la]) ++ lA := by rw [hRD, hA9, List.append_assoc]; rfl
        have hz_44 : zli rg_beside x_42 lA := by rw [ex_42]; exact hA8
        have hlt9 : Int32.toNatClampNeg lts = (Int32.toNatClampNeg m_tasks) + gD.length := by have := zn_nat (x := lts) (by omega); omega
        rw [hlt9] at hq_37 hq_38
        have hz_45 : (∀ i : Nat, i < (Int32.toNatClampNeg m_tasks) → y_gtw2_31 i = gtw i ∧ y_gtp2_32 i = gtp i) ∧ ∀ i : Nat, i < (gD ++ [Int32.toNatClampNeg la]).length → Int32.toInt (y_gtw2_31 ((Int32.toNatClampNeg m_tasks) + i)) = 0 ∧ Int32.toInt (y_gtp2_32 ((Int32.toNatClampNeg m_tasks) + i)) = (((gD ++ [Int32.toNatClampNeg la]).getD i 0 : Nat) : Int) := ⟨fun i hi => ⟨(hq_37.2 i (by omega)).trans (hrw.1 i hi).1, (hq_38.2 i (by omega)).trans (hrw.1 i hi).2⟩, fun i hi => by rw [hln9] at hi; by_cases g : i = gD.length; (rw [g, hq_37.1, hq_38.1, List.getD_eq_getElem?_getD, List.getElem?_append_right (Nat.le_refl _), Nat.sub_self]; exact ⟨by decide, by have := zn_nat hA7; show la.toInt = ((Int32.toNatClampNeg la : Nat) : Int); omega⟩); rw [hq_37.2 _ (by omega), hq_38.2 _ (by omega), List.getD_eq_getElem?_getD, List.getElem?_append_left (by omega), ← List.getD_eq_getElem?_getD]; exact hrw.2 i (by omega)⟩
        exact ih x_42 y_ts2_25 (gD ++ [Int32.toNatClampNeg la]) lA y_tw2_26 y_tq2_27 y_kw2_28 y_kq2_29 y_zt2_30 y_gtw2_31 y_gtp2_32 _ _ _ (by omega) (by omega) (by omega) (by omega) (by omega) (by omega) (by omega) hz_43 hz_44 hz_45 (hK.sub [0, 1, 2, 3, 4] rfl) (hP.sub [4, 0, 1, 2, 3, 5, 6] rfl) (hD.sub [4, 0, 1, 2, 3, 5, 6] (by decide) rfl) hS (lv_sub hl [0, 1, 2, 3, 4] rfl)
  have hz_46 : gR = ([] : List Nat) ++ gR := rfl
  have hz_47 : zli rg_beside x_2 gR := by rw [qx_2]; exact hli
  have hz_48 : (∀ i : Nat, i < (Int32.toNatClampNeg m_tasks) → gtw i = gtw i ∧ gtp i = gtp i) ∧ ∀ i : Nat, i < ([] : List Nat).length → Int32.toInt (gtw ((Int32.toNatClampNeg m_tasks) + i)) = 0 ∧ Int32.toInt (gtp ((Int32.toNatClampNeg m_tasks) + i)) = ((([] : List Nat).getD i 0 : Nat) : Int) := ⟨fun _ _ => ⟨rfl, rfl⟩, fun i hi => absurd hi (by simp)⟩
  have hnil9 : (([] : List Nat).length : Int) = 0 := rfl
  refine W.widen (k := (zG zt - (zG zt))) (n := (4 * zt - (4 * zt))) (by omega) (by omega) ?_
  exact loop_26 _ x_2 m_tasks ([] : List Nat) gR m_taskWhat m_taskPart kw kq zt gtw gtp _ _ _ (Nat.le_refl _) (by omega) (by omega) (by omega) (by omega) (by omega) (by omega) hz_46 hz_47 hz_48 (hK.sub [0, 1, 2, 3, 4] rfl) (hP.sub [0, 1, 2, 3, 4, 5, 6] rfl) (hD.sub [0, 1, 2, 3, 4, 5, 6] (by decide) rfl) hS (lv_sub hl [0, 1, 2, 3, 4] rfl)

end
section
/-! parts, as the run sees them -/
theorem zP_w {S : Nat → Nat → Int32} {u b : Nat → Int32} {z : Nat} {L C : Nat → Nat} {bo to : Nat → Int32} {nf : Int} {k : Nat} (hg : zPG S u b L C z bo to nf) (hk : k < z) {n : Nat} (hw : (S 0 k).toInt = (n : Int)) : zJn S L C k n ∧ zKq S u k (u k) n ∧ zKb S u b k n ∧ C k ≤ 24 := by
  obtain ⟨l1, l2, hJ, hC⟩ := hg.1 k (Nat.zero_le _) hk
  have hq := hg.2.2.1 k hk
  have := (zwh hJ).2.2
  rw [show Int32.toNatClampNeg (S 0 k) = n by omega] at hJ hq
  exact ⟨hJ, hq.1, hq.2, hC⟩
/-- part r is one to be worked -/
def zPoc (S : Nat → Nat → Int32) (z : Nat) (x : Int32) : Prop := 0 ≤ x.toInt ∧ Int32.toNatClampNeg x < z ∧ (S 0 (Int32.toNatClampNeg x)).toInt ≠ 9
theorem zP_5 {S : Nat → Nat → Int32} {u b : Nat → Int32} {z : Nat} {L C : Nat → Nat} {bo to : Nat → Int32} {nf : Int} {k : Nat} (hg : zPG S u b L C z bo to nf) (hk : k < z) (hw : (S 0 k).toInt = 5) : zPoc S z (S 2 k) ∧ zPoc S z (S 3 k) ∧ (∀ j, j < 32 → zbit (b (Int32.toNatClampNeg (S 2 k))) j = (zbit (b k) j || zbit (u (Int32.toNatClampNeg (S 3 k))) j)) ∧ b (Int32.toNatClampNeg (S 3 k)) = b k ∧ ∀ j, j < 32 → zbit (u k) j = (zbit (u (Int32.toNatClampNeg (S 2 k))) j || zbit (u (Int32.toNatClampNeg (S 3 k))) j) := by
  obtain ⟨hJ, hq, hb, -⟩ := zP_w hg hk (n := 5) hw
  obtain ⟨x, y, g1, g2, g3, g4, g5, g6, g7⟩ := hJ
  have x1 := zJr_in g1 x List.mem_cons_self
  have y1 := zJr_in g1 y (List.mem_cons_of_mem _ List.mem_cons_self)
  have ex : Int32.toNatClampNeg (S 2 k) = x := by have := zn_nat (x := S 2 k) (by omega); omega
  have ey : Int32.toNatClampNeg (S 3 k) = y := by have := zn_nat (x := S 3 k) (by omega); omega
  exact ⟨⟨by omega, by omega, by rw [ex]; exact g6⟩, ⟨by omega, by omega, by rw [ey]; exact g7⟩, hb.1, hb.2, hq⟩
theorem zP_6 {S : Nat → Nat → Int32} {u b : Nat → Int32} {z : Nat} {L C : Nat → Nat} {bo to : Nat → Int32} {nf : Int} {k : Nat} (hg : zPG S u b L C z bo to nf) (hk : k < z) (hw : (S 0 k).toInt = 6) : zPoc S z (S 2 k) ∧ zPoc S z (S 3 k) ∧ (∀ j, j < 32 → zbit (b (Int32.toNatClampNeg (S 2 k))) j = (zbit (b k) j || (zbit (u (Int32.toNatClampNeg (S 3 k))) j && !(j == Int32.toNatClampNeg (S 1 k))))) ∧ b (Int32.toNatClampNeg (S 3 k)) = b k ∧ (∀ j, j < 32 → zbit (u k) j = (zbit (u (Int32.toNatClampNeg (S 2 k))) j || (zbit (u (Int32.toNatClampNeg (S 3 k))) j && !(j == Int32.toNatClampNeg (S 1 k))))) ∧ 0 ≤ (S 1 k).toInt ∧ (S 1 k).toInt < 24 := by
  obtain ⟨hJ, hq, hb, hC⟩ := zP_w hg hk (n := 6) hw
  obtain ⟨x, y, g1, g2, g3, g4, g5, g6, g7, g8⟩ := hJ
  have x1 := zJr_in g1 x List.mem_cons_self
  have y1 := zJr_in g1 y (List.mem_cons_of_mem _ List.mem_cons_self)
  have ex : Int32.toNatClampNeg (S 2 k) = x := by have := zn_nat (x := S 2 k) (by omega); omega
  have ey : Int32.toNatClampNeg (S 3 k) = y := by have := zn_nat (x := S 3 k) (by omega); omega
  have cy := (hg.1 y (Nat.zero_le _) (by omega)).2.2.2
  exact ⟨⟨by omega, by omega, by rw [ex]; exact g6⟩, ⟨by omega, by omega, by rw [ey]; exact g7⟩, hb.1, hb.2, hq, by omega, by omega⟩
theorem zP_7 {S : Nat → Nat → Int32} {u b : Nat → Int32} {z : Nat} {L C : Nat → Nat} {bo to : Nat → Int32} {nf : Int} {k : Nat} (hg : zPG S u b L C z bo to nf) (hk : k < z) (hw : (S 0 k).toInt = 7) : zPoc S z (S 2 k) ∧ zPoc S z (S 3 k) ∧ zPoc S z (S 4 k) ∧ (∀ j, j < 32 → zbit (b (Int32.toNatClampNeg (S 2 k))) j = (zbit (b k) j || zbit (u (Int32.toNatClampNeg (S 3 k))) j || zbit (u (Int32.toNatClampNeg (S 4 k))) j)) ∧ b (Int32.toNatClampNeg (S 3 k)) = b k ∧ b (Int32.toNatClampNeg (S 4 k)) = b k ∧ ∀ j, j < 32 → zbit (u k) j = (zbit (u (Int32.toNatClampNeg (S 2 k))) j || zbit (u (Int32.toNatClampNeg (S 3 k))) j || zbit (u (Int32.toNatClampNeg (S 4 k))) j) := by
  obtain ⟨hJ, hq, hb, hC⟩ := zP_w hg hk (n := 7) hw
  obtain ⟨x, y, v, g1, g2, g3, g4, g5, g6, g7, g8, g9, g10⟩ := hJ
  have x1 := zJr_in g1 x List.mem_cons_self
  have y1 := zJr_in g1 y (List.mem_cons_of_mem _ List.mem_cons_self)
  have v1 := zJr_in g1 v (List.mem_cons_of_mem _ (List.mem_cons_of_mem _ List.mem_cons_self))
  have ex : Int32.toNatClampNeg (S 2 k) = x := by have := zn_nat (x := S 2 k) (by omega); omega
  have ey : Int32.toNatClampNeg (S 3 k) = y := by have := zn_nat (x := S 3 k) (by omega); omega
  have ev : Int32.toNatClampNeg (S 4 k) = v := by have := zn_nat (x := S 4 k) (by omega); omega
  exact ⟨⟨by omega, by omega, by rw [ex]; exact g8⟩, ⟨by omega, by omega, by rw [ey]; exact g9⟩, ⟨by omega, by omega, by rw [ev]; exact g10⟩, hb.1, hb.2.1, hb.2.2, hq⟩
theorem zP_2 {S : Nat → Nat → Int32} {u b : Nat → Int32} {z : Nat} {L C : Nat → Nat} {bo to : Nat → Int32} {nf : Int} {k : Nat} (hg : zPG S u b L C z bo to nf) (hk : k < z) (hw : (S 0 k).toInt = 2) : 0 ≤ (S 1 k).toInt ∧ (S 1 k).toInt < 24 ∧ zbit (u k) (Int32.toNatClampNeg (S 1 k)) = true := by
  obtain ⟨hJ, hq, hb, hC⟩ := zP_w hg hk (n := 2) hw
  have h1 := hJ.2.1
  have h2 := hJ.2.2
  have h3 := zn_nat h1
  exact ⟨h1, by omega, by rw [hq _ (by omega)]; exact beq_self_eq_true _⟩
/-- calls, and what is made: the arguments -/
theorem zP_34 {S : Nat → Nat → Int32} {u b : Nat → Int32} {z : Nat} {L C : Nat → Nat} {bo to : Nat → Int32} {nf : Int} {k : Nat} (hg : zPG S u b L C z bo to nf) (hk : k < z) (hw : (S 0 k).toInt = 3 ∨ (S 0 k).toInt = 4) : ∃ R, zli (S 5) (S 2 k) R ∧ (R.length : Int) = (S 6 k).toInt ∧ R.length ≤ 6 ∧ (∀ r ∈ R, r < z ∧ (S 0 r).toInt ≠ 9) ∧ (∀ D r E, R = D ++ r :: E → ∀ j, j < 32 → zbit (b r) j = (zbit (b k) j || E.any (zKf u j))) ∧ (∀ j, j < 32 → zbit (u k) j = R.any (zKf u j)) ∧ ((S 0 k).toInt = 4 → 0 ≤ (S 1 k).toInt ∧ (S 1 k).toInt < (S 8 0).toInt ∧ S 7 (Int32.toNatClampNeg (S 1 k)) = S 6 k ∧ (S 6 k).toInt ≤ 3) := by
  rcases hw with hw | hw
  · obtain ⟨hJ, hq, hb, hC⟩ := zP_w hg hk (n := 3) hw
    obtain ⟨R, g1, g2, g3, g4⟩ := hJ
    have c := hg.2.2.2.1 k hk hw
    have d := hg.2.2.2.2 (Int32.toNatClampNeg (S 1 k)) (by have := zn_nat c.1; omega)
    rw [c.2.2] at d
    exact ⟨R, g2, g3, by omega, fun r hr => ⟨by have := zJr_in g1 r hr; omega, (g4 r hr).2⟩, hb R g2, hq R g2, fun g => absurd g (by omega)⟩
  · obtain ⟨hJ, hq, hb, hC⟩ := zP_w hg hk (n := 4) hw
    obtain ⟨R, g1, g2, g3, g4, g5, g6, g7, g8⟩ := hJ
    exact ⟨R, g2, g3, by omega, fun r hr => ⟨by have := zJr_in g1 r hr; omega, (g4 r hr).2⟩, hb R g2, hq R g2, fun _ => ⟨g6, g7, g8, by omega⟩⟩
theorem zP_m {S : Nat → Nat → Int32} {u b : Nat → Int32} {z : Nat} {L C : Nat → Nat} {bo to : Nat → Int32} {nf : Int} (hg : zPG S u b L C z bo to nf) : ∀ k, k < z → (S 0 k).toInt = 3 ∨ (S 0 k).toInt = 4 → (S 6 k).toInt ≤ 6 := fun k hk hw => by
  obtain ⟨R, -, h2, h3, -⟩ := zP_34 hg hk hw
  omega
/-- an arm of the match k -/
def zMa (S : Nat → Nat → Int32) (u b : Nat → Int32) (z k a : Nat) : Prop := zPoc S z (S 2 a) ∧ 0 ≤ (S 3 a).toInt ∧ (S 1 k).toInt < (S 3 a).toInt ∧ 0 ≤ (S 6 a).toInt ∧ (S 6 a).toInt ≤ 3 ∧ (S 3 a).toInt + (S 6 a).toInt ≤ 24 ∧ ((S 1 a).toInt = -1 ∧ (S 6 a).toInt = 0 ∨ 0 ≤ (S 1 a).toInt ∧ (S 1 a).toInt < (S 8 0).toInt ∧ S 7 (Int32.toNatClampNeg (S 1 a)) = S 6 a) ∧ b a = b k ∧ b (Int32.toNatClampNeg (S 2 a)) = b k ∧ ∀ j, j < 32 → zbit (u (Int32.toNatClampNeg (S 2 a))) j = true → ¬ ((S 3 a).toInt ≤ (j : Int) ∧ (j : Int) < (S 3 a).toInt + (S 6 a).toInt) → zbit (u k) j = true
theorem zP_8 {S : Nat → Nat → Int32} {u b : Nat → Int32} {z : Nat} {L C : Nat → Nat} {bo to : Nat → Int32} {nf : Int} {k : Nat} (hg : zPG S u b L C z bo to nf) (hk : k < z) (hw : (S 0 k).toInt = 8) : ∃ R, zli (S 5) (S 2 k) R ∧ 0 ≤ (S 1 k).toInt ∧ (S 1 k).toInt < 24 ∧ zbit (u k) (Int32.toNatClampNeg (S 1 k)) = true ∧ ∀ r ∈ R, r < z ∧ zMa S u b z k r := by
  obtain ⟨hJ, hq, hb, hC⟩ := zP_w hg hk (n := 8) hw
  obtain ⟨R, g1, g2, g3, g4, g5⟩ := hJ
  have hn := zn_nat g4
  refine ⟨R, g2, g4, by omega, by rw [hq R g2 _ (by omega), beq_self_eq_true]; rfl, fun r hr => ?_⟩
  have r1 := zJr_in g1 r hr
  have hrz : r < z := by omega
  refine ⟨hrz, ?_⟩
  obtain ⟨aJ, aq, ab, aC⟩ := zP_w hg hrz (n := 9) (g3 r hr).2
  obtain ⟨x, a1, a2, a3, a4, a5, a6, a7, a8⟩ := aJ
  have x1 := zJr_in a1 x List.mem_cons_self
  have ex : Int32.toNatClampNeg (S 2 r) = x := by have := zn_nat (x := S 2 r) (by omega); omega
  have cx := (hg.1 x (Nat.zero_le _) (by omega)).2.2.2
  have cr := (g3 r hr).1
  have br : b r = b k := hb R g2 r hr
  refine ⟨⟨by omega, by omega, by rw [ex]; exact a5⟩, by omega, by omega, a6, a7, by omega, a8, br, ((show b (Int32.toNatClampNeg (S 2 r)) = b r from ab).trans br), fun j hj h1 h2 => ?_⟩
  rw [hq R g2 j hj, Bool.or_eq_true]
  refine Or.inr (List.any_eq_true.mpr ⟨r, hr, ?_⟩)
  show zbit (u r) j = true
  rw [aq j hj, h1, Bool.true_and, Bool.not_eq_true', Bool.and_eq_false_iff, decide_eq_false_iff_not, decide_eq_false_iff_not]
  by_cases g : (S 3 r).toInt ≤ (j : Int)
  · exact Or.inr (fun w => h2 ⟨g, w⟩)
  · exact Or.inl g
theorem zTW_u {S : Nat → Nat → Int32} {u b : Nat → Int32} {z : Nat} {pr tw tp : Nat → Int32} {t o h k : Nat} (a : zTW S u b z pr tw tp t o h k) {j : Nat} (hj : j < 32) (h : zbit (u k) j = true) : 1 ≤ o ∧ zbit (pr (o - 1)) j = true := by
  obtain ⟨M, -, -, g⟩ := a
  exact g j hj h
theorem zTW_e {S : Nat → Nat → Int32} {u b : Nat → Int32} {z : Nat} {pr tw tp : Nat → Int32} {tw2 tp2 : Nat → Int32} {t o h k : Nat} {w c : Int32} (a : zTW S u b z pr tw tp t o h k) (hw : w.toInt = 2) (ew : zTa tw tw2 t w) (ep : zTa tp tp2 t c) : zTW S u b z pr tw2 tp2 (t + 1) o h k := by
  obtain ⟨M, a, g⟩ := a
  exact ⟨M, zTK_e a hw ew ep, g⟩
/-- a way of the match begins -/
theorem zTB_m {S : Nat → Nat → Int32} {u b : Nat → Int32} {z : Nat} {pr tw tp : Nat → Int32} {pr2 : Nat → Int32} {t o h k a : Nat} {kp : Prop} (x : zTW S u b z pr tw tp t o h k) (hm : zMa S u b z k a) (ho : 1 ≤ o) (h0 : 0 ≤ (S 1 k).toInt) (p1 : ∀ i, i ≠ o - 1 → pr2 i = pr i) (q1 : ∀ j, j < 32 → zbit (pr (o - 1)) j = true → j ≠ Int32.toNatClampNeg (S 1 k) ∨ kp → zbit (pr2 (o - 1)) j = true) (q2 : ∀ i : Nat, (i : Int) < (S 6 a).toInt → zbit (u (Int32.toNatClampNeg (S 2 a))) (Int32.toNatClampNeg (S 3 a) + i) = true → zbit (pr2 (o - 1)) (Int32.toNatClampNeg (S 3 a) + i) = true) (q3 : kp ∨ zbit (u (Int32.toNatClampNeg (S 2 a))) (Int32.toNatClampNeg (S 1 k)) = false ∧ zbit (b a) (Int32.toNatClampNeg (S 1 k)) = false) : zTB S u b z pr2 tw tp t o h (Int32.toNatClampNeg (S 2 a)) := by
  obtain ⟨M, x, hx, hu⟩ := x
  obtain ⟨m1, m2, m3, m4, m5, m6, m7, m8, m9, m10⟩ := hm
  have e3 := zn_nat m2
  have e1 := zn_nat h0
  refine ⟨M, zTK_ext x (fun _ g => g) (fun i hi => p1 i (by omega)) (fun _ _ => rfl) (fun _ _ => rfl), fun j g => ?_, fun j hj g => ?_⟩
  · obtain ⟨g1, g2, g3, g4⟩ := hx j g
    refine ⟨g1, g2, q1 j g2 g3 ?_, by rw [m9]; exact g4⟩
    rcases q3 with q | q
    · exact Or.inr q
    · exact Or.inl (fun e => by rw [← m8, e, q.2] at g4; exact Bool.noConfusion g4)
  · by_cases w : (S 3 a).toInt ≤ (j : Int) ∧ (j : Int) < (S 3 a).toInt + (S 6 a).toInt
    · have := q2 (j - Int32.toNatClampNeg (S 3 a)) (by omega)
      rw [show Int32.toNatClampNeg (S 3 a) + (j - Int32.toNatClampNeg (S 3 a)) = j by omega] at this
      exact ⟨ho, this g⟩
    · have v := hu j hj (m10 j hj g w)
      refine ⟨v.1, q1 j hj v.2 ?_⟩
      rcases q3 with q | q
      · exact Or.inr q
      · exact Or.inl (fun e => by rw [e, q.1] at g; exact Bool.noConfusion g)
/-! what works leaves -/
theorem zW_5 {S : Nat → Nat → Int32} {u b : Nat → Int32} {z : Nat} {pr tw tp : Nat → Int32} {L C : Nat → Nat} {bo to : Nat → Int32} {nf : Int} {tw1 tp1 tw2 tp2 tw3 tp3 : Nat → Int32} {t o h k : Nat} {w0 w1 w2 kk : Int32} (hg : zPG S u b L C z bo to nf) (hk : k < z) (hw : (S 0 k).toInt = 5) (ek : kk.toInt = (k : Int)) (a : zTW S u b z pr tw tp t o h k) (h0 : w0.toInt = 1) (h1 : w1.toInt = 0) (h2 : w2.toInt = 0) (ew1 : zTa tw tw1 t w0) (ep1 : zTa tp tp1 t kk) (ew2 : zTa tw1 tw2 (t + 1) w1) (ep2 : zTa tp1 tp2 (t + 1) (S 3 k)) (ew3 : zTa tw2 tw3 (t + 2) w2) (ep3 : zTa tp2 tp3 (t + 2) (S 2 k)) : zTS S u b z pr tw3 tp3 (t + 3) o h := by
  obtain ⟨⟨x1, x2, x3⟩, ⟨y1, y2, y3⟩, hb1, hb2, hu⟩ := zP_5 hg hk hw
  obtain ⟨M, a, hm, hv⟩ := a
  have en : Int32.toNatClampNeg kk = k := by have := zn_nat (x := kk) (by omega); omega
  have s1 := zTK_d (h := h + 2) (h' := h) (M2 := M) (k := kk) a (by omega) (by rw [en]; exact hk) (fun j g => ⟨g, (hm j g).2.1, by rw [en]; exact (hm j g).2.2.2⟩) (by rw [en]; exact Or.inr (Or.inl ⟨hw, rfl⟩)) h0 ew1 ep1
  have s2 := zTK_w (h := h + 1) s1 y1 y2 y3 (fun j g => ⟨(hm j g).2.1, by rw [hb2]; exact (hm j g).2.2.2⟩) h1 ew2 ep2
  have s3 := zTK_w (h := h) s2 x1 x2 x3 (fun j g => by
    rcases g with g | g
    · exact ⟨(hm j g).2.1, by rw [hb1 j (hm j g).2.1, (hm j g).2.2.2]; rfl⟩
    · exact ⟨g.1, by rw [hb1 j g.1, g.2, Bool.or_true]⟩) h2 ew3 ep3
  refine ⟨_, s3, fun j g => ?_⟩
  rcases g with (g | g) | g
  · exact ⟨(hm j g).1, (hm j g).2.1, (hm j g).2.2.1⟩
  · have := hv j g.1 (by rw [hu j g.1, g.2, Bool.or_true]); exact ⟨this.1, g.1, this.2⟩
  · have := hv j g.1 (by rw [hu j g.1, g.2]; rfl); exact ⟨this.1, g.1, this.2⟩
theorem zW_67 {S : Nat → Nat → Int32} {u b : Nat → Int32} {z : Nat} {pr tw tp : Nat → Int32} {L C : Nat → Nat} {bo to : Nat → Int32} {nf : Int} {tw1 tp1 tw2 tp2 : Nat → Int32} {t o h k : Nat} {w0 w1 kk : Int32} (hg : zPG S u b L C z bo to nf) (hk : k < z) (hw : (S 0 k).toInt = 6 ∨ (S 0 k).toInt = 7) (ek : kk.toInt = (k : Int)) (a : zTW S u b z pr tw tp t o h k) (h0 : w0.toInt = 1) (h1 : w1.toInt = 0) (ew1 : zTa tw tw1 t w0) (ep1 : zTa tp tp1 t kk) (ew2 : zTa tw1 tw2 (t + 1) w1) (ep2 : zTa tp1 tp2 (t + 1) (S 2 k)) : zTS S u b z pr tw2 tp2 (t + 2) o h := by
  obtain ⟨M, a, hm, hv⟩ := a
  have en : Int32.toNatClampNeg kk = k := by have := zn_nat (x := kk) (by omega); omega
  rcases hw with hw | hw
  · obtain ⟨⟨x1, x2, x3⟩, -, hb1, hb2, hu, -⟩ := zP_6 hg hk hw
    have s1 := zTK_d (h := h + 1) (h' := h) (M2 := fun j => M j ∨ j < 32 ∧ j ≠ Int32.toNatClampNeg (S 1 k) ∧ zbit (u (Int32.toNatClampNeg (S 3 k))) j = true) (k := kk) a (by omega) (by rw [en]; exact hk) (fun j g => ⟨Or.inl g, (hm j g).2.1, by rw [en]; exact (hm j g).2.2.2⟩) (by rw [en]; exact Or.inr (Or.inr (Or.inl ⟨hw, rfl, fun j g1 g2 g3 => Or.inr ⟨g1, g2, g3⟩⟩))) h0 ew1 ep1
    have s2 := zTK_w (h := h) s1 x1 x2 x3 (fun j g => by
      rcases g with g | g
      · exact ⟨(hm j g).2.1, by rw [hb1 j (hm j g).2.1, (hm j g).2.2.2]; rfl⟩
      · exact ⟨g.1, by rw [hb1 j g.1, g.2.2, beq_false_of_ne g.2.1, Bool.not_false, Bool.true_and, Bool.or_true]⟩) h1 ew2 ep2
    refine ⟨_, s2, fun j g => ?_⟩
    rcases g with (g | g) | g
    · exact ⟨(hm j g).1, (hm j g).2.1, (hm j g).2.2.1⟩
    · have := hv j g.1 (by rw [hu j g.1, g.2.2, beq_false_of_ne g.2.1, Bool.not_false, Bool.true_and, Bool.or_true]); exact ⟨this.1, g.1, this.2⟩
    · have := hv j g.1 (by rw [hu j g.1, g.2]; rfl); exact ⟨this.1, g.1, this.2⟩
  · obtain ⟨⟨x1, x2, x3⟩, -, -, hb1, hb2, hb3, hu⟩ := zP_7 hg hk hw
    have s1 := zTK_d (h := h + 1) (h' := h) (M2 := fun j => M j ∨ j < 32 ∧ (zbit (u (Int32.toNatClampNeg (S 3 k))) j = true ∨ zbit (u (Int32.toNatClampNeg (S 4 k))) j = true)) (k := kk) a (by omega) (by rw [en]; exact hk) (fun j g => ⟨Or.inl g, (hm j g).2.1, by rw [en]; exact (hm j g).2.2.2⟩) (by rw [en]; exact Or.inr (Or.inr (Or.inr ⟨hw, rfl, fun j g1 g2 => Or.inr ⟨g1, g2⟩⟩))) h0 ew1 ep1
    have s2 := zTK_w (h := h) s1 x1 x2 x3 (fun j g => by
      rcases g with g | g
      · exact ⟨(hm j g).2.1, by rw [hb1 j (hm j g).2.1, (hm j g).2.2.2]; rfl⟩
      · refine ⟨g.1, ?_⟩
        rw [hb1 j g.1]
        rcases g.2 with q | q
        · rw [q, Bool.or_true]; rfl
        · rw [q, Bool.or_true]) h1 ew2 ep2
    refine ⟨_, s2, fun j g => ?_⟩
    rcases g with (g | g) | g
    · exact ⟨(hm j g).1, (hm j g).2.1, (hm j g).2.2.1⟩
    · have := hv j g.1 (by
        rw [hu j g.1]
        rcases g.2 with q | q
        · rw [q, Bool.or_true]; rfl
        · rw [q, Bool.or_true])
      exact ⟨this.1, g.1, this.2⟩
    · have := hv j g.1 (by rw [hu j g.1, g.2]; rfl); exact ⟨this.1, g.1, this.2⟩
theorem zW_34 {S : Nat → Nat → Int32} {u b : Nat → Int32} {z : Nat} {pr tw tp : Nat → Int32} {tw1 tp1 tw2 tp2 : Nat → Int32} {t o h k : Nat} {w0 kk : Int32} {R : List Nat} (hk : k < z) (hw : (S 0 k).toInt = 3 ∨ (S 0 k).toInt = 4) (ek : kk.toInt = (k : Int)) (a : zTW S u b z pr tw tp t o h k) (hl : (R.length : Int) = (S 6 k).toInt) (hR : ∀ r ∈ R, r < z ∧ (S 0 r).toInt ≠ 9) (hb : ∀ D r E, R = D ++ r :: E → ∀ j, j < 32 → zbit (b r) j = (zbit (b k) j || E.any (zKf u j))) (hu : ∀ j, j < 32 → zbit (u k) j = R.any (zKf u j)) (h0 : w0.toInt = 1) (ew1 : zTa tw tw1 t w0) (ep1 : zTa tp tp1 t kk) (hp : (∀ i : Nat, i < t + 1 → tw2 i = tw1 i ∧ tp2 i = tp1 i) ∧ ∀ i : Nat, i < R.length → Int32.toInt (tw2 (t + 1 + i)) = 0 ∧ Int32.toInt (tp2 (t + 1 + i)) = ((R.getD (R.length - 1 - i) 0 : Nat) : Int)) : zTS S u b z pr tw2 tp2 (t + 1 + R.length) o h := by
  obtain ⟨M, a, hm, hv⟩ := a
  have en : Int32.toNatClampNeg kk = k := by have := zn_nat (x := kk) (by omega); omega
  have s1 := zTK_d (h := h + R.length) (h' := h) (M2 := M) (k := kk) a (by omega) (by rw [en]; exact hk) (fun j g => ⟨g, (hm j g).2.1, by rw [en]; exact (hm j g).2.2.2⟩) (by rw [en]; exact Or.inl ⟨hw, by rw [← hl]; omega⟩) h0 ew1 ep1
  have s2 := zTK_ext (pr2 := pr) (tw2 := tw2) (tp2 := tp2) s1 (fun _ g => g) (fun _ _ => rfl) (fun i hi => (hp.1 i hi).1) (fun i hi => (hp.1 i hi).2)
  have s3 := zTK_args (k := k) (n := R.length) rfl hR hb (fun j g => ⟨(hm j g).2.1, (hm j g).2.2.2⟩) s2 (fun i hi => (hp.2 i hi).1) (fun i hi => (hp.2 i hi).2) R [] rfl
  rw [show h + R.length - R.length = h by omega] at s3
  refine ⟨_, s3, fun j g => ?_⟩
  rcases g with g | g
  · exact ⟨(hm j g).1, (hm j g).2.1, (hm j g).2.2.1⟩
  · have := hv j g.1 (by rw [hu j g.1]; exact g.2); exact ⟨this.1, g.1, this.2⟩
/-! what is to be done -/
theorem zTD_34 {S : Nat → Nat → Int32} {u b : Nat → Int32} {z : Nat} {pr tw tp : Nat → Int32} {t o h k : Nat} (a : zTD S u b z pr tw tp t o h k) (hw : (S 0 k).toInt = 3 ∨ (S 0 k).toInt = 4) : ∃ h' : Nat, (h : Int) = (h' : Int) + (S 6 k).toInt ∧ zTS S u b z pr tw tp t o (h' + 1) := by
  obtain ⟨M, h', a, hm, hd⟩ := a
  rcases hd with ⟨-, e⟩ | ⟨g, -⟩ | ⟨g, -⟩ | ⟨g, -⟩
  · exact ⟨h', e, M, a, fun j g => ⟨(hm j g).1, (hm j g).2.1, (hm j g).2.2.1⟩⟩
  · omega
  · omega
  · omega
theorem zTD_5 {S : Nat → Nat → Int32} {u b : Nat → Int32} {z : Nat} {pr tw tp : Nat → Int32} {t o h k : Nat} (a : zTD S u b z pr tw tp t o h k) (hw : (S 0 k).toInt = 5) : ∃ h', h = h' + 2 ∧ zTS S u b z pr tw tp t o (h' + 1) := by
  obtain ⟨M, h', a, hm, hd⟩ := a
  rcases hd with ⟨g, -⟩ | ⟨-, e⟩ | ⟨g, -⟩ | ⟨g, -⟩
  · omega
  · exact ⟨h', e, M, a, fun j g => ⟨(hm j g).1, (hm j g).2.1, (hm j g).2.2.1⟩⟩
  · omega
  · omega
theorem zTD_6h {S : Nat → Nat → Int32} {u b : Nat → Int32} {z : Nat} {pr tw tp : Nat → Int32} {t o h k : Nat} (a : zTD S u b z pr tw tp t o h k) (hw : (S 0 k).toInt = 6 ∨ (S 0 k).toInt = 7) : 1 ≤ h := by
  obtain ⟨M, h', a, hm, hd⟩ := a
  rcases hd with ⟨g, -⟩ | ⟨g, -⟩ | ⟨g, e, -⟩ | ⟨g, e, -⟩ <;> omega
theorem zTD_6 {S : Nat → Nat → Int32} {u b : Nat → Int32} {z : Nat} {pr tw tp : Nat → Int32} {L C : Nat → Nat} {bo to : Nat → Int32} {nf : Int} {pr2 tw2 tp2 : Nat → Int32} {t o h h2 k : Nat} {w nd : Int32} (hg : zPG S u b L C z bo to nf) (hk : k < z) (hw : (S 0 k).toInt = 6) (a : zTD S u b z pr tw tp t o h k) (eh : h = h2 + 1) (ho : 1 ≤ o) (gp : zGp pr pr2 (o - 1) (Int32.toNatClampNeg (S 1 k)) nd) (hn : nd.toInt ≠ 0 ∨ zbit (u (Int32.toNatClampNeg (S 3 k))) (Int32.toNatClampNeg (S 1 k)) = false) (h0 : w.toInt = 0) (ew : zTa tw tw2 t w) (ep : zTa tp tp2 t (S 3 k)) : zTS S u b z pr2 tw2 tp2 (t + 1) o h2 := by
  obtain ⟨-, ⟨y1, y2, y3⟩, -, hb2, -, -, -⟩ := zP_6 hg hk hw
  obtain ⟨M, h', a, hm, hd⟩ := a
  rcases hd with ⟨g, -⟩ | ⟨g, -⟩ | ⟨-, e, hd⟩ | ⟨g, -⟩
  · omega
  · omega
  · have e2 : h' = h2 := by omega
    subst e2
    refine ⟨_, zTK_w (zTK_ext a (fun _ g => g) (fun i hi => gp.1 i (by omega)) (fun _ _ => rfl) (fun _ _ => rfl)) y1 y2 y3 (fun j g => ⟨(hm j g).2.1, by rw [hb2]; exact (hm j g).2.2.2⟩) h0 ew ep, fun j g => ?_⟩
    rcases g with g | g
    · exact ⟨(hm j g).1, (hm j g).2.1, by rw [gp.2 j (hm j g).2.1, (hm j g).2.2.1]; rfl⟩
    · refine ⟨ho, g.1, ?_⟩
      rw [gp.2 j g.1]
      by_cases q : j = Int32.toNatClampNeg (S 1 k)
      · rcases hn with w | w
        · rw [q, beq_self_eq_true, decide_eq_true w, Bool.true_and, Bool.or_true]
        · rw [q] at g; rw [w] at g; exact Bool.noConfusion g.2
      · rw [(hd j g.1 q g.2).2.2]; rfl
  · omega
theorem zTD_7 {S : Nat → Nat → Int32} {u b : Nat → Int32} {z : Nat} {pr tw tp : Nat → Int32} {L C : Nat → Nat} {bo to : Nat → Int32} {nf : Int} {t o h h2 k : Nat} {x : Int32} (hg : zPG S u b L C z bo to nf) (hk : k < z) (hw : (S 0 k).toInt = 7) (a : zTD S u b z pr tw tp t o h k) (eh : h = h2 + 1) (hx : x = S 3 k ∨ x = S 4 k) : zTB S u b z pr tw tp t o h2 (Int32.toNatClampNeg x) ∧ zPoc S z x := by
  obtain ⟨-, y3, y4, -, hb3, hb4, -⟩ := zP_7 hg hk hw
  obtain ⟨M, h', a, hm, hd⟩ := a
  rcases hd with ⟨g, -⟩ | ⟨g, -⟩ | ⟨g, -⟩ | ⟨-, e, hd⟩
  · omega
  · omega
  · omega
  · have e2 : h' = h2 := by omega
    subst e2
    rcases hx with hx | hx
    · rw [hx]
      exact ⟨⟨M, a, fun j g => ⟨(hm j g).1, (hm j g).2.1, (hm j g).2.2.1, by rw [hb3]; exact (hm j g).2.2.2⟩, fun j hj g => ⟨(hd j hj (Or.inl g)).1, (hd j hj (Or.inl g)).2.2⟩⟩, y3⟩
    · rw [hx]
      exact ⟨⟨M, a, fun j g => ⟨(hm j g).1, (hm j g).2.1, (hm j g).2.2.1, by rw [hb4]; exact (hm j g).2.2.2⟩, fun j hj g => ⟨(hd j hj (Or.inr g)).1, (hd j hj (Or.inr g)).2.2⟩⟩, y4⟩

end
section
/-! the reference in a plain run: its tasks as the plain machine has them -/
/-- the names of the calls that are open -/
def rN (zk : Nat) (fd : Nat → Int32) (sl : Nat → Int64) : List (Nat × Tm) → List (Nat → Int64) → Nat → Nat → Prop
  | [], E, o, _ => E = [] ∧ o = 0
  | (j, t) :: K, E, o, c => ∃ (e : Nat → Int64) (E' : List (Nat → Int64)) (o' : Nat), E = e :: E' ∧ o = o' + 1 ∧ ((j = 2 ∧ ∃ d, d ≤ 24 ∧ rN zk fd sl K E' o' d) ∨ (j ≠ 2 ∧ ∃ d, d ≤ c ∧ tm_wf zk fd t d ∧ (∀ i, pm_nd j t i = true → sl (24 * o' + i) = e i) ∧ rN zk fd sl K E o d))
section
variable {zk : Nat} {fd : Nat → Int32} {sl sl2 : Nat → Int64}
theorem rN_mo {c c2 : Nat} (hc : c ≤ c2) : ∀ {K : List (Nat × Tm)} {E : List (Nat → Int64)} {o : Nat}, rN zk fd sl K E o c → rN zk fd sl K E o c2
  | [], _, _, h => h
  | (j, t) :: K, E, o, ⟨e, E', o', h1, h2, h3⟩ => ⟨e, E', o', h1, h2, h3.imp id (fun ⟨a, d, b, r⟩ => ⟨a, d, Nat.le_trans b hc, r⟩)⟩
theorem rN_lo : ∀ {K : List (Nat × Tm)} {E : List (Nat → Int64)} {o c : Nat}, (∀ i, i < 24 * o → sl2 i = sl i) → c ≤ 24 → rN zk fd sl K E o c → rN zk fd sl2 K E o c
  | [], _, _, _, _, _, h => h
  | (j, t) :: K, E, o, c, hs, hc, ⟨e, E', o', h1, h2, h3⟩ => ⟨e, E', o', h1, h2, h3.elim (fun ⟨a, d, b, r⟩ => Or.inl ⟨a, d, b, rN_lo (fun i hi => hs i (by omega)) b r⟩) (fun ⟨a, d, b, w, q, r⟩ => Or.inr ⟨a, d, b, w, fun i hi => (by have := nd_wf w hi; rw [hs _ (by omega)]; exact q i hi), rN_lo hs (by omega) r⟩)⟩
theorem rN_hd {o' : Nat} {e e2 : Nat → Int64} {E' : List (Nat → Int64)} (hl : ∀ i, i < 24 * o' → sl2 i = sl i) : ∀ {K : List (Nat × Tm)} {c : Nat}, c ≤ 24 → (∀ i, i < c → sl2 (24 * o' + i) = sl (24 * o' + i) ∧ e2 i = e i) → rN zk fd sl K (e :: E') (o' + 1) c → rN zk fd sl2 K (e2 :: E') (o' + 1) c
  | [], _, _, _, h => nomatch h.1
  | (j, t) :: K, c, hc, hg, ⟨f, E2, o2, h1, h2, h3⟩ => by
    cases h1
    obtain rfl : o2 = o' := by omega
    refine ⟨e2, E', o2, rfl, rfl, h3.elim (fun ⟨a, d, b, r⟩ => Or.inl ⟨a, d, b, rN_lo hl b r⟩) (fun ⟨a, d, b, w, q, r⟩ => Or.inr ⟨a, d, b, w, fun i hi => ?_, rN_hd hl (by omega) (fun i hi => hg i (by omega)) r⟩)⟩
    have := nd_wf w hi
    rw [(hg i (by omega)).1, (hg i (by omega)).2]; exact q i hi
theorem rN_t {j : Nat} {t : Tm} {K : List (Nat × Tm)} {E : List (Nat → Int64)} {o c : Nat} (h : rN zk fd sl ((j, t) :: K) E o c) (hj : j ≠ 2) : ∃ (e : Nat → Int64) (E' : List (Nat → Int64)) (o' d : Nat), E = e :: E' ∧ o = o' + 1 ∧ d ≤ c ∧ tm_wf zk fd t d ∧ (∀ i, pm_nd j t i = true → sl (24 * o' + i) = e i) ∧ rN zk fd sl K (e :: E') (o' + 1) d := by
  obtain ⟨e, E', o', h1, h2, h3⟩ := h
  obtain ⟨-, d, b, w, q, r⟩ := h3.resolve_left (fun g => hj g.1)
  subst h1
  subst h2
  exact ⟨e, E', o', d, rfl, rfl, b, w, q, r⟩
theorem rN_c {j : Nat} {t : Tm} {K : List (Nat × Tm)} {e : Nat → Int64} {E' : List (Nat → Int64)} {o' d : Nat} (hj : j ≠ 2) (w : tm_wf zk fd t d) (q : ∀ i, pm_nd j t i = true → sl (24 * o' + i) = e i) (r : rN zk fd sl K (e :: E') (o' + 1) d) : rN zk fd sl ((j, t) :: K) (e :: E') (o' + 1) d := ⟨e, E', o', rfl, rfl, Or.inr ⟨hj, d, Nat.le_refl _, w, q, r⟩⟩
theorem rN_as {K : List (Nat × Tm)} {e : Nat → Int64} {E' : List (Nat → Int64)} {o' d : Nat} (r : rN zk fd sl K (e :: E') (o' + 1) d) : ∀ (x : Tm), tm_li x → tm_wf zk fd x d → (∀ i, tm_ub x i = true → sl (24 * o' + i) = e i) → rN zk fd sl (pm_as x ++ K) (e :: E') (o' + 1) d
  | .leaf none, _, _, _ => r
  | .branch (_ + 3) x y, hl, hw, hu => rN_c (j := 0) (t := x) (K := pm_as y ++ K) (by decide) hw.1 (fun i hi => hu i (by show (tm_ub x i || tm_ub y i) = true; rw [show tm_ub x i = true from hi]; rfl)) (rN_as r y hl hw.2 (fun i hi => hu i (by show (tm_ub x i || tm_ub y i) = true; rw [hi, Bool.or_true])))
  | .leaf (some (0, _, _, _, _, _)), g, _, _ => g.elim
  | .leaf (some (_ + 1, _, _, _, _, _)), g, _, _ => g.elim
  | .branch 0 (.leaf (some (0, _, _, _, _, _))) _, g, _, _ => g.elim
  | .branch 0 (.leaf (some (1, _, _, _, _, _))) _, g, _, _ => g.elim
  | .branch 1 (.leaf (some (0, _, _, _, _, _))) (.branch _ _ _), g, _, _ => g.elim
  | .branch 1 (.leaf (some (_ + 1, _, _, _, _, _))) (.branch _ _ _), g, _, _ => g.elim
  | .branch 2 (.leaf (some (_, _, _, _, _, _))) (.branch _ _ (.branch _ _ _)), g, _, _ => g.elim
  | .branch 0 (.leaf (some (2, _, _, _, _, _))) _, g, _, _ => g.elim
  | .branch 0 (.leaf (some (_ + 3, _, _, _, _, _))) _, g, _, _ => g.elim
  | .branch 0 (.leaf none) _, g, _, _ => g.elim
  | .branch 0 (.branch _ _ _) _, g, _, _ => g.elim
  | .branch 1 (.leaf none) _, g, _, _ => g.elim
  | .branch 1 (.branch _ _ _) _, g, _, _ => g.elim
  | .branch 1 (.leaf (some (0, _, _, _, _, _))) (.leaf _), g, _, _ => g.elim
  | .branch 1 (.leaf (some (_ + 1, _, _, _, _, _))) (.leaf _), g, _, _ => g.elim
  | .branch 2 (.leaf none) _, g, _, _ => g.elim
  | .branch 2 (.branch _ _ _) _, g, _, _ => g.elim
  | .branch 2 (.leaf (some (_, _, _, _, _, _))) (.leaf _), g, _, _ => g.elim
  | .branch 2 (.leaf (some (_, _, _, _, _, _))) (.branch _ _ (.leaf _)), g, _, _ => g.elim
end
section
variable {B : Nat → Nat → Int32} {J : Nat → Int64 → Prop} {z zk : Nat} {fd : Nat → Int32}
/-- what is worked at a part -/
theorem rA_x {k : Int32} {n d : Nat} : ∀ (t : Tm), sy_x t → rAt B J z t k → n = Int32.toNatClampNeg k → tm_wf zk fd t d → 0 ≤ k.toInt ∧ n < z ∧ pm_pl t = (B 1 n).toInt ∧
    (((B 0 n).toInt = 1 ∧ ∀ (K : List (Nat × Tm)) (V : List Int64) (E : List (Nat → Int64)) (m c : Nat) (ck : Nat → Int32) (cf : Nat → Int64), pm_w t K V E m c ck cf = .ok (K, pv0 (B 2 n) :: V, E, m, c, ck, cf)) ∨
    ((B 0 n).toInt = 2 ∧ 0 ≤ (B 2 n).toInt ∧ tm_ub t (Int32.toNatClampNeg (B 2 n)) = true ∧ ∀ (K : List (Nat × Tm)) (V : List Int64) (E : List (Nat → Int64)) (m c : Nat) (ck : Nat → Int32) (cf : Nat → Int64), pm_w t K V E m c ck cf = .ok (K, E.headD (fun _ => 0) (Int32.toNatClampNeg (B 2 n)) :: V, E, m, c, ck, cf)) ∨
    (((B 0 n).toInt = 3 ∨ (B 0 n).toInt = 4) ∧ ∃ (x t2 : Tm) (a : Nat), tm_li x ∧ tm_sy x false ∧ rI B J x (B 3 n) a n ∧ (rAt B J z t2 k ∧ sy_x t2 ∧ tm_wf zk fd t2 d ∧ ∀ i, tm_dn t2 i = true → tm_ub t i = true) ∧ tm_wf zk fd x d ∧ (∀ i, tm_ub x i = true → tm_ub t i = true) ∧ ∀ (K : List (Nat × Tm)) (V : List Int64) (E : List (Nat → Int64)) (m c : Nat) (ck : Nat → Int32) (cf : Nat → Int64), pm_w t K V E m c ck cf = .ok (pm_as x ++ (1, t2) :: K, V, E, m, c, ck, cf)) ∨
    ((B 0 n).toInt = 5 ∧ ∃ (x y t2 : Tm), (rAt B J z x (B 3 n) ∧ sy_x x ∧ tm_wf zk fd x d ∧ ∀ i, tm_ub x i = true → tm_ub t i = true) ∧ (rAt B J z y (B 4 n) ∧ sy_x y ∧ tm_wf zk fd y d ∧ ∀ i, tm_ub y i = true → tm_ub t i = true) ∧ (rAt B J z t2 k ∧ sy_x t2 ∧ tm_wf zk fd t2 d ∧ ∀ i, tm_dn t2 i = true → tm_ub t i = true) ∧ ∀ (K : List (Nat × Tm)) (V : List Int64) (E : List (Nat → Int64)) (m c : Nat) (ck : Nat → Int32) (cf : Nat → Int64), pm_w t K V E m c ck cf = .ok ((0, x) :: (0, y) :: (1, t2) :: K, V, E, m, c, ck, cf)) ∨
    (((B 0 n).toInt = 6 ∨ (B 0 n).toInt = 7) ∧ ∃ (x t2 : Tm), (rAt B J z x (B 3 n) ∧ sy_x x ∧ tm_wf zk fd x d ∧ ∀ i, tm_ub x i = true → tm_ub t i = true) ∧ (rAt B J z t2 k ∧ sy_x t2 ∧ tm_wf zk fd t2 d ∧ ∀ i, tm_dn t2 i = true → tm_ub t i = true) ∧ ∀ (K : List (Nat × Tm)) (V : List Int64) (E : List (Nat → Int64)) (m c : Nat) (ck : Nat → Int32) (cf : Nat → Int64), pm_w t K V E m c ck cf = .ok ((0, x) :: (1, t2) :: K, V, E, m, c, ck, cf)) ∨
    ((B 0 n).toInt = 8 ∧ 0 ≤ (B 2 n).toInt ∧ tm_ub t (Int32.toNatClampNeg (B 2 n)) = true ∧ ∃ (x t2 : Tm) (a : Nat), tm_li x ∧ tm_sy x true ∧ rI B J x (B 3 n) a n ∧ tm_wf zk fd x d ∧ (∀ i, tm_ub x i = true → tm_ub t i = true) ∧ (∀ (K : List (Nat × Tm)) (V : List Int64) (E : List (Nat → Int64)) (m c : Nat) (ck : Nat → Int32) (cf : Nat → Int64), pm_w t K V E m c ck cf = .ok ((1, t2) :: K, V, E, m, c, ck, cf)) ∧ ∀ (F : sp_F) (K : List (Nat × Tm)) (V : List Int64) (E : List (Nat → Int64)) (m c : Nat) (ck : Nat → Int32) (cf : Nat → Int64), pm_d F t2 K V E m c ck cf = pm_mt (B 1 n).toInt (Int32.toNatClampNeg (B 2 n)) x K V E m c ck cf))
  | .leaf (some (0, p, v, _, _, _)), _, ⟨a, b, h1, h2, h3, ⟨g1, g2, g3, g4⟩, h5⟩, e, _ => by
    have hn : n = a := by have := zn_nat (x := k) (by omega); omega
    subst hn
    exact ⟨by omega, by omega, g3.symm, Or.inl ⟨g2, fun _ _ _ _ _ _ _ => by rw [← pi_of g4]; rfl⟩⟩
  | .leaf (some (_ + 1, p, _, s, _, _)), _, ⟨a, b, h1, h2, h3, ⟨g1, g2, g3, g4⟩, h5⟩, e, _ => by
    have hn : n = a := by have := zn_nat (x := k) (by omega); omega
    subst hn
    have es : Int32.toNatClampNeg (B 2 n) = s := by have := zn_nat (x := B 2 n) (by omega); omega
    exact ⟨by omega, by omega, g3.symm, Or.inr (Or.inl ⟨g2, by omega, by rw [es]; exact beq_self_eq_true s, fun _ _ _ _ _ _ _ => by rw [es]; rfl⟩)⟩
  | .branch 0 (.leaf (some (0, p, _, _, _, w))) x, hs, ⟨a, b, h1, h2, h3, ⟨m, g1, g2, g3, g4, g5, g6⟩, h5⟩, e, hw => by
    have hn : n = m := by have := zn_nat (x := k) (by omega); omega
    subst hn
    exact ⟨by omega, by omega, g4.symm, Or.inr (Or.inr (Or.inl ⟨Or.inl g3, x, Tm.call p w x, a, hs.2.1, hs.2.2, g1, ⟨⟨a, b, h1, h2, h3, ⟨n, g1, g2, g3, g4, g5, g6⟩, fun g => g⟩, ⟨rfl, hs.2⟩, hw, fun _ g => nomatch (show false = true from g)⟩, hw, fun _ g => g, fun _ _ _ _ _ _ _ => rfl⟩))⟩
  | .branch 0 (.leaf (some (1, p, _, c, _, _))) x, hs, ⟨a, b, h1, h2, h3, ⟨m, g1, g2, g3, g4, g5, g6⟩, h5⟩, e, hw => by
    have hn : n = m := by have := zn_nat (x := k) (by omega); omega
    subst hn
    exact ⟨by omega, by omega, g4.symm, Or.inr (Or.inr (Or.inl ⟨Or.inr g3, x, Tm.made p c x, a, hs.2.1, hs.2.2, g1, ⟨⟨a, b, h1, h2, h3, ⟨n, g1, g2, g3, g4, g5, g6⟩, fun g => g⟩, ⟨rfl, hs.2⟩, hw, fun _ g => nomatch (show false = true from g)⟩, hw.2, fun _ g => g, fun _ _ _ _ _ _ _ => rfl⟩))⟩
  | .branch 1 (.leaf (some (0, p, o, _, _, _))) (.branch _ x y), hs, ⟨a, b, h1, h2, h3, ⟨m, q, g1, g2, g3, g4, g5, g6, g7, g8⟩, h5⟩, e, hw => by
    have hn : n = q := by have := zn_nat (x := k) (by omega); omega
    subst hn
    have l1 := rI_1s hs.2.1.1 g1
    have l2 := rI_1s hs.2.2.1 g2
    refine ⟨by omega, by omega, g5.symm, Or.inr (Or.inr (Or.inr (Or.inl ⟨g4, x, y, Tm.bin p o x y, ⟨⟨a, m, g7, by omega, by omega, g1, l1.2⟩, hs.2.1, hw.1, fun i g => ?_⟩, ⟨⟨m, n, g8, by omega, by omega, g2, l2.2⟩, hs.2.2, hw.2, fun i g => ?_⟩, ⟨⟨a, b, h1, h2, h3, ⟨m, n, g1, g2, g3, g4, g5, g6, g7, g8⟩, fun g => g⟩, ⟨rfl, hs.2⟩, hw, fun _ g => nomatch (show false = true from g)⟩, fun _ _ _ _ _ _ _ => rfl⟩)))⟩
    · show (tm_ub x i || tm_ub y i) = true
      rw [g]; rfl
    · show (tm_ub x i || tm_ub y i) = true
      rw [g, Bool.or_true]
  | .branch 1 (.leaf (some (_ + 1, p, _, s, _, _))) (.branch _ x y), hs, ⟨a, b, h1, h2, h3, ⟨m, q, g1, g2, g3, g4, g5, g6, g7, g8⟩, h5⟩, e, hw => by
    have hn : n = q := by have := zn_nat (x := k) (by omega); omega
    subst hn
    have l1 := rI_1s hs.2.1.1 g1
    have l2 := rI_1s hs.2.2.1 g2
    refine ⟨by omega, by omega, g5.symm, Or.inr (Or.inr (Or.inr (Or.inr (Or.inl ⟨Or.inl g4, x, Tm.tlet p s x y, ⟨⟨a, m, g7, by omega, by omega, g1, l1.2⟩, hs.2.1, hw.2.1, fun i g => ?_⟩, ⟨⟨a, b, h1, h2, h3, ⟨m, n, g1, g2, g3, g4, g5, g6, g7, g8⟩, fun g => g⟩, ⟨rfl, hs.2⟩, hw, fun i g => ?_⟩, fun _ _ _ _ _ _ _ => rfl⟩))))⟩
    · show (tm_ub x i || (tm_ub y i && !(i == s))) = true
      rw [g]; rfl
    · show (tm_ub x i || (tm_ub y i && !(i == s))) = true
      rw [show (tm_ub y i && !(i == s)) = true from g, Bool.or_true]
  | .branch 2 (.leaf (some (_, p, _, _, _, _))) (.branch _ x (.branch _ y w)), hs, ⟨a, b, h1, h2, h3, ⟨m, o, q, g1, g2, g9, g3, g4, g5, g6, g7, g8⟩, h5⟩, e, hw => by
    have hn : n = q := by have := zn_nat (x := k) (by omega); omega
    subst hn
    have l1 := rI_1s hs.2.1.1 g1
    have l2 := rI_1s hs.2.2.1.1 g2
    have l3 := rI_1s hs.2.2.2.1 g9
    refine ⟨by omega, by omega, g5.symm, Or.inr (Or.inr (Or.inr (Or.inr (Or.inl ⟨Or.inr g4, x, Tm.ite p x y w, ⟨⟨a, m, g6, by omega, by omega, g1, l1.2⟩, hs.2.1, hw.1, fun i g => ?_⟩, ⟨⟨a, b, h1, h2, h3, ⟨m, o, n, g1, g2, g9, g3, g4, g5, g6, g7, g8⟩, fun g => g⟩, ⟨rfl, hs.2⟩, hw, fun i g => ?_⟩, fun _ _ _ _ _ _ _ => rfl⟩))))⟩
    · show (tm_ub x i || tm_ub y i || tm_ub w i) = true
      rw [g]; rfl
    · show (tm_ub x i || tm_ub y i || tm_ub w i) = true
      rw [Bool.or_assoc, show (tm_ub y i || tm_ub w i) = true from g, Bool.or_true]
  | .branch 0 (.leaf (some (2, p, _, s, _, _))) x, hs, ⟨a, b, h1, h2, h3, ⟨m, g1, g2, g3, g4, g5⟩, h5⟩, e, hw => by
    have hn : n = m := by have := zn_nat (x := k) (by omega); omega
    subst hn
    have es : Int32.toNatClampNeg (B 2 n) = s := by have := zn_nat (x := B 2 n) (by omega); omega
    refine ⟨by omega, by omega, g4.symm, Or.inr (Or.inr (Or.inr (Or.inr (Or.inr ⟨g3, by omega, ?_, x, Tm.mat p s x, a, hs.2.1, hs.2.2, g1, hw.2, fun i g => ?_, fun _ _ _ _ _ _ _ => rfl, fun _ _ _ _ _ _ _ _ => by rw [es, g4]; rfl⟩))))⟩
    · show ((Int32.toNatClampNeg (B 2 n) == s) || tm_ub x (Int32.toNatClampNeg (B 2 n))) = true
      rw [es, beq_self_eq_true]; rfl
    · show ((i == s) || tm_ub x i) = true
      rw [g, Bool.or_true]
  | .leaf none, hs, _, _, _ => absurd hs.1 (by decide)
  | .branch (_ + 3) _ _, hs, _, _, _ => absurd hs.1 (fun g => nomatch (show (0 : Nat) = 1 from g))
  | .branch 0 (.leaf (some (_ + 3, _, _, _, _, _))) _, hs, _, _, _ => absurd hs.1 (fun g => nomatch (show (2 : Nat) = 1 from g))
  | .branch 0 (.leaf none) _, hs, _, _, _ => absurd hs.1 (fun g => nomatch (show (0 : Nat) = 1 from g))
  | .branch 0 (.branch _ _ _) _, hs, _, _, _ => absurd hs.1 (fun g => nomatch (show (0 : Nat) = 1 from g))
  | .branch 1 (.leaf none) _, hs, _, _, _ => absurd hs.1 (fun g => nomatch (show (0 : Nat) = 1 from g))
  | .branch 1 (.branch _ _ _) _, hs, _, _, _ => absurd hs.1 (fun g => nomatch (show (0 : Nat) = 1 from g))
  | .branch 1 (.leaf (some (0, _, _, _, _, _))) (.leaf _), hs, _, _, _ => absurd hs.1 (fun g => nomatch (show (0 : Nat) = 1 from g))
  | .branch 1 (.leaf (some (_ + 1, _, _, _, _, _))) (.leaf _), hs, _, _, _ => absurd hs.1 (fun g => nomatch (show (0 : Nat) = 1 from g))
  | .branch 2 (.leaf none) _, hs, _, _, _ => absurd hs.1 (fun g => nomatch (show (0 : Nat) = 1 from g))
  | .branch 2 (.branch _ _ _) _, hs, _, _, _ => absurd hs.1 (fun g => nomatch (show (0 : Nat) = 1 from g))
  | .branch 2 (.leaf (some (_, _, _, _, _, _))) (.leaf _), hs, _, _, _ => absurd hs.1 (fun g => nomatch (show (0 : Nat) = 1 from g))
  | .branch 2 (.leaf (some (_, _, _, _, _, _))) (.branch _ _ (.leaf _)), hs, _, _, _ => absurd hs.1 (fun g => nomatch (show (0 : Nat) = 1 from g))
/-- what is done at a part -/
theorem rA_d {k : Int32} {n d : Nat} : ∀ (t : Tm), sy_x t → rAt B J z t k → n = Int32.toNatClampNeg k → tm_wf zk fd t d → 0 ≤ k.toInt ∧ n < z ∧
    (((B 0 n).toInt = 1 ∨ (B 0 n).toInt = 2 ∨ (B 0 n).toInt = 8) ∨
    ((B 0 n).toInt = 3 ∧ ∃ wd, J n wd ∧ pm_cl t wd (B 1 n).toInt) ∨
    ((B 0 n).toInt = 4 ∧ ∃ (m q : Nat), (B 2 n).toInt = (q : Int) ∧ (B 7 n).toInt = (m : Int) ∧ q < zk ∧ (fd q).toInt = (m : Int) ∧ ∀ (F : sp_F) (K : List (Nat × Tm)) (V : List Int64) (E : List (Nat → Int64)) (u c : Nat) (ck : Nat → Int32) (cf : Nat → Int64), pm_d F t K V E u c ck cf = if m = 0 then .ok (K, pv1 (B 2 n) :: V, E, u, c, ck, cf) else if 4000 ≤ c then .error (3, (B 1 n).toInt) else .ok (K, pv2 (Int32.ofInt (c : Int)) :: V.drop m, E, u, c + 1, upd ck c (B 2 n), pm_cf cf V c m)) ∨
    ((B 0 n).toInt = 5 ∧ ∀ (F : sp_F) (K : List (Nat × Tm)) (V : List Int64) (E : List (Nat → Int64)) (u c : Nat) (ck : Nat → Int32) (cf : Nat → Int64), pm_d F t K V E u c ck cf = if zhs (V.getD 1 0) = 0 ∧ zhs (V.getD 0 0) = 0 then .ok (K, pv0 (pm_op (B 2 n).toInt (V.getD 1 0).toInt32 (V.getD 0 0).toInt32) :: V.drop 2, E, u, c, ck, cf) else .error (2, (B 1 n).toInt)) ∨
    ((B 0 n).toInt = 6 ∧ (B 2 n).toInt = (d : Int) ∧ d < 24 ∧ ∃ y : Tm, rAt B J z y (B 4 n) ∧ sy_x y ∧ tm_wf zk fd y (d + 1) ∧ (∀ i, tm_ub y i = true → i ≠ d → tm_dn t i = true) ∧ ∀ (F : sp_F) (K : List (Nat × Tm)) (V : List Int64) (E : List (Nat → Int64)) (u c : Nat) (ck : Nat → Int32) (cf : Nat → Int64), pm_d F t K V E u c ck cf = .ok ((0, y) :: K, V.drop 1, vp_updL (E.headD (fun _ => 0)) d (V.getD 0 0) :: E.tail, u, c, ck, cf)) ∨
    ((B 0 n).toInt = 7 ∧ ∃ y w : Tm, (rAt B J z y (B 4 n) ∧ sy_x y ∧ tm_wf zk fd y d ∧ ∀ i, tm_ub y i = true → tm_dn t i = true) ∧ (rAt B J z w (B 5 n) ∧ sy_x w ∧ tm_wf zk fd w d ∧ ∀ i, tm_ub w i = true → tm_dn t i = true) ∧ ∀ (F : sp_F) (K : List (Nat × Tm)) (V : List Int64) (E : List (Nat → Int64)) (u c : Nat) (ck : Nat → Int32) (cf : Nat → Int64), pm_d F t K V E u c ck cf = if zhs (V.getD 0 0) = 0 then .ok ((0, if (V.getD 0 0).toInt32 = 0 then w else y) :: K, V.drop 1, E, u, c, ck, cf) else .error (2, (B 1 n).toInt)))
  | .leaf (some (0, p, v, _, _, _)), _, ⟨a, b, h1, h2, h3, ⟨g1, g2, g3, g4⟩, h5⟩, e, _ => by
    have hn : n = a := by have := zn_nat (x := k) (by omega); omega
    subst hn
    exact ⟨by omega, by omega, Or.inl (Or.inl g2)⟩
  | .leaf (some (_ + 1, p, _, s, _, _)), _, ⟨a, b, h1, h2, h3, ⟨g1, g2, g3, g4⟩, h5⟩, e, _ => by
    have hn : n = a := by have := zn_nat (x := k) (by omega); omega
    subst hn
    exact ⟨by omega, by omega, Or.inl (Or.inr (Or.inl g2))⟩
  | .branch 0 (.leaf (some (0, p, _, _, _, w))) x, hs, ⟨a, b, h1, h2, h3, ⟨m, g1, g2, g3, g4, g5, g6⟩, h5⟩, e, hw => by
    have hn : n = m := by have := zn_nat (x := k) (by omega); omega
    subst hn
    exact ⟨by omega, by omega, Or.inr (Or.inl ⟨g3, w, g5, fun _ _ _ _ _ _ _ _ => by rw [g4]; rfl⟩)⟩
  | .branch 0 (.leaf (some (1, p, _, c, _, _))) x, hs, ⟨a, b, h1, h2, h3, ⟨m, g1, g2, g3, g4, g5, g6⟩, h5⟩, e, hw => by
    have hn : n = m := by have := zn_nat (x := k) (by omega); omega
    subst hn
    exact ⟨by omega, by omega, Or.inr (Or.inr (Or.inl ⟨g3, tm_ln x, c, g5, g6, hw.1.1, hw.1.2, fun _ _ _ _ _ _ _ _ => by rw [← pi_of g5, g4]; rfl⟩))⟩
  | .branch 1 (.leaf (some (0, p, o, _, _, _))) (.branch _ x y), hs, ⟨a, b, h1, h2, h3, ⟨m, q, g1, g2, g3, g4, g5, g6, g7, g8⟩, h5⟩, e, hw => by
    have hn : n = q := by have := zn_nat (x := k) (by omega); omega
    subst hn
    exact ⟨by omega, by omega, Or.inr (Or.inr (Or.inr (Or.inl ⟨g4, fun _ _ _ _ _ _ _ _ => by rw [g6, g5]; rfl⟩)))⟩
  | .branch 1 (.leaf (some (_ + 1, p, _, s, _, _))) (.branch _ x y), hs, ⟨a, b, h1, h2, h3, ⟨m, q, g1, g2, g3, g4, g5, g6, g7, g8⟩, h5⟩, e, hw => by
    have hn : n = q := by have := zn_nat (x := k) (by omega); omega
    subst hn
    have l2 := rI_1s hs.2.2.1 g2
    obtain ⟨⟨rfl, w1⟩, w2, w3⟩ := hw
    refine ⟨by omega, by omega, Or.inr (Or.inr (Or.inr (Or.inr (Or.inl ⟨g4, g6, w1, y, ⟨m, n, g8, by omega, by omega, g2, l2.2⟩, hs.2.2, w3, fun i g gn => ?_, fun _ _ _ _ _ _ _ _ => rfl⟩))))⟩
    show (tm_ub y i && !(i == s)) = true
    rw [g, beq_false_of_ne gn]; rfl
  | .branch 2 (.leaf (some (_, p, _, _, _, _))) (.branch _ x (.branch _ y w)), hs, ⟨a, b, h1, h2, h3, ⟨m, o, q, g1, g2, g9, g3, g4, g5, g6, g7, g8⟩, h5⟩, e, hw => by
    have hn : n = q := by have := zn_nat (x := k) (by omega); omega
    subst hn
    have l2 := rI_1s hs.2.2.1.1 g2
    have l3 := rI_1s hs.2.2.2.1 g9
    refine ⟨by omega, by omega, Or.inr (Or.inr (Or.inr (Or.inr (Or.inr ⟨g4, y, w, ⟨⟨m, o, g7, by omega, by omega, g2, l2.2⟩, hs.2.2.1, hw.2.1, fun i g => ?_⟩, ⟨⟨o, n, g8, by omega, by omega, g9, l3.2⟩, hs.2.2.2, hw.2.2, fun i g => ?_⟩, fun _ _ _ _ _ _ _ _ => by rw [g5]; rfl⟩))))⟩
    · show (tm_ub y i || tm_ub w i) = true
      rw [g]; rfl
    · show (tm_ub y i || tm_ub w i) = true
      rw [g, Bool.or_true]
  | .branch 0 (.leaf (some (2, p, _, s, _, _))) x, hs, ⟨a, b, h1, h2, h3, ⟨m, g1, g2, g3, g4, g5⟩, h5⟩, e, hw => by
    have hn : n = m := by have := zn_nat (x := k) (by omega); omega
    subst hn
    exact ⟨by omega, by omega, Or.inl (Or.inr (Or.inr g3))⟩
  | .leaf none, hs, _, _, _ => absurd hs.1 (by decide)
  | .branch (_ + 3) _ _, hs, _, _, _ => absurd hs.1 (fun g => nomatch (show (0 : Nat) = 1 from g))
  | .branch 0 (.leaf (some (_ + 3, _, _, _, _, _))) _, hs, _, _, _ => absurd hs.1 (fun g => nomatch (show (2 : Nat) = 1 from g))
  | .branch 0 (.leaf none) _, hs, _, _, _ => absurd hs.1 (fun g => nomatch (show (0 : Nat) = 1 from g))
  | .branch 0 (.branch _ _ _) _, hs, _, _, _ => absurd hs.1 (fun g => nomatch (show (0 : Nat) = 1 from g))
  | .branch 1 (.leaf none) _, hs, _, _, _ => absurd hs.1 (fun g => nomatch (show (0 : Nat) = 1 from g))
  | .branch 1 (.branch _ _ _) _, hs, _, _, _ => absurd hs.1 (fun g => nomatch (show (0 : Nat) = 1 from g))
  | .branch 1 (.leaf (some (0, _, _, _, _, _))) (.leaf _), hs, _, _, _ => absurd hs.1 (fun g => nomatch (show (0 : Nat) = 1 from g))
  | .branch 1 (.leaf (some (_ + 1, _, _, _, _, _))) (.leaf _), hs, _, _, _ => absurd hs.1 (fun g => nomatch (show (0 : Nat) = 1 from g))
  | .branch 2 (.leaf none) _, hs, _, _, _ => absurd hs.1 (fun g => nomatch (show (0 : Nat) = 1 from g))
  | .branch 2 (.branch _ _ _) _, hs, _, _, _ => absurd hs.1 (fun g => nomatch (show (0 : Nat) = 1 from g))
  | .branch 2 (.leaf (some (_, _, _, _, _, _))) (.leaf _), hs, _, _, _ => absurd hs.1 (fun g => nomatch (show (0 : Nat) = 1 from g))
  | .branch 2 (.leaf (some (_, _, _, _, _, _))) (.branch _ _ (.leaf _)), hs, _, _, _ => absurd hs.1 (fun g => nomatch (show (0 : Nat) = 1 from g))
end

end
section
/-! one task of the reference, one or two steps of the plain machine -/
def zfa (ow : Nat → Int32) (kd : Int) : List Nat → Option Nat
  | [] => none
  | a :: R => if (ow a).toInt = -1 ∨ (ow a).toInt = kd then some a else zfa ow kd R
/-- the fields that are bound -/
def zMs (sl sl2 : Nat → Int64) (b m : Nat) (u : Int32) (h : Nat) (cf : Nat → Int64) (q : Nat) : Prop := (∀ j, (∀ i, i < m → j ≠ b + i) → sl2 j = sl j) ∧ ∀ i, i < m → zbit u (h + i) = true → sl2 (b + i) = cf (q + i)
/-- a match, plainly -/
def rMx (be ow on tw ma us : Nat → Int32) (fst : Int32) (kd : Int) (v : Int64) (cf : Nat → Int64) (o' : Nat) (sl sl2 : Nat → Int64) (w w2 p p2 : Nat → Int32) (t t2 : Nat) : Prop := ∃ r : Nat, (∀ R, zli be fst R → zfa ow kd R = some r) ∧ t2 = t + 1 ∧ (∃ x : Int32, x.toInt = 0 ∧ zTa w w2 t x) ∧ zTa p p2 t (on r) ∧ ((zhs v = 2 ∧ (ow r).toInt ≠ -1) → zMs sl sl2 (24 * o' + Int32.toNatClampNeg (tw r)) (Int32.toNatClampNeg (ma r)) (us (Int32.toNatClampNeg (on r))) (Int32.toNatClampNeg (tw r)) cf (3 * Int32.toNatClampNeg v.toInt32)) ∧ (¬ (zhs v = 2 ∧ (ow r).toInt ≠ -1) → sl2 = sl)
/-- what the run knows of the program's trees -/
def rQ (B : Nat → Nat → Int32) (J : Nat → Int64 → Prop) (z zk : Nat) (fd us bo to : Nat → Int32) (F : sp_F) : Prop :=
  (∀ (t : Tm) (k : Int32), sy_x t → rAt B J z t k → ∀ j, j < 32 → zbit (us (Int32.toNatClampNeg k)) j = tm_ub t j) ∧
  (∀ f, f < F.1 → rAt B J z (F.2.2.2 f) (bo f) ∧ sy_x (F.2.2.2 f) ∧ ∃ c : Nat, F.2.2.1 f = (c : Int) ∧ c ≤ 24 ∧ (to f).toInt = (c : Int) ∧ tm_wf zk fd (F.2.2.2 f) c) ∧
  (∀ k w, k < z → (B 0 k).toInt = 3 → J k w → (B 2 k).toInt = (sp_fi F.2.1 w F.1 : Int) ∧ sp_fi F.2.1 w F.1 < F.1)
/-- the reference's state is the plain machine's -/
def rS (B : Nat → Nat → Int32) (J : Nat → Int64 → Prop) (z zk : Nat) (fd : Nat → Int32) (F : sp_F) (al : Nat) (s0 : pm_S) (tw tp : Nat → Int32) (ts : Nat) (va : Nat → Int64) (vd : Nat) (sl : Nat → Int64) (o n np : Nat) (ck : Nat → Int32) (cf : Nat → Int64) : Prop :=
  ∃ (K : List (Nat × Tm)) (V : List Int64) (E : List (Nat → Int64)) (ck' : Nat → Int32) (cf' : Nat → Int64), pm_re F al s0 (K, V, E, n, np, ck', cf') ∧ rTk B J z tw tp K ts ∧ rVa vd va V ∧ (∃ c, c ≤ 24 ∧ rN zk fd sl K E o c) ∧ rCe fd ck cf np ck' cf'
/-- .. with one task taken -/
def rH (B : Nat → Nat → Int32) (J : Nat → Int64 → Prop) (z zk : Nat) (fd : Nat → Int32) (F : sp_F) (al : Nat) (s0 : pm_S) (tw tp : Nat → Int32) (ts : Nat) (va : Nat → Int64) (vd : Nat) (sl : Nat → Int64) (o n np : Nat) (ck : Nat → Int32) (cf : Nat → Int64) (j : Nat) (k : Int32) : Prop :=
  ∃ (t : Tm) (K : List (Nat × Tm)) (V : List Int64) (e : Nat → Int64) (E' : List (Nat → Int64)) (ck' : Nat → Int32) (cf' : Nat → Int64) (o' d : Nat), pm_re F al s0 ((j, t) :: K, V, e :: E', n, np, ck', cf') ∧ (rAt B J z t k ∧ sy_x t) ∧ rTk B J z tw tp K ts ∧ rVa vd va V ∧ (o = o' + 1 ∧ d ≤ 24 ∧ tm_wf zk fd t d ∧ (∀ i, pm_nd j t i = true → sl (24 * o' + i) = e i) ∧ rN zk fd sl K (e :: E') (o' + 1) d) ∧ rCe fd ck cf np ck' cf'
section
variable {B : Nat → Nat → Int32} {J : Nat → Int64 → Prop} {z zk : Nat} {fd us bo to : Nat → Int32} {F : sp_F} {al : Nat} {s0 : pm_S} {tw tp w1 p1 w2 p2 w3 p3 : Nat → Int32} {ts vd o n np : Nat} {va va2 : Nat → Int64} {sl sl2 : Nat → Int64} {ck ck2 : Nat → Int32} {cf cf2 : Nat → Int64} {k : Int32}
theorem rS_pop {m : Nat} (h : rS B J z zk fd F al s0 tw tp (m + 1) va vd sl o n np ck cf) : ((tw m).toInt = 0 ∧ rH B J z zk fd F al s0 tw tp m va vd sl o n np ck cf 0 (tp m)) ∨ ((tw m).toInt = 1 ∧ rH B J z zk fd F al s0 tw tp m va vd sl o n np ck cf 1 (tp m)) ∨ ((tw m).toInt = 3 ∧ ∃ o', o = o' + 1 ∧ rS B J z zk fd F al s0 tw tp m va vd sl o' n np ck cf) := by
  obtain ⟨K, V, E, ck', cf', h1, h2, h3, ⟨c, h4, h5⟩, h6⟩ := h
  match K, h1, h2, h5 with
  | [], _, h2, _ => exact absurd h2 (Nat.succ_ne_zero _)
  | (j, t) :: K, h1, h2, h5 =>
    obtain ⟨m', e, r, g⟩ := h2
    obtain rfl : m' = m := by omega
    rcases g with ⟨rfl, g1, g2, g3⟩ | ⟨rfl, g1, g2, g3⟩ | ⟨rfl, g1⟩
    · obtain ⟨e, E', o', d, rfl, rfl, b1, b2, b3, b4⟩ := rN_t h5 (by decide)
      exact Or.inl ⟨g1, t, K, V, e, E', ck', cf', o', d, h1, ⟨g2, g3⟩, r, h3, ⟨rfl, by omega, b2, b3, b4⟩, h6⟩
    · obtain ⟨e, E', o', d, rfl, rfl, b1, b2, b3, b4⟩ := rN_t h5 (by decide)
      exact Or.inr (Or.inl ⟨g1, t, K, V, e, E', ck', cf', o', d, h1, ⟨g2, g3⟩, r, h3, ⟨rfl, by omega, b2, b3, b4⟩, h6⟩)
    · obtain ⟨e, E', o', q1, q2, q3⟩ := h5
      obtain ⟨-, d, q4, q5⟩ := q3.resolve_right (fun g => g.1 rfl)
      subst q1
      exact Or.inr (Or.inr ⟨g1, o', q2, K, V, E', ck', cf', pm_re_s h1 pm_st_l, r, h3, ⟨d, q4, q5⟩, h6⟩)
theorem rS_end (h : rS B J z zk fd F al s0 tw tp 0 va vd sl o n np ck cf) : pm_ou F al s0 (1, -1) := by
  obtain ⟨K, V, E, ck', cf', h1, h2, h3, -, h6⟩ := h
  match K, h1, h2 with
  | [], h1, _ => exact pm_ou_s h1 rfl
  | (j, t) :: K, h1, h2 => obtain ⟨m', e, -⟩ := h2; exact absurd e (by omega)
theorem rTk_a {K : List (Nat × Tm)} {j : Nat} {t : Tm} {x y : Int32} (h : rTk B J z tw tp K ts) (a : zTa tw w2 ts x) (b : zTa tp p2 ts y) (hj : j = 0 ∧ x.toInt = 0 ∧ rAt B J z t y ∧ sy_x t ∨ j = 1 ∧ x.toInt = 1 ∧ rAt B J z t y ∧ sy_x t ∨ j = 2 ∧ x.toInt = 3) : rTk B J z w2 p2 ((j, t) :: K) (ts + 1) :=
  ⟨ts, rfl, rTk_cg (fun i hi => ⟨a.2 i hi, b.2 i hi⟩) h, by rw [a.1, b.1]; exact hj⟩
theorem rw_cut (h : rH B J z zk fd F al s0 tw tp ts va vd sl o n np ck cf 0 k) (e : n = al) : pm_ou F al s0 (5, (B 1 (Int32.toNatClampNeg k)).toInt) := by
  obtain ⟨t, K, V, e', E', ck', cf', o', d, h1, ⟨h2, h3⟩, h4, h5, ⟨h6, h7, h8, h9, h10⟩, h11⟩ := h
  obtain ⟨k0, kz, kp, -⟩ := rA_x t h3 h2 rfl h8
  subst e
  rw [← kp]
  exact pm_ou_s h1 pm_st_c
theorem rw_1 (h : rH B J z zk fd F al s0 tw tp ts va vd sl o n np ck cf 0 k) (hn : n ≠ al) (hw : (B 0 (Int32.toNatClampNeg k)).toInt = 1) (hp : zTl va va2 vd (pv0 (B 2 (Int32.toNatClampNeg k)))) : rS B J z zk fd F al s0 tw tp ts va2 (vd + 1) sl o (n + 1) np ck cf := by
  obtain ⟨t, K, V, e', E', ck', cf', o', d, h1, ⟨h2, h3⟩, h4, h5, ⟨h6, h7, h8, h9, h10⟩, h11⟩ := h
  obtain ⟨k0, kz, kp, kc⟩ := rA_x t h3 h2 rfl h8
  rcases kc with q | q | q | q | q | q
  · refine ⟨K, _, _, _, _, pm_re_s h1 ((pm_st_w hn).trans (q.2 _ _ _ _ _ _ _)), h4, rVa_pu h5 hp.2 hp.1, ⟨d, h7, by rw [h6]; exact h10⟩, h11⟩
  · exact absurd q.1 (by omega)
  · exact absurd q.1 (by omega)
  · exact absurd q.1 (by omega)
  · exact absurd q.1 (by omega)
  · exact absurd q.1 (by omega)
theorem rw_2 (h : rH B J z zk fd F al s0 tw tp ts va vd sl o n np ck cf 0 k) (hn : n ≠ al) (hw : (B 0 (Int32.toNatClampNeg k)).toInt = 2) (hp : zTl va va2 vd (sl (24 * (o - 1) + Int32.toNatClampNeg (B 2 (Int32.toNatClampNeg k))))) : rS B J z zk fd F al s0 tw tp ts va2 (vd + 1) sl o (n + 1) np ck cf := by
  obtain ⟨t, K, V, e', E', ck', cf', o', d, h1, ⟨h2, h3⟩, h4, h5, ⟨h6, h7, h8, h9, h10⟩, h11⟩ := h
  obtain ⟨k0, kz, kp, kc⟩ := rA_x t h3 h2 rfl h8
  rcases kc with q | q | q | q | q | q
  · exact absurd q.1 (by omega)
  · refine ⟨K, _, _, _, _, pm_re_s h1 ((pm_st_w hn).trans (q.2.2.2 _ _ _ _ _ _ _)), h4, rVa_pu h5 hp.2 ?_, ⟨d, h7, by rw [h6]; exact h10⟩, h11⟩
    rw [hp.1, h6, Nat.add_sub_cancel]
    exact h9 _ q.2.2.1
  · exact absurd q.1 (by omega)
  · exact absurd q.1 (by omega)
  · exact absurd q.1 (by omega)
  · exact absurd q.1 (by omega)
theorem rTk_as {K : List (Nat × Tm)} {t : Nat} (hK : rTk B J z tw tp K t) : ∀ (x : Tm) {R : List Nat} {fr : Int32} {a b : Nat}, tm_li x → tm_sy x false → rI B J x fr a b → b ≤ z → zli (B 6) fr R → (∀ i, i < R.length → (tw (t + i)).toInt = 0 ∧ (tp (t + i)).toInt = ((R.getD (R.length - 1 - i) 0 : Nat) : Int)) → rTk B J z tw tp (pm_as x ++ K) (t + R.length)
  | .leaf none, [], _, _, _, _, _, _, _, _, _ => hK
  | .leaf none, r :: R, fr, a, b, _, _, h, _, g, _ => absurd g.1 (by have := h.2; omega)
  | .branch (_ + 3) x y, [], fr, a, b, _, _, ⟨m, h1, h2, h3, h4⟩, _, g, _ => absurd (show fr.toInt = -1 from g) (by omega)
  | .branch (_ + 3) x y, r :: R, fr, a, b, hl, hs, ⟨m, h1, h2, h3, h4⟩, hb, g, hg => by
    have er : r = m - 1 := by have := g.1; omega
    have l := rI_le y h4
    have ih := rTk_as hK y (R := R) hl hs.2 h4 hb (by rw [← er]; exact g.2) (fun i hi => by
      have u := hg i (by rw [List.length_cons]; omega)
      rw [List.length_cons, show R.length + 1 - 1 - i = (R.length - 1 - i) + 1 from by omega] at u
      exact u)
    have u := hg R.length (by rw [List.length_cons]; omega)
    rw [List.length_cons, show R.length + 1 - 1 - R.length = 0 from by omega] at u
    have u2 : (tp (t + R.length)).toInt = ((r : Nat) : Int) := u.2
    exact ⟨t + R.length, rfl, ih, Or.inl ⟨rfl, u.1, ⟨a, m, by omega, by omega, by omega, h1, h2.2⟩, hs.1⟩⟩
  | .leaf (some (0, _, _, _, _, _)), _, _, _, _, g, _, _, _, _, _ => g.elim
  | .leaf (some (_ + 1, _, _, _, _, _)), _, _, _, _, g, _, _, _, _, _ => g.elim
  | .branch 0 (.leaf (some (0, _, _, _, _, _))) _, _, _, _, _, g, _, _, _, _, _ => g.elim
  | .branch 0 (.leaf (some (1, _, _, _, _, _))) _, _, _, _, _, g, _, _, _, _, _ => g.elim
  | .branch 1 (.leaf (some (0, _, _, _, _, _))) (.branch _ _ _), _, _, _, _, g, _, _, _, _, _ => g.elim
  | .branch 1 (.leaf (some (_ + 1, _, _, _, _, _))) (.branch _ _ _), _, _, _, _, g, _, _, _, _, _ => g.elim
  | .branch 2 (.leaf (some (_, _, _, _, _, _))) (.branch _ _ (.branch _ _ _)), _, _, _, _, g, _, _, _, _, _ => g.elim
  | .branch 0 (.leaf (some (2, _, _, _, _, _))) _, _, _, _, _, g, _, _, _, _, _ => g.elim
  | .branch 0 (.leaf (some (_ + 3, _, _, _, _, _))) _, _, _, _, _, g, _, _, _, _, _ => g.elim
  | .branch 0 (.leaf none) _, _, _, _, _, g, _, _, _, _, _ => g.elim
  | .branch 0 (.branch _ _ _) _, _, _, _, _, g, _, _, _, _, _ => g.elim
  | .branch 1 (.leaf none) _, _, _, _, _, g, _, _, _, _, _ => g.elim
  | .branch 1 (.branch _ _ _) _, _, _, _, _, g, _, _, _, _, _ => g.elim
  | .branch 1 (.leaf (some (0, _, _, _, _, _))) (.leaf _), _, _, _, _, g, _, _, _, _, _ => g.elim
  | .branch 1 (.leaf (some (_ + 1, _, _, _, _, _))) (.leaf _), _, _, _, _, g, _, _, _, _, _ => g.elim
  | .branch 2 (.leaf none) _, _, _, _, _, g, _, _, _, _, _ => g.elim
  | .branch 2 (.branch _ _ _) _, _, _, _, _, g, _, _, _, _, _ => g.elim
  | .branch 2 (.leaf (some (_, _, _, _, _, _))) (.leaf _), _, _, _, _, g, _, _, _, _, _ => g.elim
  | .branch 2 (.leaf (some (_, _, _, _, _, _))) (.branch _ _ (.leaf _)), _, _, _, _, g, _, _, _, _, _ => g.elim
theorem rw_34 {R : List Nat} {x : Int32} (h : rH B J z zk fd F al s0 tw tp ts va vd sl o n np ck cf 0 k) (hn : n ≠ al) (hw : (B 0 (Int32.toNatClampNeg k)).toInt = 3 ∨ (B 0 (Int32.toNatClampNeg k)).toInt = 4) (hx : x.toInt = 1) (a1 : zTa tw w1 ts x) (b1 : zTa tp p1 ts k) (hR : zli (B 6) (B 3 (Int32.toNatClampNeg k)) R) (hpu : (∀ i, i < ts + 1 → w2 i = w1 i ∧ p2 i = p1 i) ∧ ∀ i, i < R.length → (w2 (ts + 1 + i)).toInt = 0 ∧ (p2 (ts + 1 + i)).toInt = ((R.getD (R.length - 1 - i) 0 : Nat) : Int)) : rS B J z zk fd F al s0 w2 p2 (ts + 1 + R.length) va vd sl o (n + 1) np ck cf := by
  obtain ⟨t, K, V, e', E', ck', cf', o', d, h1, ⟨h2, h3⟩, h4, h5, ⟨h6, h7, h8, h9, h10⟩, h11⟩ := h
  obtain ⟨k0, kz, kp, kc⟩ := rA_x t h3 h2 rfl h8
  rcases kc with q | q | q | q | q | q
  · exact absurd q.1 (by omega)
  · exact absurd q.1 (by omega)
  · obtain ⟨-, y, t2, a, q1, q2, q3, ⟨q4, q5, q6, q7⟩, q8, q9, q10⟩ := q
    have hT : rTk B J z w2 p2 ((1, t2) :: K) (ts + 1) := rTk_cg (fun i hi => hpu.1 i hi) (rTk_a h4 a1 b1 (Or.inr (Or.inl ⟨rfl, hx, q4, q5⟩)))
    refine ⟨pm_as y ++ (1, t2) :: K, _, _, _, _, pm_re_s h1 ((pm_st_w hn).trans (q10 _ _ _ _ _ _ _)), rTk_as hT y q1 q2 q3 (by omega) hR hpu.2, h5, ⟨d, h7, ?_⟩, h11⟩
    rw [h6]
    exact rN_as (rN_c (j := 1) (by decide) q6 (fun i g => h9 i (q7 i g)) h10) y q1 q8 (fun i g => h9 i (q9 i g))
  · exact absurd q.1 (by omega)
  · exact absurd q.1 (by omega)
  · exact absurd q.1 (by omega)
theorem rw_5 {x1 x2 x3 : Int32} (h : rH B J z zk fd F al s0 tw tp ts va vd sl o n np ck cf 0 k) (hn : n ≠ al) (hw : (B 0 (Int32.toNatClampNeg k)).toInt = 5) (hx1 : x1.toInt = 1) (hx2 : x2.toInt = 0) (hx3 : x3.toInt = 0) (a1 : zTa tw w1 ts x1) (b1 : zTa tp p1 ts k) (a2 : zTa w1 w2 (ts + 1) x2) (b2 : zTa p1 p2 (ts + 1) (B 4 (Int32.toNatClampNeg k))) (a3 : zTa w2 w3 (ts + 2) x3) (b3 : zTa p2 p3 (ts + 2) (B 3 (Int32.toNatClampNeg k))) : rS B J z zk fd F al s0 w3 p3 (ts + 3) va vd sl o (n + 1) np ck cf := by
  obtain ⟨t, K, V, e', E', ck', cf', o', d, h1, ⟨h2, h3⟩, h4, h5, ⟨h6, h7, h8, h9, h10⟩, h11⟩ := h
  obtain ⟨k0, kz, kp, kc⟩ := rA_x t h3 h2 rfl h8
  rcases kc with q | q | q | q | q | q
  · exact absurd q.1 (by omega)
  · exact absurd q.1 (by omega)
  · exact absurd q.1 (by omega)
  · obtain ⟨-, x, y, t2, ⟨c1, c2, c3, c4⟩, ⟨d1, d2, d3, d4⟩, ⟨q4, q5, q6, q7⟩, q10⟩ := q
    refine ⟨_, _, _, _, _, pm_re_s h1 ((pm_st_w hn).trans (q10 _ _ _ _ _ _ _)), rTk_a (rTk_a (rTk_a h4 a1 b1 (Or.inr (Or.inl ⟨rfl, hx1, q4, q5⟩))) a2 b2 (Or.inl ⟨rfl, hx2, d1, d2⟩)) a3 b3 (Or.inl ⟨rfl, hx3, c1, c2⟩), h5, ⟨d, h7, ?_⟩, h11⟩
    rw [h6]
    exact rN_c (by decide) c3 (fun i g => h9 i (c4 i g)) (rN_c (by decide) d3 (fun i g => h9 i (d4 i g)) (rN_c (by decide) q6 (fun i g => h9 i (q7 i g)) h10))
  · exact absurd q.1 (by omega)
  · exact absurd q.1 (by omega)
theorem rw_67 {x1 x2 : Int32} (h : rH B J z zk fd F al s0 tw tp ts va vd sl o n np ck cf 0 k) (hn : n ≠ al) (hw : (B 0 (Int32.toNatClampNeg k)).toInt = 6 ∨ (B 0 (Int32.toNatClampNeg k)).toInt = 7) (hx1 : x1.toInt = 1) (hx2 : x2.toInt = 0) (a1 : zTa tw w1 ts x1) (b1 : zTa tp p1 ts k) (a2 : zTa w1 w2 (ts + 1) x2) (b2 : zTa p1 p2 (ts + 1) (B 3 (Int32.toNatClampNeg k))) : rS B J z zk fd F al s0 w2 p2 (ts + 2) va vd sl o (n + 1) np ck cf := by
  obtain ⟨t, K, V, e', E', ck', cf', o', d, h1, ⟨h2, h3⟩, h4, h5, ⟨h6, h7, h8, h9, h10⟩, h11⟩ := h
  obtain ⟨k0, kz, kp, kc⟩ := rA_x t h3 h2 rfl h8
  rcases kc with q | q | q | q | q | q
  · exact absurd q.1 (by omega)
  · exact absurd q.1 (by omega)
  · exact absurd q.1 (by omega)
  · exact absurd q.1 (by omega)
  · obtain ⟨-, x, t2, ⟨c1, c2, c3, c4⟩, ⟨q4, q5, q6, q7⟩, q10⟩ := q
    refine ⟨_, _, _, _, _, pm_re_s h1 ((pm_st_w hn).trans (q10 _ _ _ _ _ _ _)), rTk_a (rTk_a h4 a1 b1 (Or.inr (Or.inl ⟨rfl, hx1, q4, q5⟩))) a2 b2 (Or.inl ⟨rfl, hx2, c1, c2⟩), h5, ⟨d, h7, ?_⟩, h11⟩
    rw [h6]
    exact rN_c (by decide) c3 (fun i g => h9 i (c4 i g)) (rN_c (by decide) q6 (fun i g => h9 i (q7 i g)) h10)
  · exact absurd q.1 (by omega)
/-- an arm -/
theorem rar : ∀ (x : Tm) {a m d : Nat}, tm_k x = 2 → tm_sy x false → tm_wf zk fd x d → rI B J x 0 a m → m ≤ z → (rAt B J z (am_x x) (B 3 (m - 1)) ∧ sy_x (am_x x)) ∧ ((B 4 (m - 1)).toInt = (d : Int) ∧ am_h x = d ∧ (B 7 (m - 1)).toInt = (am_m x : Int) ∧ (B 2 (m - 1)).toInt = am_k x ∧ d + am_m x ≤ 24) ∧ (am_k x = -1 ∧ am_m x = 0 ∨ ∃ j : Nat, am_k x = (j : Int) ∧ j < zk ∧ (fd j).toInt = (am_m x : Int)) ∧ tm_wf zk fd (am_x x) (d + am_m x) ∧ ∀ i, tm_ub (am_x x) i = true → i < d → tm_ub x i = true
  | .branch 0 (.leaf (some (_ + 3, p, kd, h, mm, _))) x, a, b, d, _, hs, ⟨⟨⟨w1, w2, w3⟩, w4⟩, w5⟩, ⟨m, g1, g2, g3, g4, g5, g6, g7, g8⟩, hz => by
    subst g2
    subst w1
    rw [Nat.add_sub_cancel]
    have l := rI_1s hs.1 g1
    refine ⟨⟨⟨a, m, g8, by omega, by omega, g1, l.2⟩, hs⟩, ⟨g6, rfl, g7, g5, w2⟩, w4, w5, fun i hi hd => ?_⟩
    show (tm_ub x i && !(decide ((h : Int) ≤ (i : Int)) && decide ((i : Int) < (h : Int) + (mm : Int)))) = true
    rw [show tm_ub x i = true from hi, decide_eq_false (show ¬ (h : Int) ≤ (i : Int) by omega)]; rfl
  | .leaf (some (0, _, _, _, _, _)), _, _, _, g, _, _, _, _ => nomatch (show (1 : Nat) = 2 from g)
  | .leaf (some (_ + 1, _, _, _, _, _)), _, _, _, g, _, _, _, _ => nomatch (show (1 : Nat) = 2 from g)
  | .branch 0 (.leaf (some (0, _, _, _, _, _))) _, _, _, _, g, _, _, _, _ => nomatch (show (1 : Nat) = 2 from g)
  | .branch 0 (.leaf (some (1, _, _, _, _, _))) _, _, _, _, g, _, _, _, _ => nomatch (show (1 : Nat) = 2 from g)
  | .branch 1 (.leaf (some (0, _, _, _, _, _))) (.branch _ _ _), _, _, _, g, _, _, _, _ => nomatch (show (1 : Nat) = 2 from g)
  | .branch 1 (.leaf (some (_ + 1, _, _, _, _, _))) (.branch _ _ _), _, _, _, g, _, _, _, _ => nomatch (show (1 : Nat) = 2 from g)
  | .branch 2 (.leaf (some (_, _, _, _, _, _))) (.branch _ _ (.branch _ _ _)), _, _, _, g, _, _, _, _ => nomatch (show (1 : Nat) = 2 from g)
  | .branch 0 (.leaf (some (2, _, _, _, _, _))) _, _, _, _, g, _, _, _, _ => nomatch (show (1 : Nat) = 2 from g)
  | .leaf none, _, _, _, g, _, _, _, _ => nomatch (show (0 : Nat) = 2 from g)
  | .branch (_ + 3) _ _, _, _, _, g, _, _, _, _ => nomatch (show (0 : Nat) = 2 from g)
  | .branch 0 (.leaf none) _, _, _, _, g, _, _, _, _ => nomatch (show (0 : Nat) = 2 from g)
  | .branch 0 (.branch _ _ _) _, _, _, _, g, _, _, _, _ => nomatch (show (0 : Nat) = 2 from g)
  | .branch 1 (.leaf none) _, _, _, _, g, _, _, _, _ => nomatch (show (0 : Nat) = 2 from g)
  | .branch 1 (.branch _ _ _) _, _, _, _, g, _, _, _, _ => nomatch (show (0 : Nat) = 2 from g)
  | .branch 1 (.leaf (some (0, _, _, _, _, _))) (.leaf _), _, _, _, g, _, _, _, _ => nomatch (show (0 : Nat) = 2 from g)
  | .branch 1 (.leaf (some (_ + 1, _, _, _, _, _))) (.leaf _), _, _, _, g, _, _, _, _ => nomatch (show (0 : Nat) = 2 from g)
  | .branch 2 (.leaf none) _, _, _, _, g, _, _, _, _ => nomatch (show (0 : Nat) = 2 from g)
  | .branch 2 (.branch _ _ _) _, _, _, _, g, _, _, _, _ => nomatch (show (0 : Nat) = 2 from g)
  | .branch 2 (.leaf (some (_, _, _, _, _, _))) (.leaf _), _, _, _, g, _, _, _, _ => nomatch (show (0 : Nat) = 2 from g)
  | .branch 2 (.leaf (some (_, _, _, _, _, _))) (.branch _ _ (.leaf _)), _, _, _, g, _, _, _, _ => nomatch (show (0 : Nat) = 2 from g)
/-- the first arm that fits, on both sides -/
theorem rfi {kd : Int} {d : Nat} : ∀ (x : Tm) {R : List Nat} {fr : Int32} {a b : Nat}, tm_li x → tm_sy x true → tm_wf zk fd x d → rI B J x fr a b → b ≤ z → zli (B 6) fr R → (pm_fi kd x = none ∧ zfa (B 2) kd R = none) ∨ ∃ (y : Tm) (r : Nat), pm_fi kd x = some y ∧ zfa (B 2) kd R = some r ∧ (am_k y = -1 ∨ am_k y = kd) ∧ (rAt B J z (am_x y) (B 3 r) ∧ sy_x (am_x y)) ∧ ((B 4 r).toInt = (d : Int) ∧ am_h y = d ∧ (B 7 r).toInt = (am_m y : Int) ∧ (B 2 r).toInt = am_k y ∧ d + am_m y ≤ 24) ∧ (am_k y = -1 ∧ am_m y = 0 ∨ ∃ j : Nat, am_k y = (j : Int) ∧ j < zk ∧ (fd j).toInt = (am_m y : Int)) ∧ tm_wf zk fd (am_x y) (d + am_m y) ∧ ∀ i, tm_ub (am_x y) i = true → i < d → tm_ub x i = true
  | .leaf none, [], _, _, _, _, _, _, _, _, _ => Or.inl ⟨rfl, rfl⟩
  | .leaf none, r :: R, fr, a, b, _, _, _, h, _, g => absurd g.1 (by have := h.2; omega)
  | .branch (_ + 3) x y, [], fr, a, b, _, _, _, ⟨m, h1, h2, h3, h4⟩, _, g => absurd (show fr.toInt = -1 from g) (by omega)
  | .branch (_ + 3) x y, r :: R, fr, a, b, hl, hs, hw, ⟨m, h1, h2, h3, h4⟩, hb, g => by
    have er : r = m - 1 := by have := g.1; omega
    have l := rI_le y h4
    have q := rar (z := z) x hs.1.1 hs.1.2 hw.1 h1 (by omega)
    show ((if am_k x = -1 ∨ am_k x = kd then some x else pm_fi kd y) = none ∧ (if (B 2 r).toInt = -1 ∨ (B 2 r).toInt = kd then some r else zfa (B 2) kd R) = none) ∨ ∃ (y1 : Tm) (r1 : Nat), (if am_k x = -1 ∨ am_k x = kd then some x else pm_fi kd y) = some y1 ∧ (if (B 2 r).toInt = -1 ∨ (B 2 r).toInt = kd then some r else zfa (B 2) kd R) = some r1 ∧ _
    rw [← er] at q
    rw [q.2.1.2.2.2.1]
    by_cases u : am_k x = -1 ∨ am_k x = kd
    · rw [if_pos u, if_pos u]
      exact Or.inr ⟨x, r, rfl, rfl, u, q.1, q.2.1, q.2.2.1, q.2.2.2.1, fun i hi hd => by show (tm_ub x i || tm_ub y i) = true; rw [q.2.2.2.2 i hi hd]; rfl⟩
    · rw [if_neg u, if_neg u]
      refine (rfi y (R := R) hl hs.2 hw.2 h4 hb (by rw [← er]; exact g.2)).imp id ?_
      rintro ⟨y1, r1, k1, k2, k3, k4, k5, k6, k7, k8⟩
      exact ⟨y1, r1, k1, k2, k3, k4, k5, k6, k7, fun i hi hd => by show (tm_ub x i || tm_ub y i) = true; rw [k8 i hi hd, Bool.or_true]⟩
  | .leaf (some (0, _, _, _, _, _)), _, _, _, _, g, _, _, _, _, _ => g.elim
  | .leaf (some (_ + 1, _, _, _, _, _)), _, _, _, _, g, _, _, _, _, _ => g.elim
  | .branch 0 (.leaf (some (0, _, _, _, _, _))) _, _, _, _, _, g, _, _, _, _, _ => g.elim
  | .branch 0 (.leaf (some (1, _, _, _, _, _))) _, _, _, _, _, g, _, _, _, _, _ => g.elim
  | .branch 1 (.leaf (some (0, _, _, _, _, _))) (.branch _ _ _), _, _, _, _, g, _, _, _, _, _ => g.elim
  | .branch 1 (.leaf (some (_ + 1, _, _, _, _, _))) (.branch _ _ _), _, _, _, _, g, _, _, _, _, _ => g.elim
  | .branch 2 (.leaf (some (_, _, _, _, _, _))) (.branch _ _ (.branch _ _ _)), _, _, _, _, g, _, _, _, _, _ => g.elim
  | .branch 0 (.leaf (some (2, _, _, _, _, _))) _, _, _, _, _, g, _, _, _, _, _ => g.elim
  | .branch 0 (.leaf (some (_ + 3, _, _, _, _, _))) _, _, _, _, _, g, _, _, _, _, _ => g.elim
  | .branch 0 (.leaf none) _, _, _, _, _, g, _, _, _, _, _ => g.elim
  | .branch 0 (.branch _ _ _) _, _, _, _, _, g, _, _, _, _, _ => g.elim
  | .branch 1 (.leaf none) _, _, _, _, _, g, _, _, _, _, _ => g.elim
  | .branch 1 (.branch _ _ _) _, _, _, _, _, g, _, _, _, _, _ => g.elim
  | .branch 1 (.leaf (some (0, _, _, _, _, _))) (.leaf _), _, _, _, _, g, _, _, _, _, _ => g.elim
  | .branch 1 (.leaf (some (_ + 1, _, _, _, _, _))) (.leaf _), _, _, _, _, g, _, _, _, _, _ => g.elim
  | .branch 2 (.leaf none) _, _, _, _, _, g, _, _, _, _, _ => g.elim
  | .branch 2 (.branch _ _ _) _, _, _, _, _, g, _, _, _, _, _ => g.elim
  | .branch 2 (.leaf (some (_, _, _, _, _, _))) (.leaf _), _, _, _, _, g, _, _, _, _, _ => g.elim
  | .branch 2 (.leaf (some (_, _, _, _, _, _))) (.branch _ _ (.leaf _)), _, _, _, _, g, _, _, _, _, _ => g.elim
theorem rfi_k {v : Int64} {ck' : Nat → Int32} (hc : rCe fd ck cf np ck' cf2) (hv : zhs v = 2 → Int32.toNatClampNeg v.toInt32 < np) : pm_kd ck' v = pm_kd ck v := by
  unfold pm_kd
  by_cases u : zhs v = 2
  · rw [(hc _ (hv u)).1]
  · rw [if_neg u, if_neg u]
theorem rw_8x {v : Int64} (h : rH B J z zk fd F al s0 tw tp ts va vd sl o n np ck cf 0 k) (hn : n ≠ al) (hw : (B 0 (Int32.toNatClampNeg k)).toInt = 8) (ev : v = sl (24 * (o - 1) + Int32.toNatClampNeg (B 2 (Int32.toNatClampNeg k)))) (hv : zhs v = 2 → Int32.toNatClampNeg v.toInt32 < np) {R : List Nat} (hR : zli (B 6) (B 3 (Int32.toNatClampNeg k)) R) (hf : zfa (B 2) (pm_kd ck v) R = none) : pm_ou F al s0 (2, (B 1 (Int32.toNatClampNeg k)).toInt) := by
  obtain ⟨t, K, V, e', E', ck', cf', o', d, h1, ⟨h2, h3⟩, h4, h5, ⟨h6, h7, h8, h9, h10⟩, h11⟩ := h
  obtain ⟨k0, kz, kp, kc⟩ := rA_x t h3 h2 rfl h8
  rcases kc with q | q | q | q | q | q
  · exact absurd q.1 (by omega)
  · exact absurd q.1 (by omega)
  · exact absurd q.1 (by omega)
  · exact absurd q.1 (by omega)
  · exact absurd q.1 (by omega)
  · obtain ⟨-, q0, qs, x, t2, a, q1, q2, q3, q4, q5, q6, q7⟩ := q
    have ee : e' (Int32.toNatClampNeg (B 2 (Int32.toNatClampNeg k))) = v := by rw [ev, h6, Nat.add_sub_cancel]; exact (h9 _ qs).symm
    refine pm_ou_s (pm_re_s h1 ((pm_st_w hn).trans (q6 _ _ _ _ _ _ _))) (pm_st_d.trans ((q7 _ _ _ _ _ _ _ _).trans ?_))
    unfold pm_mt
    rw [show (e' :: E').headD (fun _ => 0) = e' from rfl, ee, rfi_k h11 hv]
    rcases rfi (z := z) (kd := pm_kd ck v) x q1 q2 q4 q3 (by omega) hR with g | ⟨y, r, g1, g2, -⟩
    · rw [g.1]
    · rw [hf] at g2; cases g2
theorem rw_8 {v : Int64} {kz : Int32} {t2 : Nat} (h : rH B J z zk fd F al s0 tw tp ts va vd sl o n np ck cf 0 k) (hn : n ≠ al) (hw : (B 0 (Int32.toNatClampNeg k)).toInt = 8) (ev : v = sl (24 * (o - 1) + Int32.toNatClampNeg (B 2 (Int32.toNatClampNeg k)))) (hv : zhs v = 2 → Int32.toNatClampNeg v.toInt32 < np) (hvv : zHv kz fd v) (hQ : rQ B J z zk fd us bo to F) {R : List Nat} (hR : zli (B 6) (B 3 (Int32.toNatClampNeg k)) R) (hM : rMx (B 6) (B 2) (B 3) (B 4) (B 7) us (B 3 (Int32.toNatClampNeg k)) (pm_kd ck v) v cf (o - 1) sl sl2 tw w2 tp p2 ts t2) : rS B J z zk fd F al s0 w2 p2 t2 va vd sl2 o (n + 1) np ck cf := by
  obtain ⟨t, K, V, e', E', ck', cf', o', d, h1, ⟨h2, h3⟩, h4, h5, ⟨h6, h7, h8, h9, h10⟩, h11⟩ := h
  obtain ⟨k0, kz', kp, kc⟩ := rA_x t h3 h2 rfl h8
  rcases kc with q | q | q | q | q | q
  · exact absurd q.1 (by omega)
  · exact absurd q.1 (by omega)
  · exact absurd q.1 (by omega)
  · exact absurd q.1 (by omega)
  · exact absurd q.1 (by omega)
  · obtain ⟨-, q0, qs, x, u2, a, q1, q2, q3, q4, q5, q6, q7⟩ := q
    subst h6
    rw [Nat.add_sub_cancel] at ev hM
    obtain ⟨r, m1, m2, ⟨x0, m3, m4⟩, m5, m6, m7⟩ := hM
    subst m2
    have ee : e' (Int32.toNatClampNeg (B 2 (Int32.toNatClampNeg k))) = v := by rw [ev]; exact (h9 _ qs).symm
    have hz := m1 R hR
    rcases rfi (z := z) (kd := pm_kd ck v) x q1 q2 q4 q3 (by omega) hR with g | ⟨y, r2, g1, g2, g3, ⟨g4, g5⟩, ⟨g6, g7, g8, g9, g10⟩, g11, g12, g13⟩
    · rw [g.2] at hz; cases hz
    · obtain rfl : r2 = r := Option.some.inj (g2.symm.trans hz)
      have hst : pm_mt (B 1 (Int32.toNatClampNeg k)).toInt (Int32.toNatClampNeg (B 2 (Int32.toNatClampNeg k))) x K V (e' :: E') (n + 1) np ck' cf' = .ok ((0, am_x y) :: K, V, (if zhs v = 2 then pm_bd e' cf' (Int32.toNatClampNeg v.toInt32) (am_h y) (am_m y) else e') :: E', n + 1, np, ck', cf') := by
        unfold pm_mt
        rw [show (e' :: E').headD (fun _ => 0) = e' from rfl, ee, rfi_k h11 hv, g1]; rfl
      have eh : Int32.toNatClampNeg (B 4 r2) = d := zn_lit g6
      have em : Int32.toNatClampNeg (B 7 r2) = am_m y := zn_lit g8
      refine ⟨_, _, _, _, _, pm_re_s (pm_re_s h1 ((pm_st_w hn).trans (q6 _ _ _ _ _ _ _))) (pm_st_d.trans ((q7 _ _ _ _ _ _ _ _).trans hst)), rTk_a h4 m4 m5 (Or.inl ⟨rfl, m3, g4, g5⟩), h5, ⟨d + am_m y, g10, ?_⟩, h11⟩
      rw [g9] at m6 m7
      rw [eh, em] at m6
      have hu : ∀ j, j < 32 → zbit (us (Int32.toNatClampNeg (B 3 r2))) j = tm_ub (am_x y) j := hQ.1 _ _ g5 g4
      by_cases c2 : zhs v = 2 ∧ am_k y ≠ -1
      · obtain ⟨s1, s2⟩ := m6 c2
        rw [if_pos c2.1]
        have hlow : ∀ i, i < d → sl2 (24 * o' + i) = sl (24 * o' + i) := fun i hi => s1 _ (fun j hj => by omega)
        refine rN_c (by decide) g12 (fun i hi => ?_) (rN_mo (Nat.le_add_right _ _) (rN_hd (fun i hi => s1 _ (fun j hj => by omega)) h7 (fun i hi => ⟨hlow i hi, by unfold pm_bd; rw [if_neg (by omega)]⟩) h10))
        have hi2 : tm_ub (am_x y) i = true := hi
        have il := wf_ub _ g12 hi2
        unfold pm_bd
        by_cases w : i < d
        · rw [if_neg (by omega), hlow i w]; exact h9 i (q5 i (g13 i hi2 w))
        · rw [if_pos (by omega), g7]
          have b1 := s2 (i - d) (by omega) (by rw [show d + (i - d) = i from by omega, hu i (by omega)]; exact hi2)
          rw [show 24 * o' + d + (i - d) = 24 * o' + i from by omega] at b1
          rw [b1]
          obtain ⟨j, j1, j2, j3⟩ := g11.resolve_left (fun g => c2.2 g.1)
          have hcc := h11 _ (hv c2.1)
          refine hcc.2 (i - d) ?_
          have ek : (ck (Int32.toNatClampNeg v.toInt32)).toInt = (j : Int) := by
            have := g3.resolve_left c2.2
            rw [← j1, this]; unfold pm_kd
            rw [if_neg (by rw [c2.1]; decide), if_pos c2.1]
          rw [← hcc.1, zn_lit ek, j3]
          omega
      · have es := m7 c2
        have m0 : am_m y = 0 := by
          rcases g11 with g | ⟨j, j1, j2, j3⟩
          · exact g.2
          · have hk := g3.resolve_left (by omega)
            unfold pm_kd at hk
            rcases hvv with v1 | ⟨v1, v2, v3, v4⟩ | ⟨v1, v2⟩
            · rw [if_pos v1] at hk; omega
            · rw [if_neg (by rw [v1]; decide), if_neg (by rw [v1]; decide)] at hk
              have : Int32.toNatClampNeg v.toInt32 = j := zn_lit (by omega)
              rw [this] at v4
              omega
            · exact absurd ⟨v1, by omega⟩ c2
        subst es
        have he : (if zhs v = 2 then pm_bd e' cf' (Int32.toNatClampNeg v.toInt32) (am_h y) (am_m y) else e') = e' := by
          split
          · funext i; unfold pm_bd; rw [if_neg (by omega)]
          · rfl
        rw [he]
        rw [m0] at g12 ⊢
        exact rN_c (by decide) g12 (fun i hi => h9 i (q5 i (g13 i hi (wf_ub _ g12 hi)))) h10
end

end
section
/-! what is done behind operands; the first call -/
section
variable {B : Nat → Nat → Int32} {J : Nat → Int64 → Prop} {z zk : Nat} {fd us bo to : Nat → Int32} {F : sp_F} {al : Nat} {s0 : pm_S} {tw tp w1 p1 w2 p2 : Nat → Int32} {ts vd o n np h1 : Nat} {va va2 : Nat → Int64} {sl sl2 : Nat → Int64} {ck ck2 : Nat → Int32} {cf cf2 : Nat → Int64} {k : Int32}
theorem rVa_0 {V : List Int64} (h : rVa (h1 + 1) va V) : V.getD 0 0 = va h1 := by
  have := h.2 h1 (by omega)
  rw [show h1 + 1 - 1 - h1 = 0 from by omega] at this
  exact this.symm
theorem rVa_1 {V : List Int64} (h : rVa (h1 + 2) va V) : V.getD 0 0 = va (h1 + 1) ∧ V.getD 1 0 = va h1 := by
  have a := h.2 h1 (by omega)
  have b := h.2 (h1 + 1) (by omega)
  rw [show h1 + 2 - 1 - h1 = 1 from by omega] at a
  rw [show h1 + 2 - 1 - (h1 + 1) = 0 from by omega] at b
  exact ⟨b.symm, a.symm⟩
theorem rN_len : ∀ {K : List (Nat × Tm)} {E : List (Nat → Int64)} {o c : Nat}, rN zk fd sl K E o c → E.length = o
  | [], _, _, _, h => by rw [h.1, h.2]; rfl
  | (j, t) :: K, E, o, c, ⟨e, E', o', h1, h2, h3⟩ => by
    rcases h3 with ⟨-, d, -, r⟩ | ⟨-, d, -, -, -, r⟩
    · rw [h1, List.length_cons, rN_len r, h2]
    · exact rN_len r
theorem rd_5 (h : rH B J z zk fd F al s0 tw tp ts va (h1 + 2) sl o n np ck cf 1 k) (hw : (B 0 (Int32.toNatClampNeg k)).toInt = 5) (ea : zhs (va h1) = 0) (eb : zhs (va (h1 + 1)) = 0) (hp : zTl va va2 h1 (pv0 (pm_op (B 2 (Int32.toNatClampNeg k)).toInt (va h1).toInt32 (va (h1 + 1)).toInt32))) : rS B J z zk fd F al s0 tw tp ts va2 (h1 + 1) sl o n np ck cf := by
  obtain ⟨t, K, V, e', E', ck', cf', o', d, g1, ⟨g2, g3⟩, g4, g5, ⟨g6, g7, g8, g9, g10⟩, g11⟩ := h
  obtain ⟨k0, kz, kc⟩ := rA_d t g3 g2 rfl g8
  have ev := rVa_1 g5
  rcases kc with q | q | q | q | q | q
  · exact absurd q (by omega)
  · exact absurd q.1 (by omega)
  · exact absurd q.1 (by omega)
  · have hs := q.2 F K V (e' :: E') n np ck' cf'
    rw [ev.1, ev.2, if_pos ⟨ea, eb⟩] at hs
    have hv := (rVa_dr (q := 2) g5 (by omega)).1
    rw [Nat.add_sub_cancel] at hv
    exact ⟨K, _, _, _, _, pm_re_s g1 (pm_st_d.trans hs), g4, rVa_pu hv hp.2 hp.1, ⟨d, g7, by rw [g6]; exact g10⟩, g11⟩
  · exact absurd q.1 (by omega)
  · exact absurd q.1 (by omega)
theorem rd_5x (h : rH B J z zk fd F al s0 tw tp ts va (h1 + 2) sl o n np ck cf 1 k) (hw : (B 0 (Int32.toNatClampNeg k)).toInt = 5) (ea : ¬ (zhs (va h1) = 0 ∧ zhs (va (h1 + 1)) = 0)) : pm_ou F al s0 (2, (B 1 (Int32.toNatClampNeg k)).toInt) := by
  obtain ⟨t, K, V, e', E', ck', cf', o', d, g1, ⟨g2, g3⟩, g4, g5, ⟨g6, g7, g8, g9, g10⟩, g11⟩ := h
  obtain ⟨k0, kz, kc⟩ := rA_d t g3 g2 rfl g8
  have ev := rVa_1 g5
  rcases kc with q | q | q | q | q | q
  · exact absurd q (by omega)
  · exact absurd q.1 (by omega)
  · exact absurd q.1 (by omega)
  · have hs := q.2 F K V (e' :: E') n np ck' cf'
    rw [ev.1, ev.2, if_neg ea] at hs
    exact pm_ou_s g1 (pm_st_d.trans hs)
  · exact absurd q.1 (by omega)
  · exact absurd q.1 (by omega)
theorem rd_6 {x : Int32} (h : rH B J z zk fd F al s0 tw tp ts va (h1 + 1) sl o n np ck cf 1 k) (hQ : rQ B J z zk fd us bo to F) (hw : (B 0 (Int32.toNatClampNeg k)).toInt = 6) (hx : x.toInt = 0) (a1 : zTa tw w2 ts x) (b1 : zTa tp p2 ts (B 4 (Int32.toNatClampNeg k))) (hsl : sl2 = vp_updL sl (24 * (o - 1) + Int32.toNatClampNeg (B 2 (Int32.toNatClampNeg k))) (va h1) ∨ zbit (us (Int32.toNatClampNeg (B 4 (Int32.toNatClampNeg k)))) (Int32.toNatClampNeg (B 2 (Int32.toNatClampNeg k))) = false ∧ sl2 = sl) : rS B J z zk fd F al s0 w2 p2 (ts + 1) va h1 sl2 o n np ck cf := by
  obtain ⟨t, K, V, e', E', ck', cf', o', d, g1, ⟨g2, g3⟩, g4, g5, ⟨g6, g7, g8, g9, g10⟩, g11⟩ := h
  obtain ⟨k0, kz, kc⟩ := rA_d t g3 g2 rfl g8
  rcases kc with q | q | q | q | q | q
  · exact absurd q (by omega)
  · exact absurd q.1 (by omega)
  · exact absurd q.1 (by omega)
  · exact absurd q.1 (by omega)
  · obtain ⟨-, q1, q2, y, q3, q4, q5, q6, q7⟩ := q
    have hv := (rVa_dr (q := 1) g5 (by omega)).1
    rw [Nat.add_sub_cancel] at hv
    have hs := q7 F K V (e' :: E') n np ck' cf'
    rw [rVa_0 g5] at hs
    subst g6
    rw [Nat.add_sub_cancel, zn_lit q1] at hsl
    refine ⟨_, _, _, _, _, pm_re_s g1 (pm_st_d.trans hs), rTk_a g4 a1 b1 (Or.inl ⟨rfl, hx, q3, q4⟩), hv, ⟨d + 1, by omega, ?_⟩, g11⟩
    show rN zk fd sl2 ((0, y) :: K) (vp_updL e' d (va h1) :: E') (o' + 1) (d + 1)
    have hoth : ∀ i, i ≠ 24 * o' + d → sl2 i = sl i := fun i hi => by
      rcases hsl with e | ⟨-, e⟩
      · rw [e, zul_n hi]
      · rw [e]
    refine rN_c (by decide) q5 (fun i hi => ?_) (rN_mo (Nat.le_succ _) (rN_hd (fun i hi => hoth i (by omega)) g7 (fun i hi => ⟨hoth _ (by omega), zul_n (by omega)⟩) g10))
    have hi2 : tm_ub y i = true := hi
    by_cases u : i = d
    · rw [u] at hi2 ⊢
      rw [zul_s]
      rcases hsl with e | ⟨b, -⟩
      · rw [e, zul_s]
      · rw [hQ.1 y _ q4 q3 d (by omega), hi2] at b; cases b
    · rw [hoth _ (by omega), zul_n u]
      exact g9 i (q6 i hi2 u)
  · exact absurd q.1 (by omega)
theorem rd_7 {x y : Int32} (h : rH B J z zk fd F al s0 tw tp ts va (h1 + 1) sl o n np ck cf 1 k) (hw : (B 0 (Int32.toNatClampNeg k)).toInt = 7) (ea : zhs (va h1) = 0) (hx : x.toInt = 0) (hy : va h1 ≠ 0 ∧ y = B 4 (Int32.toNatClampNeg k) ∨ va h1 = 0 ∧ y = B 5 (Int32.toNatClampNeg k)) (a1 : zTa tw w2 ts x) (b1 : zTa tp p2 ts y) : rS B J z zk fd F al s0 w2 p2 (ts + 1) va h1 sl o n np ck cf := by
  obtain ⟨t, K, V, e', E', ck', cf', o', d, g1, ⟨g2, g3⟩, g4, g5, ⟨g6, g7, g8, g9, g10⟩, g11⟩ := h
  obtain ⟨k0, kz, kc⟩ := rA_d t g3 g2 rfl g8
  rcases kc with q | q | q | q | q | q
  · exact absurd q (by omega)
  · exact absurd q.1 (by omega)
  · exact absurd q.1 (by omega)
  · exact absurd q.1 (by omega)
  · exact absurd q.1 (by omega)
  · obtain ⟨-, a, b, ⟨c1, c2, c3, c4⟩, ⟨d1, d2, d3, d4⟩, q7⟩ := q
    have hv := (rVa_dr (q := 1) g5 (by omega)).1
    rw [Nat.add_sub_cancel] at hv
    have hs := q7 F K V (e' :: E') n np ck' cf'
    rw [rVa_0 g5, if_pos ea] at hs
    subst g6
    rcases hy with ⟨u, rfl⟩ | ⟨u, rfl⟩
    · rw [if_neg (fun e : (va h1).toInt32 = 0 => u (zv_ext (ea.trans (show (0 : Int64) = zhs 0 from by decide)) (e.trans (by decide))))] at hs
      exact ⟨_, _, _, _, _, pm_re_s g1 (pm_st_d.trans hs), rTk_a g4 a1 b1 (Or.inl ⟨rfl, hx, c1, c2⟩), hv, ⟨d, g7, rN_c (by decide) c3 (fun i hi => g9 i (c4 i hi)) g10⟩, g11⟩
    · rw [if_pos (by rw [u]; decide)] at hs
      exact ⟨_, _, _, _, _, pm_re_s g1 (pm_st_d.trans hs), rTk_a g4 a1 b1 (Or.inl ⟨rfl, hx, d1, d2⟩), hv, ⟨d, g7, rN_c (by decide) d3 (fun i hi => g9 i (d4 i hi)) g10⟩, g11⟩
theorem rd_7x (h : rH B J z zk fd F al s0 tw tp ts va (h1 + 1) sl o n np ck cf 1 k) (hw : (B 0 (Int32.toNatClampNeg k)).toInt = 7) (ea : ¬ zhs (va h1) = 0) : pm_ou F al s0 (2, (B 1 (Int32.toNatClampNeg k)).toInt) := by
  obtain ⟨t, K, V, e', E', ck', cf', o', d, g1, ⟨g2, g3⟩, g4, g5, ⟨g6, g7, g8, g9, g10⟩, g11⟩ := h
  obtain ⟨k0, kz, kc⟩ := rA_d t g3 g2 rfl g8
  rcases kc with q | q | q | q | q | q
  · exact absurd q (by omega)
  · exact absurd q.1 (by omega)
  · exact absurd q.1 (by omega)
  · exact absurd q.1 (by omega)
  · exact absurd q.1 (by omega)
  · obtain ⟨-, a, b, -, -, q7⟩ := q
    have hs := q7 F K V (e' :: E') n np ck' cf'
    rw [rVa_0 g5, if_neg ea] at hs
    exact pm_ou_s g1 (pm_st_d.trans hs)
theorem rd_3x (h : rH B J z zk fd F al s0 tw tp ts va vd sl o n np ck cf 1 k) (hw : (B 0 (Int32.toNatClampNeg k)).toInt = 3) (ho : 100 ≤ o) : pm_ou F al s0 (4, (B 1 (Int32.toNatClampNeg k)).toInt) := by
  obtain ⟨t, K, V, e', E', ck', cf', o', d, g1, ⟨g2, g3⟩, g4, g5, ⟨g6, g7, g8, g9, g10⟩, g11⟩ := h
  obtain ⟨k0, kz, kc⟩ := rA_d t g3 g2 rfl g8
  rcases kc with q | q | q | q | q | q
  · exact absurd q (by omega)
  · obtain ⟨-, wd, q1, q2⟩ := q
    have hs := q2 F K V (e' :: E') n np ck' cf'
    rw [if_pos (by rw [rN_len g10]; omega)] at hs
    exact pm_ou_s g1 (pm_st_d.trans hs)
  · exact absurd q.1 (by omega)
  · exact absurd q.1 (by omega)
  · exact absurd q.1 (by omega)
  · exact absurd q.1 (by omega)
theorem rd_3 {x1 x2 y1 : Int32} (h : rH B J z zk fd F al s0 tw tp ts va vd sl o n np ck cf 1 k) (hQ : rQ B J z zk fd us bo to F) (hw : (B 0 (Int32.toNatClampNeg k)).toInt = 3) (ho : o < 100) (hvd : (vd : Int) = (h1 : Int) + (to (Int32.toNatClampNeg (B 2 (Int32.toNatClampNeg k)))).toInt) (hx1 : x1.toInt = 3) (hx2 : x2.toInt = 0) (a1 : zTa tw w1 ts x1) (b1 : zTa tp p1 ts y1) (a2 : zTa w1 w2 (ts + 1) x2) (b2 : zTa p1 p2 (ts + 1) (bo (Int32.toNatClampNeg (B 2 (Int32.toNatClampNeg k))))) (hl : ∀ i, i < 24 * o → sl2 i = sl i) (hu : ∀ j : Nat, j < 32 → (j : Int) < (to (Int32.toNatClampNeg (B 2 (Int32.toNatClampNeg k)))).toInt → zbit (us (Int32.toNatClampNeg (bo (Int32.toNatClampNeg (B 2 (Int32.toNatClampNeg k)))))) j = true → sl2 (24 * o + j) = va (h1 + j)) : rS B J z zk fd F al s0 w2 p2 (ts + 2) va h1 sl2 (o + 1) n np ck cf := by
  obtain ⟨t, K, V, e', E', ck', cf', o', d, g1, ⟨g2, g3⟩, g4, g5, ⟨g6, g7, g8, g9, g10⟩, g11⟩ := h
  obtain ⟨k0, kz, kc⟩ := rA_d t g3 g2 rfl g8
  rcases kc with q | q | q | q | q | q
  · exact absurd q (by omega)
  · obtain ⟨-, wd, q1, q2⟩ := q
    have hs := q2 F K V (e' :: E') n np ck' cf'
    obtain ⟨f1, f2⟩ := hQ.2.2 _ wd kz hw q1
    rw [zn_lit f1] at hvd b2 hu
    obtain ⟨c1, c2, c, c3, c4, c5, c6⟩ := hQ.2.1 _ f2
    rw [if_neg (by rw [rN_len g10]; omega), c3, Int.toNat_natCast] at hs
    obtain ⟨v1, v2⟩ := rVa_dr (q := c) g5 (by omega)
    rw [show vd - c = h1 from by omega] at v1 v2
    refine ⟨_, _, _, _, _, pm_re_s g1 (pm_st_d.trans hs), rTk_a (rTk_a g4 a1 b1 (Or.inr (Or.inr ⟨rfl, hx1⟩))) a2 b2 (Or.inl ⟨rfl, hx2, c1, c2⟩), v1, ⟨c, c4, rN_c (by decide) c6 (fun i hi => ?_) ⟨_, _, o, rfl, rfl, Or.inl ⟨rfl, d, g7, rN_lo hl g7 (by rw [g6]; exact g10)⟩⟩⟩, g11⟩
    have hi2 : tm_ub (F.2.2.2 (sp_fi F.2.1 wd F.1)) i = true := hi
    have il := wf_ub _ c6 hi2
    rw [hu i (by omega) (by omega) (by rw [hQ.1 _ _ c2 c1 i (by omega)]; exact hi2)]
    unfold pm_ae
    rw [if_pos il]
    exact v2 i il
  · exact absurd q.1 (by omega)
  · exact absurd q.1 (by omega)
  · exact absurd q.1 (by omega)
  · exact absurd q.1 (by omega)
theorem rd_4k (h : rH B J z zk fd F al s0 tw tp ts va vd sl o n np ck cf 1 k) (hw : (B 0 (Int32.toNatClampNeg k)).toInt = 4) (hm : (B 7 (Int32.toNatClampNeg k)).toInt = 0) (hp : zTl va va2 vd (pv1 (B 2 (Int32.toNatClampNeg k)))) : rS B J z zk fd F al s0 tw tp ts va2 (vd + 1) sl o n np ck cf := by
  obtain ⟨t, K, V, e', E', ck', cf', o', d, g1, ⟨g2, g3⟩, g4, g5, ⟨g6, g7, g8, g9, g10⟩, g11⟩ := h
  obtain ⟨k0, kz, kc⟩ := rA_d t g3 g2 rfl g8
  rcases kc with q | q | q | q | q | q
  · exact absurd q (by omega)
  · exact absurd q.1 (by omega)
  · obtain ⟨-, m, qq, q1, q2, q3, q4, q5⟩ := q
    have hs := q5 F K V (e' :: E') n np ck' cf'
    rw [if_pos (by omega)] at hs
    exact ⟨K, _, _, _, _, pm_re_s g1 (pm_st_d.trans hs), g4, rVa_pu g5 hp.2 hp.1, ⟨d, g7, by rw [g6]; exact g10⟩, g11⟩
  · exact absurd q.1 (by omega)
  · exact absurd q.1 (by omega)
  · exact absurd q.1 (by omega)
theorem rd_4x (h : rH B J z zk fd F al s0 tw tp ts va vd sl o n np ck cf 1 k) (hw : (B 0 (Int32.toNatClampNeg k)).toInt = 4) (hm : (B 7 (Int32.toNatClampNeg k)).toInt ≠ 0) (hn : 4000 ≤ np) : pm_ou F al s0 (3, (B 1 (Int32.toNatClampNeg k)).toInt) := by
  obtain ⟨t, K, V, e', E', ck', cf', o', d, g1, ⟨g2, g3⟩, g4, g5, ⟨g6, g7, g8, g9, g10⟩, g11⟩ := h
  obtain ⟨k0, kz, kc⟩ := rA_d t g3 g2 rfl g8
  rcases kc with q | q | q | q | q | q
  · exact absurd q (by omega)
  · exact absurd q.1 (by omega)
  · obtain ⟨-, m, qq, q1, q2, q3, q4, q5⟩ := q
    have hs := q5 F K V (e' :: E') n np ck' cf'
    rw [if_neg (by omega), if_pos hn] at hs
    exact pm_ou_s g1 (pm_st_d.trans hs)
  · exact absurd q.1 (by omega)
  · exact absurd q.1 (by omega)
  · exact absurd q.1 (by omega)
theorem rd_4c {m : Nat} {x : Int32} (h : rH B J z zk fd F al s0 tw tp ts va vd sl o n np ck cf 1 k) (hw : (B 0 (Int32.toNatClampNeg k)).toInt = 4) (hm : (B 7 (Int32.toNatClampNeg k)).toInt = (m : Int)) (hm0 : m ≠ 0) (hvd : vd = h1 + m) (hn : np < 4000) (h3 : ∀ i, i < np → (fd (Int32.toNatClampNeg (ck i))).toInt ≤ 3) (hm3 : m ≤ 3) (ek : ck2 = upd ck np (B 2 (Int32.toNatClampNeg k))) (ef : ∀ i, i < m → cf2 (3 * np + i) = va (h1 + i)) (el : ∀ j, j < 3 * np → cf2 j = cf j) (hx : x.toInt = (np : Int)) (hp : zTl va va2 h1 (pv2 x)) : rS B J z zk fd F al s0 tw tp ts va2 (h1 + 1) sl o n (np + 1) ck2 cf2 := by
  obtain ⟨t, K, V, e', E', ck', cf', o', d, g1, ⟨g2, g3⟩, g4, g5, ⟨g6, g7, g8, g9, g10⟩, g11⟩ := h
  obtain ⟨k0, kz, kc⟩ := rA_d t g3 g2 rfl g8
  rcases kc with q | q | q | q | q | q
  · exact absurd q (by omega)
  · exact absurd q.1 (by omega)
  · obtain ⟨-, m', qq, q1, q2, q3, q4, q5⟩ := q
    obtain rfl : m' = m := by omega
    have hs := q5 F K V (e' :: E') n np ck' cf'
    rw [if_neg hm0, if_neg (by omega), pi_of hx] at hs
    obtain ⟨v1, v2⟩ := rVa_dr (q := m') g5 (by omega)
    rw [show vd - m' = h1 from by omega] at v1 v2
    refine ⟨K, _, _, _, _, pm_re_s g1 (pm_st_d.trans hs), g4, rVa_pu v1 hp.2 hp.1, ⟨d, g7, by rw [g6]; exact g10⟩, fun i hi => ?_⟩
    by_cases u : i = np
    · rw [u, ek, zu_s, zu_s]
      refine ⟨rfl, fun j hj => ?_⟩
      rw [zn_lit q1, q4] at hj
      rw [ef j (by omega), v2 j (by omega)]
      unfold pm_cf
      rw [if_pos (by omega), show 3 * np + j - 3 * np = j from by omega]
    · have gi := g11 i (by omega)
      rw [ek, zu_n u, zu_n u]
      refine ⟨gi.1, fun j hj => ?_⟩
      have := h3 i (by omega)
      rw [gi.1] at this
      rw [el _ (by omega), gi.2 j hj]
      unfold pm_cf
      rw [if_neg (by omega)]
  · exact absurd q.1 (by omega)
  · exact absurd q.1 (by omega)
  · exact absurd q.1 (by omega)
theorem rS_0 {f : Nat} {a b c d : Int32} {x1 x2 y1 : Int32} (hQ : rQ B J z zk fd us bo to F) (hf : f < F.1) (hx1 : x1.toInt = 3) (hx2 : x2.toInt = 0) (a1 : zTa tw w1 0 x1) (b1 : zTa tp p1 0 y1) (a2 : zTa w1 w2 1 x2) (b2 : zTa p1 p2 1 (bo f)) (hu : ∀ j : Nat, j < 32 → (j : Int) < (to f).toInt → zbit (us (Int32.toNatClampNeg (bo f))) j = true → sl2 j = pv0 (if j = 0 then a else if j = 1 then b else if j = 2 then c else if j = 3 then d else 0)) : rS B J z zk fd F al (pm_s0 F f a b c d) w2 p2 2 va 0 sl2 1 0 0 ck cf := by
  obtain ⟨c1, c2, m, c3, c4, c5, c6⟩ := hQ.2.1 f hf
  refine ⟨_, _, _, _, _, pm_re_r, rTk_a (rTk_a (K := []) rfl a1 b1 (Or.inr (Or.inr ⟨rfl, hx1⟩))) a2 b2 (Or.inl ⟨rfl, hx2, c1, c2⟩), ⟨rfl, fun i hi => absurd hi (Nat.not_lt_zero _)⟩, ⟨m, c4, rN_c (by decide) c6 (fun i hi => ?_) ⟨_, _, 0, rfl, rfl, Or.inl ⟨rfl, 0, by decide, rfl, rfl⟩⟩⟩, fun i hi => absurd hi (Nat.not_lt_zero _)⟩
  have hi2 : tm_ub (F.2.2.2 f) i = true := hi
  have il := wf_ub _ c6 hi2
  rw [show 24 * 0 + i = i from by omega, hu i (by omega) (by omega) (by rw [hQ.1 _ _ c2 c1 i (by omega)]; exact hi2), if_pos (show (i : Int) < F.2.2.1 f by omega)]
end

end
section
/-! what a read program tells the run -/
theorem rFf {fn : Nat → Int64} {td : Nat → Int32} {fz r : Int32} {fw : Nat → Int64} {ft : Nat → Int} {w v : Int64} (h : sp_fr fn td fz fw ft) (hc : sp_cv w v) (h0 : 0 ≤ fz.toInt) (hf : rx_ff fn v fz r) (hr : 0 ≤ r.toInt) : r.toInt = (sp_fi fw w (Int32.toNatClampNeg fz) : Int) ∧ sp_fi fw w (Int32.toNatClampNeg fz) < Int32.toNatClampNeg fz := by
  obtain ⟨-, h1, h2, h3⟩ := hf.resolve_left (fun g => by omega)
  have n0 := zn_nat h0
  have nr := zn_nat hr
  have e : sp_fi fw w (Int32.toNatClampNeg fz) = Int32.toNatClampNeg r := sp_fi_eq (by omega) (fun j hj q => h3 j (by omega) ((sp_cv_inj (h j (by omega)).1 hc).mp q)) (Or.inr ((sp_cv_inj (h _ (by omega)).1 hc).mpr h2))
  rw [e]
  exact ⟨by omega, by omega⟩
theorem rQ_of {wh pl ow on tw th be ma fd us bh mk fs bo td wd : Nat → Int32} {nm kn fn : Nat → Int64} {kz nf pz : Int32} {o : Option (sp_S × sp_F)} (hp : rx_pp o kn fd kz fn td nf (rcs wh pl ow on tw th be ma) nm fs bo pz wd mk) (hw : ∀ q, o = some q → wfF q.1 q.2 ∧ syF q.2) (hr : zRd wh ow on tw th be ma fd kz us bh fs bo td nf pz) : ∃ (s : sp_S) (F : sp_F), o = some (s, F) ∧ rQ (rcs wh pl ow on tw th be ma) (rJ nm) (Int32.toNatClampNeg pz) (Int32.toNatClampNeg kz) fd us bo td F ∧ F.1 = Int32.toNatClampNeg nf := by
  obtain ⟨s, kw, kf, fw, ft, G, e, s1, s2, s3, hkr, hfr, hpg, hwa, hma, hca⟩ := hp
  obtain ⟨hwf, hsy⟩ := hw _ e
  obtain ⟨L, C, hPG, -, n0, n1, k0, k1, z0⟩ := zRd_PG hr
  have nn := zn_nat n0
  have nk := zn_nat k0
  have hU : zKU (zJS wh ow on tw th be ma fd kz) us us 0 (Int32.toNatClampNeg pz) := ⟨fun q _ h => (hPG.2.2.1 q h).1, fun _ _ => rfl⟩
  refine ⟨s, _, e, ⟨fun t k hs ⟨a, b, g1, g2, g3, g4, g5⟩ j hj => ?_, fun f hf => ?_, fun k w hk h3 hj => ?_⟩, rfl⟩
  · have := (rI_ub hU t (sy_ok hs.2) g4 (Nat.zero_le _) g3).1 g5 j hj
    rw [show Int32.toNatClampNeg k = b - 1 from zn_lit (by omega)]; exact this
  · obtain ⟨a, b, g1, g2, g3, g4, g5⟩ := hpg f hf
    have l := rI_1 g5 g4
    obtain ⟨c, ⟨c1, c2⟩, c3⟩ := hwf f hf
    have hft : ft f = (td f).toInt := (hfr f (by have : f < Int32.toNatClampNeg nf := hf; omega)).2
    refine ⟨⟨a, b, g2, by omega, g3, g4, g5⟩, (hsy f hf).1, c, c1, c2, ?_, ?_⟩
    · rw [← hft]; exact c1
    · rw [s1, s3] at c3
      exact wf_mo (Nat.le_refl _) (fun k hk _ => ((hkr k (by omega)).2).symm) _ c3
  · obtain ⟨h1, h2⟩ := hca k hk h3
    exact rFf hfr hj n0 h1 h2

end
section
/-! what the tasks need, and what names and values hold -/
section
variable {K : List (Nat × Tm)} {V : List Int64} {E : List (Nat → Int64)} {e e2 : Nat → Int64} {t : Tm} {i x : Nat} {p q : Int32}
theorem nF_0 : nF ((0, t) :: K) i = (tm_ub t i || nF K i) := rfl
theorem nF_1 : nF ((1, t) :: K) i = (tm_dn t i || nF K i) := rfl
theorem nF_2 : nF ((2, t) :: K) i = false := rfl
theorem nF_3 : nF ((3, t) :: K) i = nF K i := rfl
theorem mRn_0 : ∀ {E : List (Nat → Int64)} {K : List (Nat × Tm)}, 0 ≤ mRn E K x
  | [], _ => Int.le_refl _
  | e :: E, K => by
    have a := mRn_0 (E := E) (K := aF K)
    have b := zs_0 (n := 24) (f := fun i => if nF K i = true then zr (e i) x else 0) (fun d _ => by show (0 : Int) ≤ if nF K d = true then zr (e d) x else 0; split; exact zr_0 _ _; exact Int.le_refl _)
    show 0 ≤ zs 24 _ + mRn E (aF K) x
    omega
theorem mRv_0 : ∀ {V : List Int64}, 0 ≤ mRv V x
  | [] => Int.le_refl _
  | v :: V => by
    have a := mRv_0 (V := V)
    have b := zr_0 v x
    show 0 ≤ zr v x + mRv V x
    omega
/-- the present names are those that are needed -/
theorem mRn_p (h : ∀ i, i < 24 → zbit p i = nF K i) : mRn (e :: E) K x = zN24 p e x + mRn E (aF K) x := by
  show zs 24 _ + _ = zs 24 _ + _
  rw [zs_ext (f := fun i => if nF K i = true then zr (e i) x else 0) (g := fun i => if zbit p i = true then zr (e i) x else 0) (fun d hd => by show (if nF K d = true then zr (e d) x else 0) = (if zbit p d = true then zr (e d) x else 0); rw [h d hd])]
theorem mRn_e {K2 : List (Nat × Tm)} (h : ∀ i, i < 24 → nF K2 i = nF K i) (ha : aF K2 = aF K) (he : ∀ i, i < 24 → nF K i = true → e2 i = e i) : mRn (e2 :: E) K2 x = mRn (e :: E) K x := by
  show zs 24 _ + mRn E (aF K2) x = zs 24 _ + mRn E (aF K) x
  rw [ha, zs_ext (f := fun i => if nF K2 i = true then zr (e2 i) x else 0) (g := fun i => if nF K i = true then zr (e i) x else 0) (fun d hd => by
    show (if nF K2 d = true then zr (e2 d) x else 0) = (if nF K d = true then zr (e d) x else 0)
    rw [h d hd]
    by_cases g : nF K d = true
    · rw [if_pos g, if_pos g, he d hd g]
    · rw [if_neg g, if_neg g])]
/-- a call is entered: nothing of it is needed yet but by its own tasks -/
theorem mRn_2 : mRn (e :: E) ((2, t) :: K) x = mRn E K x := by
  show zs 24 (fun i => if nF ((2, t) :: K) i = true then zr (e i) x else 0) + mRn E K x = _
  rw [zs_z (fun d _ => if_neg (by rw [nF_2]; decide))]; omega
/-- the n latest values, the eldest of them first -/
theorem mRv_d : ∀ {n : Nat} {V : List Int64}, n ≤ V.length → mRv V x = mRv (V.drop n) x + zs n (fun k => zr (V.getD (n - 1 - k) 0) x)
  | 0, V, _ => by show _ = mRv V x + 0; omega
  | n + 1, [], h => absurd h (by show ¬ n + 1 ≤ 0; omega)
  | n + 1, v :: V, h => by
    have ih := mRv_d (n := n) (V := V) (by have : (v :: V).length = V.length + 1 := rfl; omega)
    show zr v x + mRv V x = mRv (V.drop n) x + (zs n (fun k => zr ((v :: V).getD (n + 1 - 1 - k) 0) x) + zr ((v :: V).getD (n + 1 - 1 - n) 0) x)
    rw [ih, show n + 1 - 1 - n = 0 from by omega, zs_ext (f := fun k => zr ((v :: V).getD (n + 1 - 1 - k) 0) x) (g := fun k => zr (V.getD (n - 1 - k) 0) x) (fun k hk => by
      show zr ((v :: V).getD (n + 1 - 1 - k) 0) x = _
      rw [show n + 1 - 1 - k = (n - 1 - k) + 1 from by omega]; rfl)]
    show _ = mRv (V.drop n) x + (_ + zr v x)
    omega
end

end
section
/-! the reference's state in a counted run, as the counted machine has it -/
def rTc (B : Nat → Nat → Int32) (J : Nat → Int64 → Prop) (z : Nat) (bh : Nat → Int32) (ph : Nat → Nat) (tw tp : Nat → Int32) : List (Nat × Tm) → Nat → Prop
  | [], n => n = 0
  | (j, t) :: K, n => ∃ m : Nat, n = m + 1 ∧ rTc B J z bh ph tw tp K m ∧ (((j = 0 ∧ (tw m).toInt = 0 ∨ j = 1 ∧ (tw m).toInt = 1) ∧ rAt B J z t (tp m) ∧ sy_x t ∧ ∀ i, i < 32 → zbit (bh (Int32.toNatClampNeg (tp m))) i = nF K i) ∨ (j = 2 ∧ (tw m).toInt = 3) ∨ (j = 3 ∧ (tw m).toInt = 2 ∧ (tp m).toInt = (ph (tm_id t) : Int)))
def rVc (ph : Nat → Nat) (vd : Nat) (gva : Nat → Int64) (V : List Int64) : Prop := V.length = vd ∧ ∀ i, i < vd → vr ph (V.getD (vd - 1 - i) 0) (gva i)
def rNc (ph : Nat → Nat) (zk : Nat) (fd : Nat → Int32) (sl : Nat → Int64) : List (Nat × Tm) → List (Nat → Int64) → Nat → Nat → Prop
  | [], E, o, _ => E = [] ∧ o = 0
  | (j, t) :: K, E, o, c => ∃ (e : Nat → Int64) (E' : List (Nat → Int64)) (o' : Nat), E = e :: E' ∧ o = o' + 1 ∧ ((j = 2 ∧ ∃ d, d ≤ 24 ∧ rNc ph zk fd sl K E' o' d) ∨ (j = 3 ∧ rNc ph zk fd sl K E o c) ∨ ((j = 0 ∨ j = 1) ∧ ∃ d, d ≤ c ∧ tm_wf zk fd t d ∧ (∀ i, pm_nd j t i = true → vr ph (e i) (sl (24 * o' + i))) ∧ rNc ph zk fd sl K E o d))
/-- the present names of every call are those that are needed -/
def rPb (pr : Nat → Int32) : Nat → List (Nat × Tm) → Prop
  | 0, _ => True
  | o + 1, K => (∀ j, j < 32 → zbit (pr o) j = nF K j) ∧ rPb pr o (aF K)
section
variable {B : Nat → Nat → Int32} {J : Nat → Int64 → Prop} {z zk : Nat} {bh fd : Nat → Int32} {ph ph2 : Nat → Nat} {tw tp tw2 tp2 : Nat → Int32} {sl sl2 : Nat → Int64} {pr pr2 : Nat → Int32}
theorem rTc_cg : ∀ {K : List (Nat × Tm)} {n : Nat}, (∀ i, i < n → tw2 i = tw i ∧ tp2 i = tp i) → rTc B J z bh ph tw tp K n → rTc B J z bh ph tw2 tp2 K n
  | [], _, _, h => h
  | (j, t) :: K, n, hg, ⟨m, h1, h2, h3⟩ => by
    obtain ⟨e1, e2⟩ := hg m (by omega)
    exact ⟨m, h1, rTc_cg (fun i hi => hg i (by omega)) h2, by rw [e1, e2]; exact h3⟩
theorem rTc_p : ∀ {K : List (Nat × Tm)} {n : Nat}, (∀ t, (3, t) ∈ K → ph2 (tm_id t) = ph (tm_id t)) → rTc B J z bh ph tw tp K n → rTc B J z bh ph2 tw tp K n
  | [], _, _, h => h
  | (j, t) :: K, n, hg, ⟨m, h1, h2, h3⟩ => by
    refine ⟨m, h1, rTc_p (fun u hu => hg u (List.mem_cons_of_mem _ hu)) h2, h3.imp id (Or.imp id (fun g => ⟨g.1, g.2.1, ?_⟩))⟩
    rw [hg t (by rw [g.1]; exact List.mem_cons_self)]; exact g.2.2
theorem rTc_a {K : List (Nat × Tm)} {ts j : Nat} {t : Tm} {x y : Int32} (h : rTc B J z bh ph tw tp K ts) (a : zTa tw tw2 ts x) (b : zTa tp tp2 ts y) (hj : ((j = 0 ∧ x.toInt = 0 ∨ j = 1 ∧ x.toInt = 1) ∧ rAt B J z t y ∧ sy_x t ∧ ∀ i, i < 32 → zbit (bh (Int32.toNatClampNeg y)) i = nF K i) ∨ (j = 2 ∧ x.toInt = 3) ∨ (j = 3 ∧ x.toInt = 2 ∧ y.toInt = (ph (tm_id t) : Int))) : rTc B J z bh ph tw2 tp2 ((j, t) :: K) (ts + 1) :=
  ⟨ts, rfl, rTc_cg (fun i hi => ⟨a.2 i hi, b.2 i hi⟩) h, by rw [a.1, b.1]; exact hj⟩
theorem rVc_pu {vd : Nat} {gva gva2 : Nat → Int64} {V : List Int64} {v u : Int64} (h : rVc ph vd gva V) (hp : zTl gva gva2 vd u) (hv : vr ph v u) : rVc ph (vd + 1) gva2 (v :: V) := by
  obtain ⟨h1, h2⟩ := h
  refine ⟨by rw [List.length_cons]; omega, fun i hi => ?_⟩
  by_cases g : i = vd
  · rw [g, hp.1, show vd + 1 - 1 - vd = 0 from by omega]; exact hv
  · rw [hp.2 i (by omega), show vd + 1 - 1 - i = (vd - 1 - i) + 1 from by omega]; exact h2 i (by omega)
theorem rVc_dr {vd q : Nat} {gva : Nat → Int64} {V : List Int64} (h : rVc ph vd gva V) (hq : q ≤ vd) : rVc ph (vd - q) gva (V.drop q) ∧ ∀ k, k < q → vr ph (V.getD (q - 1 - k) 0) (gva (vd - q + k)) := by
  obtain ⟨h1, h2⟩ := h
  refine ⟨⟨by rw [List.length_drop]; omega, fun i hi => ?_⟩, fun k hk => ?_⟩
  · have := h2 i (by omega)
    rw [List.getD_eq_getElem?_getD, List.getElem?_drop, ← List.getD_eq_getElem?_getD, show q + (vd - q - 1 - i) = vd - 1 - i from by omega]
    exact this
  · have := h2 (vd - q + k) (by omega)
    rw [show vd - 1 - (vd - q + k) = q - 1 - k from by omega] at this
    exact this
theorem rNc_mo {c c2 : Nat} (hc : c ≤ c2) : ∀ {K : List (Nat × Tm)} {E : List (Nat → Int64)} {o : Nat}, rNc ph zk fd sl K E o c → rNc ph zk fd sl K E o c2
  | [], _, _, h => h
  | (j, t) :: K, E, o, ⟨e, E', o', h1, h2, h3⟩ => ⟨e, E', o', h1, h2, h3.imp id (Or.imp (fun ⟨a, r⟩ => ⟨a, rNc_mo hc r⟩) (fun ⟨a, d, b, r⟩ => ⟨a, d, Nat.le_trans b hc, r⟩))⟩
theorem rNc_lo : ∀ {K : List (Nat × Tm)} {E : List (Nat → Int64)} {o c : Nat}, (∀ i, i < 24 * o → sl2 i = sl i) → c ≤ 24 → rNc ph zk fd sl K E o c → rNc ph zk fd sl2 K E o c
  | [], _, _, _, _, _, h => h
  | (j, t) :: K, E, o, c, hs, hc, ⟨e, E', o', h1, h2, h3⟩ => by
    refine ⟨e, E', o', h1, h2, ?_⟩
    rcases h3 with ⟨a, d, b, r⟩ | ⟨a, r⟩ | ⟨a, d, b, w, q, r⟩
    · exact Or.inl ⟨a, d, b, rNc_lo (fun i hi => hs i (by omega)) b r⟩
    · exact Or.inr (Or.inl ⟨a, rNc_lo hs hc r⟩)
    · exact Or.inr (Or.inr ⟨a, d, b, w, fun i hi => (by have := nd_wf w hi; rw [hs _ (by omega)]; exact q i hi), rNc_lo hs (by omega) r⟩)
theorem rNc_hd {o' : Nat} {e e2 : Nat → Int64} {E' : List (Nat → Int64)} (hl : ∀ i, i < 24 * o' → sl2 i = sl i) : ∀ {K : List (Nat × Tm)} {c : Nat}, c ≤ 24 → (∀ i, i < c → sl2 (24 * o' + i) = sl (24 * o' + i) ∧ e2 i = e i) → rNc ph zk fd sl K (e :: E') (o' + 1) c → rNc ph zk fd sl2 K (e2 :: E') (o' + 1) c
  | [], _, _, _, h => nomatch h.1
  | (j, t) :: K, c, hc, hg, ⟨f, E2, o2, h1, h2, h3⟩ => by
    cases h1
    obtain rfl : o2 = o' := by omega
    refine ⟨e2, E', o2, rfl, rfl, ?_⟩
    rcases h3 with ⟨a, d, b, r⟩ | ⟨a, r⟩ | ⟨a, d, b, w, q, r⟩
    · exact Or.inl ⟨a, d, b, rNc_lo hl b r⟩
    · exact Or.inr (Or.inl ⟨a, rNc_hd hl hc hg r⟩)
    · refine Or.inr (Or.inr ⟨a, d, b, w, fun i hi => ?_, rNc_hd hl (by omega) (fun i hi => hg i (by omega)) r⟩)
      have := nd_wf w hi
      rw [(hg i (by omega)).1, (hg i (by omega)).2]; exact q i hi
theorem rNc_t {j : Nat} {t : Tm} {K : List (Nat × Tm)} {E : List (Nat → Int64)} {o c : Nat} (h : rNc ph zk fd sl ((j, t) :: K) E o c) (hj : j = 0 ∨ j = 1) : ∃ (e : Nat → Int64) (E' : List (Nat → Int64)) (o' d : Nat), E = e :: E' ∧ o = o' + 1 ∧ d ≤ c ∧ tm_wf zk fd t d ∧ (∀ i, pm_nd j t i = true → vr ph (e i) (sl (24 * o' + i))) ∧ rNc ph zk fd sl K (e :: E') (o' + 1) d := by
  obtain ⟨e, E', o', h1, h2, h3⟩ := h
  rcases h3 with ⟨a, -⟩ | ⟨a, -⟩ | ⟨-, d, b, w, q, r⟩
  · omega
  · omega
  · subst h1
    subst h2
    exact ⟨e, E', o', d, rfl, rfl, b, w, q, r⟩
theorem rNc_c {j : Nat} {t : Tm} {K : List (Nat × Tm)} {e : Nat → Int64} {E' : List (Nat → Int64)} {o' d : Nat} (hj : j = 0 ∨ j = 1) (w : tm_wf zk fd t d) (q : ∀ i, pm_nd j t i = true → vr ph (e i) (sl (24 * o' + i))) (r : rNc ph zk fd sl K (e :: E') (o' + 1) d) : rNc ph zk fd sl ((j, t) :: K) (e :: E') (o' + 1) d := ⟨e, E', o', rfl, rfl, Or.inr (Or.inr ⟨hj, d, Nat.le_refl _, w, q, r⟩)⟩
theorem rNc_len : ∀ {K : List (Nat × Tm)} {E : List (Nat → Int64)} {o c : Nat}, rNc ph zk fd sl K E o c → E.length = o
  | [], _, _, _, h => by rw [h.1, h.2]; rfl
  | (j, t) :: K, E, o, c, ⟨e, E', o', h1, h2, h3⟩ => by
    rcases h3 with ⟨-, d, -, r⟩ | ⟨-, r⟩ | ⟨-, d, -, -, -, r⟩
    · rw [h1, List.length_cons, rNc_len r, h2]
    · exact rNc_len r
    · exact rNc_len r
theorem rPb_x : ∀ {o : Nat} {K : List (Nat × Tm)}, (∀ i, i < o → pr2 i = pr i) → rPb pr o K → rPb pr2 o K
  | 0, _, _, _ => trivial
  | o + 1, K, hx, h => ⟨fun j hj => by rw [hx o (by omega)]; exact h.1 j hj, rPb_x (fun i hi => hx i (by omega)) h.2⟩
/-- one call's bits anew -/
theorem rPb_n {o : Nat} {K K2 : List (Nat × Tm)} (h : rPb pr (o + 1) K) (hx : ∀ i, i < o → pr2 i = pr i) (hn : ∀ j, j < 32 → zbit (pr2 o) j = nF K2 j) (ha : aF K2 = aF K) : rPb pr2 (o + 1) K2 := ⟨hn, by rw [ha]; exact rPb_x hx h.2⟩
end

end
section
/-! what a part's work leaves to do, and what that needs -/
section
variable {B : Nat → Nat → Int32} {J : Nat → Int64 → Prop} {z zk : Nat} {fd : Nat → Int32}
/-- a part's work begins: what is needed stays what it was -/
theorem rA_c {k : Int32} {n d : Nat} : ∀ (t : Tm), sy_x t → rAt B J z t k → n = Int32.toNatClampNeg k → tm_wf zk fd t d → 0 ≤ k.toInt ∧ n < z ∧ pm_pl t = (B 1 n).toInt ∧
    (((B 0 n).toInt = 1 ∧ (∀ i, tm_ub t i = false) ∧ ∀ (K : List (Nat × Tm)) (V : List Int64) (E : List (Nat → Int64)) (m c : Nat) (ck : Nat → Int32) (cf : Nat → Int64) (X : cm_X), cm_w t K V E m c ck cf X = .ok ((K, pv0 (B 2 n) :: V, E, m, c, ck, cf), X)) ∨
    ((B 0 n).toInt = 2 ∧ 0 ≤ (B 2 n).toInt ∧ (∀ i, tm_ub t i = (i == Int32.toNatClampNeg (B 2 n))) ∧ ∀ (K : List (Nat × Tm)) (V : List Int64) (E : List (Nat → Int64)) (m c : Nat) (ck : Nat → Int32) (cf : Nat → Int64) (X : cm_X), cm_w t K V E m c ck cf X = .ok ((K, E.headD (fun _ => 0) (Int32.toNatClampNeg (B 2 n)) :: V, E, m, c, ck, cf), (X.1, X.2.1, X.2.2.1, X.2.2.2.1, X.2.2.2.2.1 + (if nF K (Int32.toNatClampNeg (B 2 n)) = true ∧ zhs (E.headD (fun _ => 0) (Int32.toNatClampNeg (B 2 n))) = 2 then 1 else 0), X.2.2.2.2.2))) ∨
    (((B 0 n).toInt = 3 ∨ (B 0 n).toInt = 4) ∧ ∃ (x t2 : Tm) (a : Nat), tm_li x ∧ tm_sy x false ∧ rI B J x (B 3 n) a n ∧ (rAt B J z t2 k ∧ sy_x t2 ∧ tm_wf zk fd t2 d ∧ ∀ i, tm_dn t2 i = false) ∧ tm_wf zk fd x d ∧ (∀ i, tm_ub t i = tm_ub x i) ∧ ∀ (K : List (Nat × Tm)) (V : List Int64) (E : List (Nat → Int64)) (m c : Nat) (ck : Nat → Int32) (cf : Nat → Int64) (X : cm_X), cm_w t K V E m c ck cf X = .ok ((pm_as x ++ (1, t2) :: K, V, E, m, c, ck, cf), X)) ∨
    ((B 0 n).toInt = 5 ∧ ∃ (x y t2 : Tm), (rAt B J z x (B 3 n) ∧ sy_x x ∧ tm_wf zk fd x d) ∧ (rAt B J z y (B 4 n) ∧ sy_x y ∧ tm_wf zk fd y d) ∧ (rAt B J z t2 k ∧ sy_x t2 ∧ tm_wf zk fd t2 d ∧ ∀ i, tm_dn t2 i = false) ∧ (∀ i, tm_ub t i = (tm_ub x i || tm_ub y i)) ∧ ∀ (K : List (Nat × Tm)) (V : List Int64) (E : List (Nat → Int64)) (m c : Nat) (ck : Nat → Int32) (cf : Nat → Int64) (X : cm_X), cm_w t K V E m c ck cf X = .ok (((0, x) :: (0, y) :: (1, t2) :: K, V, E, m, c, ck, cf), X)) ∨
    (((B 0 n).toInt = 6 ∨ (B 0 n).toInt = 7) ∧ ∃ (x t2 : Tm), (rAt B J z x (B 3 n) ∧ sy_x x ∧ tm_wf zk fd x d) ∧ (rAt B J z t2 k ∧ sy_x t2 ∧ tm_wf zk fd t2 d) ∧ (∀ i, tm_ub t i = (tm_ub x i || tm_dn t2 i)) ∧ ∀ (K : List (Nat × Tm)) (V : List Int64) (E : List (Nat → Int64)) (m c : Nat) (ck : Nat → Int32) (cf : Nat → Int64) (X : cm_X), cm_w t K V E m c ck cf X = .ok (((0, x) :: (1, t2) :: K, V, E, m, c, ck, cf), X)) ∨
    ((B 0 n).toInt = 8 ∧ 0 ≤ (B 2 n).toInt ∧ ∃ (x t2 : Tm) (a : Nat), tm_li x ∧ tm_sy x true ∧ rI B J x (B 3 n) a n ∧ tm_wf zk fd x d ∧ (∀ i, tm_ub t i = ((i == Int32.toNatClampNeg (B 2 n)) || tm_ub x i)) ∧ (∀ (K : List (Nat × Tm)) (V : List Int64) (E : List (Nat → Int64)) (m c : Nat) (ck : Nat → Int32) (cf : Nat → Int64) (X : cm_X), cm_w t K V E m c ck cf X = .ok (((1, t2) :: K, V, E, m, c, ck, cf), X)) ∧ ∀ (F : sp_F) (lim : Int) (K0 K : List (Nat × Tm)) (V : List Int64) (E : List (Nat → Int64)) (m c : Nat) (ck : Nat → Int32) (cf : Nat → Int64) (X : cm_X), cm_d F fd lim t2 K0 K V E m c ck cf X = cm_mt fd (B 1 n).toInt (Int32.toNatClampNeg (B 2 n)) x K0 K V E m c ck cf X))
  | .leaf (some (0, p, v, _, _, _)), _, ⟨a, b, h1, h2, h3, ⟨g1, g2, g3, g4⟩, h5⟩, e, _ => by
    have hn : n = a := by have := zn_nat (x := k) (by omega); omega
    subst hn
    exact ⟨by omega, by omega, g3.symm, Or.inl ⟨g2, fun _ => rfl, fun _ _ _ _ _ _ _ _ => by rw [← pi_of g4]; rfl⟩⟩
  | .leaf (some (_ + 1, p, _, s, _, _)), _, ⟨a, b, h1, h2, h3, ⟨g1, g2, g3, g4⟩, h5⟩, e, _ => by
    have hn : n = a := by have := zn_nat (x := k) (by omega); omega
    subst hn
    have es : Int32.toNatClampNeg (B 2 n) = s := by have := zn_nat (x := B 2 n) (by omega); omega
    exact ⟨by omega, by omega, g3.symm, Or.inr (Or.inl ⟨g2, by omega, fun _ => by rw [es]; rfl, fun _ _ _ _ _ _ _ _ => by rw [es]; rfl⟩)⟩
  | .branch 0 (.leaf (some (0, p, _, _, _, w))) x, hs, ⟨a, b, h1, h2, h3, ⟨m, g1, g2, g3, g4, g5, g6⟩, h5⟩, e, hw => by
    have hn : n = m := by have := zn_nat (x := k) (by omega); omega
    subst hn
    exact ⟨by omega, by omega, g4.symm, Or.inr (Or.inr (Or.inl ⟨Or.inl g3, x, Tm.call p w x, a, hs.2.1, hs.2.2, g1, ⟨⟨a, b, h1, h2, h3, ⟨n, g1, g2, g3, g4, g5, g6⟩, fun g => g⟩, ⟨rfl, hs.2⟩, hw, fun _ => rfl⟩, hw, fun _ => rfl, fun _ _ _ _ _ _ _ _ => rfl⟩))⟩
  | .branch 0 (.leaf (some (1, p, _, c, _, _))) x, hs, ⟨a, b, h1, h2, h3, ⟨m, g1, g2, g3, g4, g5, g6⟩, h5⟩, e, hw => by
    have hn : n = m := by have := zn_nat (x := k) (by omega); omega
    subst hn
    exact ⟨by omega, by omega, g4.symm, Or.inr (Or.inr (Or.inl ⟨Or.inr g3, x, Tm.made p c x, a, hs.2.1, hs.2.2, g1, ⟨⟨a, b, h1, h2, h3, ⟨n, g1, g2, g3, g4, g5, g6⟩, fun g => g⟩, ⟨rfl, hs.2⟩, hw, fun _ => rfl⟩, hw.2, fun _ => rfl, fun _ _ _ _ _ _ _ _ => rfl⟩))⟩
  | .branch 1 (.leaf (some (0, p, o, _, _, _))) (.branch _ x y), hs, ⟨a, b, h1, h2, h3, ⟨m, q, g1, g2, g3, g4, g5, g6, g7, g8⟩, h5⟩, e, hw => by
    have hn : n = q := by have := zn_nat (x := k) (by omega); omega
    subst hn
    have l1 := rI_1s hs.2.1.1 g1
    have l2 := rI_1s hs.2.2.1 g2
    exact ⟨by omega, by omega, g5.symm, Or.inr (Or.inr (Or.inr (Or.inl ⟨g4, x, y, Tm.bin p o x y, ⟨⟨a, m, g7, by omega, by omega, g1, l1.2⟩, hs.2.1, hw.1⟩, ⟨⟨m, n, g8, by omega, by omega, g2, l2.2⟩, hs.2.2, hw.2⟩, ⟨⟨a, b, h1, h2, h3, ⟨m, n, g1, g2, g3, g4, g5, g6, g7, g8⟩, fun g => g⟩, ⟨rfl, hs.2⟩, hw, fun _ => rfl⟩, fun _ => rfl, fun _ _ _ _ _ _ _ _ => rfl⟩)))⟩
  | .branch 1 (.leaf (some (_ + 1, p, _, s, _, _))) (.branch _ x y), hs, ⟨a, b, h1, h2, h3, ⟨m, q, g1, g2, g3, g4, g5, g6, g7, g8⟩, h5⟩, e, hw => by
    have hn : n = q := by have := zn_nat (x := k) (by omega); omega
    subst hn
    have l1 := rI_1s hs.2.1.1 g1
    have l2 := rI_1s hs.2.2.1 g2
    exact ⟨by omega, by omega, g5.symm, Or.inr (Or.inr (Or.inr (Or.inr (Or.inl ⟨Or.inl g4, x, Tm.tlet p s x y, ⟨⟨a, m, g7, by omega, by omega, g1, l1.2⟩, hs.2.1, hw.2.1⟩, ⟨⟨a, b, h1, h2, h3, ⟨m, n, g1, g2, g3, g4, g5, g6, g7, g8⟩, fun g => g⟩, ⟨rfl, hs.2⟩, hw⟩, fun _ => rfl, fun _ _ _ _ _ _ _ _ => rfl⟩))))⟩
  | .branch 2 (.leaf (some (_, p, _, _, _, _))) (.branch _ x (.branch _ y w)), hs, ⟨a, b, h1, h2, h3, ⟨m, o, q, g1, g2, g9, g3, g4, g5, g6, g7, g8⟩, h5⟩, e, hw => by
    have hn : n = q := by have := zn_nat (x := k) (by omega); omega
    subst hn
    have l1 := rI_1s hs.2.1.1 g1
    have l2 := rI_1s hs.2.2.1.1 g2
    have l3 := rI_1s hs.2.2.2.1 g9
    refine ⟨by omega, by omega, g5.symm, Or.inr (Or.inr (Or.inr (Or.inr (Or.inl ⟨Or.inr g4, x, Tm.ite p x y w, ⟨⟨a, m, g6, by omega, by omega, g1, l1.2⟩, hs.2.1, hw.1⟩, ⟨⟨a, b, h1, h2, h3, ⟨m, o, n, g1, g2, g9, g3, g4, g5, g6, g7, g8⟩, fun g => g⟩, ⟨rfl, hs.2⟩, hw⟩, fun i => ?_, fun _ _ _ _ _ _ _ _ => rfl⟩))))⟩
    show (tm_ub x i || tm_ub y i || tm_ub w i) = (tm_ub x i || (tm_ub y i || tm_ub w i))
    rw [Bool.or_assoc]
  | .branch 0 (.leaf (some (2, p, _, s, _, _))) x, hs, ⟨a, b, h1, h2, h3, ⟨m, g1, g2, g3, g4, g5⟩, h5⟩, e, hw => by
    have hn : n = m := by have := zn_nat (x := k) (by omega); omega
    subst hn
    have es : Int32.toNatClampNeg (B 2 n) = s := by have := zn_nat (x := B 2 n) (by omega); omega
    exact ⟨by omega, by omega, g4.symm, Or.inr (Or.inr (Or.inr (Or.inr (Or.inr ⟨g3, by omega, x, Tm.mat p s x, a, hs.2.1, hs.2.2, g1, hw.2, fun i => by rw [es]; rfl, fun _ _ _ _ _ _ _ _ => rfl, fun _ _ _ _ _ _ _ _ _ _ _ => by rw [es, g4]; rfl⟩))))⟩
  | .leaf none, hs, _, _, _ => absurd hs.1 (by decide)
  | .branch (_ + 3) _ _, hs, _, _, _ => absurd hs.1 (fun g => nomatch (show (0 : Nat) = 1 from g))
  | .branch 0 (.leaf (some (_ + 3, _, _, _, _, _))) _, hs, _, _, _ => absurd hs.1 (fun g => nomatch (show (2 : Nat) = 1 from g))
  | .branch 0 (.leaf none) _, hs, _, _, _ => absurd hs.1 (fun g => nomatch (show (0 : Nat) = 1 from g))
  | .branch 0 (.branch _ _ _) _, hs, _, _, _ => absurd hs.1 (fun g => nomatch (show (0 : Nat) = 1 from g))
  | .branch 1 (.leaf none) _, hs, _, _, _ => absurd hs.1 (fun g => nomatch (show (0 : Nat) = 1 from g))
  | .branch 1 (.branch _ _ _) _, hs, _, _, _ => absurd hs.1 (fun g => nomatch (show (0 : Nat) = 1 from g))
  | .branch 1 (.leaf (some (0, _, _, _, _, _))) (.leaf _), hs, _, _, _ => absurd hs.1 (fun g => nomatch (show (0 : Nat) = 1 from g))
  | .branch 1 (.leaf (some (_ + 1, _, _, _, _, _))) (.leaf _), hs, _, _, _ => absurd hs.1 (fun g => nomatch (show (0 : Nat) = 1 from g))
  | .branch 2 (.leaf none) _, hs, _, _, _ => absurd hs.1 (fun g => nomatch (show (0 : Nat) = 1 from g))
  | .branch 2 (.branch _ _ _) _, hs, _, _, _ => absurd hs.1 (fun g => nomatch (show (0 : Nat) = 1 from g))
  | .branch 2 (.leaf (some (_, _, _, _, _, _))) (.leaf _), hs, _, _, _ => absurd hs.1 (fun g => nomatch (show (0 : Nat) = 1 from g))
  | .branch 2 (.leaf (some (_, _, _, _, _, _))) (.branch _ _ (.leaf _)), hs, _, _, _ => absurd hs.1 (fun g => nomatch (show (0 : Nat) = 1 from g))
/-- a row of arguments needs what its members need -/
theorem nF_as {K : List (Nat × Tm)} {i : Nat} : ∀ (x : Tm), tm_li x → nF (pm_as x ++ K) i = (tm_ub x i || nF K i)
  | .leaf none, _ => by show nF K i = (false || nF K i); rw [Bool.false_or]
  | .branch (_ + 3) x y, hl => by
    show (tm_ub x i || nF (pm_as y ++ K) i) = ((tm_ub x i || tm_ub y i) || nF K i)
    rw [nF_as y hl, Bool.or_assoc]
  | .leaf (some (0, _, _, _, _, _)), g => g.elim
  | .leaf (some (_ + 1, _, _, _, _, _)), g => g.elim
  | .branch 0 (.leaf (some (0, _, _, _, _, _))) _, g => g.elim
  | .branch 0 (.leaf (some (1, _, _, _, _, _))) _, g => g.elim
  | .branch 1 (.leaf (some (0, _, _, _, _, _))) (.branch _ _ _), g => g.elim
  | .branch 1 (.leaf (some (_ + 1, _, _, _, _, _))) (.branch _ _ _), g => g.elim
  | .branch 2 (.leaf (some (_, _, _, _, _, _))) (.branch _ _ (.branch _ _ _)), g => g.elim
  | .branch 0 (.leaf (some (2, _, _, _, _, _))) _, g => g.elim
  | .branch 0 (.leaf (some (_ + 3, _, _, _, _, _))) _, g => g.elim
  | .branch 0 (.leaf none) _, g => g.elim
  | .branch 0 (.branch _ _ _) _, g => g.elim
  | .branch 1 (.leaf none) _, g => g.elim
  | .branch 1 (.branch _ _ _) _, g => g.elim
  | .branch 1 (.leaf (some (0, _, _, _, _, _))) (.leaf _), g => g.elim
  | .branch 1 (.leaf (some (_ + 1, _, _, _, _, _))) (.leaf _), g => g.elim
  | .branch 2 (.leaf none) _, g => g.elim
  | .branch 2 (.branch _ _ _) _, g => g.elim
  | .branch 2 (.leaf (some (_, _, _, _, _, _))) (.leaf _), g => g.elim
  | .branch 2 (.leaf (some (_, _, _, _, _, _))) (.branch _ _ (.leaf _)), g => g.elim
theorem aF_as {K : List (Nat × Tm)} : ∀ (x : Tm), tm_li x → aF (pm_as x ++ K) = aF K
  | .leaf none, _ => rfl
  | .branch (_ + 3) x y, hl => aF_as y hl
  | .leaf (some (0, _, _, _, _, _)), g => g.elim
  | .leaf (some (_ + 1, _, _, _, _, _)), g => g.elim
  | .branch 0 (.leaf (some (0, _, _, _, _, _))) _, g => g.elim
  | .branch 0 (.leaf (some (1, _, _, _, _, _))) _, g => g.elim
  | .branch 1 (.leaf (some (0, _, _, _, _, _))) (.branch _ _ _), g => g.elim
  | .branch 1 (.leaf (some (_ + 1, _, _, _, _, _))) (.branch _ _ _), g => g.elim
  | .branch 2 (.leaf (some (_, _, _, _, _, _))) (.branch _ _ (.branch _ _ _)), g => g.elim
  | .branch 0 (.leaf (some (2, _, _, _, _, _))) _, g => g.elim
  | .branch 0 (.leaf (some (_ + 3, _, _, _, _, _))) _, g => g.elim
  | .branch 0 (.leaf none) _, g => g.elim
  | .branch 0 (.branch _ _ _) _, g => g.elim
  | .branch 1 (.leaf none) _, g => g.elim
  | .branch 1 (.branch _ _ _) _, g => g.elim
  | .branch 1 (.leaf (some (0, _, _, _, _, _))) (.leaf _), g => g.elim
  | .branch 1 (.leaf (some (_ + 1, _, _, _, _, _))) (.leaf _), g => g.elim
  | .branch 2 (.leaf none) _, g => g.elim
  | .branch 2 (.branch _ _ _) _, g => g.elim
  | .branch 2 (.leaf (some (_, _, _, _, _, _))) (.leaf _), g => g.elim
  | .branch 2 (.leaf (some (_, _, _, _, _, _))) (.branch _ _ (.leaf _)), g => g.elim
end
/-- a name's last use: what it held the value holds -/
theorem mRn_u {K K0 : List (Nat × Tm)} {E : List (Nat → Int64)} {e : Nat → Int64} {s x : Nat} (h : ∀ i, nF K0 i = ((i == s) || nF K i)) (ha : aF K0 = aF K) (hs : s < 24) (hn : nF K s = false) : mRn (e :: E) K0 x = mRn (e :: E) K x + zr (e s) x := by
  have := zs_up (f := fun i => if nF K i = true then zr (e i) x else 0) (g := fun i => if nF K0 i = true then zr (e i) x else 0) (n := 24) (x := s) (fun d _ hd => by
    show (if nF K0 d = true then zr (e d) x else 0) = (if nF K d = true then zr (e d) x else 0)
    rw [h d, beq_false_of_ne hd, Bool.false_or]) hs
  have e1 : (if nF K s = true then zr (e s) x else 0 : Int) = 0 := if_neg (by rw [hn]; decide)
  have e2 : (if nF K0 s = true then zr (e s) x else 0 : Int) = zr (e s) x := if_pos (by rw [h s, beq_self_eq_true]; rfl)
  rw [e1, e2] at this
  show zs 24 _ + mRn E (aF K0) x = zs 24 _ + mRn E (aF K) x + _
  rw [ha, this]; omega

end
section
/-! shells and the arms that keep them -/
/-- S, the latest first, are shells of the arms that are open in K; one that was taken is no other's -/
def rSo (ph : Nat → Nat) (c : Nat) : List (Nat × Tm) → Nat → List (Nat × Nat × Nat) → Prop
  | [], _, S => S = []
  | (j, t) :: K, o, S => (j = 2 ∧ ∃ o', o = o' + 1 ∧ rSo ph c K o' S) ∨ (j = 3 ∧ tm_id t < c ∧ ((∃ (w : Nat) (S' : List (Nat × Nat × Nat)), S = (o, tm_id t, w) :: S' ∧ rSo ph c K o S') ∨ (rSo ph c K o S ∧ ∀ a, a ∈ S → ph a.2.1 ≠ ph (tm_id t)))) ∨ (j ≠ 2 ∧ j ≠ 3 ∧ rSo ph c K o S)
section
variable {ph ph2 : Nat → Nat} {c c2 : Nat}
/-- no shell belongs to a later call -/
theorem rSo_le : ∀ {K : List (Nat × Tm)} {o : Nat} {S : List (Nat × Nat × Nat)}, rSo ph c K o S → ∀ a, a ∈ S → a.1 ≤ o
  | [], o, S, h, a, ha => by rw [show S = [] from h] at ha; cases ha
  | (j, t) :: K, o, S, h, a, ha => by
    rcases h with ⟨-, o', e, h⟩ | ⟨-, -, h⟩ | ⟨-, -, h⟩
    · have := rSo_le h a ha; omega
    · rcases h with ⟨w, S', e, h⟩ | ⟨h, -⟩
      · rw [e] at ha
        rcases List.mem_cons.mp ha with g | g
        · rw [g]; exact Nat.le_refl _
        · exact rSo_le h a g
      · exact rSo_le h a ha
    · exact rSo_le h a ha
/-- behind one of an earlier call there is none of this one -/
theorem rSo_or : ∀ {K : List (Nat × Tm)} {o : Nat} {S : List (Nat × Nat × Nat)}, rSo ph c K o S → ∀ (A B : List (Nat × Nat × Nat)) (a : Nat × Nat × Nat), S = A ++ a :: B → ∀ b, b ∈ B → b.1 ≤ a.1
  | [], o, S, h, A, B, a, e, b, hb => by
    rw [show S = [] from h] at e
    cases A <;> cases e
  | (j, t) :: K, o, S, h, A, B, a, e, b, hb => by
    rcases h with ⟨-, o', e', h⟩ | ⟨-, -, h⟩ | ⟨-, -, h⟩
    · exact rSo_or h A B a e b hb
    · rcases h with ⟨w, S', e2, h⟩ | ⟨h, -⟩
      · rw [e2] at e
        cases A with
        | nil =>
          have e1 : (o, tm_id t, w) = a := (List.cons.inj e).1
          have e3 : S' = B := (List.cons.inj e).2
          rw [← e1]
          exact rSo_le h b (by rw [e3]; exact hb)
        | cons x A => exact rSo_or h A B a (List.cons.inj e).2 b hb
      · exact rSo_or h A B a e b hb
    · exact rSo_or h A B a e b hb
theorem rSo_p : ∀ {K : List (Nat × Tm)} {o : Nat} {S : List (Nat × Nat × Nat)}, c ≤ c2 → (∀ i, i < c → ph2 i = ph i) → (∀ a, a ∈ S → a.2.1 < c) → rSo ph c K o S → rSo ph2 c2 K o S
  | [], _, _, _, _, _, h => h
  | (j, t) :: K, o, S, hc, hp, hS, h => by
    rcases h with ⟨a, o', e, h⟩ | ⟨a, b, h⟩ | ⟨a, b, h⟩
    · exact Or.inl ⟨a, o', e, rSo_p hc hp hS h⟩
    · refine Or.inr (Or.inl ⟨a, by omega, ?_⟩)
      rcases h with ⟨w, S', e, h⟩ | ⟨h, g⟩
      · exact Or.inl ⟨w, S', e, rSo_p hc hp (fun a ha => hS a (by rw [e]; exact List.mem_cons_of_mem _ ha)) h⟩
      · exact Or.inr ⟨rSo_p hc hp hS h, fun a ha => by rw [hp _ (hS a ha), hp _ b]; exact g a ha⟩
    · exact Or.inr (Or.inr ⟨a, b, rSo_p hc hp hS h⟩)
/-- a shell is taken -/
theorem rSo_r {i : Nat} : ∀ {K : List (Nat × Tm)} {o : Nat} {S : List (Nat × Nat × Nat)}, (sIs S).Nodup → (∀ a b, a ∈ S → b ∈ S → ph a.2.1 = ph b.2.1 → a.2.1 = b.2.1) → rSo ph c K o S → rSo ph c K o (sh_r i S)
  | [], _, S, _, _, h => by rw [show S = [] from h]; rfl
  | (j, t) :: K, o, S, hn, hi, h => by
    have sub : ∀ {S : List (Nat × Nat × Nat)} (a), a ∈ sh_r i S → a ∈ S := fun {S} => by
      induction S with
      | nil => intro a ha; cases ha
      | cons s S ih =>
        intro a ha
        obtain ⟨q, k, w⟩ := s
        have ha : a ∈ (if k = i then S else (q, k, w) :: sh_r i S) := ha
        by_cases g : k = i
        · rw [if_pos g] at ha; exact List.mem_cons_of_mem _ ha
        · rw [if_neg g] at ha
          rcases List.mem_cons.mp ha with u | u
          · rw [u]; exact List.mem_cons_self
          · exact List.mem_cons_of_mem _ (ih a u)
    rcases h with ⟨a, o', e, h⟩ | ⟨a, b, h⟩ | ⟨a, b, h⟩
    · exact Or.inl ⟨a, o', e, rSo_r hn hi h⟩
    · refine Or.inr (Or.inl ⟨a, b, ?_⟩)
      rcases h with ⟨w, S', e, h⟩ | ⟨h, g⟩
      · subst e
        have hn2 : tm_id t ∉ sIs S' ∧ (sIs S').Nodup := List.nodup_cons.mp hn
        by_cases u : tm_id t = i
        · refine Or.inr ⟨?_, fun x hx => ?_⟩
          · show rSo ph c K o (if tm_id t = i then S' else _)
            rw [if_pos u]; exact h
          · have hx : x ∈ (if tm_id t = i then S' else (o, tm_id t, w) :: sh_r i S') := hx
            rw [if_pos u] at hx
            intro q
            have : x.2.1 = tm_id t := hi x (o, tm_id t, w) (List.mem_cons_of_mem _ hx) List.mem_cons_self q
            exact hn2.1 (by rw [← this]; exact List.mem_map.mpr ⟨x, hx, rfl⟩)
        · refine Or.inl ⟨w, sh_r i S', ?_, rSo_r hn2.2 (fun x y hx hy => hi x y (List.mem_cons_of_mem _ hx) (List.mem_cons_of_mem _ hy)) h⟩
          show (if tm_id t = i then S' else (o, tm_id t, w) :: sh_r i S') = _
          rw [if_neg u]
      · exact Or.inr ⟨rSo_r hn hi h, fun x hx => g x (sub x hx)⟩
    · exact Or.inr (Or.inr ⟨a, b, rSo_r hn hi h⟩)
end

end
section
/-! the reference's counted run, task by task -/
abbrev rCSr (B : Nat → Nat → Int32) (J : Nat → Int64 → Prop) (z zk : Nat) (fd bh ma : Nat → Int32) (gi : Int) (tw tp : Nat → Int32) (ts : Nat) (va : Nat → Int64) (vd : Nat) (ck gc : Nat → Int32) (cf : Nat → Int64) (fr : Nat → Int32) (fc : Int) (sh sa sq : Nat → Int32) (sc : Nat) (K K0 : List (Nat × Tm)) (V : List Int64) (E : List (Nat → Int64)) (c : Nat) (ck' : Nat → Int32) (cf' : Nat → Int64) (S : List (Nat × Nat × Nat)) (ph : Nat → Nat) (lv : Nat → Bool) (gA : Nat → Int) (o : Nat) : Prop :=
  rTc B J z bh ph tw tp K ts ∧ rVc ph vd va V ∧ hZ ph lv gA c (cWd fd ck') ck' cf' (mRt K0 V E) (sIs S) ck gc cf ∧ hF ph lv c (sIs S) fr fc gi ∧ rSl ph ma sh sa sq S sc ∧ rSo ph c K o S
def rCS (B : Nat → Nat → Int32) (J : Nat → Int64 → Prop) (z zk : Nat) (fd bh ma : Nat → Int32) (F : sp_F) (lim : Int) (al : Nat) (s0 : cm_S) (gi : Int) (tw tp : Nat → Int32) (ts : Nat) (va : Nat → Int64) (vd : Nat) (sl : Nat → Int64) (pr : Nat → Int32) (o n : Nat) (ck gc : Nat → Int32) (cf : Nat → Int64) (fr : Nat → Int32) (fc : Int) (sh sa sq : Nat → Int32) (sc md ru : Nat) (mo : Int) (db om : Nat) : Prop :=
  ∃ (K : List (Nat × Tm)) (V : List Int64) (E : List (Nat → Int64)) (c : Nat) (ck' : Nat → Int32) (cf' : Nat → Int64) (S : List (Nat × Nat × Nat)) (ph : Nat → Nat) (lv : Nat → Bool) (gA : Nat → Int) (d : Nat), cm_re F fd lim al s0 ((K, V, E, n, c, ck', cf'), (S, md, ru, mo, db, om)) ∧ (d ≤ 24 ∧ rNc ph zk fd sl K E o d) ∧ rPb pr o K ∧ rCSr B J z zk fd bh ma gi tw tp ts va vd ck gc cf fr fc sh sa sq sc K K V E c ck' cf' S ph lv gA o
/-- .. with one task taken -/
def rCH (B : Nat → Nat → Int32) (J : Nat → Int64 → Prop) (z zk : Nat) (fd bh ma : Nat → Int32) (F : sp_F) (lim : Int) (al : Nat) (s0 : cm_S) (gi : Int) (tw tp : Nat → Int32) (ts : Nat) (va : Nat → Int64) (vd : Nat) (sl : Nat → Int64) (pr : Nat → Int32) (o n : Nat) (ck gc : Nat → Int32) (cf : Nat → Int64) (fr : Nat → Int32) (fc : Int) (sh sa sq : Nat → Int32) (sc md ru : Nat) (mo : Int) (db om : Nat) (j : Nat) (k : Int32) : Prop :=
  ∃ (t : Tm) (K : List (Nat × Tm)) (V : List Int64) (e : Nat → Int64) (E' : List (Nat → Int64)) (c : Nat) (ck' : Nat → Int32) (cf' : Nat → Int64) (S : List (Nat × Nat × Nat)) (ph : Nat → Nat) (lv : Nat → Bool) (gA : Nat → Int) (o' d : Nat), cm_re F fd lim al s0 (((j, t) :: K, V, e :: E', n, c, ck', cf'), (S, md, ru, mo, db, om)) ∧ (rAt B J z t k ∧ sy_x t ∧ ∀ i, i < 32 → zbit (bh (Int32.toNatClampNeg k)) i = nF K i) ∧ (o = o' + 1 ∧ d ≤ 24 ∧ tm_wf zk fd t d ∧ (∀ i, pm_nd j t i = true → vr ph (e i) (sl (24 * o' + i))) ∧ rNc ph zk fd sl K (e :: E') (o' + 1) d) ∧ rPb pr o ((j, t) :: K) ∧ rCSr B J z zk fd bh ma gi tw tp ts va vd ck gc cf fr fc sh sa sq sc K ((j, t) :: K) V (e :: E') c ck' cf' S ph lv gA o
section
variable {B : Nat → Nat → Int32} {J : Nat → Int64 → Prop} {z zk : Nat} {fd bh ma : Nat → Int32} {F : sp_F} {lim : Int} {al : Nat} {s0 : cm_S} {gi : Int} {tw tp : Nat → Int32} {ts : Nat} {va va2 : Nat → Int64} {vd : Nat} {sl : Nat → Int64} {pr pr2 : Nat → Int32} {o n : Nat} {ck gc gc2 : Nat → Int32} {cf : Nat → Int64} {fr : Nat → Int32} {fc : Int} {sh sa sq : Nat → Int32} {sc md ru : Nat} {mo : Int} {db om : Nat} {k : Int32}
theorem cm_st_0 {n c : Nat} {t : Tm} {K : List (Nat × Tm)} {V : List Int64} {E : List (Nat → Int64)} {ck : Nat → Int32} {cf : Nat → Int64} {X : cm_X} (h : ¬ n = al) : cm_st F fd lim al (((0, t) :: K, V, E, n, c, ck, cf), X) = cm_w t K V E (n + 1) c ck cf X := by
  show (if (0 : Nat) = 0 then (if n = al then (Except.error (5, pm_pl t, (((0, t) :: K, V, E, n, c, ck, cf), X)) : Except (Nat × Int × cm_S) cm_S) else cm_w t K V E (n + 1) c ck cf X) else if (0 : Nat) = 1 then cm_d F fd lim t ((0, t) :: K) K V E n c ck cf X else if (0 : Nat) = 3 then Except.ok ((K, V, E, n, c, ck, cf), (sh_r (tm_id t) X.1, X.2)) else Except.ok ((K, V, E.tail, n, c, ck, cf), X)) = _
  rw [if_pos rfl, if_neg h]
theorem cm_st_x {n c : Nat} {t : Tm} {K : List (Nat × Tm)} {V : List Int64} {E : List (Nat → Int64)} {ck : Nat → Int32} {cf : Nat → Int64} {X : cm_X} (h : n = al) : cm_st F fd lim al (((0, t) :: K, V, E, n, c, ck, cf), X) = .error (5, pm_pl t, (((0, t) :: K, V, E, n, c, ck, cf), X)) := by
  show (if (0 : Nat) = 0 then (if n = al then (Except.error (5, pm_pl t, (((0, t) :: K, V, E, n, c, ck, cf), X)) : Except (Nat × Int × cm_S) cm_S) else cm_w t K V E (n + 1) c ck cf X) else if (0 : Nat) = 1 then cm_d F fd lim t ((0, t) :: K) K V E n c ck cf X else if (0 : Nat) = 3 then Except.ok ((K, V, E, n, c, ck, cf), (sh_r (tm_id t) X.1, X.2)) else Except.ok ((K, V, E.tail, n, c, ck, cf), X)) = _
  rw [if_pos rfl, if_pos h]
theorem cm_st_2 {n c : Nat} {t : Tm} {K : List (Nat × Tm)} {V : List Int64} {E : List (Nat → Int64)} {ck : Nat → Int32} {cf : Nat → Int64} {X : cm_X} : cm_st F fd lim al (((2, t) :: K, V, E, n, c, ck, cf), X) = .ok ((K, V, E.tail, n, c, ck, cf), X) := rfl
theorem cm_st_3 {n c : Nat} {t : Tm} {K : List (Nat × Tm)} {V : List Int64} {E : List (Nat → Int64)} {ck : Nat → Int32} {cf : Nat → Int64} {X : cm_X} : cm_st F fd lim al (((3, t) :: K, V, E, n, c, ck, cf), X) = .ok ((K, V, E, n, c, ck, cf), (sh_r (tm_id t) X.1, X.2)) := rfl
theorem rc_lv {m : Nat} (h : rCS B J z zk fd bh ma F lim al s0 gi tw tp (m + 1) va vd sl pr o n ck gc cf fr fc sh sa sq sc md ru mo db om) (hw : (tw m).toInt = 3) : ∃ o', o = o' + 1 ∧ rCS B J z zk fd bh ma F lim al s0 gi tw tp m va vd sl pr o' n ck gc cf fr fc sh sa sq sc md ru mo db om := by
  obtain ⟨K, V, E, c, ck', cf', S, ph, lv, gA, d, h1, ⟨h2, h3⟩, h4, h5, h6, h7, h8, h9, h10⟩ := h
  match K, h1, h3, h4, h5, h7, h10 with
  | [], _, _, _, h5, _, _ => exact absurd h5 (Nat.succ_ne_zero _)
  | (j, t) :: K, h1, h3, h4, h5, h7, h10 =>
    obtain ⟨m', e, r, g⟩ := h5
    obtain rfl : m' = m := by omega
    have ej : j = 2 := by rcases g with ⟨g, -⟩ | g | g <;> omega
    subst ej
    obtain ⟨e, E', o', q1, q2, q3⟩ := h3
    subst q1
    subst q2
    obtain ⟨-, d2, q4, q5⟩ : 2 = 2 ∧ ∃ d, d ≤ 24 ∧ rNc ph zk fd sl K E' o' d := by
      rcases q3 with q | q | q
      · exact q
      · exact absurd q.1 (by decide)
      · exact absurd q.1 (by decide)
    refine ⟨o', rfl, K, V, E', c, ck', cf', S, ph, lv, gA, d2, cm_re_s h1 cm_st_2, ⟨q4, q5⟩, h4.2, r, h6, hZ_R h7 (fun x => ?_), h8, h9, ?_⟩
    · show mRv V x + mRn E' K x = mRv V x + mRn (e :: E') ((2, t) :: K) x
      rw [mRn_2]
    · rcases h10 with ⟨-, o2, q, h⟩ | ⟨q, -⟩ | ⟨q, -⟩
      · obtain rfl : o2 = o' := by omega
        exact h
      · exact absurd q (by decide)
      · exact absurd rfl q
theorem rc_pop {m : Nat} (h : rCS B J z zk fd bh ma F lim al s0 gi tw tp (m + 1) va vd sl pr o n ck gc cf fr fc sh sa sq sc md ru mo db om) {j : Nat} (hj : j = 0 ∨ j = 1) (hw : (tw m).toInt = (j : Int)) : rCH B J z zk fd bh ma F lim al s0 gi tw tp m va vd sl pr o n ck gc cf fr fc sh sa sq sc md ru mo db om j (tp m) := by
  obtain ⟨K, V, E, c, ck', cf', S, ph, lv, gA, d, h1, ⟨h2, h3⟩, h4, h5, h6, h7, h8, h9, h10⟩ := h
  match K, h1, h3, h4, h5, h7, h10 with
  | [], _, _, _, h5, _, _ => exact absurd h5 (Nat.succ_ne_zero _)
  | (i, t) :: K, h1, h3, h4, h5, h7, h10 =>
    obtain ⟨m', e, r, g⟩ := h5
    obtain rfl : m' = m := by omega
    have g2 : i = j ∧ rAt B J z t (tp m') ∧ sy_x t ∧ ∀ q, q < 32 → zbit (bh (Int32.toNatClampNeg (tp m'))) q = nF K q := by
      rcases g with ⟨g, g2⟩ | g | g
      · exact ⟨by omega, g2⟩
      · omega
      · omega
    obtain ⟨rfl, g3, g4, g5⟩ := g2
    obtain ⟨e, E', o', d2, rfl, rfl, b1, b2, b3, b4⟩ := rNc_t h3 hj
    refine ⟨t, K, V, e, E', c, ck', cf', S, ph, lv, gA, o', d2, h1, ⟨g3, g4, g5⟩, ⟨rfl, by omega, b2, b3, b4⟩, h4, r, h6, h7, h8, h9, ?_⟩
    rcases h10 with ⟨q, -⟩ | ⟨q, -⟩ | ⟨-, -, q⟩
    · omega
    · omega
    · exact q
theorem rc_1 (h : rCH B J z zk fd bh ma F lim al s0 gi tw tp ts va vd sl pr o n ck gc cf fr fc sh sa sq sc md ru mo db om 0 k) (hn : n ≠ al) (hw : (B 0 (Int32.toNatClampNeg k)).toInt = 1) (hp : zTl va va2 vd (pv0 (B 2 (Int32.toNatClampNeg k)))) : rCS B J z zk fd bh ma F lim al s0 gi tw tp ts va2 (vd + 1) sl pr o (n + 1) ck gc cf fr fc sh sa sq sc md ru mo db om := by
  obtain ⟨t, K, V, e', E', c, ck', cf', S, ph, lv, gA, o', d, h1, ⟨h2, h3, h4⟩, ⟨h5, h6, h7, h8, h9⟩, h10, r1, r2, r3, r4, r5, r6⟩ := h
  obtain ⟨k0, kz, kp, kc⟩ := rA_c t h3 h2 rfl h7
  rcases kc with q | q | q | q | q | q
  · obtain ⟨-, q1, q2⟩ := q
    have hnf : ∀ i, nF K i = nF ((0, t) :: K) i := fun i => by rw [nF_0, q1 i, Bool.false_or]
    have hv0 : zhs (pv0 (B 2 (Int32.toNatClampNeg k))) ≠ 2 := by unfold pv0; rw [(zof_int _).1]; decide
    subst h5
    refine ⟨K, _, _, c, ck', cf', S, ph, lv, gA, d, cm_re_s h1 ((cm_st_0 hn).trans (q2 _ _ _ _ _ _ _ _)), ⟨h6, h9⟩, rPb_n h10 (fun _ _ => rfl) (fun j hj => by rw [hnf j]; exact h10.1 j hj) rfl, r1, rVc_pu r2 hp (Or.inl ⟨hv0, rfl⟩), hZ_R r3 (fun x => ?_), r4, r5, r6⟩
    show (zr _ x + mRv V x) + mRn (e' :: E') K x = mRv V x + mRn (e' :: E') ((0, t) :: K) x
    rw [zr_n hv0, mRn_e (K2 := K) (K := (0, t) :: K) (e := e') (fun i _ => hnf i) rfl (fun _ _ _ => rfl)]; omega
  · exact absurd q.1 (by omega)
  · exact absurd q.1 (by omega)
  · exact absurd q.1 (by omega)
  · exact absurd q.1 (by omega)
  · exact absurd q.1 (by omega)
end

end
section
/-! the reference's counted run: works -/
/-- one task taken, all names said -/
def rCO (B : Nat → Nat → Int32) (J : Nat → Int64 → Prop) (z zk : Nat) (fd bh ma : Nat → Int32) (F : sp_F) (lim : Int) (al : Nat) (s0 : cm_S) (gi : Int) (tw tp : Nat → Int32) (ts : Nat) (va : Nat → Int64) (vd : Nat) (sl : Nat → Int64) (pr : Nat → Int32) (o n : Nat) (ck gc : Nat → Int32) (cf : Nat → Int64) (fr : Nat → Int32) (fc : Int) (sh sa sq : Nat → Int32) (sc md ru : Nat) (mo : Int) (db om : Nat) (j : Nat) (k : Int32) (t : Tm) (K : List (Nat × Tm)) (V : List Int64) (e : Nat → Int64) (E' : List (Nat → Int64)) (c : Nat) (ck' : Nat → Int32) (cf' : Nat → Int64) (S : List (Nat × Nat × Nat)) (ph : Nat → Nat) (lv : Nat → Bool) (gA : Nat → Int) (o' d : Nat) : Prop :=
  cm_re F fd lim al s0 (((j, t) :: K, V, e :: E', n, c, ck', cf'), (S, md, ru, mo, db, om)) ∧ (rAt B J z t k ∧ sy_x t ∧ ∀ i, i < 32 → zbit (bh (Int32.toNatClampNeg k)) i = nF K i) ∧ (o = o' + 1 ∧ d ≤ 24 ∧ tm_wf zk fd t d ∧ (∀ i, pm_nd j t i = true → vr ph (e i) (sl (24 * o' + i))) ∧ rNc ph zk fd sl K (e :: E') (o' + 1) d) ∧ rPb pr o ((j, t) :: K) ∧ rCSr B J z zk fd bh ma gi tw tp ts va vd ck gc cf fr fc sh sa sq sc K ((j, t) :: K) V (e :: E') c ck' cf' S ph lv gA o
section
variable {B : Nat → Nat → Int32} {J : Nat → Int64 → Prop} {z zk : Nat} {fd us bh ma : Nat → Int32} {F : sp_F} {lim : Int} {al : Nat} {s0 : cm_S} {gi : Int} {tw tp w1 p1 w2 p2 w3 p3 : Nat → Int32} {ts : Nat} {va va2 : Nat → Int64} {vd : Nat} {sl : Nat → Int64} {pr pr2 : Nat → Int32} {o n : Nat} {ck gc gc2 : Nat → Int32} {cf : Nat → Int64} {fr : Nat → Int32} {fc : Int} {sh sa sq : Nat → Int32} {sc md ru : Nat} {mo : Int} {db db2 om : Nat} {k : Int32} {t : Tm} {K : List (Nat × Tm)} {V : List Int64} {e' : Nat → Int64} {E' : List (Nat → Int64)} {c : Nat} {ck' : Nat → Int32} {cf' : Nat → Int64} {S : List (Nat × Nat × Nat)} {ph : Nat → Nat} {lv : Nat → Bool} {gA gA2 : Nat → Int} {o' d : Nat}
/-- a name's use: needed behind it -/
theorem rc_2y (h : rCO B J z zk fd bh ma F lim al s0 gi tw tp ts va vd sl pr o n ck gc cf fr fc sh sa sq sc md ru mo db om 0 k t K V e' E' c ck' cf' S ph lv gA o' d) (hn : n ≠ al) (hw : (B 0 (Int32.toNatClampNeg k)).toInt = 2) (hs : Int32.toNatClampNeg (B 2 (Int32.toNatClampNeg k)) < 24) (hb : zbit (bh (Int32.toNatClampNeg k)) (Int32.toNatClampNeg (B 2 (Int32.toNatClampNeg k))) = true) (hz : hZ ph lv gA2 c (cWd fd ck') ck' cf' (fun x => mRt ((0, t) :: K) V (e' :: E') x + zr (e' (Int32.toNatClampNeg (B 2 (Int32.toNatClampNeg k)))) x) (sIs S) ck gc2 cf) (hd : db2 = db + if zhs (e' (Int32.toNatClampNeg (B 2 (Int32.toNatClampNeg k)))) = 2 then 1 else 0) (hp : zTl va va2 vd (sl (24 * (o - 1) + Int32.toNatClampNeg (B 2 (Int32.toNatClampNeg k))))) : rCS B J z zk fd bh ma F lim al s0 gi tw tp ts va2 (vd + 1) sl pr o (n + 1) ck gc2 cf fr fc sh sa sq sc md ru mo db2 om := by
  obtain ⟨h1, ⟨h2, h3, h4⟩, ⟨h5, h6, h7, h8, h9⟩, h10, r1, r2, r3, r4, r5, r6⟩ := h
  obtain ⟨k0, kz, kp, kc⟩ := rA_c t h3 h2 rfl h7
  rcases kc with q | q | q | q | q | q
  · exact absurd q.1 (by omega)
  · obtain ⟨-, -, q1, q2⟩ := q
    have nb : nF K (Int32.toNatClampNeg (B 2 (Int32.toNatClampNeg k))) = true := by rw [← h4 _ (by omega)]; exact hb
    have hnf : ∀ i, nF K i = nF ((0, t) :: K) i := fun i => by
      rw [nF_0, q1 i]
      by_cases g : i = Int32.toNatClampNeg (B 2 (Int32.toNatClampNeg k))
      · rw [g, nb, Bool.or_true]
      · rw [beq_false_of_ne g, Bool.false_or]
    subst h5
    rw [Nat.add_sub_cancel] at hp
    have hv := h8 _ (show tm_ub t (Int32.toNatClampNeg (B 2 (Int32.toNatClampNeg k))) = true by rw [q1 _, beq_self_eq_true])
    have hst := q2 K V (e' :: E') (n + 1) c ck' cf' (S, md, ru, mo, db, om)
    rw [show (e' :: E').headD (fun _ => 0) = e' from rfl] at hst
    have ed : (if nF K (Int32.toNatClampNeg (B 2 (Int32.toNatClampNeg k))) = true ∧ zhs (e' (Int32.toNatClampNeg (B 2 (Int32.toNatClampNeg k)))) = 2 then 1 else 0 : Nat) = if zhs (e' (Int32.toNatClampNeg (B 2 (Int32.toNatClampNeg k)))) = 2 then 1 else 0 := by
      by_cases g : zhs (e' (Int32.toNatClampNeg (B 2 (Int32.toNatClampNeg k)))) = 2
      · rw [if_pos ⟨nb, g⟩, if_pos g]
      · rw [if_neg (fun u => g u.2), if_neg g]
    rw [ed] at hst
    subst hd
    refine ⟨K, _, _, c, ck', cf', S, ph, lv, gA2, d, cm_re_s h1 ((cm_st_0 hn).trans hst), ⟨h6, h9⟩, rPb_n h10 (fun _ _ => rfl) (fun j hj => by rw [hnf j]; exact h10.1 j hj) rfl, r1, rVc_pu r2 hp hv, hZ_R hz (fun x => ?_), r4, r5, r6⟩
    show (zr _ x + mRv V x) + mRn (e' :: E') K x = (mRv V x + mRn (e' :: E') ((0, t) :: K) x) + zr _ x
    rw [mRn_e (K2 := K) (K := (0, t) :: K) (e := e') (fun i _ => hnf i) rfl (fun _ _ _ => rfl)]; omega
  · exact absurd q.1 (by omega)
  · exact absurd q.1 (by omega)
  · exact absurd q.1 (by omega)
  · exact absurd q.1 (by omega)
/-- a name's last use -/
theorem rc_2n (h : rCO B J z zk fd bh ma F lim al s0 gi tw tp ts va vd sl pr o n ck gc cf fr fc sh sa sq sc md ru mo db om 0 k t K V e' E' c ck' cf' S ph lv gA o' d) (hn : n ≠ al) (hw : (B 0 (Int32.toNatClampNeg k)).toInt = 2) (hs : Int32.toNatClampNeg (B 2 (Int32.toNatClampNeg k)) < 24) (hb : zbit (bh (Int32.toNatClampNeg k)) (Int32.toNatClampNeg (B 2 (Int32.toNatClampNeg k))) = false) (hx : ∀ i, i ≠ o - 1 → pr2 i = pr i) (hpb : ∀ j, j < 32 → zbit (pr2 (o - 1)) j = (zbit (pr (o - 1)) j && !(j == Int32.toNatClampNeg (B 2 (Int32.toNatClampNeg k))))) (hp : zTl va va2 vd (sl (24 * (o - 1) + Int32.toNatClampNeg (B 2 (Int32.toNatClampNeg k))))) : rCS B J z zk fd bh ma F lim al s0 gi tw tp ts va2 (vd + 1) sl pr2 o (n + 1) ck gc cf fr fc sh sa sq sc md ru mo db om := by
  obtain ⟨h1, ⟨h2, h3, h4⟩, ⟨h5, h6, h7, h8, h9⟩, h10, r1, r2, r3, r4, r5, r6⟩ := h
  obtain ⟨k0, kz, kp, kc⟩ := rA_c t h3 h2 rfl h7
  rcases kc with q | q | q | q | q | q
  · exact absurd q.1 (by omega)
  · obtain ⟨-, -, q1, q2⟩ := q
    have nb : nF K (Int32.toNatClampNeg (B 2 (Int32.toNatClampNeg k))) = false := by rw [← h4 _ (by omega)]; exact hb
    have hnf : ∀ i, nF ((0, t) :: K) i = ((i == Int32.toNatClampNeg (B 2 (Int32.toNatClampNeg k))) || nF K i) := fun i => by rw [nF_0, q1 i]
    subst h5
    rw [Nat.add_sub_cancel] at hp hx hpb
    have hv := h8 _ (show tm_ub t (Int32.toNatClampNeg (B 2 (Int32.toNatClampNeg k))) = true by rw [q1 _, beq_self_eq_true])
    have hst := q2 K V (e' :: E') (n + 1) c ck' cf' (S, md, ru, mo, db, om)
    rw [show (e' :: E').headD (fun _ => 0) = e' from rfl, if_neg (fun u => by rw [nb] at u; cases u.1)] at hst
    refine ⟨K, _, _, c, ck', cf', S, ph, lv, gA, d, cm_re_s h1 ((cm_st_0 hn).trans hst), ⟨h6, h9⟩, rPb_n h10 (fun i hi => hx i (by omega)) (fun j hj => ?_) rfl, r1, rVc_pu r2 hp hv, hZ_R r3 (fun x => ?_), r4, r5, r6⟩
    · rw [hpb j hj, h10.1 j hj, hnf j]
      by_cases g : j = Int32.toNatClampNeg (B 2 (Int32.toNatClampNeg k))
      · rw [g, nb, beq_self_eq_true]; rfl
      · rw [beq_false_of_ne g, Bool.false_or]
        cases nF K j <;> rfl
    · show (zr _ x + mRv V x) + mRn (e' :: E') K x = mRv V x + mRn (e' :: E') ((0, t) :: K) x
      rw [mRn_u (s := Int32.toNatClampNeg (B 2 (Int32.toNatClampNeg k))) (e := e') hnf rfl hs nb]; omega
  · exact absurd q.1 (by omega)
  · exact absurd q.1 (by omega)
  · exact absurd q.1 (by omega)
  · exact absurd q.1 (by omega)
/-- a sign -/
theorem rc_5 {x1 x2 x3 : Int32} (h : rCO B J z zk fd bh ma F lim al s0 gi tw tp ts va vd sl pr o n ck gc cf fr fc sh sa sq sc md ru mo db om 0 k t K V e' E' c ck' cf' S ph lv gA o' d) (hu : ∀ (t : Tm) (k : Int32), sy_x t → rAt B J z t k → ∀ j, j < 32 → zbit (us (Int32.toNatClampNeg k)) j = tm_ub t j) (hb1 : ∀ j, j < 32 → zbit (bh (Int32.toNatClampNeg (B 3 (Int32.toNatClampNeg k)))) j = (zbit (bh (Int32.toNatClampNeg k)) j || zbit (us (Int32.toNatClampNeg (B 4 (Int32.toNatClampNeg k)))) j)) (hb2 : bh (Int32.toNatClampNeg (B 4 (Int32.toNatClampNeg k))) = bh (Int32.toNatClampNeg k)) (hn : n ≠ al) (hw : (B 0 (Int32.toNatClampNeg k)).toInt = 5) (hx1 : x1.toInt = 1) (hx2 : x2.toInt = 0) (hx3 : x3.toInt = 0) (a1 : zTa tw w1 ts x1) (b1 : zTa tp p1 ts k) (a2 : zTa w1 w2 (ts + 1) x2) (b2 : zTa p1 p2 (ts + 1) (B 4 (Int32.toNatClampNeg k))) (a3 : zTa w2 w3 (ts + 2) x3) (b3 : zTa p2 p3 (ts + 2) (B 3 (Int32.toNatClampNeg k))) : rCS B J z zk fd bh ma F lim al s0 gi w3 p3 (ts + 3) va vd sl pr o (n + 1) ck gc cf fr fc sh sa sq sc md ru mo db om := by
  obtain ⟨h1, ⟨h2, h3, h4⟩, ⟨h5, h6, h7, h8, h9⟩, h10, r1, r2, r3, r4, r5, r6⟩ := h
  obtain ⟨k0, kz, kp, kc⟩ := rA_c t h3 h2 rfl h7
  rcases kc with q | q | q | q | q | q
  · exact absurd q.1 (by omega)
  · exact absurd q.1 (by omega)
  · exact absurd q.1 (by omega)
  · obtain ⟨-, x, y, t2, ⟨c1, c2, c3⟩, ⟨d1, d2, d3⟩, ⟨q4, q5, q6, q7⟩, q8, q9⟩ := q
    have n1 : ∀ i, nF ((1, t2) :: K) i = nF K i := fun i => by rw [nF_1, q7 i, Bool.false_or]
    have n2 : ∀ i, nF ((0, x) :: (0, y) :: (1, t2) :: K) i = nF ((0, t) :: K) i := fun i => by rw [nF_0, nF_0, n1 i, nF_0, q8 i, Bool.or_assoc]
    subst h5
    refine ⟨_, _, _, c, ck', cf', S, ph, lv, gA, d, cm_re_s h1 ((cm_st_0 hn).trans (q9 _ _ _ _ _ _ _ _)), ⟨h6, ?_⟩, rPb_n h10 (fun _ _ => rfl) (fun j hj => by rw [n2 j]; exact h10.1 j hj) rfl, ?_, r2, hZ_R r3 (fun w => ?_), r4, r5, ?_⟩
    · exact rNc_c (Or.inl rfl) c3 (fun i g => h8 i (by show tm_ub t i = true; rw [q8 i, show tm_ub x i = true from g]; rfl)) (rNc_c (Or.inl rfl) d3 (fun i g => h8 i (by show tm_ub t i = true; rw [q8 i, show tm_ub y i = true from g, Bool.or_true])) (rNc_c (Or.inr rfl) q6 (fun i g => by have g : tm_dn t2 i = true := g; rw [q7 i] at g; cases g) h9))
    · refine rTc_a (rTc_a (rTc_a r1 a1 b1 (Or.inl ⟨Or.inr ⟨rfl, hx1⟩, q4, q5, h4⟩)) a2 b2 (Or.inl ⟨Or.inl ⟨rfl, hx2⟩, d1, d2, fun i hi => by rw [hb2, h4 i hi, n1 i]⟩)) a3 b3 (Or.inl ⟨Or.inl ⟨rfl, hx3⟩, c1, c2, fun i hi => ?_⟩)
      rw [hb1 i hi, h4 i hi, hu y _ d2 d1 i hi, nF_0, n1 i, Bool.or_comm]
    · show mRv V w + mRn (e' :: E') _ w = mRv V w + mRn (e' :: E') ((0, t) :: K) w
      rw [mRn_e (K2 := (0, x) :: (0, y) :: (1, t2) :: K) (K := (0, t) :: K) (e := e') (fun i _ => n2 i) rfl (fun _ _ _ => rfl)]
    · exact Or.inr (Or.inr ⟨by decide, by decide, Or.inr (Or.inr ⟨by decide, by decide, Or.inr (Or.inr ⟨by decide, by decide, r6⟩)⟩)⟩)
  · exact absurd q.1 (by omega)
  · exact absurd q.1 (by omega)
end

end
