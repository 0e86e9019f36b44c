section
theorem dX14_isGood_0 : decode cX14_isGood 0 = .ok (.aload_n 0, 1) := by decide +kernel
theorem dX14_isGood_1 : decode cX14_isGood 1 = .ok (.getfield 359, 3) := by decide +kernel
theorem dX14_isGood_4 : decode cX14_isGood 4 = .ok (.ifCond .eq 33, 3) := by decide +kernel
theorem dX14_isGood_7 : decode cX14_isGood 7 = .ok (.iload_n 1, 1) := by decide +kernel
theorem dX14_isGood_8 : decode cX14_isGood 8 = .ok (.ifCond .lt 29, 3) := by decide +kernel
theorem dX14_isGood_11 : decode cX14_isGood 11 = .ok (.iload_n 1, 1) := by decide +kernel
theorem dX14_isGood_12 : decode cX14_isGood 12 = .ok (.aload_n 0, 1) := by decide +kernel
theorem dX14_isGood_13 : decode cX14_isGood 13 = .ok (.getfield 23, 3) := by decide +kernel
theorem dX14_isGood_16 : decode cX14_isGood 16 = .ok (.getfield 230, 3) := by decide +kernel
theorem dX14_isGood_19 : decode cX14_isGood 19 = .ok (.if_icmp .ge 18, 3) := by decide +kernel
theorem dX14_isGood_22 : decode cX14_isGood 22 = .ok (.iload_n 2, 1) := by decide +kernel
theorem dX14_isGood_23 : decode cX14_isGood 23 = .ok (.ifCond .lt 14, 3) := by decide +kernel
theorem dX14_isGood_26 : decode cX14_isGood 26 = .ok (.iload_n 2, 1) := by decide +kernel
theorem dX14_isGood_27 : decode cX14_isGood 27 = .ok (.sipush 20000, 3) := by decide +kernel
theorem dX14_isGood_30 : decode cX14_isGood 30 = .ok (.if_icmp .gt 7, 3) := by decide +kernel
theorem dX14_isGood_33 : decode cX14_isGood 33 = .ok (.iconst 1, 1) := by decide +kernel
theorem dX14_isGood_34 : decode cX14_isGood 34 = .ok (.goto 4, 3) := by decide +kernel
theorem dX14_isGood_37 : decode cX14_isGood 37 = .ok (.iconst 0, 1) := by decide +kernel
theorem dX14_isGood_38 : decode cX14_isGood 38 = .ok (.ireturn, 1) := by decide +kernel
theorem dX14_release_0 : decode cX14_release 0 = .ok (.aload_n 0, 1) := by decide +kernel
theorem dX14_release_1 : decode cX14_release 1 = .ok (.iconst 0, 1) := by decide +kernel
theorem dX14_release_2 : decode cX14_release 2 = .ok (.putfield 105, 3) := by decide +kernel
theorem dX14_release_5 : decode cX14_release 5 = .ok (.aload_n 0, 1) := by decide +kernel
theorem dX14_release_6 : decode cX14_release 6 = .ok (.getfield 366, 3) := by decide +kernel
theorem dX14_release_9 : decode cX14_release 9 = .ok (.ifCond .ne 5, 3) := by decide +kernel
theorem dX14_release_12 : decode cX14_release 12 = .ok (.iconst (-1), 1) := by decide +kernel
theorem dX14_release_13 : decode cX14_release 13 = .ok (.ireturn, 1) := by decide +kernel
theorem dX14_release_14 : decode cX14_release 14 = .ok (.aload_n 0, 1) := by decide +kernel
theorem dX14_release_15 : decode cX14_release 15 = .ok (.getfield 389, 3) := by decide +kernel
theorem dX14_release_18 : decode cX14_release 18 = .ok (.istore_n 1, 1) := by decide +kernel
theorem dX14_release_19 : decode cX14_release 19 = .ok (.aload_n 0, 1) := by decide +kernel
theorem dX14_release_20 : decode cX14_release 20 = .ok (.aload_n 0, 1) := by decide +kernel
theorem dX14_release_21 : decode cX14_release 21 = .ok (.getfield 512, 3) := by decide +kernel
theorem dX14_release_24 : decode cX14_release 24 = .ok (.invokevirtual 413, 3) := by decide +kernel
theorem dX14_release_27 : decode cX14_release 27 = .ok (.aload_n 0, 1) := by decide +kernel
theorem dX14_release_28 : decode cX14_release 28 = .ok (.iconst 0, 1) := by decide +kernel
theorem dX14_release_29 : decode cX14_release 29 = .ok (.putfield 366, 3) := by decide +kernel
theorem dX14_release_32 : decode cX14_release 32 = .ok (.aload_n 0, 1) := by decide +kernel
theorem dX14_release_33 : decode cX14_release 33 = .ok (.getfield 389, 3) := by decide +kernel
theorem dX14_release_36 : decode cX14_release 36 = .ok (.iload_n 1, 1) := by decide +kernel
theorem dX14_release_37 : decode cX14_release 37 = .ok (.isub, 1) := by decide +kernel
theorem dX14_release_38 : decode cX14_release 38 = .ok (.ireturn, 1) := by decide +kernel
theorem zHD_s0 {lv : Nat → Bool} {fr sh sh2 : Nat → Int32} {fc sc sc2 : Int} (h : zHD lv fr sh fc sc) (h0 : sc2 = 0) : zHD lv fr sh2 fc sc2 := ⟨h.1, h.2.1, fun i hi => absurd hi (by omega), fun i j _ hj => absurd hj (by omega), fun i j _ hj => absurd hj (by omega)⟩
/-- all cells are free -/
theorem zH_new {pl kz : Int32} {fd gk gc : Nat → Int32} {gv : Nat → Int64} {db : Int} {fr sh : Nat → Int32} {fc sc np : Int} (hp : pl.toInt = 0) (hf : ∀ i : Nat, (i : Int) < fc → (fr i).toInt = (i : Int)) (h0 : 0 ≤ fc) (h4 : fc ≤ 400) (hs : sc = 0) (hd : 0 ≤ db) : zH pl kz fd gk gc gv (fun _ => false) (fun _ => 0) db fr sh fc sc np := by
  have hct : ∀ c, zct zr 400 (fun _ => false) (zHw fd gk) gv c = 0 := fun c => zs_z (fun d _ => if_neg (fun g => Bool.noConfusion g))
  refine ⟨fun d g => Bool.noConfusion g, fun _ => Int.le_refl _, fun _ _ => rfl, h0, by omega, hd, Or.inl ⟨hp, ⟨fun c g => Bool.noConfusion g, fun c _ => ⟨rfl, hct c⟩, fun _ => Int.le_refl _⟩, ⟨fun i hi => ?_, fun i j h1 h2 => ?_, fun i hi => absurd hi (by omega), fun i j _ hj => absurd hj (by omega), fun i j _ hj => absurd hj (by omega)⟩⟩⟩
  · have := hf i hi; exact ⟨by omega, by omega, rfl⟩
  · have := hf i (by omega); have := hf j h2; omega
/-- no plain cell yet -/
theorem zH_newp {pl kz : Int32} {fd gk gc : Nat → Int32} {gv : Nat → Int64} {db : Int} {fr sh : Nat → Int32} {fc sc np : Int} (hp : pl.toInt ≠ 0) (h0 : 0 ≤ fc) (hs : sc = 0) (hd : 0 ≤ db) (hn : np = 0) : zH pl kz fd gk gc gv (fun _ => false) (fun _ => 0) db fr sh fc sc np :=
  ⟨fun d g => Bool.noConfusion g, fun _ => Int.le_refl _, fun _ _ => rfl, h0, by omega, hd, Or.inr ⟨hp, by omega, by omega, fun c => ⟨fun g => Bool.noConfusion g, fun g => absurd g (by omega)⟩, fun d g => Bool.noConfusion g⟩⟩
/-- rows that agree where counted cells lie -/
theorem zH_rows {pl kz : Int32} {fd gk gc gk2 gc2 : Nat → Int32} {gv gv2 : Nat → Int64} {lv : Nat → Bool} {R : Nat → Int} {db : Int} {fr sh fr2 sh2 : Nat → Int32} {fc sc sc2 np np2 : Int} (h : zH pl kz fd gk gc gv lv R db fr sh fc sc np) (hp : pl.toInt = 0) (ek : ∀ c, c < 400 → gk2 c = gk c) (ec : ∀ c, c < 400 → gc2 c = gc c) (ev : ∀ j, j < 1200 → gv2 j = gv j) (ef : fr2 = fr) (hs : sc2 = 0) : zH pl kz fd gk2 gc2 gv2 lv R db fr2 sh2 fc sc2 np2 := by
  obtain ⟨hK, hR, hF, a, b, d, g⟩ := h
  rcases g with ⟨p, hI, q⟩ | g
  · have l4 : ∀ c, lv c = true → c < 400 := fun c hc => (hI.1 c hc).1
    have ew : ∀ c, c < 400 → zHw fd gk2 c = zHw fd gk c := fun c hc => by unfold zHw; rw [ek c hc]
    have w3 : ∀ c, lv c = true → zHw fd gk c ≤ 3 := fun c hc => by
      have := (hK c hc).2.2.2.1
      unfold zHw; omega
    have e : ∀ c, zct zr 400 lv (zHw fd gk2) gv2 c = zct zr 400 lv (zHw fd gk) gv c := fun c => zs_ext (fun x hx => by
      by_cases u : lv x = true
      · rw [if_pos u, if_pos u]; unfold zcf; rw [ew x hx]
        exact zs_ext (fun k hk => by rw [ev _ (by have := w3 x u; omega)])
      · rw [if_neg u, if_neg u])
    refine ⟨fun c hc => ?_, hR, hF, a, by omega, d, Or.inl ⟨p, ⟨fun c hc => ?_, fun c hc => by rw [e c]; exact hI.2.1 c hc, hI.2.2⟩, by rw [ef]; exact zHD_s0 q hs⟩⟩
    · rw [ek c (l4 c hc), ew c (l4 c hc)]
      have t := hK c hc
      exact ⟨t.1, t.2.1, t.2.2.1, t.2.2.2.1, fun k hk => by rw [ev _ (by have := w3 c hc; have := l4 c hc; omega)]; exact t.2.2.2.2 k hk⟩
    · show _ ∧ 1 ≤ (gc2 c).toInt ∧ (gc2 c).toInt ≤ _ ∧ _ ≤ (gc2 c).toInt
      rw [e c, ec c (l4 c hc)]; exact hI.1 c hc
  · exact absurd hp g.1
/-- the plain value, for show -/
theorem zH_oth {pl kz : Int32} {fd gk gc ok : Nat → Int32} {gv ov : Nat → Int64} {lv : Nat → Bool} {v : Int64} {db : Int} {fr sh : Nat → Int32} {fc sc np : Int} (h : zH pl kz fd gk gc gv lv (fun c => zr v c) db fr sh fc sc np) (hp : pl.toInt ≠ 0) (hv : zHv kz fd v) (ek : ∀ c : Nat, (c : Int) < np → ok c = gk c) (ev : ∀ j : Nat, (j : Int) < 3 * np → ov j = gv j) : ∃ P : Nat → Prop, zVc P kz fd ok ov ∧ zVo P kz v := by
  have hvl : ∀ x : Int64, zHv kz fd x → (zhs x = 2 → lv (Int32.toNatClampNeg x.toInt32) = true) → zVo (fun c => lv c = true) kz x := fun x hx hl => by
    rcases hx with u | u | u
    · exact Or.inl u
    · exact Or.inr (Or.inl ⟨u.1, u.2.1, u.2.2.1⟩)
    · exact Or.inr (Or.inr ⟨u.1, u.2, hl u.1⟩)
  have hnp : ∀ c, lv c = true → (c : Int) < np := fun c hc => by
    rcases h.2.2.2.2.2.2 with ⟨p, -⟩ | ⟨-, -, -, g, -⟩
    · exact absurd p hp
    · exact (g c).mp hc
  refine ⟨fun c => lv c = true, fun c hc => ?_, hvl v hv (fun g => ?_)⟩
  · have hat := (zH_at h hc).1
    have hk := h.1 c hc
    have hn := hnp c hc
    rw [ek c hn]
    refine ⟨hat.1, hk.1, hk.2.1, hk.2.2.1, hk.2.2.2.1, fun k hk3 => ?_⟩
    have hw : k < zHw fd gk c := by unfold zHw; omega
    rw [ev _ (by omega)]
    exact hvl _ (hk.2.2.2.2 k hw) (fun g => zH_fl h hc hw g)
  · have h0 := zHv_c hv g
    refine zH_lv h ?_
    show 1 ≤ zr v _
    rw [zr_c g h0, if_pos rfl]; exact Int.le_refl _
/-- the value, for show -/
theorem zH_val0 {pl kz : Int32} {fd gk gc : Nat → Int32} {gv : Nat → Int64} {lv : Nat → Bool} {v : Int64} {db : Int} {fr sh : Nat → Int32} {fc sc np : Int} (h : zH pl kz fd gk gc gv lv (fun c => zr v c) db fr sh fc sc np) (hv : zHv kz fd v) : ∃ P : Nat → Prop, zVc P kz fd gk gv ∧ zVo P kz v := by
  have hvl : ∀ x : Int64, zHv kz fd x → (zhs x = 2 → lv (Int32.toNatClampNeg x.toInt32) = true) → zVo (fun c => lv c = true) kz x := fun x hx hl => by
    rcases hx with u | u | u
    · exact Or.inl u
    · exact Or.inr (Or.inl ⟨u.1, u.2.1, u.2.2.1⟩)
    · exact Or.inr (Or.inr ⟨u.1, u.2, hl u.1⟩)
  refine ⟨fun c => lv c = true, fun c hc => ?_, hvl v hv (fun g => ?_)⟩
  · have hat := (zH_at h hc).1
    have hk := h.1 c hc
    refine ⟨hat.1, hk.1, hk.2.1, hk.2.2.1, hk.2.2.2.1, fun k hk3 => ?_⟩
    have hw : k < zHw fd gk c := by unfold zHw; omega
    exact hvl _ (hk.2.2.2.2 k hw) (fun g => zH_fl h hc hw g)
  · have h0 := zHv_c hv g
    refine zH_lv h ?_
    show 1 ≤ zr v _
    rw [zr_c g h0, if_pos rfl]; exact Int.le_refl _

set_option maxHeartbeats 4000000 in
set_option maxRecDepth 100000 in
theorem c_X14_isGood_x (l : Launch) (dC : Nat → ClassId) (dI : Nat → Nat → Nat) (aK aV : Nat → Nat) (h0 : Nat) (m_thrown : Int32) (m_stop : Nat) (m_tape : Nat) (m_taped : Int32) (m_length : Int32) (m_at : Int32) (m_sort : Int32) (m_place : Int32) (m_sign : Int32) (m_letters : Int64) (m_p : Nat) (m_spare : Nat) (m_isTaken : Int32) (m_scope : Nat) (m_scoped : Int32) (m_deep : Int32) (m_counted : Int32) (m_fault : Int32) (m_where : Int32) (m_cellKind : Nat) (m_cellCount : Nat) (m_free : Nat) (m_pile : Nat) (m_cellField : Nat) (m_freeCount : Int32) (m_given : Int32) (m_nextPlain : Int32) (m_otherKind : Nat) (m_otherField : Nat) (m_isPlain : Int32) (m_hasRun : Int32) (m_hasValue : Int32) (m_hasOther : Int32) (m_value : Int64) (m_other : Int64) (m_steps : Int32) (m_made : Int32) (m_reused : Int32) (m_freed : Int32) (m_most : Int32) (m_doubled : Int32) (m_openMost : Int32) (m_taskWhat : Nat) (m_taskPart : Nat) (m_values : Nat) (m_tasks : Int32) (m_valued : Int32) (m_open : Int32) (m_slots : Nat) (m_present : Nat) (m_shell : Nat) (m_shellArm : Nat) (m_shellCall : Nat) (m_shells : Int32) (m_keptCounts : Nat) (m_asideKind : Nat) (m_asideCount : Nat) (m_asideField : Nat) (m_out : Nat) (m_side : Nat) (m_outs : Int32) (m_sides : Int32) (m_saying : Nat) (pr_what : Nat) (pr_place : Nat) (pr_own : Nat) (pr_one : Nat) (pr_two : Nat) (pr_three : Nat) (pr_beside : Nat) (pr_many : Nat) (pr_uses : Nat) (pr_behind : Nat) (pr_name : Nat) (pr_makes : Nat) (pr_parts : Int32) (pr_functionName : Nat) (pr_kindName : Nat) (pr_told : Nat) (pr_body : Nat) (pr_first : Nat) (pr_widest : Nat) (pr_fields : Nat) (pr_functions : Int32) (pr_kinds : Int32) (fn : Int32) (al : Int32) (sz : Nat)  : Met l yX14_isGood (Cond.code yX14_isGood cX14_isGood 3 (some .boolean) :: zw) ({ frames := 8, cells := 0, slots := 0, locals := 200 }) (va_Pc [.ref h0, .int fn, .int al] (zP dC dI aK aV sz [] [(h0, .inr (14, [.int m_thrown, .ref m_stop, .ref m_tape, .int m_taped, .int m_length, .int m_at, .int m_sort, .int m_place, .int m_sign, .long m_letters, .ref m_p, .ref m_spare, .int m_isTaken, .ref m_scope, .int m_scoped, .int m_deep, .int m_counted, .int m_fault, .int m_where, .ref m_cellKind, .ref m_cellCount, .ref m_free, .ref m_pile, .ref m_cellField, .int m_freeCount, .int m_given, .int m_nextPlain, .ref m_otherKind, .ref m_otherField, .int m_isPlain, .int m_hasRun, .int m_hasValue, .int m_hasOther, .long m_value, .long m_other, .int m_steps, .int m_made, .int m_reused, .int m_freed, .int m_most, .int m_doubled, .int m_openMost, .ref m_taskWhat, .ref m_taskPart, .ref m_values, .int m_tasks, .int m_valued, .int m_open, .ref m_slots, .ref m_present, .ref m_shell, .ref m_shellArm, .ref m_shellCall, .int m_shells, .ref m_keptCounts, .ref m_asideKind, .ref m_asideCount, .ref m_asideField, .ref m_out, .ref m_side, .int m_outs, .int m_sides, .ref m_saying])), (m_p, .inr (12, [.ref pr_what, .ref pr_place, .ref pr_own, .ref pr_one, .ref pr_two, .ref pr_three, .ref pr_beside, .ref pr_many, .ref pr_uses, .ref pr_behind, .ref pr_name, .ref pr_makes, .int pr_parts, .ref pr_functionName, .ref pr_kindName, .ref pr_told, .ref pr_body, .ref pr_first, .ref pr_widest, .ref pr_fields, .int pr_functions, .int pr_kinds]))])) (va_Qi (fun (r : Int32) (u : Unit) => (r.toInt = 0 ∧ (m_isTaken.toInt = 0 ∨ fn.toInt < 0 ∨ pr_functions.toInt ≤ fn.toInt ∨ al.toInt < 0 ∨ 20000 < al.toInt) ∨ r.toInt = 1 ∧ m_isTaken.toInt ≠ 0 ∧ 0 ≤ fn.toInt ∧ fn.toInt < pr_functions.toInt ∧ 0 ≤ al.toInt ∧ al.toInt ≤ 20000)) (fun u => zQ dC dI (va_A [(h0, .inr (14, [.int m_thrown, .ref m_stop, .ref m_tape, .int m_taped, .int m_length, .int m_at, .int m_sort, .int m_place, .int m_sign, .long m_letters, .ref m_p, .ref m_spare, .int m_isTaken, .ref m_scope, .int m_scoped, .int m_deep, .int m_counted, .int m_fault, .int m_where, .ref m_cellKind, .ref m_cellCount, .ref m_free, .ref m_pile, .ref m_cellField, .int m_freeCount, .int m_given, .int m_nextPlain, .ref m_otherKind, .ref m_otherField, .int m_isPlain, .int m_hasRun, .int m_hasValue, .int m_hasOther, .long m_value, .long m_other, .int m_steps, .int m_made, .int m_reused, .int m_freed, .int m_most, .int m_doubled, .int m_openMost, .ref m_taskWhat, .ref m_taskPart, .ref m_values, .int m_tasks, .int m_valued, .int m_open, .ref m_slots, .ref m_present, .ref m_shell, .ref m_shellArm, .ref m_shellCall, .int m_shells, .ref m_keptCounts, .ref m_asideKind, .ref m_asideCount, .ref m_asideField, .ref m_out, .ref m_side, .int m_outs, .int m_sides, .ref m_saying])), (m_p, .inr (12, [.ref pr_what, .ref pr_place, .ref pr_own, .ref pr_one, .ref pr_two, .ref pr_three, .ref pr_beside, .ref pr_many, .ref pr_uses, .ref pr_behind, .ref pr_name, .ref pr_makes, .int pr_parts, .ref pr_functionName, .ref pr_kindName, .ref pr_told, .ref pr_body, .ref pr_first, .ref pr_widest, .ref pr_fields, .int pr_functions, .int pr_kinds]))] sz) [] [(h0, .inr (14, [.int m_thrown, .ref m_stop, .ref m_tape, .int m_taped, .int m_length, .int m_at, .int m_sort, .int m_place, .int m_sign, .long m_letters, .ref m_p, .ref m_spare, .int m_isTaken, .ref m_scope, .int m_scoped, .int m_deep, .int m_counted, .int m_fault, .int m_where, .ref m_cellKind, .ref m_cellCount, .ref m_free, .ref m_pile, .ref m_cellField, .int m_freeCount, .int m_given, .int m_nextPlain, .ref m_otherKind, .ref m_otherField, .int m_isPlain, .int m_hasRun, .int m_hasValue, .int m_hasOther, .long m_value, .long m_other, .int m_steps, .int m_made, .int m_reused, .int m_freed, .int m_most, .int m_doubled, .int m_openMost, .ref m_taskWhat, .ref m_taskPart, .ref m_values, .int m_tasks, .int m_valued, .int m_open, .ref m_slots, .ref m_present, .ref m_shell, .ref m_shellArm, .ref m_shellCall, .int m_shells, .ref m_keptCounts, .ref m_asideKind, .ref m_asideCount, .ref m_asideField, .ref m_out, .ref m_side, .int m_outs, .int m_sides, .ref m_saying])), (m_p, .inr (12, [.ref pr_what, .ref pr_place, .ref pr_own, .ref pr_one, .ref pr_two, .ref pr_three, .ref pr_beside, .ref pr_many, .ref pr_uses, .ref pr_behind, .ref pr_name, .ref pr_makes, .int pr_parts, .ref pr_functionName, .ref pr_kindName, .ref pr_told, .ref pr_body, .ref pr_first, .ref pr_widest, .ref pr_fields, .int pr_functions, .int pr_kinds]))]) (va_A [(h0, .inr (14, [.int m_thrown, .ref m_stop, .ref m_tape, .int m_taped, .int m_length, .int m_at, .int m_sort, .int m_place, .int m_sign, .long m_letters, .ref m_p, .ref m_spare, .int m_isTaken, .ref m_scope, .int m_scoped, .int m_deep, .int m_counted, .int m_fault, .int m_where, .ref m_cellKind, .ref m_cellCount, .ref m_free, .ref m_pile, .ref m_cellField, .int m_freeCount, .int m_given, .int m_nextPlain, .ref m_otherKind, .ref m_otherField, .int m_isPlain, .int m_hasRun, .int m_hasValue, .int m_hasOther, .long m_value, .long m_other, .int m_steps, .int m_made, .int m_reused, .int m_freed, .int m_most, .int m_doubled, .int m_openMost, .ref m_taskWhat, .ref m_taskPart, .ref m_values, .int m_tasks, .int m_valued, .int m_open, .ref m_slots, .ref m_present, .ref m_shell, .ref m_shellArm, .ref m_shellCall, .int m_shells, .ref m_keptCounts, .ref m_asideKind, .ref m_asideCount, .ref m_asideField, .ref m_out, .ref m_side, .int m_outs, .int m_sides, .ref m_saying])), (m_p, .inr (12, [.ref pr_what, .ref pr_place, .ref pr_own, .ref pr_one, .ref pr_two, .ref pr_three, .ref pr_beside, .ref pr_many, .ref pr_uses, .ref pr_behind, .ref pr_name, .ref pr_makes, .int pr_parts, .ref pr_functionName, .ref pr_kindName, .ref pr_told, .ref pr_body, .ref pr_first, .ref pr_widest, .ref pr_fields, .int pr_functions, .int pr_kinds]))] sz)) 0 0 (va_A [(h0, .inr (14, [.int m_thrown, .ref m_stop, .ref m_tape, .int m_taped, .int m_length, .int m_at, .int m_sort, .int m_place, .int m_sign, .long m_letters, .ref m_p, .ref m_spare, .int m_isTaken, .ref m_scope, .int m_scoped, .int m_deep, .int m_counted, .int m_fault, .int m_where, .ref m_cellKind, .ref m_cellCount, .ref m_free, .ref m_pile, .ref m_cellField, .int m_freeCount, .int m_given, .int m_nextPlain, .ref m_otherKind, .ref m_otherField, .int m_isPlain, .int m_hasRun, .int m_hasValue, .int m_hasOther, .long m_value, .long m_other, .int m_steps, .int m_made, .int m_reused, .int m_freed, .int m_most, .int m_doubled, .int m_openMost, .ref m_taskWhat, .ref m_taskPart, .ref m_values, .int m_tasks, .int m_valued, .int m_open, .ref m_slots, .ref m_present, .ref m_shell, .ref m_shellArm, .ref m_shellCall, .int m_shells, .ref m_keptCounts, .ref m_asideKind, .ref m_asideCount, .ref m_asideField, .ref m_out, .ref m_side, .int m_outs, .int m_sides, .ref m_saying])), (m_p, .inr (12, [.ref pr_what, .ref pr_place, .ref pr_own, .ref pr_one, .ref pr_two, .ref pr_three, .ref pr_beside, .ref pr_many, .ref pr_uses, .ref pr_behind, .ref pr_name, .ref pr_makes, .int pr_parts, .ref pr_functionName, .ref pr_kindName, .ref pr_told, .ref pr_body, .ref pr_first, .ref pr_widest, .ref pr_fields, .int pr_functions, .int pr_kinds]))] sz) := by
  refine Met.ofW (cc := cX14_isGood) (maxL := 3) (ret := (some .boolean)) (by decide) rfl ?_
  intro p e s m args below meth c s₁ B hml hv
  obtain ⟨rfl, hsz, hP, hK, hD0, hN, hT⟩ := hv
  have hx := B.exec
  have hb := B.bytes
  have hr := B.returns
  have hts := atoms_spec (ws := Cond.code yX14_isGood cX14_isGood 3 (some .boolean) :: zw) B.pre
  have hA : ∀ w ∈ zw, w.before _ s = true := fun w h => hts w (List.mem_cons_of_mem _ h)
  have hown : s.vm.findClass RX14 = some m.cls := findClass_of_methodNamed B.named
  have hlocks := B.notSynchronized
  subst hsz
  have hD := hD0.self (sz := s.heap.size)
  generalize hAe : va_A [(h0, .inr (14, [.int m_thrown, .ref m_stop, .ref m_tape, .int m_taped, .int m_length, .int m_at, .int m_sort, .int m_place, .int m_sign, .long m_letters, .ref m_p, .ref m_spare, .int m_isTaken, .ref m_scope, .int m_scoped, .int m_deep, .int m_counted, .int m_fault, .int m_where, .ref m_cellKind, .ref m_cellCount, .ref m_free, .ref m_pile, .ref m_cellField, .int m_freeCount, .int m_given, .int m_nextPlain, .ref m_otherKind, .ref m_otherField, .int m_isPlain, .int m_hasRun, .int m_hasValue, .int m_hasOther, .long m_value, .long m_other, .int m_steps, .int m_made, .int m_reused, .int m_freed, .int m_most, .int m_doubled, .int m_openMost, .ref m_taskWhat, .ref m_taskPart, .ref m_values, .int m_tasks, .int m_valued, .int m_open, .ref m_slots, .ref m_present, .ref m_shell, .ref m_shellArm, .ref m_shellCall, .int m_shells, .ref m_keptCounts, .ref m_asideKind, .ref m_asideCount, .ref m_asideField, .ref m_out, .ref m_side, .int m_outs, .int m_sides, .ref m_saying])), (m_p, .inr (12, [.ref pr_what, .ref pr_place, .ref pr_own, .ref pr_one, .ref pr_two, .ref pr_three, .ref pr_beside, .ref pr_many, .ref pr_uses, .ref pr_behind, .ref pr_name, .ref pr_makes, .int pr_parts, .ref pr_functionName, .ref pr_kindName, .ref pr_told, .ref pr_body, .ref pr_first, .ref pr_widest, .ref pr_fields, .int pr_functions, .int pr_kinds]))] s.heap.size = A at hD hT ⊢
  have hAA : ∀ q : Nat, s.heap.size ≤ q → A q := fun q h => by rw [← hAe]; exact Or.inr h
  have hS : va_S A s.heap s.heap [] := va_S.rf
  have hl := lv_entry ([.ref h0, .int fn, .int al]) (n := 3) (Nat.le_of_ble_eq_true rfl)
  rw [lg_entry_eq]
  generalize (lg_sl ([.ref h0, .int fn, .int al]) ++ List.replicate (3 - (lg_sl ([.ref h0, .int fn, .int al])).length) Slot.unset).toArray = ls at hl ⊢
  have hl : lv_has ls 3 [(0, .ref h0), (1, .int fn), (2, .int al)] := hl
  refine lv_aload_n hx hb dX14_isGood_0 rfl (lv_at hl 0 rfl) ?_
  refine va_get (D := (dC, dI)) (ci := 14) (v := .int m_isTaken) (C := RX14) (T := TX14) (N := 63) hx hb hA zin_X14 hown hK hP 0 rfl rfl 12 (by decide) (hA _ wi_1509) (fun _ h9 => h9) rfl dX14_isGood_1 ?_
  refine lv_if_eq (tgt := 37) hx hb dX14_isGood_4 (by decide) (fun c_1 => ?_) (fun c_1 => ?_)
  · have ic_1 : m_isTaken.toInt = 0 := zi_eq c_1
    refine lv_iconst (v := 0) hx hb dX14_isGood_37 (by decide) ?_
    have hlit : Int32.toInt 0 = 0 := by decide
    have hP9 := hP.sub (ws' := [(h0, .inr (14, [.int m_thrown, .ref m_stop, .ref m_tape, .int m_taped, .int m_length, .int m_at, .int m_sort, .int m_place, .int m_sign, .long m_letters, .ref m_p, .ref m_spare, .int m_isTaken, .ref m_scope, .int m_scoped, .int m_deep, .int m_counted, .int m_fault, .int m_where, .ref m_cellKind, .ref m_cellCount, .ref m_free, .ref m_pile, .ref m_cellField, .int m_freeCount, .int m_given, .int m_nextPlain, .ref m_otherKind, .ref m_otherField, .int m_isPlain, .int m_hasRun, .int m_hasValue, .int m_hasOther, .long m_value, .long m_other, .int m_steps, .int m_made, .int m_reused, .int m_freed, .int m_most, .int m_doubled, .int m_openMost, .ref m_taskWhat, .ref m_taskPart, .ref m_values, .int m_tasks, .int m_valued, .int m_open, .ref m_slots, .ref m_present, .ref m_shell, .ref m_shellArm, .ref m_shellCall, .int m_shells, .ref m_keptCounts, .ref m_asideKind, .ref m_asideCount, .ref m_asideField, .ref m_out, .ref m_side, .int m_outs, .int m_sides, .ref m_saying])), (m_p, .inr (12, [.ref pr_what, .ref pr_place, .ref pr_own, .ref pr_one, .ref pr_two, .ref pr_three, .ref pr_beside, .ref pr_many, .ref pr_uses, .ref pr_behind, .ref pr_name, .ref pr_makes, .int pr_parts, .ref pr_functionName, .ref pr_kindName, .ref pr_told, .ref pr_body, .ref pr_first, .ref pr_widest, .ref pr_fields, .int pr_functions, .int pr_kinds]))]) [0, 1] rfl
    have hD9 := hD.sub (ws' := [(h0, .inr (14, [.int m_thrown, .ref m_stop, .ref m_tape, .int m_taped, .int m_length, .int m_at, .int m_sort, .int m_place, .int m_sign, .long m_letters, .ref m_p, .ref m_spare, .int m_isTaken, .ref m_scope, .int m_scoped, .int m_deep, .int m_counted, .int m_fault, .int m_where, .ref m_cellKind, .ref m_cellCount, .ref m_free, .ref m_pile, .ref m_cellField, .int m_freeCount, .int m_given, .int m_nextPlain, .ref m_otherKind, .ref m_otherField, .int m_isPlain, .int m_hasRun, .int m_hasValue, .int m_hasOther, .long m_value, .long m_other, .int m_steps, .int m_made, .int m_reused, .int m_freed, .int m_most, .int m_doubled, .int m_openMost, .ref m_taskWhat, .ref m_taskPart, .ref m_values, .int m_tasks, .int m_valued, .int m_open, .ref m_slots, .ref m_present, .ref m_shell, .ref m_shellArm, .ref m_shellCall, .int m_shells, .ref m_keptCounts, .ref m_asideKind, .ref m_asideCount, .ref m_asideField, .ref m_out, .ref m_side, .int m_outs, .int m_sides, .ref m_saying])), (m_p, .inr (12, [.ref pr_what, .ref pr_place, .ref pr_own, .ref pr_one, .ref pr_two, .ref pr_three, .ref pr_beside, .ref pr_many, .ref pr_uses, .ref pr_behind, .ref pr_name, .ref pr_makes, .int pr_parts, .ref pr_functionName, .ref pr_kindName, .ref pr_told, .ref pr_body, .ref pr_first, .ref pr_widest, .ref pr_fields, .int pr_functions, .int pr_kinds]))]) [0, 1] (by decide) rfl
    have hK9 := hK.sub (tys' := []) [] rfl
    exact W.zret (v := 0) hx hb hr rfl (fun t ht hW => ⟨⟨0, (), rfl, by omega, by rw [ht]; exact hP9, va_K.moved hW.alike hK9, hD9⟩, hS.F ht⟩) hS.2.2 dX14_isGood_38
  · have ic_1 : m_isTaken.toInt ≠ 0 := zi_ne c_1
    refine lv_iload_n hx hb dX14_isGood_7 rfl (lv_at hl 1 rfl) ?_
    refine lv_if_lt (tgt := 37) hx hb dX14_isGood_8 (by decide) (fun c_2 => ?_) (fun c_2 => ?_)
    · have ic_2 : fn.toInt < 0 := zi_lt c_2
      refine lv_iconst (v := 0) hx hb dX14_isGood_37 (by decide) ?_
      have hlit : Int32.toInt 0 = 0 := by decide
      have hP9 := hP.sub (ws' := [(h0, .inr (14, [.int m_thrown, .ref m_stop, .ref m_tape, .int m_taped, .int m_length, .int m_at, .int m_sort, .int m_place, .int m_sign, .long m_letters, .ref m_p, .ref m_spare, .int m_isTaken, .ref m_scope, .int m_scoped, .int m_deep, .int m_counted, .int m_fault, .int m_where, .ref m_cellKind, .ref m_cellCount, .ref m_free, .ref m_pile, .ref m_cellField, .int m_freeCount, .int m_given, .int m_nextPlain, .ref m_otherKind, .ref m_otherField, .int m_isPlain, .int m_hasRun, .int m_hasValue, .int m_hasOther, .long m_value, .long m_other, .int m_steps, .int m_made, .int m_reused, .int m_freed, .int m_most, .int m_doubled, .int m_openMost, .ref m_taskWhat, .ref m_taskPart, .ref m_values, .int m_tasks, .int m_valued, .int m_open, .ref m_slots, .ref m_present, .ref m_shell, .ref m_shellArm, .ref m_shellCall, .int m_shells, .ref m_keptCounts, .ref m_asideKind, .ref m_asideCount, .ref m_asideField, .ref m_out, .ref m_side, .int m_outs, .int m_sides, .ref m_saying])), (m_p, .inr (12, [.ref pr_what, .ref pr_place, .ref pr_own, .ref pr_one, .ref pr_two, .ref pr_three, .ref pr_beside, .ref pr_many, .ref pr_uses, .ref pr_behind, .ref pr_name, .ref pr_makes, .int pr_parts, .ref pr_functionName, .ref pr_kindName, .ref pr_told, .ref pr_body, .ref pr_first, .ref pr_widest, .ref pr_fields, .int pr_functions, .int pr_kinds]))]) [0, 1] rfl
      have hD9 := hD.sub (ws' := [(h0, .inr (14, [.int m_thrown, .ref m_stop, .ref m_tape, .int m_taped, .int m_length, .int m_at, .int m_sort, .int m_place, .int m_sign, .long m_letters, .ref m_p, .ref m_spare, .int m_isTaken, .ref m_scope, .int m_scoped, .int m_deep, .int m_counted, .int m_fault, .int m_where, .ref m_cellKind, .ref m_cellCount, .ref m_free, .ref m_pile, .ref m_cellField, .int m_freeCount, .int m_given, .int m_nextPlain, .ref m_otherKind, .ref m_otherField, .int m_isPlain, .int m_hasRun, .int m_hasValue, .int m_hasOther, .long m_value, .long m_other, .int m_steps, .int m_made, .int m_reused, .int m_freed, .int m_most, .int m_doubled, .int m_openMost, .ref m_taskWhat, .ref m_taskPart, .ref m_values, .int m_tasks, .int m_valued, .int m_open, .ref m_slots, .ref m_present, .ref m_shell, .ref m_shellArm, .ref m_shellCall, .int m_shells, .ref m_keptCounts, .ref m_asideKind, .ref m_asideCount, .ref m_asideField, .ref m_out, .ref m_side, .int m_outs, .int m_sides, .ref m_saying])), (m_p, .inr (12, [.ref pr_what, .ref pr_place, .ref pr_own, .ref pr_one, .ref pr_two, .ref pr_three, .ref pr_beside, .ref pr_many, .ref pr_uses, .ref pr_behind, .ref pr_name, .ref pr_makes, .int pr_parts, .ref pr_functionName, .ref pr_kindName, .ref pr_told, .ref pr_body, .ref pr_first, .ref pr_widest, .ref pr_fields, .int pr_functions, .int pr_kinds]))]) [0, 1] (by decide) rfl
      have hK9 := hK.sub (tys' := []) [] rfl
      exact W.zret (v := 0) hx hb hr rfl (fun t ht hW => ⟨⟨0, (), rfl, by omega, by rw [ht]; exact hP9, va_K.moved hW.alike hK9, hD9⟩, hS.F ht⟩) hS.2.2 dX14_isGood_38
    · have ic_2 : 0 ≤ fn.toInt := zi_nlt c_2
      refine lv_iload_n hx hb dX14_isGood_11 rfl (lv_at hl 1 rfl) ?_
      refine lv_aload_n hx hb dX14_isGood_12 rfl (lv_at hl 0 rfl) ?_
      refine va_get (D := (dC, dI)) (ci := 14) (v := .ref m_p) (C := RX14) (T := TX14) (N := 63) hx hb hA zin_X14 hown hK hP 0 rfl rfl 10 (by decide) (hA _ wi_1507) (fun _ h9 => h9) rfl dX14_isGood_13 ?_
      refine va_getN (D := (dC, dI)) (ci := 12) (v := .int pr_functions) (C := RX12) (T := TX12) (N := 22) hx hb hA zin_X12 hown hK hP 1 rfl rfl 20 (by decide) (va_Nw.use rfl (hN.1 ("ReuseHouseModel", 230, "ReuseHouseModel$Program", "functions", "I", "ReuseHouseModel") (by decide +kernel))) (fun _ h9 => h9) rfl dX14_isGood_16 ?_
      refine lv_icmp_ge (tgt := 37) hx hb dX14_isGood_19 (by decide) (fun c_3 => ?_) (fun c_3 => ?_)
      · have ic_3 : pr_functions.toInt ≤ fn.toInt := zi_le c_3
        refine lv_iconst (v := 0) hx hb dX14_isGood_37 (by decide) ?_
        have hlit : Int32.toInt 0 = 0 := by decide
        have hP9 := hP.sub (ws' := [(h0, .inr (14, [.int m_thrown, .ref m_stop, .ref m_tape, .int m_taped, .int m_length, .int m_at, .int m_sort, .int m_place, .int m_sign, .long m_letters, .ref m_p, .ref m_spare, .int m_isTaken, .ref m_scope, .int m_scoped, .int m_deep, .int m_counted, .int m_fault, .int m_where, .ref m_cellKind, .ref m_cellCount, .ref m_free, .ref m_pile, .ref m_cellField, .int m_freeCount, .int m_given, .int m_nextPlain, .ref m_otherKind, .ref m_otherField, .int m_isPlain, .int m_hasRun, .int m_hasValue, .int m_hasOther, .long m_value, .long m_other, .int m_steps, .int m_made, .int m_reused, .int m_freed, .int m_most, .int m_doubled, .int m_openMost, .ref m_taskWhat, .ref m_taskPart, .ref m_values, .int m_tasks, .int m_valued, .int m_open, .ref m_slots, .ref m_present, .ref m_shell, .ref m_shellArm, .ref m_shellCall, .int m_shells, .ref m_keptCounts, .ref m_asideKind, .ref m_asideCount, .ref m_asideField, .ref m_out, .ref m_side, .int m_outs, .int m_sides, .ref m_saying])), (m_p, .inr (12, [.ref pr_what, .ref pr_place, .ref pr_own, .ref pr_one, .ref pr_two, .ref pr_three, .ref pr_beside, .ref pr_many, .ref pr_uses, .ref pr_behind, .ref pr_name, .ref pr_makes, .int pr_parts, .ref pr_functionName, .ref pr_kindName, .ref pr_told, .ref pr_body, .ref pr_first, .ref pr_widest, .ref pr_fields, .int pr_functions, .int pr_kinds]))]) [0, 1] rfl
        have hD9 := hD.sub (ws' := [(h0, .inr (14, [.int m_thrown, .ref m_stop, .ref m_tape, .int m_taped, .int m_length, .int m_at, .int m_sort, .int m_place, .int m_sign, .long m_letters, .ref m_p, .ref m_spare, .int m_isTaken, .ref m_scope, .int m_scoped, .int m_deep, .int m_counted, .int m_fault, .int m_where, .ref m_cellKind, .ref m_cellCount, .ref m_free, .ref m_pile, .ref m_cellField, .int m_freeCount, .int m_given, .int m_nextPlain, .ref m_otherKind, .ref m_otherField, .int m_isPlain, .int m_hasRun, .int m_hasValue, .int m_hasOther, .long m_value, .long m_other, .int m_steps, .int m_made, .int m_reused, .int m_freed, .int m_most, .int m_doubled, .int m_openMost, .ref m_taskWhat, .ref m_taskPart, .ref m_values, .int m_tasks, .int m_valued, .int m_open, .ref m_slots, .ref m_present, .ref m_shell, .ref m_shellArm, .ref m_shellCall, .int m_shells, .ref m_keptCounts, .ref m_asideKind, .ref m_asideCount, .ref m_asideField, .ref m_out, .ref m_side, .int m_outs, .int m_sides, .ref m_saying])), (m_p, .inr (12, [.ref pr_what, .ref pr_place, .ref pr_own, .ref pr_one, .ref pr_two, .ref pr_three, .ref pr_beside, .ref pr_many, .ref pr_uses, .ref pr_behind, .ref pr_name, .ref pr_makes, .int pr_parts, .ref pr_functionName, .ref pr_kindName, .ref pr_told, .ref pr_body, .ref pr_first, .ref pr_widest, .ref pr_fields, .int pr_functions, .int pr_kinds]))]) [0, 1] (by decide) rfl
        have hK9 := hK.sub (tys' := []) [] rfl
        exact W.zret (v := 0) hx hb hr rfl (fun t ht hW => ⟨⟨0, (), rfl, by omega, by rw [ht]; exact hP9, va_K.moved hW.alike hK9, hD9⟩, hS.F ht⟩) hS.2.2 dX14_isGood_38
      · have ic_3 : fn.toInt < pr_functions.toInt := zi_nle c_3
        refine lv_iload_n hx hb dX14_isGood_22 rfl (lv_at hl 2 rfl) ?_
        refine lv_if_lt (tgt := 37) hx hb dX14_isGood_23 (by decide) (fun c_4 => ?_) (fun c_4 => ?_)
        · have ic_4 : al.toInt < 0 := zi_lt c_4
          refine lv_iconst (v := 0) hx hb dX14_isGood_37 (by decide) ?_
          have hlit : Int32.toInt 0 = 0 := by decide
          have hP9 := hP.sub (ws' := [(h0, .inr (14, [.int m_thrown, .ref m_stop, .ref m_tape, .int m_taped, .int m_length, .int m_at, .int m_sort, .int m_place, .int m_sign, .long m_letters, .ref m_p, .ref m_spare, .int m_isTaken, .ref m_scope, .int m_scoped, .int m_deep, .int m_counted, .int m_fault, .int m_where, .ref m_cellKind, .ref m_cellCount, .ref m_free, .ref m_pile, .ref m_cellField, .int m_freeCount, .int m_given, .int m_nextPlain, .ref m_otherKind, .ref m_otherField, .int m_isPlain, .int m_hasRun, .int m_hasValue, .int m_hasOther, .long m_value, .long m_other, .int m_steps, .int m_made, .int m_reused, .int m_freed, .int m_most, .int m_doubled, .int m_openMost, .ref m_taskWhat, .ref m_taskPart, .ref m_values, .int m_tasks, .int m_valued, .int m_open, .ref m_slots, .ref m_present, .ref m_shell, .ref m_shellArm, .ref m_shellCall, .int m_shells, .ref m_keptCounts, .ref m_asideKind, .ref m_asideCount, .ref m_asideField, .ref m_out, .ref m_side, .int m_outs, .int m_sides, .ref m_saying])), (m_p, .inr (12, [.ref pr_what, .ref pr_place, .ref pr_own, .ref pr_one, .ref pr_two, .ref pr_three, .ref pr_beside, .ref pr_many, .ref pr_uses, .ref pr_behind, .ref pr_name, .ref pr_makes, .int pr_parts, .ref pr_functionName, .ref pr_kindName, .ref pr_told, .ref pr_body, .ref pr_first, .ref pr_widest, .ref pr_fields, .int pr_functions, .int pr_kinds]))]) [0, 1] rfl
          have hD9 := hD.sub (ws' := [(h0, .inr (14, [.int m_thrown, .ref m_stop, .ref m_tape, .int m_taped, .int m_length, .int m_at, .int m_sort, .int m_place, .int m_sign, .long m_letters, .ref m_p, .ref m_spare, .int m_isTaken, .ref m_scope, .int m_scoped, .int m_deep, .int m_counted, .int m_fault, .int m_where, .ref m_cellKind, .ref m_cellCount, .ref m_free, .ref m_pile, .ref m_cellField, .int m_freeCount, .int m_given, .int m_nextPlain, .ref m_otherKind, .ref m_otherField, .int m_isPlain, .int m_hasRun, .int m_hasValue, .int m_hasOther, .long m_value, .long m_other, .int m_steps, .int m_made, .int m_reused, .int m_freed, .int m_most, .int m_doubled, .int m_openMost, .ref m_taskWhat, .ref m_taskPart, .ref m_values, .int m_tasks, .int m_valued, .int m_open, .ref m_slots, .ref m_present, .ref m_shell, .ref m_shellArm, .ref m_shellCall, .int m_shells, .ref m_keptCounts, .ref m_asideKind, .ref m_asideCount, .ref m_asideField, .ref m_out, .ref m_side, .int m_outs, .int m_sides, .ref m_saying])), (m_p, .inr (12, [.ref pr_what, .ref pr_place, .ref pr_own, .ref pr_one, .ref pr_two, .ref pr_three, .ref pr_beside, .ref pr_many, .ref pr_uses, .ref pr_behind, .ref pr_name, .ref pr_makes, .int pr_parts, .ref pr_functionName, .ref pr_kindName, .ref pr_told, .ref pr_body, .ref pr_first, .ref pr_widest, .ref pr_fields, .int pr_functions, .int pr_kinds]))]) [0, 1] (by decide) rfl
          have hK9 := hK.sub (tys' := []) [] rfl
          exact W.zret (v := 0) hx hb hr rfl (fun t ht hW => ⟨⟨0, (), rfl, by omega, by rw [ht]; exact hP9, va_K.moved hW.alike hK9, hD9⟩, hS.F ht⟩) hS.2.2 dX14_isGood_38
        · have ic_4 : 0 ≤ al.toInt := zi_nlt c_4
          refine lv_iload_n hx hb dX14_isGood_26 rfl (lv_at hl 2 rfl) ?_
          refine lv_sipush (v := 20000) hx hb dX14_isGood_27 (by decide) ?_
          refine lv_icmp_gt (tgt := 37) hx hb dX14_isGood_30 (by decide) (fun c_5 => ?_) (fun c_5 => ?_)
          · have ic_5 : 20000 < al.toInt := zi_lt c_5
            refine lv_iconst (v := 0) hx hb dX14_isGood_37 (by decide) ?_
            have hlit : Int32.toInt 0 = 0 := by decide
            have hP9 := hP.sub (ws' := [(h0, .inr (14, [.int m_thrown, .ref m_stop, .ref m_tape, .int m_taped, .int m_length, .int m_at, .int m_sort, .int m_place, .int m_sign, .long m_letters, .ref m_p, .ref m_spare, .int m_isTaken, .ref m_scope, .int m_scoped, .int m_deep, .int m_counted, .int m_fault, .int m_where, .ref m_cellKind, .ref m_cellCount, .ref m_free, .ref m_pile, .ref m_cellField, .int m_freeCount, .int m_given, .int m_nextPlain, .ref m_otherKind, .ref m_otherField, .int m_isPlain, .int m_hasRun, .int m_hasValue, .int m_hasOther, .long m_value, .long m_other, .int m_steps, .int m_made, .int m_reused, .int m_freed, .int m_most, .int m_doubled, .int m_openMost, .ref m_taskWhat, .ref m_taskPart, .ref m_values, .int m_tasks, .int m_valued, .int m_open, .ref m_slots, .ref m_present, .ref m_shell, .ref m_shellArm, .ref m_shellCall, .int m_shells, .ref m_keptCounts, .ref m_asideKind, .ref m_asideCount, .ref m_asideField, .ref m_out, .ref m_side, .int m_outs, .int m_sides, .ref m_saying])), (m_p, .inr (12, [.ref pr_what, .ref pr_place, .ref pr_own, .ref pr_one, .ref pr_two, .ref pr_three, .ref pr_beside, .ref pr_many, .ref pr_uses, .ref pr_behind, .ref pr_name, .ref pr_makes, .int pr_parts, .ref pr_functionName, .ref pr_kindName, .ref pr_told, .ref pr_body, .ref pr_first, .ref pr_widest, .ref pr_fields, .int pr_functions, .int pr_kinds]))]) [0, 1] rfl
            have hD9 := hD.sub (ws' := [(h0, .inr (14, [.int m_thrown, .ref m_stop, .ref m_tape, .int m_taped, .int m_length, .int m_at, .int m_sort, .int m_place, .int m_sign, .long m_letters, .ref m_p, .ref m_spare, .int m_isTaken, .ref m_scope, .int m_scoped, .int m_deep, .int m_counted, .int m_fault, .int m_where, .ref m_cellKind, .ref m_cellCount, .ref m_free, .ref m_pile, .ref m_cellField, .int m_freeCount, .int m_given, .int m_nextPlain, .ref m_otherKind, .ref m_otherField, .int m_isPlain, .int m_hasRun, .int m_hasValue, .int m_hasOther, .long m_value, .long m_other, .int m_steps, .int m_made, .int m_reused, .int m_freed, .int m_most, .int m_doubled, .int m_openMost, .ref m_taskWhat, .ref m_taskPart, .ref m_values, .int m_tasks, .int m_valued, .int m_open, .ref m_slots, .ref m_present, .ref m_shell, .ref m_shellArm, .ref m_shellCall, .int m_shells, .ref m_keptCounts, .ref m_asideKind, .ref m_asideCount, .ref m_asideField, .ref m_out, .ref m_side, .int m_outs, .int m_sides, .ref m_saying])), (m_p, .inr (12, [.ref pr_what, .ref pr_place, .ref pr_own, .ref pr_one, .ref pr_two, .ref pr_three, .ref pr_beside, .ref pr_many, .ref pr_uses, .ref pr_behind, .ref pr_name, .ref pr_makes, .int pr_parts, .ref pr_functionName, .ref pr_kindName, .ref pr_told, .ref pr_body, .ref pr_first, .ref pr_widest, .ref pr_fields, .int pr_functions, .int pr_kinds]))]) [0, 1] (by decide) rfl
            have hK9 := hK.sub (tys' := []) [] rfl
            exact W.zret (v := 0) hx hb hr rfl (fun t ht hW => ⟨⟨0, (), rfl, by omega, by rw [ht]; exact hP9, va_K.moved hW.alike hK9, hD9⟩, hS.F ht⟩) hS.2.2 dX14_isGood_38
          · have ic_5 : al.toInt ≤ 20000 := zi_nlt c_5
            refine lv_iconst (v := 1) hx hb dX14_isGood_33 (by decide) ?_
            refine lv_goto (tgt := 38) hx hb dX14_isGood_34 (by decide) ?_
            have hlit : Int32.toInt 1 = 1 := by decide
            have hP9 := hP.sub (ws' := [(h0, .inr (14, [.int m_thrown, .ref m_stop, .ref m_tape, .int m_taped, .int m_length, .int m_at, .int m_sort, .int m_place, .int m_sign, .long m_letters, .ref m_p, .ref m_spare, .int m_isTaken, .ref m_scope, .int m_scoped, .int m_deep, .int m_counted, .int m_fault, .int m_where, .ref m_cellKind, .ref m_cellCount, .ref m_free, .ref m_pile, .ref m_cellField, .int m_freeCount, .int m_given, .int m_nextPlain, .ref m_otherKind, .ref m_otherField, .int m_isPlain, .int m_hasRun, .int m_hasValue, .int m_hasOther, .long m_value, .long m_other, .int m_steps, .int m_made, .int m_reused, .int m_freed, .int m_most, .int m_doubled, .int m_openMost, .ref m_taskWhat, .ref m_taskPart, .ref m_values, .int m_tasks, .int m_valued, .int m_open, .ref m_slots, .ref m_present, .ref m_shell, .ref m_shellArm, .ref m_shellCall, .int m_shells, .ref m_keptCounts, .ref m_asideKind, .ref m_asideCount, .ref m_asideField, .ref m_out, .ref m_side, .int m_outs, .int m_sides, .ref m_saying])), (m_p, .inr (12, [.ref pr_what, .ref pr_place, .ref pr_own, .ref pr_one, .ref pr_two, .ref pr_three, .ref pr_beside, .ref pr_many, .ref pr_uses, .ref pr_behind, .ref pr_name, .ref pr_makes, .int pr_parts, .ref pr_functionName, .ref pr_kindName, .ref pr_told, .ref pr_body, .ref pr_first, .ref pr_widest, .ref pr_fields, .int pr_functions, .int pr_kinds]))]) [0, 1] rfl
            have hD9 := hD.sub (ws' := [(h0, .inr (14, [.int m_thrown, .ref m_stop, .ref m_tape, .int m_taped, .int m_length, .int m_at, .int m_sort, .int m_place, .int m_sign, .long m_letters, .ref m_p, .ref m_spare, .int m_isTaken, .ref m_scope, .int m_scoped, .int m_deep, .int m_counted, .int m_fault, .int m_where, .ref m_cellKind, .ref m_cellCount, .ref m_free, .ref m_pile, .ref m_cellField, .int m_freeCount, .int m_given, .int m_nextPlain, .ref m_otherKind, .ref m_otherField, .int m_isPlain, .int m_hasRun, .int m_hasValue, .int m_hasOther, .long m_value, .long m_other, .int m_steps, .int m_made, .int m_reused, .int m_freed, .int m_most, .int m_doubled, .int m_openMost, .ref m_taskWhat, .ref m_taskPart, .ref m_values, .int m_tasks, .int m_valued, .int m_open, .ref m_slots, .ref m_present, .ref m_shell, .ref m_shellArm, .ref m_shellCall, .int m_shells, .ref m_keptCounts, .ref m_asideKind, .ref m_asideCount, .ref m_asideField, .ref m_out, .ref m_side, .int m_outs, .int m_sides, .ref m_saying])), (m_p, .inr (12, [.ref pr_what, .ref pr_place, .ref pr_own, .ref pr_one, .ref pr_two, .ref pr_three, .ref pr_beside, .ref pr_many, .ref pr_uses, .ref pr_behind, .ref pr_name, .ref pr_makes, .int pr_parts, .ref pr_functionName, .ref pr_kindName, .ref pr_told, .ref pr_body, .ref pr_first, .ref pr_widest, .ref pr_fields, .int pr_functions, .int pr_kinds]))]) [0, 1] (by decide) rfl
            have hK9 := hK.sub (tys' := []) [] rfl
            exact W.zret (v := 1) hx hb hr rfl (fun t ht hW => ⟨⟨1, (), rfl, by omega, by rw [ht]; exact hP9, va_K.moved hW.alike hK9, hD9⟩, hS.F ht⟩) hS.2.2 dX14_isGood_38

end
section
theorem wi_1888 : Cond.code yX14_isGood cX14_isGood 3 (some .boolean) ∈ zw := zw_in (List.mem_of_getElem? (i := 1888) (by decide +kernel)) (by decide +kernel)
theorem wi_1885 : Cond.methodLink RX14 505 yX14_isGood ∈ zw := zw_in (List.mem_of_getElem? (i := 1885) (by decide +kernel)) (by decide +kernel)
theorem wi_1887 : Cond.instanceMethod yX14_isGood ∈ zw := zw_in (List.mem_of_getElem? (i := 1887) (by decide +kernel)) (by decide +kernel)
theorem wi_103 : Cond.selects RX14 yX14_isGood yX14_isGood ∈ zw := zw_in (List.mem_of_getElem? (i := 103) (by decide +kernel)) (by decide +kernel)
theorem wi_1892 : Cond.codeWith yX14_worked cX14_worked 10 (some .int) [(93, 196, 199, 7)] ∈ zw := zw_in (List.mem_of_getElem? (i := 1892) (by decide +kernel)) (by decide +kernel)
theorem wi_1889 : Cond.methodLink RX14 508 yX14_worked ∈ zw := zw_in (List.mem_of_getElem? (i := 1889) (by decide +kernel)) (by decide +kernel)
theorem wi_1891 : Cond.instanceMethod yX14_worked ∈ zw := zw_in (List.mem_of_getElem? (i := 1891) (by decide +kernel)) (by decide +kernel)
theorem wi_104 : Cond.selects RX14 yX14_worked yX14_worked ∈ zw := zw_in (List.mem_of_getElem? (i := 104) (by decide +kernel)) (by decide +kernel)
theorem dX14_run_0 : decode cX14_run 0 = .ok (.aload_n 0, 1) := by decide +kernel
theorem dX14_run_1 : decode cX14_run 1 = .ok (.iconst 0, 1) := by decide +kernel
theorem dX14_run_2 : decode cX14_run 2 = .ok (.putfield 105, 3) := by decide +kernel
theorem dX14_run_5 : decode cX14_run 5 = .ok (.aload_n 0, 1) := by decide +kernel
theorem dX14_run_6 : decode cX14_run 6 = .ok (.iload_n 1, 1) := by decide +kernel
theorem dX14_run_7 : decode cX14_run 7 = .ok (.iload_n 3, 1) := by decide +kernel
theorem dX14_run_8 : decode cX14_run 8 = .ok (.invokevirtual 505, 3) := by decide +kernel
theorem dX14_run_11 : decode cX14_run 11 = .ok (.ifCond .eq 14, 3) := by decide +kernel
theorem dX14_run_14 : decode cX14_run 14 = .ok (.iload_n 2, 1) := by decide +kernel
theorem dX14_run_15 : decode cX14_run 15 = .ok (.ifCond .lt 10, 3) := by decide +kernel
theorem dX14_run_18 : decode cX14_run 18 = .ok (.iload_n 2, 1) := by decide +kernel
theorem dX14_run_19 : decode cX14_run 19 = .ok (.sipush 400, 3) := by decide +kernel
theorem dX14_run_22 : decode cX14_run 22 = .ok (.if_icmp .le 5, 3) := by decide +kernel
theorem dX14_run_25 : decode cX14_run 25 = .ok (.iconst (-1), 1) := by decide +kernel
theorem dX14_run_26 : decode cX14_run 26 = .ok (.ireturn, 1) := by decide +kernel
theorem dX14_run_27 : decode cX14_run 27 = .ok (.aload_n 0, 1) := by decide +kernel
theorem dX14_run_28 : decode cX14_run 28 = .ok (.iconst 0, 1) := by decide +kernel
theorem dX14_run_29 : decode cX14_run 29 = .ok (.putfield 392, 3) := by decide +kernel
theorem dX14_run_32 : decode cX14_run 32 = .ok (.aload_n 0, 1) := by decide +kernel
theorem dX14_run_33 : decode cX14_run 33 = .ok (.iload_n 2, 1) := by decide +kernel
theorem dX14_run_34 : decode cX14_run 34 = .ok (.putfield 383, 3) := by decide +kernel
theorem dX14_run_37 : decode cX14_run 37 = .ok (.aload_n 0, 1) := by decide +kernel
theorem dX14_run_38 : decode cX14_run 38 = .ok (.iload_n 2, 1) := by decide +kernel
theorem dX14_run_39 : decode cX14_run 39 = .ok (.putfield 386, 3) := by decide +kernel
theorem dX14_run_42 : decode cX14_run 42 = .ok (.iconst 0, 1) := by decide +kernel
theorem dX14_run_43 : decode cX14_run 43 = .ok (.istore 8, 2) := by decide +kernel
theorem dX14_run_45 : decode cX14_run 45 = .ok (.iload 8, 2) := by decide +kernel
theorem dX14_run_47 : decode cX14_run 47 = .ok (.iload_n 2, 1) := by decide +kernel
theorem dX14_run_48 : decode cX14_run 48 = .ok (.if_icmp .ge 18, 3) := by decide +kernel
theorem dX14_run_51 : decode cX14_run 51 = .ok (.aload_n 0, 1) := by decide +kernel
theorem dX14_run_52 : decode cX14_run 52 = .ok (.getfield 45, 3) := by decide +kernel
theorem dX14_run_55 : decode cX14_run 55 = .ok (.iload 8, 2) := by decide +kernel
theorem dX14_run_57 : decode cX14_run 57 = .ok (.iload 8, 2) := by decide +kernel
theorem dX14_run_59 : decode cX14_run 59 = .ok (.iastore, 1) := by decide +kernel
theorem dX14_run_60 : decode cX14_run 60 = .ok (.iinc 8 1, 3) := by decide +kernel
theorem dX14_run_63 : decode cX14_run 63 = .ok (.goto (-18), 3) := by decide +kernel
theorem dX14_run_66 : decode cX14_run 66 = .ok (.aload_n 0, 1) := by decide +kernel
theorem dX14_run_67 : decode cX14_run 67 = .ok (.iconst 0, 1) := by decide +kernel
theorem dX14_run_68 : decode cX14_run 68 = .ok (.putfield 431, 3) := by decide +kernel
theorem dX14_run_71 : decode cX14_run 71 = .ok (.aload_n 0, 1) := by decide +kernel
theorem dX14_run_72 : decode cX14_run 72 = .ok (.iconst 0, 1) := by decide +kernel
theorem dX14_run_73 : decode cX14_run 73 = .ok (.putfield 487, 3) := by decide +kernel
theorem dX14_run_76 : decode cX14_run 76 = .ok (.aload_n 0, 1) := by decide +kernel
theorem dX14_run_77 : decode cX14_run 77 = .ok (.iconst 0, 1) := by decide +kernel
theorem dX14_run_78 : decode cX14_run 78 = .ok (.putfield 484, 3) := by decide +kernel
theorem dX14_run_81 : decode cX14_run 81 = .ok (.aload_n 0, 1) := by decide +kernel
theorem dX14_run_82 : decode cX14_run 82 = .ok (.iconst 0, 1) := by decide +kernel
theorem dX14_run_83 : decode cX14_run 83 = .ok (.putfield 389, 3) := by decide +kernel
theorem dX14_run_86 : decode cX14_run 86 = .ok (.aload_n 0, 1) := by decide +kernel
theorem dX14_run_87 : decode cX14_run 87 = .ok (.iconst 0, 1) := by decide +kernel
theorem dX14_run_88 : decode cX14_run 88 = .ok (.putfield 490, 3) := by decide +kernel
theorem dX14_run_91 : decode cX14_run 91 = .ok (.aload_n 0, 1) := by decide +kernel
theorem dX14_run_92 : decode cX14_run 92 = .ok (.iconst 0, 1) := by decide +kernel
theorem dX14_run_93 : decode cX14_run 93 = .ok (.putfield 398, 3) := by decide +kernel
theorem dX14_run_96 : decode cX14_run 96 = .ok (.aload_n 0, 1) := by decide +kernel
theorem dX14_run_97 : decode cX14_run 97 = .ok (.iconst 0, 1) := by decide +kernel
theorem dX14_run_98 : decode cX14_run 98 = .ok (.putfield 424, 3) := by decide +kernel
theorem dX14_run_101 : decode cX14_run 101 = .ok (.aload_n 0, 1) := by decide +kernel
theorem dX14_run_102 : decode cX14_run 102 = .ok (.iconst 1, 1) := by decide +kernel
theorem dX14_run_103 : decode cX14_run 103 = .ok (.putfield 363, 3) := by decide +kernel
theorem dX14_run_106 : decode cX14_run 106 = .ok (.aload_n 0, 1) := by decide +kernel
theorem dX14_run_107 : decode cX14_run 107 = .ok (.iload_n 1, 1) := by decide +kernel
theorem dX14_run_108 : decode cX14_run 108 = .ok (.iload_n 3, 1) := by decide +kernel
theorem dX14_run_109 : decode cX14_run 109 = .ok (.iload 4, 2) := by decide +kernel
theorem dX14_run_111 : decode cX14_run 111 = .ok (.iload 5, 2) := by decide +kernel
theorem dX14_run_113 : decode cX14_run 113 = .ok (.iload 6, 2) := by decide +kernel
theorem dX14_run_115 : decode cX14_run 115 = .ok (.iload 7, 2) := by decide +kernel
theorem dX14_run_117 : decode cX14_run 117 = .ok (.invokevirtual 508, 3) := by decide +kernel
theorem dX14_run_120 : decode cX14_run 120 = .ok (.istore 8, 2) := by decide +kernel
theorem dX14_run_122 : decode cX14_run 122 = .ok (.aload_n 0, 1) := by decide +kernel
theorem dX14_run_123 : decode cX14_run 123 = .ok (.iload 8, 2) := by decide +kernel
theorem dX14_run_125 : decode cX14_run 125 = .ok (.iconst 1, 1) := by decide +kernel
theorem dX14_run_126 : decode cX14_run 126 = .ok (.if_icmp .ne 7, 3) := by decide +kernel
theorem dX14_run_129 : decode cX14_run 129 = .ok (.iconst 1, 1) := by decide +kernel
theorem dX14_run_130 : decode cX14_run 130 = .ok (.goto 4, 3) := by decide +kernel
theorem dX14_run_133 : decode cX14_run 133 = .ok (.iconst 0, 1) := by decide +kernel
theorem dX14_run_134 : decode cX14_run 134 = .ok (.putfield 366, 3) := by decide +kernel
theorem dX14_run_137 : decode cX14_run 137 = .ok (.aload_n 0, 1) := by decide +kernel
theorem dX14_run_138 : decode cX14_run 138 = .ok (.getfield 366, 3) := by decide +kernel
theorem dX14_run_141 : decode cX14_run 141 = .ok (.ifCond .eq 14, 3) := by decide +kernel
theorem dX14_run_144 : decode cX14_run 144 = .ok (.aload_n 0, 1) := by decide +kernel
theorem dX14_run_145 : decode cX14_run 145 = .ok (.aload_n 0, 1) := by decide +kernel
theorem dX14_run_146 : decode cX14_run 146 = .ok (.invokevirtual 450, 3) := by decide +kernel
theorem dX14_run_149 : decode cX14_run 149 = .ok (.putfield 512, 3) := by decide +kernel
theorem dX14_run_152 : decode cX14_run 152 = .ok (.goto 11, 3) := by decide +kernel
theorem dX14_run_155 : decode cX14_run 155 = .ok (.aload_n 0, 1) := by decide +kernel
theorem dX14_run_156 : decode cX14_run 156 = .ok (.aload_n 0, 1) := by decide +kernel
theorem dX14_run_157 : decode cX14_run 157 = .ok (.getfield 383, 3) := by decide +kernel
theorem dX14_run_160 : decode cX14_run 160 = .ok (.putfield 386, 3) := by decide +kernel
theorem dX14_run_163 : decode cX14_run 163 = .ok (.iload 8, 2) := by decide +kernel
theorem dX14_run_165 : decode cX14_run 165 = .ok (.ireturn, 1) := by decide +kernel

end
section
theorem wi_1551 : Cond.fieldLink RX14 84 "ReuseHouseModel" "keptCounts" "[I" ∈ zw := zw_in (List.mem_of_getElem? (i := 1551) (by decide +kernel)) (by decide +kernel)
theorem wi_1552 : Cond.fieldLink RX14 87 "ReuseHouseModel" "asideKind" "[I" ∈ zw := zw_in (List.mem_of_getElem? (i := 1552) (by decide +kernel)) (by decide +kernel)
theorem wi_1553 : Cond.fieldLink RX14 90 "ReuseHouseModel" "asideCount" "[I" ∈ zw := zw_in (List.mem_of_getElem? (i := 1553) (by decide +kernel)) (by decide +kernel)
theorem wi_1554 : Cond.fieldLink RX14 93 "ReuseHouseModel" "asideField" "[J" ∈ zw := zw_in (List.mem_of_getElem? (i := 1554) (by decide +kernel)) (by decide +kernel)
theorem dX14_plain_0 : decode cX14_plain 0 = .ok (.aload_n 0, 1) := by decide +kernel
theorem dX14_plain_1 : decode cX14_plain 1 = .ok (.iconst 0, 1) := by decide +kernel
theorem dX14_plain_2 : decode cX14_plain 2 = .ok (.putfield 105, 3) := by decide +kernel
theorem dX14_plain_5 : decode cX14_plain 5 = .ok (.aload_n 0, 1) := by decide +kernel
theorem dX14_plain_6 : decode cX14_plain 6 = .ok (.iload_n 1, 1) := by decide +kernel
theorem dX14_plain_7 : decode cX14_plain 7 = .ok (.iload_n 2, 1) := by decide +kernel
theorem dX14_plain_8 : decode cX14_plain 8 = .ok (.invokevirtual 505, 3) := by decide +kernel
theorem dX14_plain_11 : decode cX14_plain 11 = .ok (.ifCond .ne 5, 3) := by decide +kernel
theorem dX14_plain_14 : decode cX14_plain 14 = .ok (.iconst (-1), 1) := by decide +kernel
theorem dX14_plain_15 : decode cX14_plain 15 = .ok (.ireturn, 1) := by decide +kernel
theorem dX14_plain_16 : decode cX14_plain 16 = .ok (.bipush 7, 2) := by decide +kernel
theorem dX14_plain_18 : decode cX14_plain 18 = .ok (.newarray .int, 2) := by decide +kernel
theorem dX14_plain_20 : decode cX14_plain 20 = .ok (.dup, 1) := by decide +kernel
theorem dX14_plain_21 : decode cX14_plain 21 = .ok (.iconst 0, 1) := by decide +kernel
theorem dX14_plain_22 : decode cX14_plain 22 = .ok (.aload_n 0, 1) := by decide +kernel
theorem dX14_plain_23 : decode cX14_plain 23 = .ok (.getfield 431, 3) := by decide +kernel
theorem dX14_plain_26 : decode cX14_plain 26 = .ok (.iastore, 1) := by decide +kernel
theorem dX14_plain_27 : decode cX14_plain 27 = .ok (.dup, 1) := by decide +kernel
theorem dX14_plain_28 : decode cX14_plain 28 = .ok (.iconst 1, 1) := by decide +kernel
theorem dX14_plain_29 : decode cX14_plain 29 = .ok (.aload_n 0, 1) := by decide +kernel
theorem dX14_plain_30 : decode cX14_plain 30 = .ok (.getfield 487, 3) := by decide +kernel
theorem dX14_plain_33 : decode cX14_plain 33 = .ok (.iastore, 1) := by decide +kernel
theorem dX14_plain_34 : decode cX14_plain 34 = .ok (.dup, 1) := by decide +kernel
theorem dX14_plain_35 : decode cX14_plain 35 = .ok (.iconst 2, 1) := by decide +kernel
theorem dX14_plain_36 : decode cX14_plain 36 = .ok (.aload_n 0, 1) := by decide +kernel
theorem dX14_plain_37 : decode cX14_plain 37 = .ok (.getfield 484, 3) := by decide +kernel
theorem dX14_plain_40 : decode cX14_plain 40 = .ok (.iastore, 1) := by decide +kernel
theorem dX14_plain_41 : decode cX14_plain 41 = .ok (.dup, 1) := by decide +kernel
theorem dX14_plain_42 : decode cX14_plain 42 = .ok (.iconst 3, 1) := by decide +kernel
theorem dX14_plain_43 : decode cX14_plain 43 = .ok (.aload_n 0, 1) := by decide +kernel
theorem dX14_plain_44 : decode cX14_plain 44 = .ok (.getfield 389, 3) := by decide +kernel
theorem dX14_plain_47 : decode cX14_plain 47 = .ok (.iastore, 1) := by decide +kernel
theorem dX14_plain_48 : decode cX14_plain 48 = .ok (.dup, 1) := by decide +kernel
theorem dX14_plain_49 : decode cX14_plain 49 = .ok (.iconst 4, 1) := by decide +kernel
theorem dX14_plain_50 : decode cX14_plain 50 = .ok (.aload_n 0, 1) := by decide +kernel
theorem dX14_plain_51 : decode cX14_plain 51 = .ok (.getfield 490, 3) := by decide +kernel
theorem dX14_plain_54 : decode cX14_plain 54 = .ok (.iastore, 1) := by decide +kernel
theorem dX14_plain_55 : decode cX14_plain 55 = .ok (.dup, 1) := by decide +kernel
theorem dX14_plain_56 : decode cX14_plain 56 = .ok (.iconst 5, 1) := by decide +kernel
theorem dX14_plain_57 : decode cX14_plain 57 = .ok (.aload_n 0, 1) := by decide +kernel
theorem dX14_plain_58 : decode cX14_plain 58 = .ok (.getfield 398, 3) := by decide +kernel
theorem dX14_plain_61 : decode cX14_plain 61 = .ok (.iastore, 1) := by decide +kernel
theorem dX14_plain_62 : decode cX14_plain 62 = .ok (.dup, 1) := by decide +kernel
theorem dX14_plain_63 : decode cX14_plain 63 = .ok (.bipush 6, 2) := by decide +kernel
theorem dX14_plain_65 : decode cX14_plain 65 = .ok (.aload_n 0, 1) := by decide +kernel
theorem dX14_plain_66 : decode cX14_plain 66 = .ok (.getfield 424, 3) := by decide +kernel
theorem dX14_plain_69 : decode cX14_plain 69 = .ok (.iastore, 1) := by decide +kernel
theorem dX14_plain_70 : decode cX14_plain 70 = .ok (.astore 7, 2) := by decide +kernel
theorem dX14_plain_72 : decode cX14_plain 72 = .ok (.iconst 0, 1) := by decide +kernel
theorem dX14_plain_73 : decode cX14_plain 73 = .ok (.istore 8, 2) := by decide +kernel
theorem dX14_plain_75 : decode cX14_plain 75 = .ok (.iload 8, 2) := by decide +kernel
theorem dX14_plain_77 : decode cX14_plain 77 = .ok (.bipush 7, 2) := by decide +kernel
theorem dX14_plain_79 : decode cX14_plain 79 = .ok (.if_icmp .ge 21, 3) := by decide +kernel
theorem dX14_plain_82 : decode cX14_plain 82 = .ok (.aload_n 0, 1) := by decide +kernel
theorem dX14_plain_83 : decode cX14_plain 83 = .ok (.getfield 84, 3) := by decide +kernel
theorem dX14_plain_86 : decode cX14_plain 86 = .ok (.iload 8, 2) := by decide +kernel
theorem dX14_plain_88 : decode cX14_plain 88 = .ok (.aload 7, 2) := by decide +kernel
theorem dX14_plain_90 : decode cX14_plain 90 = .ok (.iload 8, 2) := by decide +kernel
theorem dX14_plain_92 : decode cX14_plain 92 = .ok (.iaload, 1) := by decide +kernel
theorem dX14_plain_93 : decode cX14_plain 93 = .ok (.iastore, 1) := by decide +kernel
theorem dX14_plain_94 : decode cX14_plain 94 = .ok (.iinc 8 1, 3) := by decide +kernel
theorem dX14_plain_97 : decode cX14_plain 97 = .ok (.goto (-22), 3) := by decide +kernel
theorem dX14_plain_100 : decode cX14_plain 100 = .ok (.iconst 0, 1) := by decide +kernel
theorem dX14_plain_101 : decode cX14_plain 101 = .ok (.istore 8, 2) := by decide +kernel
theorem dX14_plain_103 : decode cX14_plain 103 = .ok (.iload 8, 2) := by decide +kernel
theorem dX14_plain_105 : decode cX14_plain 105 = .ok (.sipush 400, 3) := by decide +kernel
theorem dX14_plain_108 : decode cX14_plain 108 = .ok (.if_icmp .ge 76, 3) := by decide +kernel
theorem dX14_plain_111 : decode cX14_plain 111 = .ok (.aload_n 0, 1) := by decide +kernel
theorem dX14_plain_112 : decode cX14_plain 112 = .ok (.getfield 87, 3) := by decide +kernel
theorem dX14_plain_115 : decode cX14_plain 115 = .ok (.iload 8, 2) := by decide +kernel
theorem dX14_plain_117 : decode cX14_plain 117 = .ok (.aload_n 0, 1) := by decide +kernel
theorem dX14_plain_118 : decode cX14_plain 118 = .ok (.getfield 38, 3) := by decide +kernel
theorem dX14_plain_121 : decode cX14_plain 121 = .ok (.iload 8, 2) := by decide +kernel
theorem dX14_plain_123 : decode cX14_plain 123 = .ok (.iaload, 1) := by decide +kernel
theorem dX14_plain_124 : decode cX14_plain 124 = .ok (.iastore, 1) := by decide +kernel
theorem dX14_plain_125 : decode cX14_plain 125 = .ok (.aload_n 0, 1) := by decide +kernel
theorem dX14_plain_126 : decode cX14_plain 126 = .ok (.getfield 90, 3) := by decide +kernel
theorem dX14_plain_129 : decode cX14_plain 129 = .ok (.iload 8, 2) := by decide +kernel
theorem dX14_plain_131 : decode cX14_plain 131 = .ok (.aload_n 0, 1) := by decide +kernel
theorem dX14_plain_132 : decode cX14_plain 132 = .ok (.getfield 42, 3) := by decide +kernel
theorem dX14_plain_135 : decode cX14_plain 135 = .ok (.iload 8, 2) := by decide +kernel
theorem dX14_plain_137 : decode cX14_plain 137 = .ok (.iaload, 1) := by decide +kernel
theorem dX14_plain_138 : decode cX14_plain 138 = .ok (.iastore, 1) := by decide +kernel
theorem dX14_plain_139 : decode cX14_plain 139 = .ok (.iconst 0, 1) := by decide +kernel
theorem dX14_plain_140 : decode cX14_plain 140 = .ok (.istore 9, 2) := by decide +kernel
theorem dX14_plain_142 : decode cX14_plain 142 = .ok (.iload 9, 2) := by decide +kernel
theorem dX14_plain_144 : decode cX14_plain 144 = .ok (.iconst 3, 1) := by decide +kernel
theorem dX14_plain_145 : decode cX14_plain 145 = .ok (.if_icmp .ge 33, 3) := by decide +kernel
theorem dX14_plain_148 : decode cX14_plain 148 = .ok (.aload_n 0, 1) := by decide +kernel
theorem dX14_plain_149 : decode cX14_plain 149 = .ok (.getfield 93, 3) := by decide +kernel
theorem dX14_plain_152 : decode cX14_plain 152 = .ok (.iconst 3, 1) := by decide +kernel
theorem dX14_plain_153 : decode cX14_plain 153 = .ok (.iload 8, 2) := by decide +kernel
theorem dX14_plain_155 : decode cX14_plain 155 = .ok (.imul, 1) := by decide +kernel
theorem dX14_plain_156 : decode cX14_plain 156 = .ok (.iload 9, 2) := by decide +kernel
theorem dX14_plain_158 : decode cX14_plain 158 = .ok (.iadd, 1) := by decide +kernel
theorem dX14_plain_159 : decode cX14_plain 159 = .ok (.aload_n 0, 1) := by decide +kernel
theorem dX14_plain_160 : decode cX14_plain 160 = .ok (.getfield 51, 3) := by decide +kernel
theorem dX14_plain_163 : decode cX14_plain 163 = .ok (.iconst 3, 1) := by decide +kernel
theorem dX14_plain_164 : decode cX14_plain 164 = .ok (.iload 8, 2) := by decide +kernel
theorem dX14_plain_166 : decode cX14_plain 166 = .ok (.imul, 1) := by decide +kernel
theorem dX14_plain_167 : decode cX14_plain 167 = .ok (.iload 9, 2) := by decide +kernel
theorem dX14_plain_169 : decode cX14_plain 169 = .ok (.iadd, 1) := by decide +kernel
theorem dX14_plain_170 : decode cX14_plain 170 = .ok (.laload, 1) := by decide +kernel
theorem dX14_plain_171 : decode cX14_plain 171 = .ok (.lastore, 1) := by decide +kernel
theorem dX14_plain_172 : decode cX14_plain 172 = .ok (.iinc 9 1, 3) := by decide +kernel
theorem dX14_plain_175 : decode cX14_plain 175 = .ok (.goto (-33), 3) := by decide +kernel
theorem dX14_plain_178 : decode cX14_plain 178 = .ok (.iinc 8 1, 3) := by decide +kernel
theorem dX14_plain_181 : decode cX14_plain 181 = .ok (.goto (-78), 3) := by decide +kernel
theorem dX14_plain_184 : decode cX14_plain 184 = .ok (.aload_n 0, 1) := by decide +kernel
theorem dX14_plain_185 : decode cX14_plain 185 = .ok (.iconst 1, 1) := by decide +kernel
theorem dX14_plain_186 : decode cX14_plain 186 = .ok (.putfield 392, 3) := by decide +kernel
theorem dX14_plain_189 : decode cX14_plain 189 = .ok (.aload_n 0, 1) := by decide +kernel
theorem dX14_plain_190 : decode cX14_plain 190 = .ok (.iconst 0, 1) := by decide +kernel
theorem dX14_plain_191 : decode cX14_plain 191 = .ok (.putfield 475, 3) := by decide +kernel
theorem dX14_plain_194 : decode cX14_plain 194 = .ok (.aload_n 0, 1) := by decide +kernel
theorem dX14_plain_195 : decode cX14_plain 195 = .ok (.iconst 0, 1) := by decide +kernel
theorem dX14_plain_196 : decode cX14_plain 196 = .ok (.putfield 431, 3) := by decide +kernel
theorem dX14_plain_199 : decode cX14_plain 199 = .ok (.aload_n 0, 1) := by decide +kernel
theorem dX14_plain_200 : decode cX14_plain 200 = .ok (.iload_n 1, 1) := by decide +kernel
theorem dX14_plain_201 : decode cX14_plain 201 = .ok (.iload_n 2, 1) := by decide +kernel
theorem dX14_plain_202 : decode cX14_plain 202 = .ok (.iload_n 3, 1) := by decide +kernel
theorem dX14_plain_203 : decode cX14_plain 203 = .ok (.iload 4, 2) := by decide +kernel
theorem dX14_plain_205 : decode cX14_plain 205 = .ok (.iload 5, 2) := by decide +kernel
theorem dX14_plain_207 : decode cX14_plain 207 = .ok (.iload 6, 2) := by decide +kernel
theorem dX14_plain_209 : decode cX14_plain 209 = .ok (.invokevirtual 508, 3) := by decide +kernel
theorem dX14_plain_212 : decode cX14_plain 212 = .ok (.istore 8, 2) := by decide +kernel
theorem dX14_plain_214 : decode cX14_plain 214 = .ok (.aload_n 0, 1) := by decide +kernel
theorem dX14_plain_215 : decode cX14_plain 215 = .ok (.iconst 0, 1) := by decide +kernel
theorem dX14_plain_216 : decode cX14_plain 216 = .ok (.putfield 392, 3) := by decide +kernel
theorem dX14_plain_219 : decode cX14_plain 219 = .ok (.aload_n 0, 1) := by decide +kernel
theorem dX14_plain_220 : decode cX14_plain 220 = .ok (.iload 8, 2) := by decide +kernel
theorem dX14_plain_222 : decode cX14_plain 222 = .ok (.iconst 1, 1) := by decide +kernel
theorem dX14_plain_223 : decode cX14_plain 223 = .ok (.if_icmp .ne 7, 3) := by decide +kernel
theorem dX14_plain_226 : decode cX14_plain 226 = .ok (.iconst 1, 1) := by decide +kernel
theorem dX14_plain_227 : decode cX14_plain 227 = .ok (.goto 4, 3) := by decide +kernel
theorem dX14_plain_230 : decode cX14_plain 230 = .ok (.iconst 0, 1) := by decide +kernel
theorem dX14_plain_231 : decode cX14_plain 231 = .ok (.putfield 369, 3) := by decide +kernel
theorem dX14_plain_234 : decode cX14_plain 234 = .ok (.aload_n 0, 1) := by decide +kernel
theorem dX14_plain_235 : decode cX14_plain 235 = .ok (.getfield 369, 3) := by decide +kernel
theorem dX14_plain_238 : decode cX14_plain 238 = .ok (.ifCond .eq 11, 3) := by decide +kernel
theorem dX14_plain_241 : decode cX14_plain 241 = .ok (.aload_n 0, 1) := by decide +kernel
theorem dX14_plain_242 : decode cX14_plain 242 = .ok (.aload_n 0, 1) := by decide +kernel
theorem dX14_plain_243 : decode cX14_plain 243 = .ok (.invokevirtual 450, 3) := by decide +kernel
theorem dX14_plain_246 : decode cX14_plain 246 = .ok (.putfield 515, 3) := by decide +kernel
theorem dX14_plain_249 : decode cX14_plain 249 = .ok (.iconst 0, 1) := by decide +kernel
theorem dX14_plain_250 : decode cX14_plain 250 = .ok (.istore 9, 2) := by decide +kernel
theorem dX14_plain_252 : decode cX14_plain 252 = .ok (.iload 9, 2) := by decide +kernel
theorem dX14_plain_254 : decode cX14_plain 254 = .ok (.aload_n 0, 1) := by decide +kernel
theorem dX14_plain_255 : decode cX14_plain 255 = .ok (.getfield 475, 3) := by decide +kernel
theorem dX14_plain_258 : decode cX14_plain 258 = .ok (.if_icmp .ge 62, 3) := by decide +kernel
theorem dX14_plain_261 : decode cX14_plain 261 = .ok (.aload_n 0, 1) := by decide +kernel
theorem dX14_plain_262 : decode cX14_plain 262 = .ok (.getfield 54, 3) := by decide +kernel
theorem dX14_plain_265 : decode cX14_plain 265 = .ok (.iload 9, 2) := by decide +kernel
theorem dX14_plain_267 : decode cX14_plain 267 = .ok (.aload_n 0, 1) := by decide +kernel
theorem dX14_plain_268 : decode cX14_plain 268 = .ok (.getfield 38, 3) := by decide +kernel
theorem dX14_plain_271 : decode cX14_plain 271 = .ok (.iload 9, 2) := by decide +kernel
theorem dX14_plain_273 : decode cX14_plain 273 = .ok (.iaload, 1) := by decide +kernel
theorem dX14_plain_274 : decode cX14_plain 274 = .ok (.iastore, 1) := by decide +kernel
theorem dX14_plain_275 : decode cX14_plain 275 = .ok (.iconst 0, 1) := by decide +kernel
theorem dX14_plain_276 : decode cX14_plain 276 = .ok (.istore 10, 2) := by decide +kernel
theorem dX14_plain_278 : decode cX14_plain 278 = .ok (.iload 10, 2) := by decide +kernel
theorem dX14_plain_280 : decode cX14_plain 280 = .ok (.iconst 3, 1) := by decide +kernel
theorem dX14_plain_281 : decode cX14_plain 281 = .ok (.if_icmp .ge 33, 3) := by decide +kernel
theorem dX14_plain_284 : decode cX14_plain 284 = .ok (.aload_n 0, 1) := by decide +kernel
theorem dX14_plain_285 : decode cX14_plain 285 = .ok (.getfield 57, 3) := by decide +kernel
theorem dX14_plain_288 : decode cX14_plain 288 = .ok (.iconst 3, 1) := by decide +kernel
theorem dX14_plain_289 : decode cX14_plain 289 = .ok (.iload 9, 2) := by decide +kernel
theorem dX14_plain_291 : decode cX14_plain 291 = .ok (.imul, 1) := by decide +kernel
theorem dX14_plain_292 : decode cX14_plain 292 = .ok (.iload 10, 2) := by decide +kernel
theorem dX14_plain_294 : decode cX14_plain 294 = .ok (.iadd, 1) := by decide +kernel
theorem dX14_plain_295 : decode cX14_plain 295 = .ok (.aload_n 0, 1) := by decide +kernel
theorem dX14_plain_296 : decode cX14_plain 296 = .ok (.getfield 51, 3) := by decide +kernel
theorem dX14_plain_299 : decode cX14_plain 299 = .ok (.iconst 3, 1) := by decide +kernel
theorem dX14_plain_300 : decode cX14_plain 300 = .ok (.iload 9, 2) := by decide +kernel
theorem dX14_plain_302 : decode cX14_plain 302 = .ok (.imul, 1) := by decide +kernel
theorem dX14_plain_303 : decode cX14_plain 303 = .ok (.iload 10, 2) := by decide +kernel
theorem dX14_plain_305 : decode cX14_plain 305 = .ok (.iadd, 1) := by decide +kernel
theorem dX14_plain_306 : decode cX14_plain 306 = .ok (.laload, 1) := by decide +kernel
theorem dX14_plain_307 : decode cX14_plain 307 = .ok (.lastore, 1) := by decide +kernel
theorem dX14_plain_308 : decode cX14_plain 308 = .ok (.iinc 10 1, 3) := by decide +kernel
theorem dX14_plain_311 : decode cX14_plain 311 = .ok (.goto (-33), 3) := by decide +kernel
theorem dX14_plain_314 : decode cX14_plain 314 = .ok (.iinc 9 1, 3) := by decide +kernel
theorem dX14_plain_317 : decode cX14_plain 317 = .ok (.goto (-65), 3) := by decide +kernel
theorem dX14_plain_320 : decode cX14_plain 320 = .ok (.iconst 0, 1) := by decide +kernel
theorem dX14_plain_321 : decode cX14_plain 321 = .ok (.istore 9, 2) := by decide +kernel
theorem dX14_plain_323 : decode cX14_plain 323 = .ok (.iload 9, 2) := by decide +kernel
theorem dX14_plain_325 : decode cX14_plain 325 = .ok (.sipush 400, 3) := by decide +kernel
theorem dX14_plain_328 : decode cX14_plain 328 = .ok (.if_icmp .ge 76, 3) := by decide +kernel
theorem dX14_plain_331 : decode cX14_plain 331 = .ok (.aload_n 0, 1) := by decide +kernel
theorem dX14_plain_332 : decode cX14_plain 332 = .ok (.getfield 38, 3) := by decide +kernel
theorem dX14_plain_335 : decode cX14_plain 335 = .ok (.iload 9, 2) := by decide +kernel
theorem dX14_plain_337 : decode cX14_plain 337 = .ok (.aload_n 0, 1) := by decide +kernel
theorem dX14_plain_338 : decode cX14_plain 338 = .ok (.getfield 87, 3) := by decide +kernel
theorem dX14_plain_341 : decode cX14_plain 341 = .ok (.iload 9, 2) := by decide +kernel
theorem dX14_plain_343 : decode cX14_plain 343 = .ok (.iaload, 1) := by decide +kernel
theorem dX14_plain_344 : decode cX14_plain 344 = .ok (.iastore, 1) := by decide +kernel
theorem dX14_plain_345 : decode cX14_plain 345 = .ok (.aload_n 0, 1) := by decide +kernel
theorem dX14_plain_346 : decode cX14_plain 346 = .ok (.getfield 42, 3) := by decide +kernel
theorem dX14_plain_349 : decode cX14_plain 349 = .ok (.iload 9, 2) := by decide +kernel
theorem dX14_plain_351 : decode cX14_plain 351 = .ok (.aload_n 0, 1) := by decide +kernel
theorem dX14_plain_352 : decode cX14_plain 352 = .ok (.getfield 90, 3) := by decide +kernel
theorem dX14_plain_355 : decode cX14_plain 355 = .ok (.iload 9, 2) := by decide +kernel
theorem dX14_plain_357 : decode cX14_plain 357 = .ok (.iaload, 1) := by decide +kernel
theorem dX14_plain_358 : decode cX14_plain 358 = .ok (.iastore, 1) := by decide +kernel
theorem dX14_plain_359 : decode cX14_plain 359 = .ok (.iconst 0, 1) := by decide +kernel
theorem dX14_plain_360 : decode cX14_plain 360 = .ok (.istore 10, 2) := by decide +kernel
theorem dX14_plain_362 : decode cX14_plain 362 = .ok (.iload 10, 2) := by decide +kernel
theorem dX14_plain_364 : decode cX14_plain 364 = .ok (.iconst 3, 1) := by decide +kernel
theorem dX14_plain_365 : decode cX14_plain 365 = .ok (.if_icmp .ge 33, 3) := by decide +kernel
theorem dX14_plain_368 : decode cX14_plain 368 = .ok (.aload_n 0, 1) := by decide +kernel
theorem dX14_plain_369 : decode cX14_plain 369 = .ok (.getfield 51, 3) := by decide +kernel
theorem dX14_plain_372 : decode cX14_plain 372 = .ok (.iconst 3, 1) := by decide +kernel
theorem dX14_plain_373 : decode cX14_plain 373 = .ok (.iload 9, 2) := by decide +kernel
theorem dX14_plain_375 : decode cX14_plain 375 = .ok (.imul, 1) := by decide +kernel
theorem dX14_plain_376 : decode cX14_plain 376 = .ok (.iload 10, 2) := by decide +kernel
theorem dX14_plain_378 : decode cX14_plain 378 = .ok (.iadd, 1) := by decide +kernel
theorem dX14_plain_379 : decode cX14_plain 379 = .ok (.aload_n 0, 1) := by decide +kernel
theorem dX14_plain_380 : decode cX14_plain 380 = .ok (.getfield 93, 3) := by decide +kernel
theorem dX14_plain_383 : decode cX14_plain 383 = .ok (.iconst 3, 1) := by decide +kernel
theorem dX14_plain_384 : decode cX14_plain 384 = .ok (.iload 9, 2) := by decide +kernel
theorem dX14_plain_386 : decode cX14_plain 386 = .ok (.imul, 1) := by decide +kernel
theorem dX14_plain_387 : decode cX14_plain 387 = .ok (.iload 10, 2) := by decide +kernel
theorem dX14_plain_389 : decode cX14_plain 389 = .ok (.iadd, 1) := by decide +kernel
theorem dX14_plain_390 : decode cX14_plain 390 = .ok (.laload, 1) := by decide +kernel
theorem dX14_plain_391 : decode cX14_plain 391 = .ok (.lastore, 1) := by decide +kernel
theorem dX14_plain_392 : decode cX14_plain 392 = .ok (.iinc 10 1, 3) := by decide +kernel
theorem dX14_plain_395 : decode cX14_plain 395 = .ok (.goto (-33), 3) := by decide +kernel
theorem dX14_plain_398 : decode cX14_plain 398 = .ok (.iinc 9 1, 3) := by decide +kernel
theorem dX14_plain_401 : decode cX14_plain 401 = .ok (.goto (-78), 3) := by decide +kernel
theorem dX14_plain_404 : decode cX14_plain 404 = .ok (.aload_n 0, 1) := by decide +kernel
theorem dX14_plain_405 : decode cX14_plain 405 = .ok (.aload_n 0, 1) := by decide +kernel
theorem dX14_plain_406 : decode cX14_plain 406 = .ok (.getfield 84, 3) := by decide +kernel
theorem dX14_plain_409 : decode cX14_plain 409 = .ok (.iconst 0, 1) := by decide +kernel
theorem dX14_plain_410 : decode cX14_plain 410 = .ok (.iaload, 1) := by decide +kernel
theorem dX14_plain_411 : decode cX14_plain 411 = .ok (.putfield 431, 3) := by decide +kernel
theorem dX14_plain_414 : decode cX14_plain 414 = .ok (.aload_n 0, 1) := by decide +kernel
theorem dX14_plain_415 : decode cX14_plain 415 = .ok (.aload_n 0, 1) := by decide +kernel
theorem dX14_plain_416 : decode cX14_plain 416 = .ok (.getfield 84, 3) := by decide +kernel
theorem dX14_plain_419 : decode cX14_plain 419 = .ok (.iconst 1, 1) := by decide +kernel
theorem dX14_plain_420 : decode cX14_plain 420 = .ok (.iaload, 1) := by decide +kernel
theorem dX14_plain_421 : decode cX14_plain 421 = .ok (.putfield 487, 3) := by decide +kernel
theorem dX14_plain_424 : decode cX14_plain 424 = .ok (.aload_n 0, 1) := by decide +kernel
theorem dX14_plain_425 : decode cX14_plain 425 = .ok (.aload_n 0, 1) := by decide +kernel
theorem dX14_plain_426 : decode cX14_plain 426 = .ok (.getfield 84, 3) := by decide +kernel
theorem dX14_plain_429 : decode cX14_plain 429 = .ok (.iconst 2, 1) := by decide +kernel
theorem dX14_plain_430 : decode cX14_plain 430 = .ok (.iaload, 1) := by decide +kernel
theorem dX14_plain_431 : decode cX14_plain 431 = .ok (.putfield 484, 3) := by decide +kernel
theorem dX14_plain_434 : decode cX14_plain 434 = .ok (.aload_n 0, 1) := by decide +kernel
theorem dX14_plain_435 : decode cX14_plain 435 = .ok (.aload_n 0, 1) := by decide +kernel
theorem dX14_plain_436 : decode cX14_plain 436 = .ok (.getfield 84, 3) := by decide +kernel
theorem dX14_plain_439 : decode cX14_plain 439 = .ok (.iconst 3, 1) := by decide +kernel
theorem dX14_plain_440 : decode cX14_plain 440 = .ok (.iaload, 1) := by decide +kernel
theorem dX14_plain_441 : decode cX14_plain 441 = .ok (.putfield 389, 3) := by decide +kernel
theorem dX14_plain_444 : decode cX14_plain 444 = .ok (.aload_n 0, 1) := by decide +kernel
theorem dX14_plain_445 : decode cX14_plain 445 = .ok (.aload_n 0, 1) := by decide +kernel
theorem dX14_plain_446 : decode cX14_plain 446 = .ok (.getfield 84, 3) := by decide +kernel
theorem dX14_plain_449 : decode cX14_plain 449 = .ok (.iconst 4, 1) := by decide +kernel
theorem dX14_plain_450 : decode cX14_plain 450 = .ok (.iaload, 1) := by decide +kernel
theorem dX14_plain_451 : decode cX14_plain 451 = .ok (.putfield 490, 3) := by decide +kernel
theorem dX14_plain_454 : decode cX14_plain 454 = .ok (.aload_n 0, 1) := by decide +kernel
theorem dX14_plain_455 : decode cX14_plain 455 = .ok (.aload_n 0, 1) := by decide +kernel
theorem dX14_plain_456 : decode cX14_plain 456 = .ok (.getfield 84, 3) := by decide +kernel
theorem dX14_plain_459 : decode cX14_plain 459 = .ok (.iconst 5, 1) := by decide +kernel
theorem dX14_plain_460 : decode cX14_plain 460 = .ok (.iaload, 1) := by decide +kernel
theorem dX14_plain_461 : decode cX14_plain 461 = .ok (.putfield 398, 3) := by decide +kernel
theorem dX14_plain_464 : decode cX14_plain 464 = .ok (.aload_n 0, 1) := by decide +kernel
theorem dX14_plain_465 : decode cX14_plain 465 = .ok (.aload_n 0, 1) := by decide +kernel
theorem dX14_plain_466 : decode cX14_plain 466 = .ok (.getfield 84, 3) := by decide +kernel
theorem dX14_plain_469 : decode cX14_plain 469 = .ok (.bipush 6, 2) := by decide +kernel
theorem dX14_plain_471 : decode cX14_plain 471 = .ok (.iaload, 1) := by decide +kernel
theorem dX14_plain_472 : decode cX14_plain 472 = .ok (.putfield 424, 3) := by decide +kernel
theorem dX14_plain_475 : decode cX14_plain 475 = .ok (.iload 8, 2) := by decide +kernel
theorem dX14_plain_477 : decode cX14_plain 477 = .ok (.ireturn, 1) := by decide +kernel
theorem zcpl {f f2 f3 : Nat → Int64} {n n2 : Nat} {v : Int64} (h : ∀ j, j < n → f2 j = f j) (e : f3 = vp_updL f2 n v) (ev : v = f n) (e2 : n2 = n + 1) : ∀ j, j < n2 → f3 j = f j := fun j hj => by
  by_cases g : j = n
  · rw [e, g, zul_s]; exact ev
  · rw [e, zul_n g]; exact h j (by omega)
theorem zcpi {f f2 f3 : Nat → Int32} {n n2 : Nat} {v : Int32} (h : ∀ j, j < n → f2 j = f j) (e : f3 = upd f2 n v) (ev : v = f n) (e2 : n2 = n + 1) : ∀ j, j < n2 → f3 j = f j := fun j hj => by
  by_cases g : j = n
  · rw [e, g, zu_s]; exact ev
  · rw [e, zu_n g]; exact h j (by omega)

end
section
/-! a method's contract within a greater world -/
theorem fr_at {ws wc : va_W} {isC : List Nat} (hC : isC.map (fun i => ws[i]?) = wc.map some) {k : Nat} {q : Nat × va_E} (hq : wc[k]? = some q) : ∃ i : Nat, ws[i]? = some q := by
  have h1 : (isC.map (fun i => ws[i]?))[k]? = some (some q) := by rw [hC, List.getElem?_map, hq]; rfl
  rw [List.getElem?_map] at h1
  cases hi : isC[k]? with
  | none => rw [hi] at h1; cases h1
  | some i => rw [hi] at h1; exact ⟨i, Option.some.inj h1⟩
def fr_X (A : Nat → Prop) : Nat → Nat → String → State → State → Prop := fun _ _ => vx_X (fun _ : Unit => False) (fun _ _ _ => True) A
theorem fr_w {a0 : Addr} {l : Launch} {y : MethodName} {cs : List Cond} {rm : Room} {av : List Value} {dC : Nat → ClassId} {dI : Nat → Nat → Nat} {aK aV : Nat → Nat} {sz : Nat} {U : Type} {post : Nat → Nat → Int32 → U → Prop} {t1 : U → List (ClassId × FieldType)} {w1 : U → va_W} {ws wc wr : va_W} {tys tc tr : List (ClassId × FieldType)}
    (hM : vw_Met a0 l y cs rm (va_Pc av (zP dC dI aK aV sz tc wc)) (fun kc kn => va_Qi (post kc kn) (fun u => zQ dC dI (va_A wc sz) (t1 u) (w1 u)) (va_A wc sz)) (fr_X (va_A wc sz)) (va_A wc sz))
    (isC isR : List Nat) (hC : isC.map (fun i => ws[i]?) = wc.map some) (hR : isR.map (fun i => ws[i]?) = wr.map some) (hnC : va_nd isC = true) (hn : va_nd isR = true) (hdis : ∀ i ∈ isR, i ∉ isC) (ic ir : List Nat) (htc : ic.filterMap (fun i => tys[i]?) = tc) (htr : ir.filterMap (fun i => tys[i]?) = tr) :
    vw_Met a0 l y cs rm (va_Pc av (zP dC dI aK aV sz tys ws)) (fun kc kn => va_Qi (post kc kn) (fun u => zQ dC dI (va_A ws sz) (tr ++ t1 u) (wr ++ w1 u)) (va_A ws sz)) (fr_X (va_A ws sz)) (va_A ws sz) := by
  have hF : ∀ q, va_A wc sz q → va_A ws sz q := fun q h => by
    rcases h with ⟨k, e, h⟩ | h
    · obtain ⟨i, hi⟩ := fr_at hC h
      exact Or.inl ⟨i, e, hi⟩
    · exact Or.inr h
  refine MetFree.mono hM (fun a s h => ?_) (fun _ _ _ _ _ h => h) (fun a s o t h q => ?_)
  · obtain ⟨e, hsz, hP, hK, hD, hN, hT⟩ := h
    exact ⟨e, hsz, fun k q hq => (fr_at hC hq).elim (fun i hi => hP i q hi), hK.sub ic htc, hD.sub isC hnC hC, hN, zT.pass (State.WarmedH.refl s) hT va_S.rf hF⟩
  · obtain ⟨-, hsz, hP, hK, hD, -, -⟩ := h
    subst hsz
    obtain ⟨kc, kn, q⟩ := q
    rcases q with ⟨⟨⟨r, u, ho, hp, hq⟩, hf⟩, L, hfe, hL⟩ | ⟨-, E, ce, L, ⟨u, hu, -⟩, -⟩
    · obtain ⟨hP1, hK1, hD1⟩ := hq
      have hj := va_join (A0 := va_A ws s.heap.size) hP hD.self isC isR hC hR hn hdis hf.2 hF hP1 hD1
      refine ⟨kc, kn, Or.inl ⟨⟨⟨r, u, ho, hp, hj.1, (va_K.moved hfe.2.1.alike (hK.sub ir htr)).app hK1, hj.2⟩, hf.1, fun q h1 h2 => hf.2 q h1 (fun g => h2 (hF q g))⟩, L, hfe, fun z hz => hF _ (hL z hz)⟩⟩
    · exact hu.elim
/-- the world in another order, other facts, other names -/
theorem fr_m {a0 : Addr} {l : Launch} {y : MethodName} {cs : List Cond} {rm : Room} {Pc : Array Value → State → Prop} {dC : Nat → ClassId} {dI : Nat → Nat → Nat} {U V : Type} {post : Nat → Nat → Int32 → U → Prop} {post2 : Nat → Nat → Int32 → V → Prop} {t1 : U → List (ClassId × FieldType)} {w1 : U → va_W} {t2 : V → List (ClassId × FieldType)} {w2 : V → va_W} {A : Nat → Prop} {free : Addr → Prop}
    (hM : vw_Met a0 l y cs rm Pc (fun kc kn => va_Qi (post kc kn) (fun u => zQ dC dI A (t1 u) (w1 u)) A) (fr_X A) free)
    (hQ : ∀ kc kn r u, post kc kn r u → ∃ v, post2 kc kn r v ∧ (∃ is : List Nat, va_nd is = true ∧ is.map (fun i => (w1 u)[i]?) = (w2 v).map some) ∧ ∃ is : List Nat, is.filterMap (fun i => (t1 u)[i]?) = t2 v) :
    vw_Met a0 l y cs rm Pc (fun kc kn => va_Qi (post2 kc kn) (fun v => zQ dC dI A (t2 v) (w2 v)) A) (fr_X A) free := by
  refine MetFree.mono hM (fun a s h => h) (fun _ _ _ _ _ h => h) (fun a s o t h q => ?_)
  obtain ⟨kc, kn, q⟩ := q
  rcases q with ⟨⟨⟨r, u, ho, hp, hP1, hK1, hD1⟩, hf⟩, L, hfe, hL⟩ | ⟨-, E, ce, L, ⟨u, hu, -⟩, -⟩
  · obtain ⟨v, hv, ⟨is, h1, h2⟩, ⟨it, h3⟩⟩ := hQ kc kn r u hp
    exact ⟨kc, kn, Or.inl ⟨⟨⟨r, v, ho, hv, fun k q hq => (fr_at h2 hq).elim (fun i hi => hP1 i q hi), hK1.sub it h3, hD1.sub is h1 h2⟩, hf⟩, L, hfe, hL⟩⟩
  · exact hu.elim
theorem fr_ofMet {a0 : Addr} {l : Launch} {y : MethodName} {cs : List Cond} {rm : Room} {Pc : Array Value → State → Prop} {U : Type} {post : Int32 → U → Prop} {B : U → State → Prop} {A : Nat → Prop} {mc ms : Nat} {free : Addr → Prop} (h : Met l y cs rm Pc (va_Qi post B A) mc ms free) : vw_Met a0 l y cs rm Pc (fun kc kn => va_Qi (fun r u => post r u ∧ kc = mc ∧ kn = ms) B A) (fr_X A) free :=
  MetFree.mono h (fun _ _ h => h) (fun _ _ _ _ _ h => h) (fun a s o t _ q => by
    obtain ⟨⟨⟨r, u, ho, hp, hb⟩, hf⟩, L, hfe, hL⟩ := q
    exact ⟨mc, ms, Or.inl ⟨⟨⟨r, u, ho, ⟨hp, rfl, rfl⟩, hb⟩, hf⟩, L, hfe, hL⟩⟩)
theorem fr_ofVx {a0 : Addr} {l : Launch} {y : MethodName} {cs : List Cond} {rm : Room} {Pc : Array Value → State → Prop} {U : Type} {post : Int32 → U → Prop} {B : U → State → Prop} {A A2 : Nat → Prop} {mc ms : Nat} {free : Addr → Prop} (h : vx_Met l y cs rm Pc (va_Qi post B A) (vx_X (fun _ : Unit => False) (fun _ _ _ => True) A2) mc ms free) : vw_Met a0 l y cs rm Pc (fun kc kn => va_Qi (fun r u => post r u ∧ kc = mc ∧ kn = ms) B A) (fr_X A) free :=
  MetFree.mono h (fun _ _ h => h) (fun _ _ _ _ _ h => h) (fun a s o t _ q => by
    rcases q with ⟨⟨⟨r, u, ho, hp, hb⟩, hf⟩, L, hfe, hL⟩ | ⟨q, -, E, ce, L, ⟨u, hu, -⟩, -⟩
    · exact ⟨mc, ms, Or.inl ⟨⟨⟨r, u, ho, ⟨hp, rfl, rfl⟩, hb⟩, hf⟩, L, hfe, hL⟩⟩
    · exact hu.elim)
theorem fr_ofVw {a0 a1 : Addr} {l : Launch} {y : MethodName} {cs : List Cond} {rm : Room} {Pc : Array Value → State → Prop} {U : Type} {post : Nat → Nat → Int32 → U → Prop} {B : U → State → Prop} {A A2 : Nat → Prop} {free : Addr → Prop} (h : vw_Met a1 l y cs rm Pc (fun kc kn => va_Qi (post kc kn) B A) (fun _ _ => vx_X (fun _ : Unit => False) (fun _ _ _ => True) A2) free) : vw_Met a0 l y cs rm Pc (fun kc kn => va_Qi (post kc kn) B A) (fr_X A) free :=
  MetFree.mono h (fun _ _ h => h) (fun _ _ _ _ _ h => h) (fun a s o t _ q => by
    obtain ⟨kc, kn, q⟩ := q
    rcases q with q | ⟨-, E, ce, L, ⟨u, hu, -⟩, -⟩
    · exact ⟨kc, kn, Or.inl q⟩
    · exact hu.elim)

end
