section
/-! the reference's value and its counts -/
theorem rVz_of {F : sp_F} {fd : Nat → Int32} {lim : Int} {al : Nat} {s0 : cm_S} {gi : Int} {va : Nat → Int64} {vd n : Nat} {ck gc : Nat → Int32} {cf : Nat → Int64} {fr : Nat → Int32} {fc : Int} {md ru : Nat} {mo : Int} {db om : Nat} {u : Int64} (h : rEv F fd lim al s0 gi va vd n ck gc cf fr fc md ru mo db om) (hv : vd = 1) (hu : u = va 0) : rVz fd u ck gc cf fr fc gi := by
  subst hv
  obtain ⟨V, c, ck', cf', ph, lv, gA, h1, h2, h3, h4⟩ := h
  obtain ⟨v, rfl⟩ : ∃ v, V = [v] := by
    cases V with
    | nil => exact absurd h2.1 (by decide)
    | cons v V =>
      cases V with
      | nil => exact ⟨v, rfl⟩
      | cons w V => exact absurd h2.1 (by show V.length + 1 + 1 ≠ 1; omega)
  refine ⟨v, c, ck', cf', ph, lv, gA, ?_, hZ_R h3 (fun x => by show zr v x = zr v x + 0; omega), h4⟩
  rw [hu]
  exact h2.2 0 (by decide)
theorem rVz_le {fd : Nat → Int32} {u : Int64} {gk gc : Nat → Int32} {gv : Nat → Int64} {fr : Nat → Int32} {fc gi : Int} (h : rVz fd u gk gc gv fr fc gi) : 0 ≤ fc ∧ fc ≤ gi := by
  obtain ⟨v, c, ck, cf, ph, lv, gA, k1, k2, k3⟩ := h
  exact hF_le k3
/-- all is free where nothing is held -/
theorem hF_all {φ : Nat → Nat} {lv : Nat → Bool} {gA : Nat → Int} {c : Nat} {w : Nat → Nat} {kA : Nat → Int32} {cA : Nat → Int64} {R : Nat → Int} {gk gc : Nat → Int32} {gv : Nat → Int64} {fr : Nat → Int32} {fc gi : Int} (h : hZ φ lv gA c w kA cA R [] gk gc gv) (hR : ∀ x, R x = 0) (h2 : hF φ lv c [] fr fc gi) : fc = gi := by
  have e : fc = gi - (hN c lv + 0) := h2.2.2.1
  rw [hZ_0n h hR] at e
  omega
/-- the reference's run, with its counts -/
theorem rq_R {B : Nat → Nat → Int32} {wh ow on tw th be ma fd us bh mk fs bo td wd : Nat → Int32} {nm kn fn : Nat → Int64} {kz nf pz tk f cs al a b c d r wr : Int32} {o : Option (sp_S × sp_F)} {hr2 st2 md2 ru2 fe2 mo2 db2 gi2 fc2 om2 hv2 hr1 st1 md1 ru1 fe1 mo1 db1 gi1 fc1 om1 hv1 : Int32} (h : (tk.toInt = 0 ∨ f.toInt < 0 ∨ nf.toInt ≤ f.toInt ∨ al.toInt < 0 ∨ 20000 < al.toInt ∨ cs.toInt < 0 ∨ 400 < cs.toInt) ∧ r.toInt = -1 ∧ (hr2 = hr1 ∧ st2 = st1 ∧ md2 = md1 ∧ ru2 = ru1 ∧ fe2 = fe1 ∧ mo2 = mo1 ∧ db2 = db1 ∧ gi2 = gi1 ∧ fc2 = fc1 ∧ om2 = om1 ∧ hv2 = hv1) ∨ (tk.toInt ≠ 0 ∧ 0 ≤ f.toInt ∧ f.toInt < nf.toInt ∧ 0 ≤ al.toInt ∧ al.toInt ≤ 20000 ∧ 0 ≤ cs.toInt ∧ cs.toInt ≤ 400) ∧ ∃ (s : sp_S) (F : sp_F), o = some (s, F) ∧ ∃ fx : Int, rXq F fd (Int32.toInt cs) (Int32.toNatClampNeg al) (cm_s0 F (Int32.toNatClampNeg f) a b c d) (Int32.toInt cs) r wr (Int32.toNatClampNeg st2) (Int32.toNatClampNeg md2) (Int32.toNatClampNeg ru2) (Int32.toInt mo2) (Int32.toNatClampNeg db2) (Int32.toNatClampNeg om2) fx ∧ fe2.toInt = md2.toInt - (cs.toInt - fx) ∧ hr2.toInt = 1 ∧ gi2 = cs ∧ (0 ≤ st2.toInt ∧ 0 ≤ md2.toInt ∧ 0 ≤ ru2.toInt ∧ 0 ≤ db2.toInt ∧ 0 ≤ om2.toInt) ∧ (r.toInt = 1 ∧ hv2.toInt = 1 ∧ fc2.toInt = fx ∨ r.toInt ≠ 1 ∧ hv2.toInt = 0 ∧ fc2.toInt = cs.toInt)) (hp : (tk.toInt = 0 ∧ o = none) ∨ (tk.toInt ≠ 0 ∧ rx_pp o kn fd kz fn td nf B nm fs bo pz wd mk ∧ ∀ q, o = some q → wfF q.1 q.2 ∧ syF q.2)) (hr : tk.toInt = 0 ∨ zRd wh ow on tw th be ma fd kz us bh fs bo td nf pz) (hk : 0 ≤ kz.toInt) : rqX o f cs al a b c d r (cnF hr1.toInt st1.toInt md1.toInt ru1.toInt fe1.toInt mo1.toInt db1.toInt (gi1.toInt - fc1.toInt) om1.toInt hv1.toInt) (cnF hr2.toInt st2.toInt md2.toInt ru2.toInt fe2.toInt mo2.toInt db2.toInt (gi2.toInt - fc2.toInt) om2.toInt hv2.toInt) := by
  have nk := zn_nat hk
  have same : hr2 = hr1 ∧ st2 = st1 ∧ md2 = md1 ∧ ru2 = ru1 ∧ fe2 = fe1 ∧ mo2 = mo1 ∧ db2 = db1 ∧ gi2 = gi1 ∧ fc2 = fc1 ∧ om2 = om1 ∧ hv2 = hv1 → cnF hr2.toInt st2.toInt md2.toInt ru2.toInt fe2.toInt mo2.toInt db2.toInt (gi2.toInt - fc2.toInt) om2.toInt hv2.toInt = cnF hr1.toInt st1.toInt md1.toInt ru1.toInt fe1.toInt mo1.toInt db1.toInt (gi1.toInt - fc1.toInt) om1.toInt hv1.toInt := fun ⟨e0, e1, e2, e3, e4, e5, e6, e7, e8, e9, ea⟩ => by rw [e0, e1, e2, e3, e4, e5, e6, e7, e8, e9, ea]
  rcases hp with ⟨p1, p2⟩ | ⟨p1, ⟨s, kw, kf, fw, ft, G, e, e1, -, e3, e4, -⟩, -⟩
  · subst p2
    rcases h with ⟨-, e, e0⟩ | ⟨h, -⟩
    · exact Or.inl ⟨fun s F g => (by cases g), e, same e0⟩
    · exact absurd p1 h.1
  · obtain ⟨-, -, n0, -⟩ := hr.resolve_left p1
    have nn := zn_nat n0
    subst e
    rcases h with ⟨h, e, e0⟩ | ⟨h, s2, F2, e, fx, ⟨hw, p, k1, -, K, V, E, c9, ck, cf, Sh, k2, k3⟩, g1, g2, g3, ⟨g4, g5, g6, g7, g8⟩, g9⟩
    · refine Or.inl ⟨fun s2 F2 g u => ?_, e, same e0⟩
      cases g
      obtain ⟨u1, u2, u3, u4, u5⟩ := u
      have u2 : f.toInt < ((Int32.toNatClampNeg nf : Nat) : Int) := u2
      omega
    · cases e
      refine Or.inr ⟨_, _, rfl, ⟨h.2.1, by show f.toInt < ((Int32.toNatClampNeg nf : Nat) : Int); omega, ⟨h.2.2.2.1, h.2.2.2.2.1⟩, h.2.2.2.2.2⟩, fd, hw, p, _, _, fun k hk2 => by rw [e3]; exact ((e4 k (by omega)).2).symm, k1, ?_, k2, k3⟩
      have m1 := zn_nat g4
      have m2 := zn_nat g5
      have m3 := zn_nat g6
      have m4 := zn_nat g7
      have m5 := zn_nat g8
      have e7 : gi2.toInt - fc2.toInt = if hw = 1 then cs.toInt - fx else 0 := by
        rw [g3]
        rcases g9 with ⟨u1, -, u3⟩ | ⟨u1, -, u3⟩
        · rw [if_pos (by omega), u3]
        · rw [if_neg (by omega), u3]; omega
      have e8 : hv2.toInt = if hw = 1 then 1 else 0 := by
        rcases g9 with ⟨u1, u2, -⟩ | ⟨u1, u2, -⟩
        · rw [if_pos (by omega), u2]
        · rw [if_neg (by omega), u2]
      rw [e7, e8, g2, g1, ← m1, ← m2, ← m3, ← m4, ← m5]
      rfl

end
section
set_option maxHeartbeats 4000000 in
set_option maxRecDepth 100000 in
theorem c_X14_count_k (l : Launch) (dC : Nat → ClassId) (dI : Nat → Nat → Nat) (aK aV : Nat → Nat) (h0 : Nat) (m_thrown : Int32) (m_stop : Nat) (m_tape : Nat) (m_taped : Int32) (m_length : Int32) (m_at : Int32) (m_sort : Int32) (m_place : Int32) (m_sign : Int32) (m_letters : Int64) (m_p : Nat) (m_spare : Nat) (m_isTaken : Int32) (m_scope : Nat) (m_scoped : Int32) (m_deep : Int32) (m_counted : Int32) (m_fault : Int32) (m_where : Int32) (m_cellKind : Nat) (m_cellCount : Nat) (m_free : Nat) (m_pile : Nat) (m_cellField : Nat) (m_freeCount : Int32) (m_given : Int32) (m_nextPlain : Int32) (m_otherKind : Nat) (m_otherField : Nat) (m_isPlain : Int32) (m_hasRun : Int32) (m_hasValue : Int32) (m_hasOther : Int32) (m_value : Int64) (m_other : Int64) (m_steps : Int32) (m_made : Int32) (m_reused : Int32) (m_freed : Int32) (m_most : Int32) (m_doubled : Int32) (m_openMost : Int32) (m_taskWhat : Nat) (m_taskPart : Nat) (m_values : Nat) (m_tasks : Int32) (m_valued : Int32) (m_open : Int32) (m_slots : Nat) (m_present : Nat) (m_shell : Nat) (m_shellArm : Nat) (m_shellCall : Nat) (m_shells : Int32) (m_keptCounts : Nat) (m_asideKind : Nat) (m_asideCount : Nat) (m_asideField : Nat) (m_out : Nat) (m_side : Nat) (m_outs : Int32) (m_sides : Int32) (m_saying : Nat) (wt : Int32) (sz : Nat) (hg0 : 0 ≤ m_given.toInt) (hg1 : m_given.toInt ≤ 400) (hfc0 : 0 ≤ m_freeCount.toInt) (hfc1 : m_freeCount.toInt ≤ m_given.toInt) : Met l yX14_count (Cond.code yX14_count cX14_count 2 (some .int) :: zw) ({ frames := 10, cells := 0, slots := 0, locals := 300 }) (va_Pc [.ref h0, .int wt] (zP dC dI aK aV sz [] [(h0, .inr (14, [.int m_thrown, .ref m_stop, .ref m_tape, .int m_taped, .int m_length, .int m_at, .int m_sort, .int m_place, .int m_sign, .long m_letters, .ref m_p, .ref m_spare, .int m_isTaken, .ref m_scope, .int m_scoped, .int m_deep, .int m_counted, .int m_fault, .int m_where, .ref m_cellKind, .ref m_cellCount, .ref m_free, .ref m_pile, .ref m_cellField, .int m_freeCount, .int m_given, .int m_nextPlain, .ref m_otherKind, .ref m_otherField, .int m_isPlain, .int m_hasRun, .int m_hasValue, .int m_hasOther, .long m_value, .long m_other, .int m_steps, .int m_made, .int m_reused, .int m_freed, .int m_most, .int m_doubled, .int m_openMost, .ref m_taskWhat, .ref m_taskPart, .ref m_values, .int m_tasks, .int m_valued, .int m_open, .ref m_slots, .ref m_present, .ref m_shell, .ref m_shellArm, .ref m_shellCall, .int m_shells, .ref m_keptCounts, .ref m_asideKind, .ref m_asideCount, .ref m_asideField, .ref m_out, .ref m_side, .int m_outs, .int m_sides, .ref m_saying]))])) (va_Qi (fun (r : Int32) (u : Unit) => (r.toInt = cnA (cnF (Int32.toInt m_hasRun) (Int32.toInt m_steps) (Int32.toInt m_made) (Int32.toInt m_reused) (Int32.toInt m_freed) (Int32.toInt m_most) (Int32.toInt m_doubled) ((Int32.toInt m_given) - (Int32.toInt m_freeCount)) (Int32.toInt m_openMost) (Int32.toInt m_hasValue)) (Int32.toInt wt))) (fun u => zQ dC dI (va_A [(h0, .inr (14, [.int m_thrown, .ref m_stop, .ref m_tape, .int m_taped, .int m_length, .int m_at, .int m_sort, .int m_place, .int m_sign, .long m_letters, .ref m_p, .ref m_spare, .int m_isTaken, .ref m_scope, .int m_scoped, .int m_deep, .int m_counted, .int m_fault, .int m_where, .ref m_cellKind, .ref m_cellCount, .ref m_free, .ref m_pile, .ref m_cellField, .int m_freeCount, .int m_given, .int m_nextPlain, .ref m_otherKind, .ref m_otherField, .int m_isPlain, .int m_hasRun, .int m_hasValue, .int m_hasOther, .long m_value, .long m_other, .int m_steps, .int m_made, .int m_reused, .int m_freed, .int m_most, .int m_doubled, .int m_openMost, .ref m_taskWhat, .ref m_taskPart, .ref m_values, .int m_tasks, .int m_valued, .int m_open, .ref m_slots, .ref m_present, .ref m_shell, .ref m_shellArm, .ref m_shellCall, .int m_shells, .ref m_keptCounts, .ref m_asideKind, .ref m_asideCount, .ref m_asideField, .ref m_out, .ref m_side, .int m_outs, .int m_sides, .ref m_saying]))] sz) [] [(h0, .inr (14, [.int 0, .ref m_stop, .ref m_tape, .int m_taped, .int m_length, .int m_at, .int m_sort, .int m_place, .int m_sign, .long m_letters, .ref m_p, .ref m_spare, .int m_isTaken, .ref m_scope, .int m_scoped, .int m_deep, .int m_counted, .int m_fault, .int m_where, .ref m_cellKind, .ref m_cellCount, .ref m_free, .ref m_pile, .ref m_cellField, .int m_freeCount, .int m_given, .int m_nextPlain, .ref m_otherKind, .ref m_otherField, .int m_isPlain, .int m_hasRun, .int m_hasValue, .int m_hasOther, .long m_value, .long m_other, .int m_steps, .int m_made, .int m_reused, .int m_freed, .int m_most, .int m_doubled, .int m_openMost, .ref m_taskWhat, .ref m_taskPart, .ref m_values, .int m_tasks, .int m_valued, .int m_open, .ref m_slots, .ref m_present, .ref m_shell, .ref m_shellArm, .ref m_shellCall, .int m_shells, .ref m_keptCounts, .ref m_asideKind, .ref m_asideCount, .ref m_asideField, .ref m_out, .ref m_side, .int m_outs, .int m_sides, .ref m_saying]))]) (va_A [(h0, .inr (14, [.int m_thrown, .ref m_stop, .ref m_tape, .int m_taped, .int m_length, .int m_at, .int m_sort, .int m_place, .int m_sign, .long m_letters, .ref m_p, .ref m_spare, .int m_isTaken, .ref m_scope, .int m_scoped, .int m_deep, .int m_counted, .int m_fault, .int m_where, .ref m_cellKind, .ref m_cellCount, .ref m_free, .ref m_pile, .ref m_cellField, .int m_freeCount, .int m_given, .int m_nextPlain, .ref m_otherKind, .ref m_otherField, .int m_isPlain, .int m_hasRun, .int m_hasValue, .int m_hasOther, .long m_value, .long m_other, .int m_steps, .int m_made, .int m_reused, .int m_freed, .int m_most, .int m_doubled, .int m_openMost, .ref m_taskWhat, .ref m_taskPart, .ref m_values, .int m_tasks, .int m_valued, .int m_open, .ref m_slots, .ref m_present, .ref m_shell, .ref m_shellArm, .ref m_shellCall, .int m_shells, .ref m_keptCounts, .ref m_asideKind, .ref m_asideCount, .ref m_asideField, .ref m_out, .ref m_side, .int m_outs, .int m_sides, .ref m_saying]))] sz)) 0 0 (va_A [(h0, .inr (14, [.int m_thrown, .ref m_stop, .ref m_tape, .int m_taped, .int m_length, .int m_at, .int m_sort, .int m_place, .int m_sign, .long m_letters, .ref m_p, .ref m_spare, .int m_isTaken, .ref m_scope, .int m_scoped, .int m_deep, .int m_counted, .int m_fault, .int m_where, .ref m_cellKind, .ref m_cellCount, .ref m_free, .ref m_pile, .ref m_cellField, .int m_freeCount, .int m_given, .int m_nextPlain, .ref m_otherKind, .ref m_otherField, .int m_isPlain, .int m_hasRun, .int m_hasValue, .int m_hasOther, .long m_value, .long m_other, .int m_steps, .int m_made, .int m_reused, .int m_freed, .int m_most, .int m_doubled, .int m_openMost, .ref m_taskWhat, .ref m_taskPart, .ref m_values, .int m_tasks, .int m_valued, .int m_open, .ref m_slots, .ref m_present, .ref m_shell, .ref m_shellArm, .ref m_shellCall, .int m_shells, .ref m_keptCounts, .ref m_asideKind, .ref m_asideCount, .ref m_asideField, .ref m_out, .ref m_side, .int m_outs, .int m_sides, .ref m_saying]))] sz) := by
  refine Met.ofW (cc := cX14_count) (maxL := 2) (ret := (some .int)) (by decide) rfl ?_
  intro p e s m args below meth c s₁ B hml hv
  obtain ⟨rfl, hsz, hP, hK, hD0, hN, hT⟩ := hv
  have hx := B.exec
  have hb := B.bytes
  have hr := B.returns
  have hts := atoms_spec (ws := Cond.code yX14_count cX14_count 2 (some .int) :: zw) B.pre
  have hA : ∀ w ∈ zw, w.before _ s = true := fun w h => hts w (List.mem_cons_of_mem _ h)
  have hown : s.vm.findClass RX14 = some m.cls := findClass_of_methodNamed B.named
  have hlocks := B.notSynchronized
  subst hsz
  have hD := hD0.self (sz := s.heap.size)
  generalize hAe : va_A [(h0, .inr (14, [.int m_thrown, .ref m_stop, .ref m_tape, .int m_taped, .int m_length, .int m_at, .int m_sort, .int m_place, .int m_sign, .long m_letters, .ref m_p, .ref m_spare, .int m_isTaken, .ref m_scope, .int m_scoped, .int m_deep, .int m_counted, .int m_fault, .int m_where, .ref m_cellKind, .ref m_cellCount, .ref m_free, .ref m_pile, .ref m_cellField, .int m_freeCount, .int m_given, .int m_nextPlain, .ref m_otherKind, .ref m_otherField, .int m_isPlain, .int m_hasRun, .int m_hasValue, .int m_hasOther, .long m_value, .long m_other, .int m_steps, .int m_made, .int m_reused, .int m_freed, .int m_most, .int m_doubled, .int m_openMost, .ref m_taskWhat, .ref m_taskPart, .ref m_values, .int m_tasks, .int m_valued, .int m_open, .ref m_slots, .ref m_present, .ref m_shell, .ref m_shellArm, .ref m_shellCall, .int m_shells, .ref m_keptCounts, .ref m_asideKind, .ref m_asideCount, .ref m_asideField, .ref m_out, .ref m_side, .int m_outs, .int m_sides, .ref m_saying]))] s.heap.size = A at hD hT ⊢
  have hAA : ∀ q : Nat, s.heap.size ≤ q → A q := fun q h => by rw [← hAe]; exact Or.inr h
  have hS : va_S A s.heap s.heap [] := va_S.rf
  have hl := lv_entry ([.ref h0, .int wt]) (n := 2) (Nat.le_of_ble_eq_true rfl)
  rw [lg_entry_eq]
  generalize (lg_sl ([.ref h0, .int wt]) ++ List.replicate (2 - (lg_sl ([.ref h0, .int wt])).length) Slot.unset).toArray = ls at hl ⊢
  have hl : lv_has ls 2 [(0, .ref h0), (1, .int wt)] := hl
  refine lv_aload_n hx hb dX14_count_0 rfl (lv_at hl 0 rfl) ?_
  refine lv_iconst (v := 0) hx hb dX14_count_1 (by decide) ?_
  refine va_put (D := (dC, dI)) (ci := 14) (v := .int 0) (ty := .int) (C := RX14) (T := TX14) (N := 63) hx hb hA zin_X14 tyX14 tyX14_ok nmX14 hown hK hP hD hS 0 rfl rfl 0 (by decide) (hA _ wi_1497) (fun _ h9 => h9) rfl (by decide +kernel) rfl rfl (Nat.le_of_ble_eq_true rfl) dX14_count_2 (fun H locs hP hD hS => ?_)
  have hP : va_P (dC, dI) vwCl [(h0, .inr (14, [.int 0, .ref m_stop, .ref m_tape, .int m_taped, .int m_length, .int m_at, .int m_sort, .int m_place, .int m_sign, .long m_letters, .ref m_p, .ref m_spare, .int m_isTaken, .ref m_scope, .int m_scoped, .int m_deep, .int m_counted, .int m_fault, .int m_where, .ref m_cellKind, .ref m_cellCount, .ref m_free, .ref m_pile, .ref m_cellField, .int m_freeCount, .int m_given, .int m_nextPlain, .ref m_otherKind, .ref m_otherField, .int m_isPlain, .int m_hasRun, .int m_hasValue, .int m_hasOther, .long m_value, .long m_other, .int m_steps, .int m_made, .int m_reused, .int m_freed, .int m_most, .int m_doubled, .int m_openMost, .ref m_taskWhat, .ref m_taskPart, .ref m_values, .int m_tasks, .int m_valued, .int m_open, .ref m_slots, .ref m_present, .ref m_shell, .ref m_shellArm, .ref m_shellCall, .int m_shells, .ref m_keptCounts, .ref m_asideKind, .ref m_asideCount, .ref m_asideField, .ref m_out, .ref m_side, .int m_outs, .int m_sides, .ref m_saying]))] H := hP
  have hD : va_D A [(h0, .inr (14, [.int 0, .ref m_stop, .ref m_tape, .int m_taped, .int m_length, .int m_at, .int m_sort, .int m_place, .int m_sign, .long m_letters, .ref m_p, .ref m_spare, .int m_isTaken, .ref m_scope, .int m_scoped, .int m_deep, .int m_counted, .int m_fault, .int m_where, .ref m_cellKind, .ref m_cellCount, .ref m_free, .ref m_pile, .ref m_cellField, .int m_freeCount, .int m_given, .int m_nextPlain, .ref m_otherKind, .ref m_otherField, .int m_isPlain, .int m_hasRun, .int m_hasValue, .int m_hasOther, .long m_value, .long m_other, .int m_steps, .int m_made, .int m_reused, .int m_freed, .int m_most, .int m_doubled, .int m_openMost, .ref m_taskWhat, .ref m_taskPart, .ref m_values, .int m_tasks, .int m_valued, .int m_open, .ref m_slots, .ref m_present, .ref m_shell, .ref m_shellArm, .ref m_shellCall, .int m_shells, .ref m_keptCounts, .ref m_asideKind, .ref m_asideCount, .ref m_asideField, .ref m_out, .ref m_side, .int m_outs, .int m_sides, .ref m_saying]))] := hD
  refine lv_aload_n hx hb dX14_count_5 rfl (lv_at hl 0 rfl) ?_
  refine va_get (D := (dC, dI)) (ci := 14) (v := .int m_hasRun) (C := RX14) (T := TX14) (N := 63) hx hb hA zin_X14 hown hK hP 0 rfl rfl 30 (by decide) (hA _ wi_1527) (fun _ h9 => h9) rfl dX14_count_6 ?_
  refine lv_if_ne (tgt := 14) hx hb dX14_count_9 (by decide) (fun c_1 => ?_) (fun c_1 => ?_)
  · have ic_1 : m_hasRun.toInt ≠ 0 := zi_ne c_1
    refine lv_iload_n hx hb dX14_count_14 rfl (lv_at hl 1 rfl) ?_
    by_cases hk_2 : wt.toInt = 0
    · refine lv_tableIn (off := 45) (tgt := 60) hx hb dX14_count_15 (by omega) (by omega) (by rw [hk_2]; rfl) (by decide) ?_
      refine lv_aload_n hx hb dX14_count_60 rfl (lv_at hl 0 rfl) ?_
      refine va_get (D := (dC, dI)) (ci := 14) (v := .int m_steps) (C := RX14) (T := TX14) (N := 63) hx hb hA zin_X14 hown hK hP 0 rfl rfl 35 (by decide) (hA _ wi_1532) (fun _ h9 => h9) rfl dX14_count_61 ?_
      have hP9 := hP.sub (ws' := [(h0, .inr (14, [.int 0, .ref m_stop, .ref m_tape, .int m_taped, .int m_length, .int m_at, .int m_sort, .int m_place, .int m_sign, .long m_letters, .ref m_p, .ref m_spare, .int m_isTaken, .ref m_scope, .int m_scoped, .int m_deep, .int m_counted, .int m_fault, .int m_where, .ref m_cellKind, .ref m_cellCount, .ref m_free, .ref m_pile, .ref m_cellField, .int m_freeCount, .int m_given, .int m_nextPlain, .ref m_otherKind, .ref m_otherField, .int m_isPlain, .int m_hasRun, .int m_hasValue, .int m_hasOther, .long m_value, .long m_other, .int m_steps, .int m_made, .int m_reused, .int m_freed, .int m_most, .int m_doubled, .int m_openMost, .ref m_taskWhat, .ref m_taskPart, .ref m_values, .int m_tasks, .int m_valued, .int m_open, .ref m_slots, .ref m_present, .ref m_shell, .ref m_shellArm, .ref m_shellCall, .int m_shells, .ref m_keptCounts, .ref m_asideKind, .ref m_asideCount, .ref m_asideField, .ref m_out, .ref m_side, .int m_outs, .int m_sides, .ref m_saying]))]) [0] rfl
      have hD9 := hD.sub (ws' := [(h0, .inr (14, [.int 0, .ref m_stop, .ref m_tape, .int m_taped, .int m_length, .int m_at, .int m_sort, .int m_place, .int m_sign, .long m_letters, .ref m_p, .ref m_spare, .int m_isTaken, .ref m_scope, .int m_scoped, .int m_deep, .int m_counted, .int m_fault, .int m_where, .ref m_cellKind, .ref m_cellCount, .ref m_free, .ref m_pile, .ref m_cellField, .int m_freeCount, .int m_given, .int m_nextPlain, .ref m_otherKind, .ref m_otherField, .int m_isPlain, .int m_hasRun, .int m_hasValue, .int m_hasOther, .long m_value, .long m_other, .int m_steps, .int m_made, .int m_reused, .int m_freed, .int m_most, .int m_doubled, .int m_openMost, .ref m_taskWhat, .ref m_taskPart, .ref m_values, .int m_tasks, .int m_valued, .int m_open, .ref m_slots, .ref m_present, .ref m_shell, .ref m_shellArm, .ref m_shellCall, .int m_shells, .ref m_keptCounts, .ref m_asideKind, .ref m_asideCount, .ref m_asideField, .ref m_out, .ref m_side, .int m_outs, .int m_sides, .ref m_saying]))]) [0] (by decide) rfl
      have hK9 := hK.sub (tys' := []) [] rfl
      exact W.iret (v := m_steps) hx hb hr (fun t ht hW => ⟨⟨m_steps, (), rfl, (cnA_k (k := 0) (by omega) (by omega) (by omega) rfl).symm, by rw [ht]; exact hP9, va_K.moved hW.alike hK9, hD9⟩, hS.F ht⟩) hS.2.2 dX14_count_64
    by_cases hk_3 : wt.toInt = 1
    · refine lv_tableIn (off := 50) (tgt := 65) hx hb dX14_count_15 (by omega) (by omega) (by rw [hk_3]; rfl) (by decide) ?_
      refine lv_aload_n hx hb dX14_count_65 rfl (lv_at hl 0 rfl) ?_
      refine va_get (D := (dC, dI)) (ci := 14) (v := .int m_made) (C := RX14) (T := TX14) (N := 63) hx hb hA zin_X14 hown hK hP 0 rfl rfl 36 (by decide) (hA _ wi_1533) (fun _ h9 => h9) rfl dX14_count_66 ?_
      have hP9 := hP.sub (ws' := [(h0, .inr (14, [.int 0, .ref m_stop, .ref m_tape, .int m_taped, .int m_length, .int m_at, .int m_sort, .int m_place, .int m_sign, .long m_letters, .ref m_p, .ref m_spare, .int m_isTaken, .ref m_scope, .int m_scoped, .int m_deep, .int m_counted, .int m_fault, .int m_where, .ref m_cellKind, .ref m_cellCount, .ref m_free, .ref m_pile, .ref m_cellField, .int m_freeCount, .int m_given, .int m_nextPlain, .ref m_otherKind, .ref m_otherField, .int m_isPlain, .int m_hasRun, .int m_hasValue, .int m_hasOther, .long m_value, .long m_other, .int m_steps, .int m_made, .int m_reused, .int m_freed, .int m_most, .int m_doubled, .int m_openMost, .ref m_taskWhat, .ref m_taskPart, .ref m_values, .int m_tasks, .int m_valued, .int m_open, .ref m_slots, .ref m_present, .ref m_shell, .ref m_shellArm, .ref m_shellCall, .int m_shells, .ref m_keptCounts, .ref m_asideKind, .ref m_asideCount, .ref m_asideField, .ref m_out, .ref m_side, .int m_outs, .int m_sides, .ref m_saying]))]) [0] rfl
      have hD9 := hD.sub (ws' := [(h0, .inr (14, [.int 0, .ref m_stop, .ref m_tape, .int m_taped, .int m_length, .int m_at, .int m_sort, .int m_place, .int m_sign, .long m_letters, .ref m_p, .ref m_spare, .int m_isTaken, .ref m_scope, .int m_scoped, .int m_deep, .int m_counted, .int m_fault, .int m_where, .ref m_cellKind, .ref m_cellCount, .ref m_free, .ref m_pile, .ref m_cellField, .int m_freeCount, .int m_given, .int m_nextPlain, .ref m_otherKind, .ref m_otherField, .int m_isPlain, .int m_hasRun, .int m_hasValue, .int m_hasOther, .long m_value, .long m_other, .int m_steps, .int m_made, .int m_reused, .int m_freed, .int m_most, .int m_doubled, .int m_openMost, .ref m_taskWhat, .ref m_taskPart, .ref m_values, .int m_tasks, .int m_valued, .int m_open, .ref m_slots, .ref m_present, .ref m_shell, .ref m_shellArm, .ref m_shellCall, .int m_shells, .ref m_keptCounts, .ref m_asideKind, .ref m_asideCount, .ref m_asideField, .ref m_out, .ref m_side, .int m_outs, .int m_sides, .ref m_saying]))]) [0] (by decide) rfl
      have hK9 := hK.sub (tys' := []) [] rfl
      exact W.iret (v := m_made) hx hb hr (fun t ht hW => ⟨⟨m_made, (), rfl, (cnA_k (k := 1) (by omega) (by omega) (by omega) rfl).symm, by rw [ht]; exact hP9, va_K.moved hW.alike hK9, hD9⟩, hS.F ht⟩) hS.2.2 dX14_count_69
    by_cases hk_4 : wt.toInt = 2
    · refine lv_tableIn (off := 55) (tgt := 70) hx hb dX14_count_15 (by omega) (by omega) (by rw [hk_4]; rfl) (by decide) ?_
      refine lv_aload_n hx hb dX14_count_70 rfl (lv_at hl 0 rfl) ?_
      refine va_get (D := (dC, dI)) (ci := 14) (v := .int m_reused) (C := RX14) (T := TX14) (N := 63) hx hb hA zin_X14 hown hK hP 0 rfl rfl 37 (by decide) (hA _ wi_1534) (fun _ h9 => h9) rfl dX14_count_71 ?_
      have hP9 := hP.sub (ws' := [(h0, .inr (14, [.int 0, .ref m_stop, .ref m_tape, .int m_taped, .int m_length, .int m_at, .int m_sort, .int m_place, .int m_sign, .long m_letters, .ref m_p, .ref m_spare, .int m_isTaken, .ref m_scope, .int m_scoped, .int m_deep, .int m_counted, .int m_fault, .int m_where, .ref m_cellKind, .ref m_cellCount, .ref m_free, .ref m_pile, .ref m_cellField, .int m_freeCount, .int m_given, .int m_nextPlain, .ref m_otherKind, .ref m_otherField, .int m_isPlain, .int m_hasRun, .int m_hasValue, .int m_hasOther, .long m_value, .long m_other, .int m_steps, .int m_made, .int m_reused, .int m_freed, .int m_most, .int m_doubled, .int m_openMost, .ref m_taskWhat, .ref m_taskPart, .ref m_values, .int m_tasks, .int m_valued, .int m_open, .ref m_slots, .ref m_present, .ref m_shell, .ref m_shellArm, .ref m_shellCall, .int m_shells, .ref m_keptCounts, .ref m_asideKind, .ref m_asideCount, .ref m_asideField, .ref m_out, .ref m_side, .int m_outs, .int m_sides, .ref m_saying]))]) [0] rfl
      have hD9 := hD.sub (ws' := [(h0, .inr (14, [.int 0, .ref m_stop, .ref m_tape, .int m_taped, .int m_length, .int m_at, .int m_sort, .int m_place, .int m_sign, .long m_letters, .ref m_p, .ref m_spare, .int m_isTaken, .ref m_scope, .int m_scoped, .int m_deep, .int m_counted, .int m_fault, .int m_where, .ref m_cellKind, .ref m_cellCount, .ref m_free, .ref m_pile, .ref m_cellField, .int m_freeCount, .int m_given, .int m_nextPlain, .ref m_otherKind, .ref m_otherField, .int m_isPlain, .int m_hasRun, .int m_hasValue, .int m_hasOther, .long m_value, .long m_other, .int m_steps, .int m_made, .int m_reused, .int m_freed, .int m_most, .int m_doubled, .int m_openMost, .ref m_taskWhat, .ref m_taskPart, .ref m_values, .int m_tasks, .int m_valued, .int m_open, .ref m_slots, .ref m_present, .ref m_shell, .ref m_shellArm, .ref m_shellCall, .int m_shells, .ref m_keptCounts, .ref m_asideKind, .ref m_asideCount, .ref m_asideField, .ref m_out, .ref m_side, .int m_outs, .int m_sides, .ref m_saying]))]) [0] (by decide) rfl
      have hK9 := hK.sub (tys' := []) [] rfl
      exact W.iret (v := m_reused) hx hb hr (fun t ht hW => ⟨⟨m_reused, (), rfl, (cnA_k (k := 2) (by omega) (by omega) (by omega) rfl).symm, by rw [ht]; exact hP9, va_K.moved hW.alike hK9, hD9⟩, hS.F ht⟩) hS.2.2 dX14_count_74
    by_cases hk_5 : wt.toInt = 3
    · refine lv_tableIn (off := 60) (tgt := 75) hx hb dX14_count_15 (by omega) (by omega) (by rw [hk_5]; rfl) (by decide) ?_
      refine lv_aload_n hx hb dX14_count_75 rfl (lv_at hl 0 rfl) ?_
      refine va_get (D := (dC, dI)) (ci := 14) (v := .int m_freed) (C := RX14) (T := TX14) (N := 63) hx hb hA zin_X14 hown hK hP 0 rfl rfl 38 (by decide) (hA _ wi_1535) (fun _ h9 => h9) rfl dX14_count_76 ?_
      have hP9 := hP.sub (ws' := [(h0, .inr (14, [.int 0, .ref m_stop, .ref m_tape, .int m_taped, .int m_length, .int m_at, .int m_sort, .int m_place, .int m_sign, .long m_letters, .ref m_p, .ref m_spare, .int m_isTaken, .ref m_scope, .int m_scoped, .int m_deep, .int m_counted, .int m_fault, .int m_where, .ref m_cellKind, .ref m_cellCount, .ref m_free, .ref m_pile, .ref m_cellField, .int m_freeCount, .int m_given, .int m_nextPlain, .ref m_otherKind, .ref m_otherField, .int m_isPlain, .int m_hasRun, .int m_hasValue, .int m_hasOther, .long m_value, .long m_other, .int m_steps, .int m_made, .int m_reused, .int m_freed, .int m_most, .int m_doubled, .int m_openMost, .ref m_taskWhat, .ref m_taskPart, .ref m_values, .int m_tasks, .int m_valued, .int m_open, .ref m_slots, .ref m_present, .ref m_shell, .ref m_shellArm, .ref m_shellCall, .int m_shells, .ref m_keptCounts, .ref m_asideKind, .ref m_asideCount, .ref m_asideField, .ref m_out, .ref m_side, .int m_outs, .int m_sides, .ref m_saying]))]) [0] rfl
      have hD9 := hD.sub (ws' := [(h0, .inr (14, [.int 0, .ref m_stop, .ref m_tape, .int m_taped, .int m_length, .int m_at, .int m_sort, .int m_place, .int m_sign, .long m_letters, .ref m_p, .ref m_spare, .int m_isTaken, .ref m_scope, .int m_scoped, .int m_deep, .int m_counted, .int m_fault, .int m_where, .ref m_cellKind, .ref m_cellCount, .ref m_free, .ref m_pile, .ref m_cellField, .int m_freeCount, .int m_given, .int m_nextPlain, .ref m_otherKind, .ref m_otherField, .int m_isPlain, .int m_hasRun, .int m_hasValue, .int m_hasOther, .long m_value, .long m_other, .int m_steps, .int m_made, .int m_reused, .int m_freed, .int m_most, .int m_doubled, .int m_openMost, .ref m_taskWhat, .ref m_taskPart, .ref m_values, .int m_tasks, .int m_valued, .int m_open, .ref m_slots, .ref m_present, .ref m_shell, .ref m_shellArm, .ref m_shellCall, .int m_shells, .ref m_keptCounts, .ref m_asideKind, .ref m_asideCount, .ref m_asideField, .ref m_out, .ref m_side, .int m_outs, .int m_sides, .ref m_saying]))]) [0] (by decide) rfl
      have hK9 := hK.sub (tys' := []) [] rfl
      exact W.iret (v := m_freed) hx hb hr (fun t ht hW => ⟨⟨m_freed, (), rfl, (cnA_k (k := 3) (by omega) (by omega) (by omega) rfl).symm, by rw [ht]; exact hP9, va_K.moved hW.alike hK9, hD9⟩, hS.F ht⟩) hS.2.2 dX14_count_79
    by_cases hk_6 : wt.toInt = 4
    · refine lv_tableIn (off := 65) (tgt := 80) hx hb dX14_count_15 (by omega) (by omega) (by rw [hk_6]; rfl) (by decide) ?_
      refine lv_aload_n hx hb dX14_count_80 rfl (lv_at hl 0 rfl) ?_
      refine va_get (D := (dC, dI)) (ci := 14) (v := .int m_most) (C := RX14) (T := TX14) (N := 63) hx hb hA zin_X14 hown hK hP 0 rfl rfl 39 (by decide) (hA _ wi_1536) (fun _ h9 => h9) rfl dX14_count_81 ?_
      have hP9 := hP.sub (ws' := [(h0, .inr (14, [.int 0, .ref m_stop, .ref m_tape, .int m_taped, .int m_length, .int m_at, .int m_sort, .int m_place, .int m_sign, .long m_letters, .ref m_p, .ref m_spare, .int m_isTaken, .ref m_scope, .int m_scoped, .int m_deep, .int m_counted, .int m_fault, .int m_where, .ref m_cellKind, .ref m_cellCount, .ref m_free, .ref m_pile, .ref m_cellField, .int m_freeCount, .int m_given, .int m_nextPlain, .ref m_otherKind, .ref m_otherField, .int m_isPlain, .int m_hasRun, .int m_hasValue, .int m_hasOther, .long m_value, .long m_other, .int m_steps, .int m_made, .int m_reused, .int m_freed, .int m_most, .int m_doubled, .int m_openMost, .ref m_taskWhat, .ref m_taskPart, .ref m_values, .int m_tasks, .int m_valued, .int m_open, .ref m_slots, .ref m_present, .ref m_shell, .ref m_shellArm, .ref m_shellCall, .int m_shells, .ref m_keptCounts, .ref m_asideKind, .ref m_asideCount, .ref m_asideField, .ref m_out, .ref m_side, .int m_outs, .int m_sides, .ref m_saying]))]) [0] rfl
      have hD9 := hD.sub (ws' := [(h0, .inr (14, [.int 0, .ref m_stop, .ref m_tape, .int m_taped, .int m_length, .int m_at, .int m_sort, .int m_place, .int m_sign, .long m_letters, .ref m_p, .ref m_spare, .int m_isTaken, .ref m_scope, .int m_scoped, .int m_deep, .int m_counted, .int m_fault, .int m_where, .ref m_cellKind, .ref m_cellCount, .ref m_free, .ref m_pile, .ref m_cellField, .int m_freeCount, .int m_given, .int m_nextPlain, .ref m_otherKind, .ref m_otherField, .int m_isPlain, .int m_hasRun, .int m_hasValue, .int m_hasOther, .long m_value, .long m_other, .int m_steps, .int m_made, .int m_reused, .int m_freed, .int m_most, .int m_doubled, .int m_openMost, .ref m_taskWhat, .ref m_taskPart, .ref m_values, .int m_tasks, .int m_valued, .int m_open, .ref m_slots, .ref m_present, .ref m_shell, .ref m_shellArm, .ref m_shellCall, .int m_shells, .ref m_keptCounts, .ref m_asideKind, .ref m_asideCount, .ref m_asideField, .ref m_out, .ref m_side, .int m_outs, .int m_sides, .ref m_saying]))]) [0] (by decide) rfl
      have hK9 := hK.sub (tys' := []) [] rfl
      exact W.iret (v := m_most) hx hb hr (fun t ht hW => ⟨⟨m_most, (), rfl, (cnA_k (k := 4) (by omega) (by omega) (by omega) rfl).symm, by rw [ht]; exact hP9, va_K.moved hW.alike hK9, hD9⟩, hS.F ht⟩) hS.2.2 dX14_count_84
    by_cases hk_7 : wt.toInt = 5
    · refine lv_tableIn (off := 70) (tgt := 85) hx hb dX14_count_15 (by omega) (by omega) (by rw [hk_7]; rfl) (by decide) ?_
      refine lv_aload_n hx hb dX14_count_85 rfl (lv_at hl 0 rfl) ?_
      refine va_get (D := (dC, dI)) (ci := 14) (v := .int m_doubled) (C := RX14) (T := TX14) (N := 63) hx hb hA zin_X14 hown hK hP 0 rfl rfl 40 (by decide) (hA _ wi_1537) (fun _ h9 => h9) rfl dX14_count_86 ?_
      have hP9 := hP.sub (ws' := [(h0, .inr (14, [.int 0, .ref m_stop, .ref m_tape, .int m_taped, .int m_length, .int m_at, .int m_sort, .int m_place, .int m_sign, .long m_letters, .ref m_p, .ref m_spare, .int m_isTaken, .ref m_scope, .int m_scoped, .int m_deep, .int m_counted, .int m_fault, .int m_where, .ref m_cellKind, .ref m_cellCount, .ref m_free, .ref m_pile, .ref m_cellField, .int m_freeCount, .int m_given, .int m_nextPlain, .ref m_otherKind, .ref m_otherField, .int m_isPlain, .int m_hasRun, .int m_hasValue, .int m_hasOther, .long m_value, .long m_other, .int m_steps, .int m_made, .int m_reused, .int m_freed, .int m_most, .int m_doubled, .int m_openMost, .ref m_taskWhat, .ref m_taskPart, .ref m_values, .int m_tasks, .int m_valued, .int m_open, .ref m_slots, .ref m_present, .ref m_shell, .ref m_shellArm, .ref m_shellCall, .int m_shells, .ref m_keptCounts, .ref m_asideKind, .ref m_asideCount, .ref m_asideField, .ref m_out, .ref m_side, .int m_outs, .int m_sides, .ref m_saying]))]) [0] rfl
      have hD9 := hD.sub (ws' := [(h0, .inr (14, [.int 0, .ref m_stop, .ref m_tape, .int m_taped, .int m_length, .int m_at, .int m_sort, .int m_place, .int m_sign, .long m_letters, .ref m_p, .ref m_spare, .int m_isTaken, .ref m_scope, .int m_scoped, .int m_deep, .int m_counted, .int m_fault, .int m_where, .ref m_cellKind, .ref m_cellCount, .ref m_free, .ref m_pile, .ref m_cellField, .int m_freeCount, .int m_given, .int m_nextPlain, .ref m_otherKind, .ref m_otherField, .int m_isPlain, .int m_hasRun, .int m_hasValue, .int m_hasOther, .long m_value, .long m_other, .int m_steps, .int m_made, .int m_reused, .int m_freed, .int m_most, .int m_doubled, .int m_openMost, .ref m_taskWhat, .ref m_taskPart, .ref m_values, .int m_tasks, .int m_valued, .int m_open, .ref m_slots, .ref m_present, .ref m_shell, .ref m_shellArm, .ref m_shellCall, .int m_shells, .ref m_keptCounts, .ref m_asideKind, .ref m_asideCount, .ref m_asideField, .ref m_out, .ref m_side, .int m_outs, .int m_sides, .ref m_saying]))]) [0] (by decide) rfl
      have hK9 := hK.sub (tys' := []) [] rfl
      exact W.iret (v := m_doubled) hx hb hr (fun t ht hW => ⟨⟨m_doubled, (), rfl, (cnA_k (k := 5) (by omega) (by omega) (by omega) rfl).symm, by rw [ht]; exact hP9, va_K.moved hW.alike hK9, hD9⟩, hS.F ht⟩) hS.2.2 dX14_count_89
    by_cases hk_8 : wt.toInt = 6
    · refine lv_tableIn (off := 75) (tgt := 90) hx hb dX14_count_15 (by omega) (by omega) (by rw [hk_8]; rfl) (by decide) ?_
      refine lv_aload_n hx hb dX14_count_90 rfl (lv_at hl 0 rfl) ?_
      have hPc := hP.sub (ws' := [(h0, .inr (14, [.int 0, .ref m_stop, .ref m_tape, .int m_taped, .int m_length, .int m_at, .int m_sort, .int m_place, .int m_sign, .long m_letters, .ref m_p, .ref m_spare, .int m_isTaken, .ref m_scope, .int m_scoped, .int m_deep, .int m_counted, .int m_fault, .int m_where, .ref m_cellKind, .ref m_cellCount, .ref m_free, .ref m_pile, .ref m_cellField, .int m_freeCount, .int m_given, .int m_nextPlain, .ref m_otherKind, .ref m_otherField, .int m_isPlain, .int m_hasRun, .int m_hasValue, .int m_hasOther, .long m_value, .long m_other, .int m_steps, .int m_made, .int m_reused, .int m_freed, .int m_most, .int m_doubled, .int m_openMost, .ref m_taskWhat, .ref m_taskPart, .ref m_values, .int m_tasks, .int m_valued, .int m_open, .ref m_slots, .ref m_present, .ref m_shell, .ref m_shellArm, .ref m_shellCall, .int m_shells, .ref m_keptCounts, .ref m_asideKind, .ref m_asideCount, .ref m_asideField, .ref m_out, .ref m_side, .int m_outs, .int m_sides, .ref m_saying]))]) [0] rfl
      have hDc := hD.sub (ws' := [(h0, .inr (14, [.int 0, .ref m_stop, .ref m_tape, .int m_taped, .int m_length, .int m_at, .int m_sort, .int m_place, .int m_sign, .long m_letters, .ref m_p, .ref m_spare, .int m_isTaken, .ref m_scope, .int m_scoped, .int m_deep, .int m_counted, .int m_fault, .int m_where, .ref m_cellKind, .ref m_cellCount, .ref m_free, .ref m_pile, .ref m_cellField, .int m_freeCount, .int m_given, .int m_nextPlain, .ref m_otherKind, .ref m_otherField, .int m_isPlain, .int m_hasRun, .int m_hasValue, .int m_hasOther, .long m_value, .long m_other, .int m_steps, .int m_made, .int m_reused, .int m_freed, .int m_most, .int m_doubled, .int m_openMost, .ref m_taskWhat, .ref m_taskPart, .ref m_values, .int m_tasks, .int m_valued, .int m_open, .ref m_slots, .ref m_present, .ref m_shell, .ref m_shellArm, .ref m_shellCall, .int m_shells, .ref m_keptCounts, .ref m_asideKind, .ref m_asideCount, .ref m_asideField, .ref m_out, .ref m_side, .int m_outs, .int m_sides, .ref m_saying]))]) [0] (by decide) rfl
      have hKc := hK.sub (tys' := []) [] rfl
      have hFc := va_free (wc := [(h0, .inr (14, [.int 0, .ref m_stop, .ref m_tape, .int m_taped, .int m_length, .int m_at, .int m_sort, .int m_place, .int m_sign, .long m_letters, .ref m_p, .ref m_spare, .int m_isTaken, .ref m_scope, .int m_scoped, .int m_deep, .int m_counted, .int m_fault, .int m_where, .ref m_cellKind, .ref m_cellCount, .ref m_free, .ref m_pile, .ref m_cellField, .int m_freeCount, .int m_given, .int m_nextPlain, .ref m_otherKind, .ref m_otherField, .int m_isPlain, .int m_hasRun, .int m_hasValue, .int m_hasOther, .long m_value, .long m_other, .int m_steps, .int m_made, .int m_reused, .int m_freed, .int m_most, .int m_doubled, .int m_openMost, .ref m_taskWhat, .ref m_taskPart, .ref m_values, .int m_tasks, .int m_valued, .int m_open, .ref m_slots, .ref m_present, .ref m_shell, .ref m_shellArm, .ref m_shellCall, .int m_shells, .ref m_keptCounts, .ref m_asideKind, .ref m_asideCount, .ref m_asideField, .ref m_out, .ref m_side, .int m_outs, .int m_sides, .ref m_saying]))]) hD hS hAA [0] rfl
      refine va_calli (va_runV (As := []) (rest := []) ⟨hx, hb, hml, hown, hA⟩ (c_X14_held_c l dC dI aK aV h0 0 m_stop m_tape m_taped m_length m_at m_sort m_place m_sign m_letters m_p m_spare m_isTaken m_scope m_scoped m_deep m_counted m_fault m_where m_cellKind m_cellCount m_free m_pile m_cellField m_freeCount m_given m_nextPlain m_otherKind m_otherField m_isPlain m_hasRun m_hasValue m_hasOther m_value m_other m_steps m_made m_reused m_freed m_most m_doubled m_openMost m_taskWhat m_taskPart m_values m_tasks m_valued m_open m_slots m_present m_shell m_shellArm m_shellCall m_shells m_keptCounts m_asideKind m_asideCount m_asideField m_out m_side m_outs m_sides m_saying H.size (by omega) (by omega) (by omega) (by omega)) (cwV 0 hA (zw_V wi_1981 wi_1983 wi_123 wi_143 (zw_good wi_1984)) rfl rfl rfl (by decide +kernel) ⟨(Nat.le_of_ble_eq_true rfl), (Nat.le_of_ble_eq_true rfl)⟩) ⟨zP_blind, va_recv hKc hPc (ci := 14) (q0 := 0) rfl rfl, zz_pre hKc hPc hDc hN hT hS hFc⟩ rfl rfl hl.1 rfl (lv_room (Nat.le_of_ble_eq_true rfl)) dX14_count_91 ⟨(Nat.le_of_ble_eq_true rfl), (Nat.le_of_ble_eq_true rfl)⟩) hS (fun q _ h => hFc q h) hFc (fun r_9 u t H1 locs ht hvm hw hB hz1 hk1 hS => ?_)
      obtain ⟨hP1, hK1, hD1⟩ := hB
      rw [ht] at hP1
      have hK1 := va_K.moved hvm.symm hK1
      obtain ⟨hP, hD⟩ := va_join (wr := []) (w1 := [(h0, .inr (14, [.int 0, .ref m_stop, .ref m_tape, .int m_taped, .int m_length, .int m_at, .int m_sort, .int m_place, .int m_sign, .long m_letters, .ref m_p, .ref m_spare, .int m_isTaken, .ref m_scope, .int m_scoped, .int m_deep, .int m_counted, .int m_fault, .int m_where, .ref m_cellKind, .ref m_cellCount, .ref m_free, .ref m_pile, .ref m_cellField, .int m_freeCount, .int m_given, .int m_nextPlain, .ref m_otherKind, .ref m_otherField, .int m_isPlain, .int m_hasRun, .int m_hasValue, .int m_hasOther, .long m_value, .long m_other, .int m_steps, .int m_made, .int m_reused, .int m_freed, .int m_most, .int m_doubled, .int m_openMost, .ref m_taskWhat, .ref m_taskPart, .ref m_values, .int m_tasks, .int m_valued, .int m_open, .ref m_slots, .ref m_present, .ref m_shell, .ref m_shellArm, .ref m_shellCall, .int m_shells, .ref m_keptCounts, .ref m_asideKind, .ref m_asideCount, .ref m_asideField, .ref m_out, .ref m_side, .int m_outs, .int m_sides, .ref m_saying]))]) hP hD [0] [] rfl rfl (by decide) (by decide) hk1 hFc hP1 hD1
      have hK := (hK.sub (tys' := []) [] rfl).app hK1
      generalize H1 = H at hP hS ⊢
      have hP : va_P (dC, dI) vwCl [(h0, .inr (14, [.int 0, .ref m_stop, .ref m_tape, .int m_taped, .int m_length, .int m_at, .int m_sort, .int m_place, .int m_sign, .long m_letters, .ref m_p, .ref m_spare, .int m_isTaken, .ref m_scope, .int m_scoped, .int m_deep, .int m_counted, .int m_fault, .int m_where, .ref m_cellKind, .ref m_cellCount, .ref m_free, .ref m_pile, .ref m_cellField, .int m_freeCount, .int m_given, .int m_nextPlain, .ref m_otherKind, .ref m_otherField, .int m_isPlain, .int m_hasRun, .int m_hasValue, .int m_hasOther, .long m_value, .long m_other, .int m_steps, .int m_made, .int m_reused, .int m_freed, .int m_most, .int m_doubled, .int m_openMost, .ref m_taskWhat, .ref m_taskPart, .ref m_values, .int m_tasks, .int m_valued, .int m_open, .ref m_slots, .ref m_present, .ref m_shell, .ref m_shellArm, .ref m_shellCall, .int m_shells, .ref m_keptCounts, .ref m_asideKind, .ref m_asideCount, .ref m_asideField, .ref m_out, .ref m_side, .int m_outs, .int m_sides, .ref m_saying]))] H := hP
      have hD : va_D A [(h0, .inr (14, [.int 0, .ref m_stop, .ref m_tape, .int m_taped, .int m_length, .int m_at, .int m_sort, .int m_place, .int m_sign, .long m_letters, .ref m_p, .ref m_spare, .int m_isTaken, .ref m_scope, .int m_scoped, .int m_deep, .int m_counted, .int m_fault, .int m_where, .ref m_cellKind, .ref m_cellCount, .ref m_free, .ref m_pile, .ref m_cellField, .int m_freeCount, .int m_given, .int m_nextPlain, .ref m_otherKind, .ref m_otherField, .int m_isPlain, .int m_hasRun, .int m_hasValue, .int m_hasOther, .long m_value, .long m_other, .int m_steps, .int m_made, .int m_reused, .int m_freed, .int m_most, .int m_doubled, .int m_openMost, .ref m_taskWhat, .ref m_taskPart, .ref m_values, .int m_tasks, .int m_valued, .int m_open, .ref m_slots, .ref m_present, .ref m_shell, .ref m_shellArm, .ref m_shellCall, .int m_shells, .ref m_keptCounts, .ref m_asideKind, .ref m_asideCount, .ref m_asideField, .ref m_out, .ref m_side, .int m_outs, .int m_sides, .ref m_saying]))] := hD
      have hK : va_K (dC, dI) vwCl [] s := hK
      have hw_r_9 := hw
      try dsimp only at hw_r_9
      have hq_10 := hw
      have hP9 := hP.sub (ws' := [(h0, .inr (14, [.int 0, .ref m_stop, .ref m_tape, .int m_taped, .int m_length, .int m_at, .int m_sort, .int m_place, .int m_sign, .long m_letters, .ref m_p, .ref m_spare, .int m_isTaken, .ref m_scope, .int m_scoped, .int m_deep, .int m_counted, .int m_fault, .int m_where, .ref m_cellKind, .ref m_cellCount, .ref m_free, .ref m_pile, .ref m_cellField, .int m_freeCount, .int m_given, .int m_nextPlain, .ref m_otherKind, .ref m_otherField, .int m_isPlain, .int m_hasRun, .int m_hasValue, .int m_hasOther, .long m_value, .long m_other, .int m_steps, .int m_made, .int m_reused, .int m_freed, .int m_most, .int m_doubled, .int m_openMost, .ref m_taskWhat, .ref m_taskPart, .ref m_values, .int m_tasks, .int m_valued, .int m_open, .ref m_slots, .ref m_present, .ref m_shell, .ref m_shellArm, .ref m_shellCall, .int m_shells, .ref m_keptCounts, .ref m_asideKind, .ref m_asideCount, .ref m_asideField, .ref m_out, .ref m_side, .int m_outs, .int m_sides, .ref m_saying]))]) [0] rfl
      have hD9 := hD.sub (ws' := [(h0, .inr (14, [.int 0, .ref m_stop, .ref m_tape, .int m_taped, .int m_length, .int m_at, .int m_sort, .int m_place, .int m_sign, .long m_letters, .ref m_p, .ref m_spare, .int m_isTaken, .ref m_scope, .int m_scoped, .int m_deep, .int m_counted, .int m_fault, .int m_where, .ref m_cellKind, .ref m_cellCount, .ref m_free, .ref m_pile, .ref m_cellField, .int m_freeCount, .int m_given, .int m_nextPlain, .ref m_otherKind, .ref m_otherField, .int m_isPlain, .int m_hasRun, .int m_hasValue, .int m_hasOther, .long m_value, .long m_other, .int m_steps, .int m_made, .int m_reused, .int m_freed, .int m_most, .int m_doubled, .int m_openMost, .ref m_taskWhat, .ref m_taskPart, .ref m_values, .int m_tasks, .int m_valued, .int m_open, .ref m_slots, .ref m_present, .ref m_shell, .ref m_shellArm, .ref m_shellCall, .int m_shells, .ref m_keptCounts, .ref m_asideKind, .ref m_asideCount, .ref m_asideField, .ref m_out, .ref m_side, .int m_outs, .int m_sides, .ref m_saying]))]) [0] (by decide) rfl
      have hK9 := hK.sub (tys' := []) [] rfl
      exact W.iret (v := r_9) hx hb hr (fun t ht hW => ⟨⟨r_9, (), rfl, (cnA_k (k := 6) (by omega) (by omega) (by omega) (show Int32.toInt m_given - Int32.toInt m_freeCount = _ by omega)).symm, by rw [ht]; exact hP9, va_K.moved hW.alike hK9, hD9⟩, hS.F ht⟩) hS.2.2 dX14_count_94
    by_cases hk_11 : wt.toInt = 7
    · refine lv_tableIn (off := 80) (tgt := 95) hx hb dX14_count_15 (by omega) (by omega) (by rw [hk_11]; rfl) (by decide) ?_
      refine lv_aload_n hx hb dX14_count_95 rfl (lv_at hl 0 rfl) ?_
      refine va_get (D := (dC, dI)) (ci := 14) (v := .int m_openMost) (C := RX14) (T := TX14) (N := 63) hx hb hA zin_X14 hown hK hP 0 rfl rfl 41 (by decide) (hA _ wi_1538) (fun _ h9 => h9) rfl dX14_count_96 ?_
      have hP9 := hP.sub (ws' := [(h0, .inr (14, [.int 0, .ref m_stop, .ref m_tape, .int m_taped, .int m_length, .int m_at, .int m_sort, .int m_place, .int m_sign, .long m_letters, .ref m_p, .ref m_spare, .int m_isTaken, .ref m_scope, .int m_scoped, .int m_deep, .int m_counted, .int m_fault, .int m_where, .ref m_cellKind, .ref m_cellCount, .ref m_free, .ref m_pile, .ref m_cellField, .int m_freeCount, .int m_given, .int m_nextPlain, .ref m_otherKind, .ref m_otherField, .int m_isPlain, .int m_hasRun, .int m_hasValue, .int m_hasOther, .long m_value, .long m_other, .int m_steps, .int m_made, .int m_reused, .int m_freed, .int m_most, .int m_doubled, .int m_openMost, .ref m_taskWhat, .ref m_taskPart, .ref m_values, .int m_tasks, .int m_valued, .int m_open, .ref m_slots, .ref m_present, .ref m_shell, .ref m_shellArm, .ref m_shellCall, .int m_shells, .ref m_keptCounts, .ref m_asideKind, .ref m_asideCount, .ref m_asideField, .ref m_out, .ref m_side, .int m_outs, .int m_sides, .ref m_saying]))]) [0] rfl
      have hD9 := hD.sub (ws' := [(h0, .inr (14, [.int 0, .ref m_stop, .ref m_tape, .int m_taped, .int m_length, .int m_at, .int m_sort, .int m_place, .int m_sign, .long m_letters, .ref m_p, .ref m_spare, .int m_isTaken, .ref m_scope, .int m_scoped, .int m_deep, .int m_counted, .int m_fault, .int m_where, .ref m_cellKind, .ref m_cellCount, .ref m_free, .ref m_pile, .ref m_cellField, .int m_freeCount, .int m_given, .int m_nextPlain, .ref m_otherKind, .ref m_otherField, .int m_isPlain, .int m_hasRun, .int m_hasValue, .int m_hasOther, .long m_value, .long m_other, .int m_steps, .int m_made, .int m_reused, .int m_freed, .int m_most, .int m_doubled, .int m_openMost, .ref m_taskWhat, .ref m_taskPart, .ref m_values, .int m_tasks, .int m_valued, .int m_open, .ref m_slots, .ref m_present, .ref m_shell, .ref m_shellArm, .ref m_shellCall, .int m_shells, .ref m_keptCounts, .ref m_asideKind, .ref m_asideCount, .ref m_asideField, .ref m_out, .ref m_side, .int m_outs, .int m_sides, .ref m_saying]))]) [0] (by decide) rfl
      have hK9 := hK.sub (tys' := []) [] rfl
      exact W.iret (v := m_openMost) hx hb hr (fun t ht hW => ⟨⟨m_openMost, (), rfl, (cnA_k (k := 7) (by omega) (by omega) (by omega) rfl).symm, by rw [ht]; exact hP9, va_K.moved hW.alike hK9, hD9⟩, hS.F ht⟩) hS.2.2 dX14_count_99
    refine lv_tableOut (tgt := 100) hx hb dX14_count_15 (by omega) (by decide) ?_
    refine lv_iconst (v := (-1)) hx hb dX14_count_100 (by decide) ?_
    have hlit : Int32.toInt (-1) = (-1) := by decide
    have hP9 := hP.sub (ws' := [(h0, .inr (14, [.int 0, .ref m_stop, .ref m_tape, .int m_taped, .int m_length, .int m_at, .int m_sort, .int m_place, .int m_sign, .long m_letters, .ref m_p, .ref m_spare, .int m_isTaken, .ref m_scope, .int m_scoped, .int m_deep, .int m_counted, .int m_fault, .int m_where, .ref m_cellKind, .ref m_cellCount, .ref m_free, .ref m_pile, .ref m_cellField, .int m_freeCount, .int m_given, .int m_nextPlain, .ref m_otherKind, .ref m_otherField, .int m_isPlain, .int m_hasRun, .int m_hasValue, .int m_hasOther, .long m_value, .long m_other, .int m_steps, .int m_made, .int m_reused, .int m_freed, .int m_most, .int m_doubled, .int m_openMost, .ref m_taskWhat, .ref m_taskPart, .ref m_values, .int m_tasks, .int m_valued, .int m_open, .ref m_slots, .ref m_present, .ref m_shell, .ref m_shellArm, .ref m_shellCall, .int m_shells, .ref m_keptCounts, .ref m_asideKind, .ref m_asideCount, .ref m_asideField, .ref m_out, .ref m_side, .int m_outs, .int m_sides, .ref m_saying]))]) [0] rfl
    have hD9 := hD.sub (ws' := [(h0, .inr (14, [.int 0, .ref m_stop, .ref m_tape, .int m_taped, .int m_length, .int m_at, .int m_sort, .int m_place, .int m_sign, .long m_letters, .ref m_p, .ref m_spare, .int m_isTaken, .ref m_scope, .int m_scoped, .int m_deep, .int m_counted, .int m_fault, .int m_where, .ref m_cellKind, .ref m_cellCount, .ref m_free, .ref m_pile, .ref m_cellField, .int m_freeCount, .int m_given, .int m_nextPlain, .ref m_otherKind, .ref m_otherField, .int m_isPlain, .int m_hasRun, .int m_hasValue, .int m_hasOther, .long m_value, .long m_other, .int m_steps, .int m_made, .int m_reused, .int m_freed, .int m_most, .int m_doubled, .int m_openMost, .ref m_taskWhat, .ref m_taskPart, .ref m_values, .int m_tasks, .int m_valued, .int m_open, .ref m_slots, .ref m_present, .ref m_shell, .ref m_shellArm, .ref m_shellCall, .int m_shells, .ref m_keptCounts, .ref m_asideKind, .ref m_asideCount, .ref m_asideField, .ref m_out, .ref m_side, .int m_outs, .int m_sides, .ref m_saying]))]) [0] (by decide) rfl
    have hK9 := hK.sub (tys' := []) [] rfl
    exact W.iret (v := (-1)) hx hb hr (fun t ht hW => ⟨⟨(-1), (), rfl, ((cnA_o (by omega) (by omega)).trans (by decide)).symm, by rw [ht]; exact hP9, va_K.moved hW.alike hK9, hD9⟩, hS.F ht⟩) hS.2.2 dX14_count_101
  · have ic_1 : m_hasRun.toInt = 0 := zi_eq c_1
    refine lv_iconst (v := (-1)) hx hb dX14_count_12 (by decide) ?_
    have hlit : Int32.toInt (-1) = (-1) := by decide
    have hP9 := hP.sub (ws' := [(h0, .inr (14, [.int 0, .ref m_stop, .ref m_tape, .int m_taped, .int m_length, .int m_at, .int m_sort, .int m_place, .int m_sign, .long m_letters, .ref m_p, .ref m_spare, .int m_isTaken, .ref m_scope, .int m_scoped, .int m_deep, .int m_counted, .int m_fault, .int m_where, .ref m_cellKind, .ref m_cellCount, .ref m_free, .ref m_pile, .ref m_cellField, .int m_freeCount, .int m_given, .int m_nextPlain, .ref m_otherKind, .ref m_otherField, .int m_isPlain, .int m_hasRun, .int m_hasValue, .int m_hasOther, .long m_value, .long m_other, .int m_steps, .int m_made, .int m_reused, .int m_freed, .int m_most, .int m_doubled, .int m_openMost, .ref m_taskWhat, .ref m_taskPart, .ref m_values, .int m_tasks, .int m_valued, .int m_open, .ref m_slots, .ref m_present, .ref m_shell, .ref m_shellArm, .ref m_shellCall, .int m_shells, .ref m_keptCounts, .ref m_asideKind, .ref m_asideCount, .ref m_asideField, .ref m_out, .ref m_side, .int m_outs, .int m_sides, .ref m_saying]))]) [0] rfl
    have hD9 := hD.sub (ws' := [(h0, .inr (14, [.int 0, .ref m_stop, .ref m_tape, .int m_taped, .int m_length, .int m_at, .int m_sort, .int m_place, .int m_sign, .long m_letters, .ref m_p, .ref m_spare, .int m_isTaken, .ref m_scope, .int m_scoped, .int m_deep, .int m_counted, .int m_fault, .int m_where, .ref m_cellKind, .ref m_cellCount, .ref m_free, .ref m_pile, .ref m_cellField, .int m_freeCount, .int m_given, .int m_nextPlain, .ref m_otherKind, .ref m_otherField, .int m_isPlain, .int m_hasRun, .int m_hasValue, .int m_hasOther, .long m_value, .long m_other, .int m_steps, .int m_made, .int m_reused, .int m_freed, .int m_most, .int m_doubled, .int m_openMost, .ref m_taskWhat, .ref m_taskPart, .ref m_values, .int m_tasks, .int m_valued, .int m_open, .ref m_slots, .ref m_present, .ref m_shell, .ref m_shellArm, .ref m_shellCall, .int m_shells, .ref m_keptCounts, .ref m_asideKind, .ref m_asideCount, .ref m_asideField, .ref m_out, .ref m_side, .int m_outs, .int m_sides, .ref m_saying]))]) [0] (by decide) rfl
    have hK9 := hK.sub (tys' := []) [] rfl
    exact W.iret (v := (-1)) hx hb hr (fun t ht hW => ⟨⟨(-1), (), rfl, ((cnA_n (by omega)).trans (by decide)).symm, by rw [ht]; exact hP9, va_K.moved hW.alike hK9, hD9⟩, hS.F ht⟩) hS.2.2 dX14_count_13
set_option maxHeartbeats 4000000 in
set_option maxRecDepth 100000 in
theorem c_X14_release_k (l : Launch) (dC : Nat → ClassId) (dI : Nat → Nat → Nat) (aK aV : Nat → Nat) (h0 : Nat) (m_thrown : Int32) (m_stop : Nat) (m_tape : Nat) (m_taped : Int32) (m_length : Int32) (m_at : Int32) (m_sort : Int32) (m_place : Int32) (m_sign : Int32) (m_letters : Int64) (m_p : Nat) (m_spare : Nat) (m_isTaken : Int32) (m_scope : Nat) (m_scoped : Int32) (m_deep : Int32) (m_counted : Int32) (m_fault : Int32) (m_where : Int32) (m_cellKind : Nat) (m_cellCount : Nat) (m_free : Nat) (m_pile : Nat) (m_cellField : Nat) (m_freeCount : Int32) (m_given : Int32) (m_nextPlain : Int32) (m_otherKind : Nat) (m_otherField : Nat) (m_isPlain : Int32) (m_hasRun : Int32) (m_hasValue : Int32) (m_hasOther : Int32) (m_value : Int64) (m_other : Int64) (m_steps : Int32) (m_made : Int32) (m_reused : Int32) (m_freed : Int32) (m_most : Int32) (m_doubled : Int32) (m_openMost : Int32) (m_taskWhat : Nat) (m_taskPart : Nat) (m_values : Nat) (m_tasks : Int32) (m_valued : Int32) (m_open : Int32) (m_slots : Nat) (m_present : Nat) (m_shell : Nat) (m_shellArm : Nat) (m_shellCall : Nat) (m_shells : Int32) (m_keptCounts : Nat) (m_asideKind : Nat) (m_asideCount : Nat) (m_asideField : Nat) (m_out : Nat) (m_side : Nat) (m_outs : Int32) (m_sides : Int32) (m_saying : Nat) (pr_what : Nat) (pr_place : Nat) (pr_own : Nat) (pr_one : Nat) (pr_two : Nat) (pr_three : Nat) (pr_beside : Nat) (pr_many : Nat) (pr_uses : Nat) (pr_behind : Nat) (pr_name : Nat) (pr_makes : Nat) (pr_parts : Int32) (pr_functionName : Nat) (pr_kindName : Nat) (pr_told : Nat) (pr_body : Nat) (pr_first : Nat) (pr_widest : Nat) (pr_fields : Nat) (pr_functions : Int32) (pr_kinds : Int32) (rk_fields : ClassId) (rg_fields : Nat → Int32) (ak_cellKind : ClassId) (ak_cellCount : ClassId) (ak_free : ClassId) (ak_pile : ClassId) (ak_cellField : ClassId) (gck : Nat → Int32) (gcc : Nat → Int32) (gfr : Nat → Int32) (gpi : Nat → Int32) (gcf : Nat → Int64) (gsh : Nat → Int32) (sz : Nat) (hva : Int32.toInt m_hasValue = 0 ∨ 0 ≤ Int32.toInt pr_kinds ∧ Int32.toInt pr_kinds ≤ 20 ∧ (∃ lv2, zH m_isPlain pr_kinds rg_fields gck gcc gcf lv2 (fun c => zr m_value c) (Int32.toInt m_doubled) gfr gsh (Int32.toInt m_freeCount) (Int32.toInt m_shells) (Int32.toInt m_nextPlain)) ∧ zHv pr_kinds rg_fields m_value) (hvz : Int32.toInt m_hasValue = 0 ∨ (rVz rg_fields m_value gck gcc gcf gfr (Int32.toInt m_freeCount) (Int32.toInt m_given) ∧ 0 ≤ Int32.toInt m_freed ∧ Int32.toInt m_freed ≤ 20000)) (hwr : Int32.toInt m_hasRun = 0 → Int32.toInt m_hasValue = 0) (hip : m_isPlain.toInt = 0) (hg0 : 0 ≤ m_given.toInt) (hg1 : m_given.toInt ≤ 400) (hfc0 : 0 ≤ m_freeCount.toInt) (hfc1 : m_freeCount.toInt ≤ m_given.toInt) : Met l yX14_release (Cond.code yX14_release cX14_release 2 (some .int) :: zw) ({ frames := 12, cells := 0, slots := 0, locals := 400 }) (va_Pc [.ref h0] (zP dC dI aK aV sz [(rk_fields, .int), (ak_cellKind, .int), (ak_cellCount, .int), (ak_free, .int), (ak_pile, .int), (ak_cellField, .long)] [(h0, .inr (14, [.int m_thrown, .ref m_stop, .ref m_tape, .int m_taped, .int m_length, .int m_at, .int m_sort, .int m_place, .int m_sign, .long m_letters, .ref m_p, .ref m_spare, .int m_isTaken, .ref m_scope, .int m_scoped, .int m_deep, .int m_counted, .int m_fault, .int m_where, .ref m_cellKind, .ref m_cellCount, .ref m_free, .ref m_pile, .ref m_cellField, .int m_freeCount, .int m_given, .int m_nextPlain, .ref m_otherKind, .ref m_otherField, .int m_isPlain, .int m_hasRun, .int m_hasValue, .int m_hasOther, .long m_value, .long m_other, .int m_steps, .int m_made, .int m_reused, .int m_freed, .int m_most, .int m_doubled, .int m_openMost, .ref m_taskWhat, .ref m_taskPart, .ref m_values, .int m_tasks, .int m_valued, .int m_open, .ref m_slots, .ref m_present, .ref m_shell, .ref m_shellArm, .ref m_shellCall, .int m_shells, .ref m_keptCounts, .ref m_asideKind, .ref m_asideCount, .ref m_asideField, .ref m_out, .ref m_side, .int m_outs, .int m_sides, .ref m_saying])), (m_p, .inr (12, [.ref pr_what, .ref pr_place, .ref pr_own, .ref pr_one, .ref pr_two, .ref pr_three, .ref pr_beside, .ref pr_many, .ref pr_uses, .ref pr_behind, .ref pr_name, .ref pr_makes, .int pr_parts, .ref pr_functionName, .ref pr_kindName, .ref pr_told, .ref pr_body, .ref pr_first, .ref pr_widest, .ref pr_fields, .int pr_functions, .int pr_kinds])), (pr_fields, .inl (rk_fields, 20, .inl rg_fields)), (m_cellKind, .inl (ak_cellKind, 4000, .inl gck)), (m_cellCount, .inl (ak_cellCount, 4000, .inl gcc)), (m_free, .inl (ak_free, 400, .inl gfr)), (m_pile, .inl (ak_pile, 4000, .inl gpi)), (m_cellField, .inl (ak_cellField, 12000, .inr (.inl gcf)))])) (va_Qi (fun (r : Int32) (u : Int32 × Int32 × Int32 × (Nat → Int32) × (Nat → Int32) × (Nat → Int32)) => match u with | (hv2, fc2, fe2, gcc2, gfr2, gpi2) => (hv2.toInt = 0) ∧ (0 ≤ fc2.toInt) ∧ (fc2.toInt ≤ m_given.toInt) ∧ (zOq (rlR (cnF (Int32.toInt m_hasRun) (Int32.toInt m_steps) (Int32.toInt m_made) (Int32.toInt m_reused) (Int32.toInt m_freed) (Int32.toInt m_most) (Int32.toInt m_doubled) ((Int32.toInt m_given) - (Int32.toInt m_freeCount)) (Int32.toInt m_openMost) (Int32.toInt m_hasValue)) r (cnF (Int32.toInt m_hasRun) (Int32.toInt m_steps) (Int32.toInt m_made) (Int32.toInt m_reused) (Int32.toInt fe2) (Int32.toInt m_most) (Int32.toInt m_doubled) ((Int32.toInt m_given) - (Int32.toInt fc2)) (Int32.toInt m_openMost) (Int32.toInt hv2))))) (fun u => match u with | (hv2, fc2, fe2, gcc2, gfr2, gpi2) => zQ dC dI (va_A [(h0, .inr (14, [.int m_thrown, .ref m_stop, .ref m_tape, .int m_taped, .int m_length, .int m_at, .int m_sort, .int m_place, .int m_sign, .long m_letters, .ref m_p, .ref m_spare, .int m_isTaken, .ref m_scope, .int m_scoped, .int m_deep, .int m_counted, .int m_fault, .int m_where, .ref m_cellKind, .ref m_cellCount, .ref m_free, .ref m_pile, .ref m_cellField, .int m_freeCount, .int m_given, .int m_nextPlain, .ref m_otherKind, .ref m_otherField, .int m_isPlain, .int m_hasRun, .int m_hasValue, .int m_hasOther, .long m_value, .long m_other, .int m_steps, .int m_made, .int m_reused, .int m_freed, .int m_most, .int m_doubled, .int m_openMost, .ref m_taskWhat, .ref m_taskPart, .ref m_values, .int m_tasks, .int m_valued, .int m_open, .ref m_slots, .ref m_present, .ref m_shell, .ref m_shellArm, .ref m_shellCall, .int m_shells, .ref m_keptCounts, .ref m_asideKind, .ref m_asideCount, .ref m_asideField, .ref m_out, .ref m_side, .int m_outs, .int m_sides, .ref m_saying])), (m_p, .inr (12, [.ref pr_what, .ref pr_place, .ref pr_own, .ref pr_one, .ref pr_two, .ref pr_three, .ref pr_beside, .ref pr_many, .ref pr_uses, .ref pr_behind, .ref pr_name, .ref pr_makes, .int pr_parts, .ref pr_functionName, .ref pr_kindName, .ref pr_told, .ref pr_body, .ref pr_first, .ref pr_widest, .ref pr_fields, .int pr_functions, .int pr_kinds])), (pr_fields, .inl (rk_fields, 20, .inl rg_fields)), (m_cellKind, .inl (ak_cellKind, 4000, .inl gck)), (m_cellCount, .inl (ak_cellCount, 4000, .inl gcc)), (m_free, .inl (ak_free, 400, .inl gfr)), (m_pile, .inl (ak_pile, 4000, .inl gpi)), (m_cellField, .inl (ak_cellField, 12000, .inr (.inl gcf)))] sz) [(rk_fields, .int), (ak_cellKind, .int), (ak_cellCount, .int), (ak_free, .int), (ak_pile, .int), (ak_cellField, .long)] [(h0, .inr (14, [.int 0, .ref m_stop, .ref m_tape, .int m_taped, .int m_length, .int m_at, .int m_sort, .int m_place, .int m_sign, .long m_letters, .ref m_p, .ref m_spare, .int m_isTaken, .ref m_scope, .int m_scoped, .int m_deep, .int m_counted, .int m_fault, .int m_where, .ref m_cellKind, .ref m_cellCount, .ref m_free, .ref m_pile, .ref m_cellField, .int fc2, .int m_given, .int m_nextPlain, .ref m_otherKind, .ref m_otherField, .int m_isPlain, .int m_hasRun, .int hv2, .int m_hasOther, .long m_value, .long m_other, .int m_steps, .int m_made, .int m_reused, .int fe2, .int m_most, .int m_doubled, .int m_openMost, .ref m_taskWhat, .ref m_taskPart, .ref m_values, .int m_tasks, .int m_valued, .int m_open, .ref m_slots, .ref m_present, .ref m_shell, .ref m_shellArm, .ref m_shellCall, .int m_shells, .ref m_keptCounts, .ref m_asideKind, .ref m_asideCount, .ref m_asideField, .ref m_out, .ref m_side, .int m_outs, .int m_sides, .ref m_saying])), (m_p, .inr (12, [.ref pr_what, .ref pr_place, .ref pr_own, .ref pr_one, .ref pr_two, .ref pr_three, .ref pr_beside, .ref pr_many, .ref pr_uses, .ref pr_behind, .ref pr_name, .ref pr_makes, .int pr_parts, .ref pr_functionName, .ref pr_kindName, .ref pr_told, .ref pr_body, .ref pr_first, .ref pr_widest, .ref pr_fields, .int pr_functions, .int pr_kinds])), (pr_fields, .inl (rk_fields, 20, .inl rg_fields)), (m_cellKind, .inl (ak_cellKind, 4000, .inl gck)), (m_cellCount, .inl (ak_cellCount, 4000, .inl gcc2)), (m_free, .inl (ak_free, 400, .inl gfr2)), (m_pile, .inl (ak_pile, 4000, .inl gpi2)), (m_cellField, .inl (ak_cellField, 12000, .inr (.inl gcf)))]) (va_A [(h0, .inr (14, [.int m_thrown, .ref m_stop, .ref m_tape, .int m_taped, .int m_length, .int m_at, .int m_sort, .int m_place, .int m_sign, .long m_letters, .ref m_p, .ref m_spare, .int m_isTaken, .ref m_scope, .int m_scoped, .int m_deep, .int m_counted, .int m_fault, .int m_where, .ref m_cellKind, .ref m_cellCount, .ref m_free, .ref m_pile, .ref m_cellField, .int m_freeCount, .int m_given, .int m_nextPlain, .ref m_otherKind, .ref m_otherField, .int m_isPlain, .int m_hasRun, .int m_hasValue, .int m_hasOther, .long m_value, .long m_other, .int m_steps, .int m_made, .int m_reused, .int m_freed, .int m_most, .int m_doubled, .int m_openMost, .ref m_taskWhat, .ref m_taskPart, .ref m_values, .int m_tasks, .int m_valued, .int m_open, .ref m_slots, .ref m_present, .ref m_shell, .ref m_shellArm, .ref m_shellCall, .int m_shells, .ref m_keptCounts, .ref m_asideKind, .ref m_asideCount, .ref m_asideField, .ref m_out, .ref m_side, .int m_outs, .int m_sides, .ref m_saying])), (m_p, .inr (12, [.ref pr_what, .ref pr_place, .ref pr_own, .ref pr_one, .ref pr_two, .ref pr_three, .ref pr_beside, .ref pr_many, .ref pr_uses, .ref pr_behind, .ref pr_name, .ref pr_makes, .int pr_parts, .ref pr_functionName, .ref pr_kindName, .ref pr_told, .ref pr_body, .ref pr_first, .ref pr_widest, .ref pr_fields, .int pr_functions, .int pr_kinds])), (pr_fields, .inl (rk_fields, 20, .inl rg_fields)), (m_cellKind, .inl (ak_cellKind, 4000, .inl gck)), (m_cellCount, .inl (ak_cellCount, 4000, .inl gcc)), (m_free, .inl (ak_free, 400, .inl gfr)), (m_pile, .inl (ak_pile, 4000, .inl gpi)), (m_cellField, .inl (ak_cellField, 12000, .inr (.inl gcf)))] sz)) 0 0 (va_A [(h0, .inr (14, [.int m_thrown, .ref m_stop, .ref m_tape, .int m_taped, .int m_length, .int m_at, .int m_sort, .int m_place, .int m_sign, .long m_letters, .ref m_p, .ref m_spare, .int m_isTaken, .ref m_scope, .int m_scoped, .int m_deep, .int m_counted, .int m_fault, .int m_where, .ref m_cellKind, .ref m_cellCount, .ref m_free, .ref m_pile, .ref m_cellField, .int m_freeCount, .int m_given, .int m_nextPlain, .ref m_otherKind, .ref m_otherField, .int m_isPlain, .int m_hasRun, .int m_hasValue, .int m_hasOther, .long m_value, .long m_other, .int m_steps, .int m_made, .int m_reused, .int m_freed, .int m_most, .int m_doubled, .int m_openMost, .ref m_taskWhat, .ref m_taskPart, .ref m_values, .int m_tasks, .int m_valued, .int m_open, .ref m_slots, .ref m_present, .ref m_shell, .ref m_shellArm, .ref m_shellCall, .int m_shells, .ref m_keptCounts, .ref m_asideKind, .ref m_asideCount, .ref m_asideField, .ref m_out, .ref m_side, .int m_outs, .int m_sides, .ref m_saying])), (m_p, .inr (12, [.ref pr_what, .ref pr_place, .ref pr_own, .ref pr_one, .ref pr_two, .ref pr_three, .ref pr_beside, .ref pr_many, .ref pr_uses, .ref pr_behind, .ref pr_name, .ref pr_makes, .int pr_parts, .ref pr_functionName, .ref pr_kindName, .ref pr_told, .ref pr_body, .ref pr_first, .ref pr_widest, .ref pr_fields, .int pr_functions, .int pr_kinds])), (pr_fields, .inl (rk_fields, 20, .inl rg_fields)), (m_cellKind, .inl (ak_cellKind, 4000, .inl gck)), (m_cellCount, .inl (ak_cellCount, 4000, .inl gcc)), (m_free, .inl (ak_free, 400, .inl gfr)), (m_pile, .inl (ak_pile, 4000, .inl gpi)), (m_cellField, .inl (ak_cellField, 12000, .inr (.inl gcf)))] sz) := by
  refine Met.ofW (cc := cX14_release) (maxL := 2) (ret := (some .int)) (by decide) rfl ?_
  intro p e s m args below meth c s₁ B hml hv
  obtain ⟨rfl, hsz, hP, hK, hD0, hN, hT⟩ := hv
  have hx := B.exec
  have hb := B.bytes
  have hr := B.returns
  have hts := atoms_spec (ws := Cond.code yX14_release cX14_release 2 (some .int) :: zw) B.pre
  have hA : ∀ w ∈ zw, w.before _ s = true := fun w h => hts w (List.mem_cons_of_mem _ h)
  have hown : s.vm.findClass RX14 = some m.cls := findClass_of_methodNamed B.named
  have hlocks := B.notSynchronized
  subst hsz
  have hD := hD0.self (sz := s.heap.size)
  generalize hAe : va_A [(h0, .inr (14, [.int m_thrown, .ref m_stop, .ref m_tape, .int m_taped, .int m_length, .int m_at, .int m_sort, .int m_place, .int m_sign, .long m_letters, .ref m_p, .ref m_spare, .int m_isTaken, .ref m_scope, .int m_scoped, .int m_deep, .int m_counted, .int m_fault, .int m_where, .ref m_cellKind, .ref m_cellCount, .ref m_free, .ref m_pile, .ref m_cellField, .int m_freeCount, .int m_given, .int m_nextPlain, .ref m_otherKind, .ref m_otherField, .int m_isPlain, .int m_hasRun, .int m_hasValue, .int m_hasOther, .long m_value, .long m_other, .int m_steps, .int m_made, .int m_reused, .int m_freed, .int m_most, .int m_doubled, .int m_openMost, .ref m_taskWhat, .ref m_taskPart, .ref m_values, .int m_tasks, .int m_valued, .int m_open, .ref m_slots, .ref m_present, .ref m_shell, .ref m_shellArm, .ref m_shellCall, .int m_shells, .ref m_keptCounts, .ref m_asideKind, .ref m_asideCount, .ref m_asideField, .ref m_out, .ref m_side, .int m_outs, .int m_sides, .ref m_saying])), (m_p, .inr (12, [.ref pr_what, .ref pr_place, .ref pr_own, .ref pr_one, .ref pr_two, .ref pr_three, .ref pr_beside, .ref pr_many, .ref pr_uses, .ref pr_behind, .ref pr_name, .ref pr_makes, .int pr_parts, .ref pr_functionName, .ref pr_kindName, .ref pr_told, .ref pr_body, .ref pr_first, .ref pr_widest, .ref pr_fields, .int pr_functions, .int pr_kinds])), (pr_fields, .inl (rk_fields, 20, .inl rg_fields)), (m_cellKind, .inl (ak_cellKind, 4000, .inl gck)), (m_cellCount, .inl (ak_cellCount, 4000, .inl gcc)), (m_free, .inl (ak_free, 400, .inl gfr)), (m_pile, .inl (ak_pile, 4000, .inl gpi)), (m_cellField, .inl (ak_cellField, 12000, .inr (.inl gcf)))] s.heap.size = A at hD hT ⊢
  have hAA : ∀ q : Nat, s.heap.size ≤ q → A q := fun q h => by rw [← hAe]; exact Or.inr h
  have hS : va_S A s.heap s.heap [] := va_S.rf
  have hl := lv_entry ([.ref h0]) (n := 2) (Nat.le_of_ble_eq_true rfl)
  rw [lg_entry_eq]
  generalize (lg_sl ([.ref h0]) ++ List.replicate (2 - (lg_sl ([.ref h0])).length) Slot.unset).toArray = ls at hl ⊢
  have hl : lv_has ls 2 [(0, .ref h0)] := hl
  refine lv_aload_n hx hb dX14_release_0 rfl (lv_at hl 0 rfl) ?_
  refine lv_iconst (v := 0) hx hb dX14_release_1 (by decide) ?_
  refine va_put (D := (dC, dI)) (ci := 14) (v := .int 0) (ty := .int) (C := RX14) (T := TX14) (N := 63) hx hb hA zin_X14 tyX14 tyX14_ok nmX14 hown hK hP hD hS 0 rfl rfl 0 (by decide) (hA _ wi_1497) (fun _ h9 => h9) rfl (by decide +kernel) rfl rfl (Nat.le_of_ble_eq_true rfl) dX14_release_2 (fun H locs hP hD hS => ?_)
  have hP : va_P (dC, dI) vwCl [(h0, .inr (14, [.int 0, .ref m_stop, .ref m_tape, .int m_taped, .int m_length, .int m_at, .int m_sort, .int m_place, .int m_sign, .long m_letters, .ref m_p, .ref m_spare, .int m_isTaken, .ref m_scope, .int m_scoped, .int m_deep, .int m_counted, .int m_fault, .int m_where, .ref m_cellKind, .ref m_cellCount, .ref m_free, .ref m_pile, .ref m_cellField, .int m_freeCount, .int m_given, .int m_nextPlain, .ref m_otherKind, .ref m_otherField, .int m_isPlain, .int m_hasRun, .int m_hasValue, .int m_hasOther, .long m_value, .long m_other, .int m_steps, .int m_made, .int m_reused, .int m_freed, .int m_most, .int m_doubled, .int m_openMost, .ref m_taskWhat, .ref m_taskPart, .ref m_values, .int m_tasks, .int m_valued, .int m_open, .ref m_slots, .ref m_present, .ref m_shell, .ref m_shellArm, .ref m_shellCall, .int m_shells, .ref m_keptCounts, .ref m_asideKind, .ref m_asideCount, .ref m_asideField, .ref m_out, .ref m_side, .int m_outs, .int m_sides, .ref m_saying])), (m_p, .inr (12, [.ref pr_what, .ref pr_place, .ref pr_own, .ref pr_one, .ref pr_two, .ref pr_three, .ref pr_beside, .ref pr_many, .ref pr_uses, .ref pr_behind, .ref pr_name, .ref pr_makes, .int pr_parts, .ref pr_functionName, .ref pr_kindName, .ref pr_told, .ref pr_body, .ref pr_first, .ref pr_widest, .ref pr_fields, .int pr_functions, .int pr_kinds])), (pr_fields, .inl (rk_fields, 20, .inl rg_fields)), (m_cellKind, .inl (ak_cellKind, 4000, .inl gck)), (m_cellCount, .inl (ak_cellCount, 4000, .inl gcc)), (m_free, .inl (ak_free, 400, .inl gfr)), (m_pile, .inl (ak_pile, 4000, .inl gpi)), (m_cellField, .inl (ak_cellField, 12000, .inr (.inl gcf)))] H := hP
  have hD : va_D A [(h0, .inr (14, [.int 0, .ref m_stop, .ref m_tape, .int m_taped, .int m_length, .int m_at, .int m_sort, .int m_place, .int m_sign, .long m_letters, .ref m_p, .ref m_spare, .int m_isTaken, .ref m_scope, .int m_scoped, .int m_deep, .int m_counted, .int m_fault, .int m_where, .ref m_cellKind, .ref m_cellCount, .ref m_free, .ref m_pile, .ref m_cellField, .int m_freeCount, .int m_given, .int m_nextPlain, .ref m_otherKind, .ref m_otherField, .int m_isPlain, .int m_hasRun, .int m_hasValue, .int m_hasOther, .long m_value, .long m_other, .int m_steps, .int m_made, .int m_reused, .int m_freed, .int m_most, .int m_doubled, .int m_openMost, .ref m_taskWhat, .ref m_taskPart, .ref m_values, .int m_tasks, .int m_valued, .int m_open, .ref m_slots, .ref m_present, .ref m_shell, .ref m_shellArm, .ref m_shellCall, .int m_shells, .ref m_keptCounts, .ref m_asideKind, .ref m_asideCount, .ref m_asideField, .ref m_out, .ref m_side, .int m_outs, .int m_sides, .ref m_saying])), (m_p, .inr (12, [.ref pr_what, .ref pr_place, .ref pr_own, .ref pr_one, .ref pr_two, .ref pr_three, .ref pr_beside, .ref pr_many, .ref pr_uses, .ref pr_behind, .ref pr_name, .ref pr_makes, .int pr_parts, .ref pr_functionName, .ref pr_kindName, .ref pr_told, .ref pr_body, .ref pr_first, .ref pr_widest, .ref pr_fields, .int pr_functions, .int pr_kinds])), (pr_fields, .inl (rk_fields, 20, .inl rg_fields)), (m_cellKind, .inl (ak_cellKind, 4000, .inl gck)), (m_cellCount, .inl (ak_cellCount, 4000, .inl gcc)), (m_free, .inl (ak_free, 400, .inl gfr)), (m_pile, .inl (ak_pile, 4000, .inl gpi)), (m_cellField, .inl (ak_cellField, 12000, .inr (.inl gcf)))] := hD
  refine lv_aload_n hx hb dX14_release_5 rfl (lv_at hl 0 rfl) ?_
  refine va_get (D := (dC, dI)) (ci := 14) (v := .int m_hasValue) (C := RX14) (T := TX14) (N := 63) hx hb hA zin_X14 hown hK hP 0 rfl rfl 31 (by decide) (hA _ wi_1528) (fun _ h9 => h9) rfl dX14_release_6 ?_
  refine lv_if_ne (tgt := 14) hx hb dX14_release_9 (by decide) (fun c_1 => ?_) (fun c_1 => ?_)
  · have ic_1 : m_hasValue.toInt ≠ 0 := zi_ne c_1
    obtain ⟨hkz0, hkz1, ⟨lv2, hz2⟩, hvv⟩ := hva.resolve_left (by omega)
    obtain ⟨⟨vz9, cz9, ckz9, cfz9, phz9, lvz9, gAz9, hvr9, hzz9, hff9⟩, hfe09, hfe19⟩ := hvz.resolve_left (by omega)
    refine lv_aload_n hx hb dX14_release_14 rfl (lv_at hl 0 rfl) ?_
    refine va_get (D := (dC, dI)) (ci := 14) (v := .int m_freed) (C := RX14) (T := TX14) (N := 63) hx hb hA zin_X14 hown hK hP 0 rfl rfl 38 (by decide) (hA _ wi_1535) (fun _ h9 => h9) rfl dX14_release_15 ?_
    refine lv_istore_n (lv' := [(1, .int m_freed), (0, .ref h0)]) hx hb dX14_release_18 rfl hl (by decide) rfl (fun ls hl => ?_)
    refine lv_aload_n hx hb dX14_release_19 rfl (lv_at hl 1 rfl) ?_
    refine lv_aload_n hx hb dX14_release_20 rfl (lv_at hl 1 rfl) ?_
    refine va_get (D := (dC, dI)) (ci := 14) (v := .long m_value) (C := RX14) (T := TX14) (N := 63) hx hb hA zin_X14 hown hK hP 0 rfl rfl 33 (by decide) (hA _ wi_1530) (fun _ h9 => h9) rfl dX14_release_21 ?_
    have hPc := hP.sub (ws' := [(h0, .inr (14, [.int 0, .ref m_stop, .ref m_tape, .int m_taped, .int m_length, .int m_at, .int m_sort, .int m_place, .int m_sign, .long m_letters, .ref m_p, .ref m_spare, .int m_isTaken, .ref m_scope, .int m_scoped, .int m_deep, .int m_counted, .int m_fault, .int m_where, .ref m_cellKind, .ref m_cellCount, .ref m_free, .ref m_pile, .ref m_cellField, .int m_freeCount, .int m_given, .int m_nextPlain, .ref m_otherKind, .ref m_otherField, .int m_isPlain, .int m_hasRun, .int m_hasValue, .int m_hasOther, .long m_value, .long m_other, .int m_steps, .int m_made, .int m_reused, .int m_freed, .int m_most, .int m_doubled, .int m_openMost, .ref m_taskWhat, .ref m_taskPart, .ref m_values, .int m_tasks, .int m_valued, .int m_open, .ref m_slots, .ref m_present, .ref m_shell, .ref m_shellArm, .ref m_shellCall, .int m_shells, .ref m_keptCounts, .ref m_asideKind, .ref m_asideCount, .ref m_asideField, .ref m_out, .ref m_side, .int m_outs, .int m_sides, .ref m_saying])), (m_p, .inr (12, [.ref pr_what, .ref pr_place, .ref pr_own, .ref pr_one, .ref pr_two, .ref pr_three, .ref pr_beside, .ref pr_many, .ref pr_uses, .ref pr_behind, .ref pr_name, .ref pr_makes, .int pr_parts, .ref pr_functionName, .ref pr_kindName, .ref pr_told, .ref pr_body, .ref pr_first, .ref pr_widest, .ref pr_fields, .int pr_functions, .int pr_kinds])), (pr_fields, .inl (rk_fields, 20, .inl rg_fields)), (m_cellKind, .inl (ak_cellKind, 4000, .inl gck)), (m_cellCount, .inl (ak_cellCount, 4000, .inl gcc)), (m_free, .inl (ak_free, 400, .inl gfr)), (m_pile, .inl (ak_pile, 4000, .inl gpi)), (m_cellField, .inl (ak_cellField, 12000, .inr (.inl gcf)))]) [0, 1, 2, 3, 4, 5, 6, 7] rfl
    have hDc := hD.sub (ws' := [(h0, .inr (14, [.int 0, .ref m_stop, .ref m_tape, .int m_taped, .int m_length, .int m_at, .int m_sort, .int m_place, .int m_sign, .long m_letters, .ref m_p, .ref m_spare, .int m_isTaken, .ref m_scope, .int m_scoped, .int m_deep, .int m_counted, .int m_fault, .int m_where, .ref m_cellKind, .ref m_cellCount, .ref m_free, .ref m_pile, .ref m_cellField, .int m_freeCount, .int m_given, .int m_nextPlain, .ref m_otherKind, .ref m_otherField, .int m_isPlain, .int m_hasRun, .int m_hasValue, .int m_hasOther, .long m_value, .long m_other, .int m_steps, .int m_made, .int m_reused, .int m_freed, .int m_most, .int m_doubled, .int m_openMost, .ref m_taskWhat, .ref m_taskPart, .ref m_values, .int m_tasks, .int m_valued, .int m_open, .ref m_slots, .ref m_present, .ref m_shell, .ref m_shellArm, .ref m_shellCall, .int m_shells, .ref m_keptCounts, .ref m_asideKind, .ref m_asideCount, .ref m_asideField, .ref m_out, .ref m_side, .int m_outs, .int m_sides, .ref m_saying])), (m_p, .inr (12, [.ref pr_what, .ref pr_place, .ref pr_own, .ref pr_one, .ref pr_two, .ref pr_three, .ref pr_beside, .ref pr_many, .ref pr_uses, .ref pr_behind, .ref pr_name, .ref pr_makes, .int pr_parts, .ref pr_functionName, .ref pr_kindName, .ref pr_told, .ref pr_body, .ref pr_first, .ref pr_widest, .ref pr_fields, .int pr_functions, .int pr_kinds])), (pr_fields, .inl (rk_fields, 20, .inl rg_fields)), (m_cellKind, .inl (ak_cellKind, 4000, .inl gck)), (m_cellCount, .inl (ak_cellCount, 4000, .inl gcc)), (m_free, .inl (ak_free, 400, .inl gfr)), (m_pile, .inl (ak_pile, 4000, .inl gpi)), (m_cellField, .inl (ak_cellField, 12000, .inr (.inl gcf)))]) [0, 1, 2, 3, 4, 5, 6, 7] (by decide) rfl
    have hKc := hK.sub (tys' := [(rk_fields, .int), (ak_cellKind, .int), (ak_cellCount, .int), (ak_free, .int), (ak_pile, .int), (ak_cellField, .long)]) [0, 1, 2, 3, 4, 5] rfl
    have hFc := va_free (wc := [(h0, .inr (14, [.int 0, .ref m_stop, .ref m_tape, .int m_taped, .int m_length, .int m_at, .int m_sort, .int m_place, .int m_sign, .long m_letters, .ref m_p, .ref m_spare, .int m_isTaken, .ref m_scope, .int m_scoped, .int m_deep, .int m_counted, .int m_fault, .int m_where, .ref m_cellKind, .ref m_cellCount, .ref m_free, .ref m_pile, .ref m_cellField, .int m_freeCount, .int m_given, .int m_nextPlain, .ref m_otherKind, .ref m_otherField, .int m_isPlain, .int m_hasRun, .int m_hasValue, .int m_hasOther, .long m_value, .long m_other, .int m_steps, .int m_made, .int m_reused, .int m_freed, .int m_most, .int m_doubled, .int m_openMost, .ref m_taskWhat, .ref m_taskPart, .ref m_values, .int m_tasks, .int m_valued, .int m_open, .ref m_slots, .ref m_present, .ref m_shell, .ref m_shellArm, .ref m_shellCall, .int m_shells, .ref m_keptCounts, .ref m_asideKind, .ref m_asideCount, .ref m_asideField, .ref m_out, .ref m_side, .int m_outs, .int m_sides, .ref m_saying])), (m_p, .inr (12, [.ref pr_what, .ref pr_place, .ref pr_own, .ref pr_one, .ref pr_two, .ref pr_three, .ref pr_beside, .ref pr_many, .ref pr_uses, .ref pr_behind, .ref pr_name, .ref pr_makes, .int pr_parts, .ref pr_functionName, .ref pr_kindName, .ref pr_told, .ref pr_body, .ref pr_first, .ref pr_widest, .ref pr_fields, .int pr_functions, .int pr_kinds])), (pr_fields, .inl (rk_fields, 20, .inl rg_fields)), (m_cellKind, .inl (ak_cellKind, 4000, .inl gck)), (m_cellCount, .inl (ak_cellCount, 4000, .inl gcc)), (m_free, .inl (ak_free, 400, .inl gfr)), (m_pile, .inl (ak_pile, 4000, .inl gpi)), (m_cellField, .inl (ak_cellField, 12000, .inr (.inl gcf)))]) hD hS hAA [0, 1, 2, 3, 4, 5, 6, 7] rfl
    refine va_callv (va_runV (As := [.long m_value]) (rest := []) ⟨hx, hb, hml, hown, hA⟩ (c_X14_drops_c l dC dI aK aV h0 0 m_stop m_tape m_taped m_length m_at m_sort m_place m_sign m_letters m_p m_spare m_isTaken m_scope m_scoped m_deep m_counted m_fault m_where m_cellKind m_cellCount m_free m_pile m_cellField m_freeCount m_given m_nextPlain m_otherKind m_otherField m_isPlain m_hasRun m_hasValue m_hasOther m_value m_other m_steps m_made m_reused m_freed m_most m_doubled m_openMost m_taskWhat m_taskPart m_values m_tasks m_valued m_open m_slots m_present m_shell m_shellArm m_shellCall m_shells m_keptCounts m_asideKind m_asideCount m_asideField m_out m_side m_outs m_sides m_saying pr_what pr_place pr_own pr_one pr_two pr_three pr_beside pr_many pr_uses pr_behind pr_name pr_makes pr_parts pr_functionName pr_kindName pr_told pr_body pr_first pr_widest pr_fields pr_functions pr_kinds rk_fields rg_fields ak_cellKind ak_cellCount ak_free ak_pile ak_cellField gck gcc gfr gpi gcf m_value lv2 (fun _ => 0) gsh phz9 lvz9 gAz9 cz9 ckz9 cfz9 ([] : List Nat) (Int32.toInt m_given) (fun _ => 0) vz9 H.size (by omega) (by omega) (zH_R (fun c => by show 0 + zr m_value c = zr m_value c; omega) hz2) (fun _ => Int.le_refl _) hvv (by omega) (hZ_R hzz9 (fun x => by show 0 + zr vz9 x = zr vz9 x; omega)) hff9 (fun _ => Int.le_refl _) hvr9 (by omega) (by omega)) (cwV 1 hA (zw_V wi_1917 wi_1919 wi_109 wi_143 (zw_good wi_1920)) rfl rfl rfl (by decide +kernel) ⟨(Nat.le_of_ble_eq_true rfl), (Nat.le_of_ble_eq_true rfl)⟩) ⟨zP_blind, va_recv hKc hPc (ci := 14) (q0 := 0) rfl rfl, zz_pre hKc hPc hDc hN hT hS hFc⟩ rfl rfl hl.1 rfl (lv_room (Nat.le_of_ble_eq_true rfl)) dX14_release_24 ⟨(Nat.le_of_ble_eq_true rfl), (Nat.le_of_ble_eq_true rfl)⟩) hS (fun q _ h => hFc q h) hFc (fun u t H1 locs ht hvm hw hB hz1 hk1 hS => ?_)
    obtain ⟨fc_3, fe_4, gcc_5, gfr_6, gpi_7⟩ := u
    obtain ⟨hP1, hK1, hD1⟩ := hB
    rw [ht] at hP1
    have hK1 := va_K.moved hvm.symm hK1
    obtain ⟨hP, hD⟩ := va_join (wr := []) (w1 := [(h0, .inr (14, [.int 0, .ref m_stop, .ref m_tape, .int m_taped, .int m_length, .int m_at, .int m_sort, .int m_place, .int m_sign, .long m_letters, .ref m_p, .ref m_spare, .int m_isTaken, .ref m_scope, .int m_scoped, .int m_deep, .int m_counted, .int m_fault, .int m_where, .ref m_cellKind, .ref m_cellCount, .ref m_free, .ref m_pile, .ref m_cellField, .int fc_3, .int m_given, .int m_nextPlain, .ref m_otherKind, .ref m_otherField, .int m_isPlain, .int m_hasRun, .int m_hasValue, .int m_hasOther, .long m_value, .long m_other, .int m_steps, .int m_made, .int m_reused, .int fe_4, .int m_most, .int m_doubled, .int m_openMost, .ref m_taskWhat, .ref m_taskPart, .ref m_values, .int m_tasks, .int m_valued, .int m_open, .ref m_slots, .ref m_present, .ref m_shell, .ref m_shellArm, .ref m_shellCall, .int m_shells, .ref m_keptCounts, .ref m_asideKind, .ref m_asideCount, .ref m_asideField, .ref m_out, .ref m_side, .int m_outs, .int m_sides, .ref m_saying])), (m_p, .inr (12, [.ref pr_what, .ref pr_place, .ref pr_own, .ref pr_one, .ref pr_two, .ref pr_three, .ref pr_beside, .ref pr_many, .ref pr_uses, .ref pr_behind, .ref pr_name, .ref pr_makes, .int pr_parts, .ref pr_functionName, .ref pr_kindName, .ref pr_told, .ref pr_body, .ref pr_first, .ref pr_widest, .ref pr_fields, .int pr_functions, .int pr_kinds])), (pr_fields, .inl (rk_fields, 20, .inl rg_fields)), (m_cellKind, .inl (ak_cellKind, 4000, .inl gck)), (m_cellCount, .inl (ak_cellCount, 4000, .inl gcc_5)), (m_free, .inl (ak_free, 400, .inl gfr_6)), (m_pile, .inl (ak_pile, 4000, .inl gpi_7)), (m_cellField, .inl (ak_cellField, 12000, .inr (.inl gcf)))]) hP hD [0, 1, 2, 3, 4, 5, 6, 7] [] rfl rfl (by decide) (by decide) hk1 hFc hP1 hD1
    have hK := (hK.sub (tys' := []) [] rfl).app hK1
    generalize H1 = H at hP hS ⊢
    have hP : va_P (dC, dI) vwCl [(h0, .inr (14, [.int 0, .ref m_stop, .ref m_tape, .int m_taped, .int m_length, .int m_at, .int m_sort, .int m_place, .int m_sign, .long m_letters, .ref m_p, .ref m_spare, .int m_isTaken, .ref m_scope, .int m_scoped, .int m_deep, .int m_counted, .int m_fault, .int m_where, .ref m_cellKind, .ref m_cellCount, .ref m_free, .ref m_pile, .ref m_cellField, .int fc_3, .int m_given, .int m_nextPlain, .ref m_otherKind, .ref m_otherField, .int m_isPlain, .int m_hasRun, .int m_hasValue, .int m_hasOther, .long m_value, .long m_other, .int m_steps, .int m_made, .int m_reused, .int fe_4, .int m_most, .int m_doubled, .int m_openMost, .ref m_taskWhat, .ref m_taskPart, .ref m_values, .int m_tasks, .int m_valued, .int m_open, .ref m_slots, .ref m_present, .ref m_shell, .ref m_shellArm, .ref m_shellCall, .int m_shells, .ref m_keptCounts, .ref m_asideKind, .ref m_asideCount, .ref m_asideField, .ref m_out, .ref m_side, .int m_outs, .int m_sides, .ref m_saying])), (m_p, .inr (12, [.ref pr_what, .ref pr_place, .ref pr_own, .ref pr_one, .ref pr_two, .ref pr_three, .ref pr_beside, .ref pr_many, .ref pr_uses, .ref pr_behind, .ref pr_name, .ref pr_makes, .int pr_parts, .ref pr_functionName, .ref pr_kindName, .ref pr_told, .ref pr_body, .ref pr_first, .ref pr_widest, .ref pr_fields, .int pr_functions, .int pr_kinds])), (pr_fields, .inl (rk_fields, 20, .inl rg_fields)), (m_cellKind, .inl (ak_cellKind, 4000, .inl gck)), (m_cellCount, .inl (ak_cellCount, 4000, .inl gcc_5)), (m_free, .inl (ak_free, 400, .inl gfr_6)), (m_pile, .inl (ak_pile, 4000, .inl gpi_7)), (m_cellField, .inl (ak_cellField, 12000, .inr (.inl gcf)))] H := hP
    have hD : va_D A [(h0, .inr (14, [.int 0, .ref m_stop, .ref m_tape, .int m_taped, .int m_length, .int m_at, .int m_sort, .int m_place, .int m_sign, .long m_letters, .ref m_p, .ref m_spare, .int m_isTaken, .ref m_scope, .int m_scoped, .int m_deep, .int m_counted, .int m_fault, .int m_where, .ref m_cellKind, .ref m_cellCount, .ref m_free, .ref m_pile, .ref m_cellField, .int fc_3, .int m_given, .int m_nextPlain, .ref m_otherKind, .ref m_otherField, .int m_isPlain, .int m_hasRun, .int m_hasValue, .int m_hasOther, .long m_value, .long m_other, .int m_steps, .int m_made, .int m_reused, .int fe_4, .int m_most, .int m_doubled, .int m_openMost, .ref m_taskWhat, .ref m_taskPart, .ref m_values, .int m_tasks, .int m_valued, .int m_open, .ref m_slots, .ref m_present, .ref m_shell, .ref m_shellArm, .ref m_shellCall, .int m_shells, .ref m_keptCounts, .ref m_asideKind, .ref m_asideCount, .ref m_asideField, .ref m_out, .ref m_side, .int m_outs, .int m_sides, .ref m_saying])), (m_p, .inr (12, [.ref pr_what, .ref pr_place, .ref pr_own, .ref pr_one, .ref pr_two, .ref pr_three, .ref pr_beside, .ref pr_many, .ref pr_uses, .ref pr_behind, .ref pr_name, .ref pr_makes, .int pr_parts, .ref pr_functionName, .ref pr_kindName, .ref pr_told, .ref pr_body, .ref pr_first, .ref pr_widest, .ref pr_fields, .int pr_functions, .int pr_kinds])), (pr_fields, .inl (rk_fields, 20, .inl rg_fields)), (m_cellKind, .inl (ak_cellKind, 4000, .inl gck)), (m_cellCount, .inl (ak_cellCount, 4000, .inl gcc_5)), (m_free, .inl (ak_free, 400, .inl gfr_6)), (m_pile, .inl (ak_pile, 4000, .inl gpi_7)), (m_cellField, .inl (ak_cellField, 12000, .inr (.inl gcf)))] := hD
    have hK : va_K (dC, dI) vwCl [(rk_fields, .int), (ak_cellKind, .int), (ak_cellCount, .int), (ak_free, .int), (ak_pile, .int), (ak_cellField, .long)] s := hK
    obtain ⟨hq_8, hq_9, hq_10, hq_11⟩ := hw
    have h9z : Int32.toInt 0 = 0 := (by decide)
    have hall9 : Int32.toInt fc_3 = Int32.toInt m_given := by obtain ⟨lB8, gB8, hzB8, hfB8⟩ := hq_10; exact hF_all hzB8 (fun _ => rfl) hfB8
    refine lv_aload_n hx hb dX14_release_27 rfl (lv_at hl 1 rfl) ?_
    refine lv_iconst (v := 0) hx hb dX14_release_28 (by decide) ?_
    refine va_put (D := (dC, dI)) (ci := 14) (v := .int 0) (ty := .boolean) (C := RX14) (T := TX14) (N := 63) hx hb hA zin_X14 tyX14 tyX14_ok nmX14 hown hK hP hD hS 0 rfl rfl 31 (by decide) (hA _ wi_1528) (fun _ h9 => h9) rfl (by decide +kernel) rfl rfl (Nat.le_of_ble_eq_true rfl) dX14_release_29 (fun H locs hP hD hS => ?_)
    have hP : va_P (dC, dI) vwCl [(h0, .inr (14, [.int 0, .ref m_stop, .ref m_tape, .int m_taped, .int m_length, .int m_at, .int m_sort, .int m_place, .int m_sign, .long m_letters, .ref m_p, .ref m_spare, .int m_isTaken, .ref m_scope, .int m_scoped, .int m_deep, .int m_counted, .int m_fault, .int m_where, .ref m_cellKind, .ref m_cellCount, .ref m_free, .ref m_pile, .ref m_cellField, .int fc_3, .int m_given, .int m_nextPlain, .ref m_otherKind, .ref m_otherField, .int m_isPlain, .int m_hasRun, .int 0, .int m_hasOther, .long m_value, .long m_other, .int m_steps, .int m_made, .int m_reused, .int fe_4, .int m_most, .int m_doubled, .int m_openMost, .ref m_taskWhat, .ref m_taskPart, .ref m_values, .int m_tasks, .int m_valued, .int m_open, .ref m_slots, .ref m_present, .ref m_shell, .ref m_shellArm, .ref m_shellCall, .int m_shells, .ref m_keptCounts, .ref m_asideKind, .ref m_asideCount, .ref m_asideField, .ref m_out, .ref m_side, .int m_outs, .int m_sides, .ref m_saying])), (m_p, .inr (12, [.ref pr_what, .ref pr_place, .ref pr_own, .ref pr_one, .ref pr_two, .ref pr_three, .ref pr_beside, .ref pr_many, .ref pr_uses, .ref pr_behind, .ref pr_name, .ref pr_makes, .int pr_parts, .ref pr_functionName, .ref pr_kindName, .ref pr_told, .ref pr_body, .ref pr_first, .ref pr_widest, .ref pr_fields, .int pr_functions, .int pr_kinds])), (pr_fields, .inl (rk_fields, 20, .inl rg_fields)), (m_cellKind, .inl (ak_cellKind, 4000, .inl gck)), (m_cellCount, .inl (ak_cellCount, 4000, .inl gcc_5)), (m_free, .inl (ak_free, 400, .inl gfr_6)), (m_pile, .inl (ak_pile, 4000, .inl gpi_7)), (m_cellField, .inl (ak_cellField, 12000, .inr (.inl gcf)))] H := hP
    have hD : va_D A [(h0, .inr (14, [.int 0, .ref m_stop, .ref m_tape, .int m_taped, .int m_length, .int m_at, .int m_sort, .int m_place, .int m_sign, .long m_letters, .ref m_p, .ref m_spare, .int m_isTaken, .ref m_scope, .int m_scoped, .int m_deep, .int m_counted, .int m_fault, .int m_where, .ref m_cellKind, .ref m_cellCount, .ref m_free, .ref m_pile, .ref m_cellField, .int fc_3, .int m_given, .int m_nextPlain, .ref m_otherKind, .ref m_otherField, .int m_isPlain, .int m_hasRun, .int 0, .int m_hasOther, .long m_value, .long m_other, .int m_steps, .int m_made, .int m_reused, .int fe_4, .int m_most, .int m_doubled, .int m_openMost, .ref m_taskWhat, .ref m_taskPart, .ref m_values, .int m_tasks, .int m_valued, .int m_open, .ref m_slots, .ref m_present, .ref m_shell, .ref m_shellArm, .ref m_shellCall, .int m_shells, .ref m_keptCounts, .ref m_asideKind, .ref m_asideCount, .ref m_asideField, .ref m_out, .ref m_side, .int m_outs, .int m_sides, .ref m_saying])), (m_p, .inr (12, [.ref pr_what, .ref pr_place, .ref pr_own, .ref pr_one, .ref pr_two, .ref pr_three, .ref pr_beside, .ref pr_many, .ref pr_uses, .ref pr_behind, .ref pr_name, .ref pr_makes, .int pr_parts, .ref pr_functionName, .ref pr_kindName, .ref pr_told, .ref pr_body, .ref pr_first, .ref pr_widest, .ref pr_fields, .int pr_functions, .int pr_kinds])), (pr_fields, .inl (rk_fields, 20, .inl rg_fields)), (m_cellKind, .inl (ak_cellKind, 4000, .inl gck)), (m_cellCount, .inl (ak_cellCount, 4000, .inl gcc_5)), (m_free, .inl (ak_free, 400, .inl gfr_6)), (m_pile, .inl (ak_pile, 4000, .inl gpi_7)), (m_cellField, .inl (ak_cellField, 12000, .inr (.inl gcf)))] := hD
    refine lv_aload_n hx hb dX14_release_32 rfl (lv_at hl 1 rfl) ?_
    refine va_get (D := (dC, dI)) (ci := 14) (v := .int fe_4) (C := RX14) (T := TX14) (N := 63) hx hb hA zin_X14 hown hK hP 0 rfl rfl 38 (by decide) (hA _ wi_1535) (fun _ h9 => h9) rfl dX14_release_33 ?_
    refine lv_iload_n hx hb dX14_release_36 rfl (lv_at hl 0 rfl) ?_
    refine lv_isub hx hb dX14_release_37 ?_
    refine lv_topi (fun x_12 ex_12 => ?_)
    have ix_12 : x_12.toInt = fe_4.toInt - m_freed.toInt := by rw [ex_12]; exact zi_subc rfl (by omega) (by omega)
    have hP9 := hP.sub (ws' := [(h0, .inr (14, [.int 0, .ref m_stop, .ref m_tape, .int m_taped, .int m_length, .int m_at, .int m_sort, .int m_place, .int m_sign, .long m_letters, .ref m_p, .ref m_spare, .int m_isTaken, .ref m_scope, .int m_scoped, .int m_deep, .int m_counted, .int m_fault, .int m_where, .ref m_cellKind, .ref m_cellCount, .ref m_free, .ref m_pile, .ref m_cellField, .int fc_3, .int m_given, .int m_nextPlain, .ref m_otherKind, .ref m_otherField, .int m_isPlain, .int m_hasRun, .int 0, .int m_hasOther, .long m_value, .long m_other, .int m_steps, .int m_made, .int m_reused, .int fe_4, .int m_most, .int m_doubled, .int m_openMost, .ref m_taskWhat, .ref m_taskPart, .ref m_values, .int m_tasks, .int m_valued, .int m_open, .ref m_slots, .ref m_present, .ref m_shell, .ref m_shellArm, .ref m_shellCall, .int m_shells, .ref m_keptCounts, .ref m_asideKind, .ref m_asideCount, .ref m_asideField, .ref m_out, .ref m_side, .int m_outs, .int m_sides, .ref m_saying])), (m_p, .inr (12, [.ref pr_what, .ref pr_place, .ref pr_own, .ref pr_one, .ref pr_two, .ref pr_three, .ref pr_beside, .ref pr_many, .ref pr_uses, .ref pr_behind, .ref pr_name, .ref pr_makes, .int pr_parts, .ref pr_functionName, .ref pr_kindName, .ref pr_told, .ref pr_body, .ref pr_first, .ref pr_widest, .ref pr_fields, .int pr_functions, .int pr_kinds])), (pr_fields, .inl (rk_fields, 20, .inl rg_fields)), (m_cellKind, .inl (ak_cellKind, 4000, .inl gck)), (m_cellCount, .inl (ak_cellCount, 4000, .inl gcc_5)), (m_free, .inl (ak_free, 400, .inl gfr_6)), (m_pile, .inl (ak_pile, 4000, .inl gpi_7)), (m_cellField, .inl (ak_cellField, 12000, .inr (.inl gcf)))]) [0, 1, 2, 3, 4, 5, 6, 7] rfl
    have hD9 := hD.sub (ws' := [(h0, .inr (14, [.int 0, .ref m_stop, .ref m_tape, .int m_taped, .int m_length, .int m_at, .int m_sort, .int m_place, .int m_sign, .long m_letters, .ref m_p, .ref m_spare, .int m_isTaken, .ref m_scope, .int m_scoped, .int m_deep, .int m_counted, .int m_fault, .int m_where, .ref m_cellKind, .ref m_cellCount, .ref m_free, .ref m_pile, .ref m_cellField, .int fc_3, .int m_given, .int m_nextPlain, .ref m_otherKind, .ref m_otherField, .int m_isPlain, .int m_hasRun, .int 0, .int m_hasOther, .long m_value, .long m_other, .int m_steps, .int m_made, .int m_reused, .int fe_4, .int m_most, .int m_doubled, .int m_openMost, .ref m_taskWhat, .ref m_taskPart, .ref m_values, .int m_tasks, .int m_valued, .int m_open, .ref m_slots, .ref m_present, .ref m_shell, .ref m_shellArm, .ref m_shellCall, .int m_shells, .ref m_keptCounts, .ref m_asideKind, .ref m_asideCount, .ref m_asideField, .ref m_out, .ref m_side, .int m_outs, .int m_sides, .ref m_saying])), (m_p, .inr (12, [.ref pr_what, .ref pr_place, .ref pr_own, .ref pr_one, .ref pr_two, .ref pr_three, .ref pr_beside, .ref pr_many, .ref pr_uses, .ref pr_behind, .ref pr_name, .ref pr_makes, .int pr_parts, .ref pr_functionName, .ref pr_kindName, .ref pr_told, .ref pr_body, .ref pr_first, .ref pr_widest, .ref pr_fields, .int pr_functions, .int pr_kinds])), (pr_fields, .inl (rk_fields, 20, .inl rg_fields)), (m_cellKind, .inl (ak_cellKind, 4000, .inl gck)), (m_cellCount, .inl (ak_cellCount, 4000, .inl gcc_5)), (m_free, .inl (ak_free, 400, .inl gfr_6)), (m_pile, .inl (ak_pile, 4000, .inl gpi_7)), (m_cellField, .inl (ak_cellField, 12000, .inr (.inl gcf)))]) [0, 1, 2, 3, 4, 5, 6, 7] (by decide) rfl
    have hK9 := hK.sub (tys' := [(rk_fields, .int), (ak_cellKind, .int), (ak_cellCount, .int), (ak_free, .int), (ak_pile, .int), (ak_cellField, .long)]) [0, 1, 2, 3, 4, 5] rfl
    exact W.iret (v := x_12) hx hb hr (fun t ht hW => ⟨⟨x_12, (0, fc_3, fe_4, gcc_5, gfr_6, gpi_7), rfl, ⟨by omega, by omega, by omega, (rl_z (by omega) (by omega) (by omega) (by omega) (by omega) (by decide))⟩, by rw [ht]; exact hP9, va_K.moved hW.alike hK9, hD9⟩, hS.F ht⟩) hS.2.2 dX14_release_38
  · have ic_1 : m_hasValue.toInt = 0 := zi_eq c_1
    refine lv_iconst (v := (-1)) hx hb dX14_release_12 (by decide) ?_
    have hlit : Int32.toInt (-1) = (-1) := by decide
    have hP9 := hP.sub (ws' := [(h0, .inr (14, [.int 0, .ref m_stop, .ref m_tape, .int m_taped, .int m_length, .int m_at, .int m_sort, .int m_place, .int m_sign, .long m_letters, .ref m_p, .ref m_spare, .int m_isTaken, .ref m_scope, .int m_scoped, .int m_deep, .int m_counted, .int m_fault, .int m_where, .ref m_cellKind, .ref m_cellCount, .ref m_free, .ref m_pile, .ref m_cellField, .int m_freeCount, .int m_given, .int m_nextPlain, .ref m_otherKind, .ref m_otherField, .int m_isPlain, .int m_hasRun, .int m_hasValue, .int m_hasOther, .long m_value, .long m_other, .int m_steps, .int m_made, .int m_reused, .int m_freed, .int m_most, .int m_doubled, .int m_openMost, .ref m_taskWhat, .ref m_taskPart, .ref m_values, .int m_tasks, .int m_valued, .int m_open, .ref m_slots, .ref m_present, .ref m_shell, .ref m_shellArm, .ref m_shellCall, .int m_shells, .ref m_keptCounts, .ref m_asideKind, .ref m_asideCount, .ref m_asideField, .ref m_out, .ref m_side, .int m_outs, .int m_sides, .ref m_saying])), (m_p, .inr (12, [.ref pr_what, .ref pr_place, .ref pr_own, .ref pr_one, .ref pr_two, .ref pr_three, .ref pr_beside, .ref pr_many, .ref pr_uses, .ref pr_behind, .ref pr_name, .ref pr_makes, .int pr_parts, .ref pr_functionName, .ref pr_kindName, .ref pr_told, .ref pr_body, .ref pr_first, .ref pr_widest, .ref pr_fields, .int pr_functions, .int pr_kinds])), (pr_fields, .inl (rk_fields, 20, .inl rg_fields)), (m_cellKind, .inl (ak_cellKind, 4000, .inl gck)), (m_cellCount, .inl (ak_cellCount, 4000, .inl gcc)), (m_free, .inl (ak_free, 400, .inl gfr)), (m_pile, .inl (ak_pile, 4000, .inl gpi)), (m_cellField, .inl (ak_cellField, 12000, .inr (.inl gcf)))]) [0, 1, 2, 3, 4, 5, 6, 7] rfl
    have hD9 := hD.sub (ws' := [(h0, .inr (14, [.int 0, .ref m_stop, .ref m_tape, .int m_taped, .int m_length, .int m_at, .int m_sort, .int m_place, .int m_sign, .long m_letters, .ref m_p, .ref m_spare, .int m_isTaken, .ref m_scope, .int m_scoped, .int m_deep, .int m_counted, .int m_fault, .int m_where, .ref m_cellKind, .ref m_cellCount, .ref m_free, .ref m_pile, .ref m_cellField, .int m_freeCount, .int m_given, .int m_nextPlain, .ref m_otherKind, .ref m_otherField, .int m_isPlain, .int m_hasRun, .int m_hasValue, .int m_hasOther, .long m_value, .long m_other, .int m_steps, .int m_made, .int m_reused, .int m_freed, .int m_most, .int m_doubled, .int m_openMost, .ref m_taskWhat, .ref m_taskPart, .ref m_values, .int m_tasks, .int m_valued, .int m_open, .ref m_slots, .ref m_present, .ref m_shell, .ref m_shellArm, .ref m_shellCall, .int m_shells, .ref m_keptCounts, .ref m_asideKind, .ref m_asideCount, .ref m_asideField, .ref m_out, .ref m_side, .int m_outs, .int m_sides, .ref m_saying])), (m_p, .inr (12, [.ref pr_what, .ref pr_place, .ref pr_own, .ref pr_one, .ref pr_two, .ref pr_three, .ref pr_beside, .ref pr_many, .ref pr_uses, .ref pr_behind, .ref pr_name, .ref pr_makes, .int pr_parts, .ref pr_functionName, .ref pr_kindName, .ref pr_told, .ref pr_body, .ref pr_first, .ref pr_widest, .ref pr_fields, .int pr_functions, .int pr_kinds])), (pr_fields, .inl (rk_fields, 20, .inl rg_fields)), (m_cellKind, .inl (ak_cellKind, 4000, .inl gck)), (m_cellCount, .inl (ak_cellCount, 4000, .inl gcc)), (m_free, .inl (ak_free, 400, .inl gfr)), (m_pile, .inl (ak_pile, 4000, .inl gpi)), (m_cellField, .inl (ak_cellField, 12000, .inr (.inl gcf)))]) [0, 1, 2, 3, 4, 5, 6, 7] (by decide) rfl
    have hK9 := hK.sub (tys' := [(rk_fields, .int), (ak_cellKind, .int), (ak_cellCount, .int), (ak_free, .int), (ak_pile, .int), (ak_cellField, .long)]) [0, 1, 2, 3, 4, 5] rfl
    exact W.iret (v := (-1)) hx hb hr (fun t ht hW => ⟨⟨(-1), (m_hasValue, m_freeCount, m_freed, gcc, gfr, gpi), rfl, ⟨by omega, by omega, by omega, (rl_n (by omega) (by decide))⟩, by rw [ht]; exact hP9, va_K.moved hW.alike hK9, hD9⟩, hS.F ht⟩) hS.2.2 dX14_release_13

end
section
/-! what is shown of a value: its bytes -/
def pB (c : Int32) : Int32 := c.toInt8.toInt32
/-- the row in which a value is written: X was put -/
def cOt (sp : Nat → Int32) (ps tl : Int32) (X : List Int32) : Prop := (tl.toInt = 0 ∧ ps.toInt = (X.length : Int) ∧ ∀ (i : Nat) (x : Int32), X[i]? = some x → sp i = pB x) ∨ (tl.toInt ≠ 0 ∧ 4000 < X.length)
/-- what is shown: T -/
def pOw (g : Nat → Int32) (z : Int32) (T : List Int32) : Prop := z.toInt = (T.length : Int) ∧ ∀ (i : Nat) (x : Int32), T[i]? = some x → g i = pB x
theorem pr_get {sp sp2 : Nat → Int32} {X : List Int32} {k : Nat} {c v : Int32} (h : ∀ (i : Nat) (x : Int32), X[i]? = some x → sp i = pB x) (hk : k = X.length) (e : sp2 = upd sp k (vp_nar .byte v)) (hv : v = c.toInt8.toInt32) : ∀ (i : Nat) (x : Int32), (X ++ [c])[i]? = some x → sp2 i = pB x := by
  intro i x hx
  rw [List.getElem?_append] at hx
  by_cases g : i < X.length
  · rw [if_pos g] at hx
    rw [e, zu_n (by omega)]
    exact h i x hx
  · rw [if_neg g] at hx
    by_cases g2 : i = X.length
    · rw [g2, Nat.sub_self] at hx
      have hx : some c = some x := hx
      cases hx
      rw [e, g2, ← hk, zu_s, hv]
      exact pk_vb c
    · rw [List.getElem?_eq_none (by show 1 ≤ i - X.length; omega)] at hx
      cases hx
theorem cOt_a {sp sp2 : Nat → Int32} {ps ps2 tl : Int32} {X : List Int32} {c v : Int32} (h : cOt sp ps tl X) (h0 : 0 ≤ ps.toInt) (e : sp2 = upd sp (Int32.toNatClampNeg ps) (vp_nar .byte v)) (hv : v = c.toInt8.toInt32) (hp : ps2.toInt = ps.toInt + 1) : cOt sp2 ps2 tl (X ++ [c]) := by
  rcases h with ⟨a, b, d⟩ | ⟨a, b⟩
  · have := zn_nat h0
    exact Or.inl ⟨a, by rw [List.length_append]; show _ = ((X.length + 1 : Nat) : Int); omega, pr_get d (by omega) e hv⟩
  · exact Or.inr ⟨a, by rw [List.length_append]; omega⟩
theorem cOt_b {sp : Nat → Int32} {ps tl : Int32} {X : List Int32} {c : Int32} (h : cOt sp ps tl X) (h4 : 4000 ≤ ps.toInt) : cOt sp ps 1 (X ++ [c]) := Or.inr ⟨by decide, by
  rw [List.length_append]
  show 4000 < X.length + 1
  rcases h with ⟨-, b, -⟩ | ⟨-, b⟩ <;> omega⟩
theorem nil_get {i : Nat} {x : Int32} (h : ([] : List Int32)[i]? = some x) : False := by
  rw [List.getElem?_nil] at h
  cases h
theorem cOt_0 {sp : Nat → Int32} : cOt sp 0 0 [] := Or.inl ⟨by decide, by decide, fun i x h => (nil_get h).elim⟩
theorem cOt_e {sp : Nat → Int32} {ps tl : Int32} {X Y : List Int32} (h : cOt sp ps tl X) (e : X = Y) : cOt sp ps tl Y := by rw [← e]; exact h
/-! digits -/
def pDg : Nat → Nat → List Int32
  | 0, r => [Int32.ofNat (48 + r % 10)]
  | k + 1, r => Int32.ofNat (48 + r / 10 ^ (k + 1) % 10) :: pDg k r
def pDk : Nat → Nat → Nat
  | 0, _ => 0
  | k + 1, r => if 10 ^ (k + 1) ≤ r then k + 1 else pDk k r
def pI (x : Int) : List Int32 := (if x < 0 then [45] else []) ++ pDg (pDk 9 x.natAbs) x.natAbs
/-- the unit at which the digits begin is sought -/
def pU (u : Int) (r : Nat) : Prop := ∃ k, u = ((10 ^ k : Nat) : Int) ∧ k ≤ 9 ∧ pDk 9 r = pDk k r
theorem pU_9 {r : Nat} : pU 1000000000 r := ⟨9, by decide, by decide, rfl⟩
theorem pU_s {u u2 : Int} {r : Nat} (h : pU u r) (h1 : 1 < u) (h2 : (r : Int) < u) (e : u2 = u / 10) : pU u2 r := by
  obtain ⟨k, a, b, c⟩ := h
  cases k with
  | zero => exfalso; have a : u = 1 := a; omega
  | succ k =>
    refine ⟨k, ?_, by omega, ?_⟩
    · rw [e, a, Nat.pow_succ]
      generalize 10 ^ k = P
      omega
    · rw [c]
      show (if 10 ^ (k + 1) ≤ r then k + 1 else pDk k r) = pDk k r
      refine if_neg (fun g => ?_)
      rw [a] at h2
      exact absurd (Int.ofNat_lt.mp h2) (Nat.not_lt.mpr g)
/-- the digits from a unit on -/
def pQ (u : Int) (r : Nat) (L : List Int32) : Prop := (u = 0 ∧ L = []) ∨ ∃ j, u = ((10 ^ j : Nat) : Int) ∧ L = pDg j r
theorem pU_e {u : Int} {r : Nat} (h : pU u r) (he : u ≤ 1 ∨ u ≤ (r : Int)) : pQ u r (pDg (pDk 9 r) r) := by
  obtain ⟨k, a, b, c⟩ := h
  refine Or.inr ⟨k, a, ?_⟩
  rw [c]
  cases k with
  | zero => rfl
  | succ k =>
    have g : 10 ^ (k + 1) ≤ r := by
      rcases he with h | h
      · exfalso
        rw [a, Nat.pow_succ] at h
        have : 1 ≤ 10 ^ k := Nat.one_le_pow k 10 (by decide)
        generalize 10 ^ k = P at h this
        omega
      · rw [a] at h
        exact Int.ofNat_le.mp h
    show pDg (if 10 ^ (k + 1) ≤ r then k + 1 else pDk k r) r = _
    rw [if_pos g]
theorem pQ_d {c : Int32} {n : Nat} (hn : n ≤ 9) (hc : c.toInt = 48 + (n : Int)) : Int32.ofNat (48 + n) = c := by
  apply Int32.toInt_inj.mp
  have h : (Int32.ofNat (48 + n)).toInt = ((48 + n : Nat) : Int) := nI_toInt (by omega)
  rw [h, hc]
  omega
theorem pQ_s {u u2 : Int} {r : Nat} {L : List Int32} {c : Int32} (h : pQ u r L) (h0 : 0 < u) (e : u2 = u / 10) (hc : c.toInt = 48 + (r : Int) / u % 10) : ∃ L2, L = c :: L2 ∧ pQ u2 r L2 := by
  rcases h with ⟨a, -⟩ | ⟨j, a, b⟩
  · omega
  · cases j with
    | zero =>
      have a : u = 1 := a
      subst a
      refine ⟨[], ?_, Or.inl ⟨by omega, rfl⟩⟩
      rw [b]
      show [Int32.ofNat (48 + r % 10)] = [c]
      rw [pQ_d (c := c) (n := r % 10) (by omega) (by rw [hc]; omega)]
    | succ j =>
      refine ⟨pDg j r, ?_, Or.inr ⟨j, ?_, rfl⟩⟩
      · rw [b]
        show Int32.ofNat (48 + r / 10 ^ (j + 1) % 10) :: pDg j r = _
        have t : (r : Int) / ((10 ^ (j + 1) : Nat) : Int) % 10 = ((r / 10 ^ (j + 1) % 10 : Nat) : Int) := rfl
        rw [pQ_d (c := c) (n := r / 10 ^ (j + 1) % 10) (Nat.le_of_lt_succ (Nat.mod_lt _ (by decide))) (by rw [hc, a, t])]
      · rw [e, a, Nat.pow_succ]
        generalize 10 ^ j = P
        omega
theorem pQ_0 {u : Int} {r : Nat} {L : List Int32} (h : pQ u r L) (h0 : u ≤ 0) : L = [] := by
  rcases h with ⟨-, b⟩ | ⟨j, a, b⟩
  · exact b
  · exfalso
    have : 1 ≤ 10 ^ j := Nat.one_le_pow j 10 (by decide)
    generalize 10 ^ j = P at a this
    omega
/-! the bytes of a word -/
def pKb (w : Int64) (sh : Int32) : Int32 := (w.toUInt64 >>> (sh.toInt64.toUInt64 &&& Int64.toUInt64 63)).toInt64.toInt32 &&& 255
def pKr (w : Int64) : Nat → List Int32
  | 0 => []
  | n + 1 => (if pKb w (Int32.ofNat (8 * n)) = 0 then [] else [pKb w (Int32.ofNat (8 * n))]) ++ pKr w n
def pKw (w : Int64) : List Int32 := pKr w 8
theorem pKr_s {w : Int64} {m : Nat} {sh : Int32} (hm : 1 ≤ m) (hm8 : m ≤ 8) (hs : sh.toInt = 8 * (m : Int) - 8) : pKr w m = (if pKb w sh = 0 then [] else [pKb w sh]) ++ pKr w (m - 1) := by
  obtain ⟨n, rfl⟩ : ∃ n, m = n + 1 := ⟨m - 1, by omega⟩
  have h8 : (Int32.ofNat (8 * n)).toInt = ((8 * n : Nat) : Int) := nI_toInt (by omega)
  have e : Int32.ofNat (8 * n) = sh := Int32.toInt_inj.mp (by rw [h8, hs]; omega)
  show (if pKb w (Int32.ofNat (8 * n)) = 0 then [] else [pKb w (Int32.ofNat (8 * n))]) ++ pKr w n = _
  rw [e]
  all_goals rfl
theorem pK_0 {w : Int64} {X T : List Int32} {m : Nat} {sh : Int32} (h : X ++ pKr w m = T) (hm : 1 ≤ m) (hm8 : m ≤ 8) (hs : sh.toInt = 8 * (m : Int) - 8) (h0 : pKb w sh = 0) : X ++ pKr w (m - 1) = T := by
  rw [pKr_s hm hm8 hs, if_pos h0] at h
  exact h
theorem pK_1 {w : Int64} {X T : List Int32} {m : Nat} {sh : Int32} (h : X ++ pKr w m = T) (hm : 1 ≤ m) (hm8 : m ≤ 8) (hs : sh.toInt = 8 * (m : Int) - 8) (h0 : pKb w sh ≠ 0) : (X ++ [pKb w sh]) ++ pKr w (m - 1) = T := by
  rw [pKr_s hm hm8 hs, if_neg h0] at h
  rw [List.append_assoc]
  exact h
/-! values: kn what a KIND shows, M what a cell shows -/
def pWo (z : Int) (kw : Nat → Int64) (k : Int32) : Int64 := if 0 ≤ k.toInt ∧ k.toInt < z then kw (Int32.toNatClampNeg k) else 0
def pKn (z : Int) (kw : Nat → Int64) (k : Int32) : List Int32 := pKw (pWo z kw k)
def mv (kn : Int32 → List Int32) (M : Nat → List Int32) (v : Int64) : List Int32 := if zhs v = 0 then pI v.toInt32.toInt else if zhs v = 2 then M (Int32.toNatClampNeg v.toInt32) else kn v.toInt32
theorem mv_0 {kn : Int32 → List Int32} {M : Nat → List Int32} {v : Int64} (h : zhs v = 0) : mv kn M v = pI v.toInt32.toInt := if_pos h
theorem mv_2 {kn : Int32 → List Int32} {M : Nat → List Int32} {v : Int64} (h : zhs v = 2) : mv kn M v = M (Int32.toNatClampNeg v.toInt32) := by
  unfold mv
  rw [if_neg (by rw [h]; decide), if_pos h]
theorem mv_1 {kn : Int32 → List Int32} {M : Nat → List Int32} {v : Int64} (h0 : zhs v ≠ 0) (h : zhs v ≠ 2) : mv kn M v = kn v.toInt32 := by
  unfold mv
  rw [if_neg h0, if_neg h]
/-- a cell's fields from k on, as many as m, and the bracket -/
def pFl (kn : Int32 → List Int32) (M : Nat → List Int32) (gv : Nat → Int64) (c : Nat) : Nat → Nat → List Int32
  | 0, _ => [41]
  | m + 1, k => (if k = 0 then [] else [44]) ++ (mv kn M (gv (3 * c + k)) ++ pFl kn M gv c m (k + 1))
/-- M says what the cells of P show -/
def mC (kn : Int32 → List Int32) (M : Nat → List Int32) (wd : Nat → Nat) (gk : Nat → Int32) (gv : Nat → Int64) (P : Nat → Prop) : Prop := ∀ c, P c → M c = kn (gk c) ++ 40 :: pFl kn M gv c (wd c) 0
/-- what the cells that are not closed yet still show -/
def pRs (kn : Int32 → List Int32) (M : Nat → List Int32) (wd : Nat → Nat) (gv : Nat → Int64) (oc of : Nat → Int32) : Nat → List Int32
  | 0 => []
  | n + 1 => pFl kn M gv (Int32.toNatClampNeg (oc n)) (wd (Int32.toNatClampNeg (oc n)) - Int32.toNatClampNeg (of n)) (Int32.toNatClampNeg (of n)) ++ pRs kn M wd gv oc of n
/-- how many of these have all their fields to come -/
def pZc (of : Nat → Int32) : Nat → Nat
  | 0 => 0
  | n + 1 => (if (of n).toInt = 0 then 1 else 0) + pZc of n
theorem pRs_cg {kn : Int32 → List Int32} {M : Nat → List Int32} {wd : Nat → Nat} {gv : Nat → Int64} {oc of oc2 of2 : Nat → Int32} : ∀ n : Nat, (∀ j, j < n → oc2 j = oc j ∧ of2 j = of j) → pRs kn M wd gv oc2 of2 n = pRs kn M wd gv oc of n
  | 0, _ => rfl
  | n + 1, h => by
    show pFl kn M gv (Int32.toNatClampNeg (oc2 n)) (wd (Int32.toNatClampNeg (oc2 n)) - Int32.toNatClampNeg (of2 n)) (Int32.toNatClampNeg (of2 n)) ++ pRs kn M wd gv oc2 of2 n = _
    rw [(h n (by omega)).1, (h n (by omega)).2, pRs_cg n (fun j hj => h j (by omega))]
    all_goals rfl
theorem pZc_cg {of of2 : Nat → Int32} : ∀ n : Nat, (∀ j, j < n → of2 j = of j) → pZc of2 n = pZc of n
  | 0, _ => rfl
  | n + 1, h => by
    show (if (of2 n).toInt = 0 then 1 else 0) + pZc of2 n = _
    rw [h n (by omega), pZc_cg n (fun j hj => h j (by omega))]
    all_goals rfl
/-- the state of showing: T the whole, X was put, Y comes next, then what is not closed yet; i turns are done -/
def pIv (kn : Int32 → List Int32) (M : Nat → List Int32) (wd : Nat → Nat) (gv : Nat → Int64) (T X Y : List Int32) (oc of : Nat → Int32) (po : Int32) (i : Int) : Prop := (∃ R, X ++ (Y ++ R) = T) ∧ (X.length ≤ 4000 → X ++ (Y ++ pRs kn M wd gv oc of (Int32.toNatClampNeg po)) = T) ∧ 2 * po.toInt ≤ (X.length : Int) ∧ i + (pZc of (Int32.toNatClampNeg po) : Int) ≤ (X.length : Int)
def pSt (kn : Int32 → List Int32) (M : Nat → List Int32) (wd : Nat → Nat) (gv : Nat → Int64) (T Y : List Int32) (sp : Nat → Int32) (ps tl : Int32) (oc of : Nat → Int32) (po : Int32) (i : Int) : Prop := ∃ X, cOt sp ps tl X ∧ pIv kn M wd gv T X Y oc of po i
section
variable {kn : Int32 → List Int32} {M : Nat → List Int32} {wd : Nat → Nat} {gk : Nat → Int32} {gv : Nat → Int64} {P : Nat → Prop} {T X Y Y2 : List Int32} {sp sp2 oc of oc2 of2 : Nat → Int32} {ps tl po po2 ce f fx : Int32} {i i2 : Int} {v : Int64}
theorem pIv_y (h : pIv kn M wd gv T X (Y ++ Y2) oc of po i) : pIv kn M wd gv T (X ++ Y) Y2 oc of po i := by
  obtain ⟨⟨R, a⟩, b, c, d⟩ := h
  have hl : (X ++ Y).length = X.length + Y.length := List.length_append
  refine ⟨⟨R, ?_⟩, fun g => ?_, by omega, by omega⟩
  · rw [← a, List.append_assoc, List.append_assoc]
  · rw [← b (by omega), List.append_assoc, List.append_assoc]
theorem pIv_z (h : pIv kn M wd gv T X Y oc of po i) : pIv kn M wd gv T (X ++ Y) [] oc of po i := pIv_y (by rw [List.append_nil]; exact h)
theorem pIv_e (h : pIv kn M wd gv T X Y oc of po i) (e : Y = Y2) : pIv kn M wd gv T X Y2 oc of po i := by rw [← e]; exact h
/-- an INT, a KIND alone -/
theorem pSt_v (h : cOt sp ps tl (X ++ mv kn M v)) (hI : pIv kn M wd gv T X (mv kn M v) oc of po i) : pSt kn M wd gv T [] sp ps tl oc of po i := ⟨_, h, pIv_z hI⟩
/-- a cell: its KIND and its bracket were put -/
theorem pSt_c (hC : mC kn M wd gk gv P) (hv : zhs v = 2) (hP : P (Int32.toNatClampNeg v.toInt32)) (b : 1 ≤ (kn (gk (Int32.toNatClampNeg v.toInt32))).length) (hI : pIv kn M wd gv T X (mv kn M v) oc of po i) : pIv kn M wd gv T ((X ++ kn (gk (Int32.toNatClampNeg v.toInt32))) ++ [40]) (pFl kn M gv (Int32.toNatClampNeg v.toInt32) (wd (Int32.toNatClampNeg v.toInt32)) 0) oc of po i ∧ X.length + 2 ≤ ((X ++ kn (gk (Int32.toNatClampNeg v.toInt32))) ++ [40]).length := by
  have a := hC _ hP
  refine ⟨pIv_y (pIv_y (pIv_e hI ?_)), ?_⟩
  · rw [mv_2 hv, a]
    all_goals rfl
  · rw [List.length_append, List.length_append]
    show _ ≤ _ + 1
    omega
theorem pSt_c2 {c : Int32} {X2 : List Int32} (h : cOt sp ps tl X2) (hI : pIv kn M wd gv T X2 (pFl kn M gv (Int32.toNatClampNeg c) (wd (Int32.toNatClampNeg c)) 0) oc of po i) (h2 : 2 * po.toInt + 2 ≤ (X2.length : Int)) (hz : i + (pZc of (Int32.toNatClampNeg po) : Int) + 1 ≤ (X2.length : Int)) (h0 : 0 ≤ po.toInt) (he : po2.toInt = po.toInt + 1 ∧ oc2 = upd oc (Int32.toNatClampNeg po) c ∧ of2 = upd of (Int32.toNatClampNeg po) 0) : pSt kn M wd gv T [] sp ps tl oc2 of2 po2 i := by
  obtain ⟨e1, e2, e3⟩ := he
  have hn := zn_nat h0
  have hn2 : Int32.toNatClampNeg po2 = Int32.toNatClampNeg po + 1 := by have := zn_nat (x := po2) (by omega); omega
  have cg : ∀ j, j < Int32.toNatClampNeg po → oc2 j = oc j ∧ of2 j = of j := fun j hj => by rw [e2, e3, zu_n (by omega), zu_n (by omega)]; exact ⟨rfl, rfl⟩
  obtain ⟨⟨R, a⟩, b, -, -⟩ := hI
  refine ⟨X2, h, ⟨pFl kn M gv (Int32.toNatClampNeg c) (wd (Int32.toNatClampNeg c)) 0 ++ R, a⟩, fun g => ?_, by omega, ?_⟩
  · rw [← b g, hn2]
    show X2 ++ (pFl kn M gv (Int32.toNatClampNeg (oc2 (Int32.toNatClampNeg po))) (wd (Int32.toNatClampNeg (oc2 (Int32.toNatClampNeg po))) - Int32.toNatClampNeg (of2 (Int32.toNatClampNeg po))) (Int32.toNatClampNeg (of2 (Int32.toNatClampNeg po))) ++ pRs kn M wd gv oc2 of2 (Int32.toNatClampNeg po)) = _
    rw [pRs_cg _ cg, e2, e3, zu_s, zu_s]
    all_goals rfl
  · rw [hn2]
    show i + (((if (of2 (Int32.toNatClampNeg po)).toInt = 0 then 1 else 0) + pZc of2 (Int32.toNatClampNeg po) : Nat) : Int) ≤ _
    rw [pZc_cg _ (fun j hj => (cg j hj).2), e3, zu_s, if_pos (by decide)]
    omega
theorem pSt_c3 {X2 : List Int32} (h : cOt sp ps tl X2) (hI : pIv kn M wd gv T X2 Y oc of po i) (h2 : 2 * po.toInt + 2 ≤ (X2.length : Int)) (hp : 2000 ≤ po.toInt) : pSt kn M wd gv T [] sp ps 1 oc of po i := by
  obtain ⟨⟨R, a⟩, b, c, d⟩ := hI
  exact ⟨X2, Or.inr ⟨by decide, by omega⟩, ⟨Y ++ R, a⟩, fun g => by exfalso; omega, c, d⟩
/-- the last one that is not closed -/
theorem pSt_top {j : Nat} (hj : j + 1 = Int32.toNatClampNeg po) : pRs kn M wd gv oc of (Int32.toNatClampNeg po) = pFl kn M gv (Int32.toNatClampNeg (oc j)) (wd (Int32.toNatClampNeg (oc j)) - Int32.toNatClampNeg (of j)) (Int32.toNatClampNeg (of j)) ++ pRs kn M wd gv oc of j ∧ pZc of (Int32.toNatClampNeg po) = (if (of j).toInt = 0 then 1 else 0) + pZc of j := by
  rw [← hj]
  exact ⟨rfl, rfl⟩
/-- a cell is closed -/
theorem pSt_n0 {c j : Nat} (hI : pIv kn M wd gv T X [] oc of po i) (hX : X.length ≤ 4000) (hj : j + 1 = Int32.toNatClampNeg po) (hc : Int32.toNatClampNeg (oc j) = c) (hf : wd c ≤ Int32.toNatClampNeg (of j)) (hp : po2.toInt = po.toInt - 1) (hp0 : 1 ≤ po.toInt) (h : cOt sp ps tl (X ++ [41])) (hi : i2 = i + 1) : pSt kn M wd gv T [] sp ps tl oc of po2 i2 := by
  obtain ⟨t1, t2⟩ := pSt_top (kn := kn) (M := M) (wd := wd) (gv := gv) (oc := oc) (of := of) hj
  have hn := zn_nat (x := po) (by omega)
  have hn2 : Int32.toNatClampNeg po2 = j := by have := zn_nat (x := po2) (by omega); omega
  obtain ⟨-, b, c3, d⟩ := hI
  have hl : (X ++ [41]).length = X.length + 1 := List.length_append
  have key : (X ++ [41]) ++ ([] ++ pRs kn M wd gv oc of (Int32.toNatClampNeg po2)) = T := by
    rw [← b hX, t1, hc, Nat.sub_eq_zero_of_le hf, hn2, List.append_assoc]
    all_goals rfl
  refine ⟨_, h, ⟨_, key⟩, fun _ => key, by omega, ?_⟩
  rw [hn2, hi]
  rw [t2] at d
  omega
/-- the next field of a cell -/
theorem pSt_n1 {c j : Nat} {X2 : List Int32} (hI : pIv kn M wd gv T X [] oc of po i) (hX : X.length ≤ 4000) (hj : j + 1 = Int32.toNatClampNeg po) (hc : Int32.toNatClampNeg (oc j) = c) (ef : of j = f) (hf0 : 0 ≤ f.toInt) (hf : Int32.toNatClampNeg f < wd c) (e : of2 = upd of j fx) (hfx : fx.toInt = f.toInt + 1) (hX2 : f.toInt = 0 ∧ X2 = X ∨ f.toInt ≠ 0 ∧ X2 = X ++ [44]) (hi : i2 = i + 1) : pIv kn M wd gv T X2 (mv kn M (gv (3 * c + Int32.toNatClampNeg f))) oc of2 po i2 := by
  obtain ⟨t1, t2⟩ := pSt_top (kn := kn) (M := M) (wd := wd) (gv := gv) (oc := oc) (of := of) hj
  obtain ⟨u1, u2⟩ := pSt_top (kn := kn) (M := M) (wd := wd) (gv := gv) (oc := oc) (of := of2) hj
  have hn := zn_nat hf0
  have hnx : Int32.toNatClampNeg fx = Int32.toNatClampNeg f + 1 := by have := zn_nat (x := fx) (by omega); omega
  obtain ⟨m, hm⟩ : ∃ m, wd c - Int32.toNatClampNeg f = m + 1 := ⟨wd c - Int32.toNatClampNeg f - 1, by omega⟩
  have hm2 : wd c - (Int32.toNatClampNeg f + 1) = m := by omega
  have cg : ∀ k, k < j → oc k = oc k ∧ of2 k = of k := fun k hk => by rw [e, zu_n (by omega)]; exact ⟨rfl, rfl⟩
  obtain ⟨-, b, c3, d⟩ := hI
  have eq2 : of2 j = fx := by rw [e, zu_s]
  rw [hc, ef, hm] at t1
  rw [hc, eq2, hnx, hm2, pRs_cg _ cg] at u1
  rw [eq2, if_neg (by omega), pZc_cg _ (fun k hk => (cg k hk).2)] at u2
  rw [ef] at t2
  have hb := b hX
  rw [t1] at hb
  have hb : X ++ ([] ++ (((if Int32.toNatClampNeg f = 0 then [] else [44]) ++ (mv kn M (gv (3 * c + Int32.toNatClampNeg f)) ++ pFl kn M gv c m (Int32.toNatClampNeg f + 1))) ++ pRs kn M wd gv oc of j)) = T := hb
  rcases hX2 with ⟨g, g2⟩ | ⟨g, g2⟩ <;> rw [g2]
  · rw [if_pos (by omega)] at hb
    have key : X ++ (mv kn M (gv (3 * c + Int32.toNatClampNeg f)) ++ pRs kn M wd gv oc of2 (Int32.toNatClampNeg po)) = T := by
      rw [← hb, u1, ← List.append_assoc (mv kn M (gv (3 * c + Int32.toNatClampNeg f)))]
      all_goals rfl
    rw [if_pos g] at t2
    exact ⟨⟨_, key⟩, fun _ => key, c3, by rw [u2, hi]; omega⟩
  · rw [if_neg (by omega)] at hb
    have hl : (X ++ [44]).length = X.length + 1 := List.length_append
    have key : (X ++ [44]) ++ (mv kn M (gv (3 * c + Int32.toNatClampNeg f)) ++ pRs kn M wd gv oc of2 (Int32.toNatClampNeg po)) = T := by
      rw [← hb, u1, List.append_assoc, ← List.append_assoc (mv kn M (gv (3 * c + Int32.toNatClampNeg f)))]
      all_goals rfl
    rw [if_neg g] at t2
    exact ⟨⟨_, key⟩, fun _ => key, by omega, by rw [u2, hi]; omega⟩
/-- the start -/
theorem pIv_0 (h0 : po.toInt = 0) : pIv kn M wd gv (mv kn M v) [] (mv kn M v) oc of po 0 := by
  have hn : Int32.toNatClampNeg po = 0 := by have := zn_nat (x := po) (by omega); omega
  refine ⟨⟨[], by rw [List.append_nil] <;> rfl⟩, fun _ => by rw [hn]; show [] ++ (mv kn M v ++ []) = _; rw [List.append_nil] <;> rfl, by rw [h0]; decide, by rw [hn]; show (0 : Int) + ((0 : Nat) : Int) ≤ ((0 : Nat) : Int); decide⟩
/-- the end -/
theorem pSt_end (h : pSt kn M wd gv T [] sp ps tl oc of po i) (ht : tl.toInt = 0) (hps : ps.toInt ≤ 4000) (hp0 : 0 ≤ po.toInt) (hi : po.toInt ≤ 0 ∨ 4000 < i) : pOw sp ps T ∧ T.length ≤ 4000 := by
  obtain ⟨X, hX, hI⟩ := h
  obtain ⟨a, b, c⟩ := hX.resolve_right (fun g => g.1 ht)
  obtain ⟨-, d1, d2, d3⟩ := hI
  have hn : Int32.toNatClampNeg po = 0 := by have := zn_nat hp0; omega
  have e := d1 (by omega)
  rw [hn] at e
  have e : X ++ [] = T := e
  rw [List.append_nil] at e
  subst e
  exact ⟨⟨b, c⟩, by omega⟩
theorem pSt_long (h : pSt kn M wd gv T Y sp ps tl oc of po i) (ht : tl.toInt ≠ 0) : 4000 < T.length := by
  obtain ⟨X, hX, ⟨R, a⟩, -⟩ := h
  have b := (hX.resolve_left (fun g => ht g.1)).2
  rw [← a, List.length_append]
  omega
theorem pSt_X (h : pSt kn M wd gv T Y sp ps tl oc of po i) (ht : tl.toInt = 0) (hps : ps.toInt ≤ 4000) : ∃ X, cOt sp ps tl X ∧ pIv kn M wd gv T X Y oc of po i ∧ X.length ≤ 4000 := by
  obtain ⟨X, hX, hI⟩ := h
  obtain ⟨a, b, c⟩ := hX.resolve_right (fun g => g.1 ht)
  exact ⟨X, hX, hI, by omega⟩
end

end
section
/-! what the value of a run shows, by the machines' numbers -/
section
variable {kn : Int32 → List Int32} {M M2 : Nat → List Int32} {gv gv2 : Nat → Int64} {c c2 : Nat} {v u : Int64}
theorem mv_cg (h : zhs v = 2 → M (Int32.toNatClampNeg v.toInt32) = M2 (Int32.toNatClampNeg v.toInt32)) : mv kn M v = mv kn M2 v := by
  unfold mv
  by_cases g0 : zhs v = 0
  · rw [if_pos g0, if_pos g0]
  · rw [if_neg g0, if_neg g0]
    by_cases g2 : zhs v = 2
    · rw [if_pos g2, if_pos g2, h g2]
    · rw [if_neg g2, if_neg g2]
theorem pFl_cg : ∀ (m k : Nat), (∀ j, k ≤ j → j < k + m → mv kn M (gv (3 * c + j)) = mv kn M2 (gv2 (3 * c2 + j))) → pFl kn M gv c m k = pFl kn M2 gv2 c2 m k
  | 0, _, _ => rfl
  | m + 1, k, h => by
    show (if k = 0 then [] else [44]) ++ (mv kn M (gv (3 * c + k)) ++ pFl kn M gv c m (k + 1)) = _
    rw [h k (Nat.le_refl _) (by omega), pFl_cg m (k + 1) (fun j h1 h2 => h j (by omega) (by omega))]
    all_goals rfl
end
def pM (kn : Int32 → List Int32) (wd : Nat → Nat) (ck : Nat → Int32) (cf : Nat → Int64) : Nat → Nat → List Int32
  | 0, _ => []
  | n + 1, x => kn (ck x) ++ 40 :: pFl kn (pM kn wd ck cf n) cf x (wd x) 0
def pA (kn : Int32 → List Int32) (wd : Nat → Nat) (ck : Nat → Int32) (cf : Nat → Int64) (x : Nat) : List Int32 := pM kn wd ck cf (x + 1) x
section
variable {kn : Int32 → List Int32} {wd wd2 : Nat → Nat} {ck gk : Nat → Int32} {cf gv : Nat → Int64} {A : Nat → Prop} {φ : Nat → Nat} {v u : Int64} {M M0 : Nat → List Int32}
theorem pM_s (hA : ∀ x, A x → ∀ k, k < wd x → zhs (cf (3 * x + k)) = 2 → A (Int32.toNatClampNeg (cf (3 * x + k)).toInt32) ∧ Int32.toNatClampNeg (cf (3 * x + k)).toInt32 < x) : ∀ (b x : Nat), x < b → A x → ∀ n m, x < n → x < m → pM kn wd ck cf n x = pM kn wd ck cf m x
  | 0, x, h, _, _, _, _, _ => absurd h (Nat.not_lt_zero _)
  | b + 1, x, hb, hx, n, m, hn, hm => by
    obtain ⟨n, rfl⟩ : ∃ k, n = k + 1 := ⟨n - 1, by omega⟩
    obtain ⟨m, rfl⟩ : ∃ k, m = k + 1 := ⟨m - 1, by omega⟩
    show kn (ck x) ++ 40 :: pFl kn (pM kn wd ck cf n) cf x (wd x) 0 = kn (ck x) ++ 40 :: pFl kn (pM kn wd ck cf m) cf x (wd x) 0
    have e : pFl kn (pM kn wd ck cf n) cf x (wd x) 0 = pFl kn (pM kn wd ck cf m) cf x (wd x) 0 := pFl_cg (wd x) 0 (fun j _ hj => mv_cg (fun h2 => by
      obtain ⟨a1, a2⟩ := hA x hx j (by omega) h2
      exact pM_s hA b _ (by omega) a1 n m (by omega) (by omega)))
    rw [e]
theorem pA_eq (hA : ∀ x, A x → ∀ k, k < wd x → zhs (cf (3 * x + k)) = 2 → A (Int32.toNatClampNeg (cf (3 * x + k)).toInt32) ∧ Int32.toNatClampNeg (cf (3 * x + k)).toInt32 < x) {x : Nat} (hx : A x) : pA kn wd ck cf x = kn (ck x) ++ 40 :: pFl kn (pA kn wd ck cf) cf x (wd x) 0 := by
  show kn (ck x) ++ 40 :: pFl kn (pM kn wd ck cf x) cf x (wd x) 0 = _
  have e : pFl kn (pM kn wd ck cf x) cf x (wd x) 0 = pFl kn (pA kn wd ck cf) cf x (wd x) 0 := pFl_cg (wd x) 0 (fun j _ hj => mv_cg (fun h2 => by
    obtain ⟨a1, a2⟩ := hA x hx j (by omega) h2
    exact pM_s hA x _ a2 a1 x _ a2 (Nat.lt_succ_self _)))
  rw [e]
theorem mv_vr (h : vr φ v u) (hv : zhs v = 2 → A (Int32.toNatClampNeg v.toInt32)) (hM : ∀ x, A x → M (φ x) = M0 x) : mv kn M u = mv kn M0 v := by
  rcases h with ⟨h1, h2⟩ | ⟨h1, h2, h3, h4⟩
  · rw [h2]; exact mv_cg (fun g => absurd g h1)
  · rw [mv_2 h2, mv_2 h1, zn_lit h4]; exact hM _ (hv h1)
/-- a program's cells show what the machine's show -/
theorem pC_of (hin : ∀ x y, A x → A y → φ x = φ y → x = y) (hcl : ∀ x, A x → ∀ k, k < wd x → zhs (cf (3 * x + k)) = 2 → A (Int32.toNatClampNeg (cf (3 * x + k)).toInt32) ∧ Int32.toNatClampNeg (cf (3 * x + k)).toInt32 < x) (hat : ∀ x, A x → gk (φ x) = ck x ∧ wd2 (φ x) = wd x ∧ ∀ k, k < wd x → vr φ (cf (3 * x + k)) (gv (3 * φ x + k))) : ∃ M : Nat → List Int32, mC kn M wd2 gk gv (fun y => ∃ x, A x ∧ φ x = y) ∧ ∀ v u, vr φ v u → (zhs v = 2 → A (Int32.toNatClampNeg v.toInt32)) → mv kn M u = mv kn (pA kn wd ck cf) v := by
  have ex : ∀ y, ∃ L : List Int32, ∀ x, A x → φ x = y → pA kn wd ck cf x = L := fun y => by
    rcases Classical.em (∃ x, A x ∧ φ x = y) with ⟨x, a, b⟩ | g
    · exact ⟨pA kn wd ck cf x, fun z hz e => by rw [hin z x hz a (e.trans b.symm)]⟩
    · exact ⟨[], fun z hz e => absurd ⟨z, hz, e⟩ g⟩
  obtain ⟨M, hM⟩ : ∃ M : Nat → List Int32, ∀ y x, A x → φ x = y → pA kn wd ck cf x = M y := ⟨fun y => Classical.choose (ex y), fun y => Classical.choose_spec (ex y)⟩
  have key : ∀ x, A x → M (φ x) = pA kn wd ck cf x := fun x hx => (hM (φ x) x hx rfl).symm
  refine ⟨M, fun y hy => ?_, fun v u h hv => mv_vr h hv key⟩
  obtain ⟨x, hx, rfl⟩ := hy
  obtain ⟨h1, h2, h3⟩ := hat x hx
  have e : pFl kn M gv (φ x) (wd x) 0 = pFl kn (pA kn wd ck cf) cf x (wd x) 0 := pFl_cg (wd x) 0 (fun j _ hj => mv_vr (h3 j (by omega)) (fun g => (hcl x hx j (by omega) g).1) key)
  rw [key x hx, pA_eq hcl hx, h1, h2, e]
end
/-- what a state's value shows -/
def pT (s : sp_S) (t : pm_S) : List Int32 := mv (pKn (s.2.1 : Int) s.2.2.1) (pA (pKn (s.2.1 : Int) s.2.2.1) (cWd s.2.2.2.1 t.2.2.2.2.2.1) t.2.2.2.2.2.1 t.2.2.2.2.2.2) (t.2.1.headD 0)
def pOf (hw : Nat) (s : sp_S) (t : pm_S) : Option (List Int32) := if hw = 1 then some (pT s t) else none
/-! plain runs: cells refer to elder ones alone -/
def vb (c : Nat) (v : Int64) : Prop := zhs v = 2 → 0 ≤ v.toInt32.toInt ∧ Int32.toNatClampNeg v.toInt32 < c
theorem vb_m {c c2 : Nat} {v : Int64} (h : vb c v) (hc : c ≤ c2) : vb c2 v := fun g => ⟨(h g).1, Nat.lt_of_lt_of_le (h g).2 hc⟩
theorem vb_n {c : Nat} {v : Int64} (h : zhs v ≠ 2) : vb c v := fun g => absurd g h
theorem vb_0 {c : Nat} : vb c 0 := vb_n (by decide)
def vOk (V : List Int64) (E : List (Nat → Int64)) (c : Nat) (cf : Nat → Int64) : Prop := (∀ v ∈ V, vb c v) ∧ (∀ e ∈ E, ∀ k, vb c (e k)) ∧ (∀ j, vb (j / 3) (cf j)) ∧ ∀ j, vb c (cf j)
def kOk (zk : Nat) (fd : Nat → Int32) (F : sp_F) (K : List (Nat × Tm)) (c : Nat) (ck : Nat → Int32) : Prop := (∀ u ∈ K, u.1 = 0 ∨ u.1 = 1 → fxP zk fd F u.2) ∧ ∀ d, d < c → 0 ≤ (ck d).toInt ∧ Int32.toNatClampNeg (ck d) < zk
section
variable {V : List Int64} {E : List (Nat → Int64)} {n c : Nat} {ck : Nat → Int32} {cf : Nat → Int64} {K : List (Nat × Tm)} {F : sp_F} {al : Nat} {zk : Nat} {fd : Nat → Int32}
theorem vb_g (h : ∀ v ∈ V, vb c v) (i : Nat) : vb c (V.getD i 0) := by
  rw [List.getD_eq_getElem?_getD]
  cases g : V[i]? with
  | none => exact vb_0
  | some v => exact h v (List.mem_of_getElem? g)
theorem vb_h (h : ∀ e ∈ E, ∀ k, vb c (e k)) (k : Nat) : vb c (E.headD (fun _ => 0) k) := by
  cases E with
  | nil => exact vb_0
  | cons e E => exact h e List.mem_cons_self k
theorem vb_t {e : Nat → Int64} (h : ∀ e ∈ E, ∀ k, vb c (e k)) (h2 : ∀ k, vb c (e k)) : ∀ e2 ∈ e :: E.tail, ∀ k, vb c (e2 k) := fun e2 he k => by
  rcases List.mem_cons.mp he with g | g
  · rw [g]; exact h2 k
  · exact h e2 (List.mem_of_mem_tail g) k
theorem vb_d {m : Nat} (h : ∀ v ∈ V, vb c v) : ∀ v ∈ V.drop m, vb c v := fun v hv => h v (List.mem_of_mem_drop hv)
theorem vbn_c {v : Int64} (h : ∀ v ∈ V, vb c v) (h2 : vb c v) : ∀ w ∈ v :: V, vb c w := fun w hw => by
  rcases List.mem_cons.mp hw with g | g
  · rw [g]; exact h2
  · exact h w g
theorem vb_2 (h : c < 4000) : vb (c + 1) (pv2 (Int32.ofInt (c : Int))) := fun _ => by
  have e := fx_of (k := c) (by omega)
  unfold pv2
  rw [(zof_cell _).2, zn_li7 e]
  exact ⟨by omega, Nat.lt_succ_self _⟩
/-- a tree's work begins -/
theorem vOk_w {s2 : pm_S} (h : vOk V E c cf) : ∀ (t : Tm), pm_w t K V E n c ck cf = .ok s2 → vOk s2.2.1 s2.2.2.1 s2.2.2.2.2.1 s2.2.2.2.2.2.2
  | .leaf (some (0, _, _, _, _, _)), g => by cases g; exact ⟨vbn_c h.1 (vb_n pvn_0), h.2⟩
  | .leaf (some (_ + 1, _, _, _, _, _)), g => by cases g; exact ⟨vbn_c h.1 (vb_h h.2.1 _), h.2⟩
  | .branch 0 (.leaf (some (0, p, _, _, _, w))) a, g => by cases g; exact h
  | .branch 0 (.leaf (some (1, p, _, k, _, _))) a, g => by cases g; exact h
  | .branch 0 (.leaf (some (2, p, _, s, _, _))) a, g => by cases g; exact h
  | .branch 1 (.leaf (some (0, p, o, _, _, _))) (.branch _ a b), g => by cases g; exact h
  | .branch 1 (.leaf (some (_ + 1, p, _, s, _, _))) (.branch _ a b), g => by cases g; exact h
  | .branch 2 (.leaf (some (_, p, _, _, _, _))) (.branch _ a (.branch _ b e)), g => by cases g; exact h
  | .leaf none, g => by cases g
  | .branch (_ + 3) _ _, g => by cases g
  | .branch 0 (.leaf (some (_ + 3, _, _, _, _, _))) _, g => by cases g
  | .branch 0 (.leaf none) _, g => by cases g
  | .branch 0 (.branch _ _ _) _, g => by cases g
  | .branch 1 (.leaf none) _, g => by cases g
  | .branch 1 (.branch _ _ _) _, g => by cases g
  | .branch 1 (.leaf (some (0, _, _, _, _, _))) (.leaf _), g => by cases g
  | .branch 1 (.leaf (some (_ + 1, _, _, _, _, _))) (.leaf _), g => by cases g
  | .branch 2 (.leaf none) _, g => by cases g
  | .branch 2 (.branch _ _ _) _, g => by cases g
  | .branch 2 (.leaf (some (_, _, _, _, _, _))) (.leaf _), g => by cases g
  | .branch 2 (.leaf (some (_, _, _, _, _, _))) (.branch _ _ (.leaf _)), g => by cases g
theorem w_ck {s2 : pm_S} : ∀ (t : Tm), pm_w t K V E n c ck cf = .ok s2 → s2.2.2.2.2.1 = c ∧ s2.2.2.2.2.2.1 = ck
  | .leaf (some (0, _, _, _, _, _)), g => by cases g; exact ⟨rfl, rfl⟩
  | .leaf (some (_ + 1, _, _, _, _, _)), g => by cases g; exact ⟨rfl, rfl⟩
  | .branch 0 (.leaf (some (0, p, _, _, _, w))) a, g => by cases g; exact ⟨rfl, rfl⟩
  | .branch 0 (.leaf (some (1, p, _, k, _, _))) a, g => by cases g; exact ⟨rfl, rfl⟩
  | .branch 0 (.leaf (some (2, p, _, s, _, _))) a, g => by cases g; exact ⟨rfl, rfl⟩
  | .branch 1 (.leaf (some (0, p, o, _, _, _))) (.branch _ a b), g => by cases g; exact ⟨rfl, rfl⟩
  | .branch 1 (.leaf (some (_ + 1, p, _, s, _, _))) (.branch _ a b), g => by cases g; exact ⟨rfl, rfl⟩
  | .branch 2 (.leaf (some (_, p, _, _, _, _))) (.branch _ a (.branch _ b e)), g => by cases g; exact ⟨rfl, rfl⟩
  | .leaf none, g => by cases g
  | .branch (_ + 3) _ _, g => by cases g
  | .branch 0 (.leaf (some (_ + 3, _, _, _, _, _))) _, g => by cases g
  | .branch 0 (.leaf none) _, g => by cases g
  | .branch 0 (.branch _ _ _) _, g => by cases g
  | .branch 1 (.leaf none) _, g => by cases g
  | .branch 1 (.branch _ _ _) _, g => by cases g
  | .branch 1 (.leaf (some (0, _, _, _, _, _))) (.leaf _), g => by cases g
  | .branch 1 (.leaf (some (_ + 1, _, _, _, _, _))) (.leaf _), g => by cases g
  | .branch 2 (.leaf none) _, g => by cases g
  | .branch 2 (.branch _ _ _) _, g => by cases g
  | .branch 2 (.leaf (some (_, _, _, _, _, _))) (.leaf _), g => by cases g
  | .branch 2 (.leaf (some (_, _, _, _, _, _))) (.branch _ _ (.leaf _)), g => by cases g
theorem kOk_w {s2 : pm_S} (h : kOk zk fd F K c ck) (t : Tm) (ht : fxP zk fd F t) (g : pm_w t K V E n c ck cf = .ok s2) : kOk zk fd F s2.1 s2.2.2.2.2.1 s2.2.2.2.2.2.1 := by
  have k : cm_w t K V E n c ck cf ([], 0, 0, 0, 0, 0) = .ok (s2, ([], 0, 0, 0, 0 + cm_us t K E, 0)) := by
    unfold cm_w
    rw [g]
  have f := fx_w h.1 (fun d hd => (h.2 d hd).2) t ht k
  obtain ⟨e1, e2⟩ := w_ck t g
  obtain ⟨K2, V2, E2, n2, c2, ck2, cf2⟩ := s2
  obtain ⟨f1, -⟩ := f
  have e1 : c2 = c := e1
  have e2 : ck2 = ck := e2
  subst e1 e2
  exact ⟨f1, h.2⟩
/-- what is done behind the operands -/
theorem ok_d {s2 : pm_S} (h : vOk V E c cf) : ∀ (t : Tm), pm_d F t K V E n c ck cf = .ok s2 → vOk s2.2.1 s2.2.2.1 s2.2.2.2.2.1 s2.2.2.2.2.2.2 ∧ (fxZ zk → (∀ f, f < F.1 → fxP zk fd F (F.2.2.2 f)) → fxP zk fd F t → kOk zk fd F K c ck → kOk zk fd F s2.1 s2.2.2.2.2.1 s2.2.2.2.2.2.1)
  | .branch 0 (.leaf (some (0, p, _, _, _, w))) a, g => by
    have g : (if 100 ≤ E.length then (.error (4, p) : Except (Nat × Int) pm_S) else .ok ((0, F.2.2.2 (sp_fi F.2.1 w F.1)) :: (2, Tm.nil) :: K, V.drop (F.2.2.1 (sp_fi F.2.1 w F.1)).toNat, pm_ae V (F.2.2.1 (sp_fi F.2.1 w F.1)).toNat :: E, n, c, ck, cf)) = .ok s2 := g
    by_cases q : 100 ≤ E.length
    · rw [if_pos q] at g; cases g
    · rw [if_neg q] at g
      cases g
      refine ⟨⟨vb_d h.1, fun e he k => ?_, h.2.2⟩, fun _ hF ht hk => ⟨fx_1 (fx_2 hk.1 ⟨by decide, by decide⟩) (hF _ ht.2.1), hk.2⟩⟩
      rcases List.mem_cons.mp he with u | u
      · rw [u]
        show vb c (if k < (F.2.2.1 (sp_fi F.2.1 w F.1)).toNat then V.getD ((F.2.2.1 (sp_fi F.2.1 w F.1)).toNat - 1 - k) 0 else 0)
        split
        · exact vb_g h.1 _
        · exact vb_0
      · exact h.2.1 e u k
  | .branch 0 (.leaf (some (1, p, _, k, _, _))) a, g => by
    have g : (if tm_ln a = 0 then (.ok (K, pv1 (Int32.ofInt (k : Int)) :: V, E, n, c, ck, cf) : Except (Nat × Int) pm_S) else if 4000 ≤ c then .error (3, p) else .ok (K, pv2 (Int32.ofInt (c : Int)) :: V.drop (tm_ln a), E, n, c + 1, upd ck c (Int32.ofInt (k : Int)), pm_cf cf V c (tm_ln a))) = .ok s2 := g
    by_cases q : tm_ln a = 0
    · rw [if_pos q] at g
      cases g
      exact ⟨⟨vbn_c h.1 (vb_n pvn_1), h.2⟩, fun _ _ _ hk => hk⟩
    · rw [if_neg q] at g
      by_cases q2 : 4000 ≤ c
      · rw [if_pos q2] at g; cases g
      · rw [if_neg q2] at g
        cases g
        obtain ⟨h1, h2, h3, h4⟩ := h
        refine ⟨⟨vbn_c (fun v hv => vb_m (h1 v (List.mem_of_mem_drop hv)) (Nat.le_succ _)) (vb_2 (by omega)), fun e he k => vb_m (h2 e he k) (Nat.le_succ _), fun j => ?_, fun j => ?_⟩, fun hz _ ht hk => ⟨hk.1, fun d hd => ?_⟩⟩
        · show vb (j / 3) (if 3 * c ≤ j ∧ j < 3 * c + tm_ln a then V.getD (tm_ln a - 1 - (j - 3 * c)) 0 else cf j)
          by_cases u : 3 * c ≤ j ∧ j < 3 * c + tm_ln a
          · rw [if_pos u]; exact vb_m (vb_g h1 _) (by omega)
          · rw [if_neg u]; exact h3 j
        · show vb (c + 1) (if 3 * c ≤ j ∧ j < 3 * c + tm_ln a then V.getD (tm_ln a - 1 - (j - 3 * c)) 0 else cf j)
          by_cases u : 3 * c ≤ j ∧ j < 3 * c + tm_ln a
          · rw [if_pos u]; exact vb_m (vb_g h1 _) (Nat.le_succ _)
          · rw [if_neg u]; exact vb_m (h4 j) (Nat.le_succ _)
        · obtain ⟨⟨d0, hw⟩, -⟩ := ht
          have hkz : k < zk := hw.1.1
          have hz2 : zk ≤ 1000000 := hz
          show 0 ≤ (upd ck c (Int32.ofInt (k : Int)) d).toInt ∧ Int32.toNatClampNeg (upd ck c (Int32.ofInt (k : Int)) d) < zk
          by_cases u : d = c
          · have e := fx_of (k := k) (by omega)
            rw [u, zu_s, zn_li7 e]
            exact ⟨by omega, hkz⟩
          · rw [zu_n u]
            have hd : d < c + 1 := hd
            exact hk.2 d (by omega)
  | .branch 0 (.leaf (some (2, p, _, s, _, _))) a, g => by
    have g : pm_mt p s a K V E n c ck cf = .ok s2 := g
    unfold pm_mt at g
    cases q : pm_fi (pm_kd ck (E.headD (fun _ => 0) s)) a with
    | none => rw [q] at g; cases g
    | some x =>
      rw [q] at g
      cases g
      refine ⟨⟨h.1, vb_t h.2.1 (fun k => ?_), h.2.2⟩, fun _ _ ht hk => ⟨fx_1 hk.1 ?_, hk.2⟩⟩
      · split
        · show vb c (if am_h x ≤ k ∧ k < am_h x + am_m x then cf (3 * Int32.toNatClampNeg (E.headD (fun _ => 0) s).toInt32 + (k - am_h x)) else E.headD (fun _ => 0) k)
          split
          · exact h.2.2.2 _
          · exact vb_h h.2.1 k
        · exact vb_h h.2.1 k
      · obtain ⟨⟨d0, hw⟩, hf⟩ := ht
        exact fx_fi a hw.2 hf q
  | .branch 1 (.leaf (some (0, p, o, _, _, _))) (.branch _ a b), g => by
    have g : (if zhs (V.getD 1 0) = 0 ∧ zhs (V.getD 0 0) = 0 then (.ok (K, pv0 (pm_op o (V.getD 1 0).toInt32 (V.getD 0 0).toInt32) :: V.drop 2, E, n, c, ck, cf) : Except (Nat × Int) pm_S) else .error (2, p)) = .ok s2 := g
    by_cases q : zhs (V.getD 1 0) = 0 ∧ zhs (V.getD 0 0) = 0
    · rw [if_pos q] at g
      cases g
      exact ⟨⟨vbn_c (vb_d h.1) (vb_n pvn_0), h.2⟩, fun _ _ _ hk => hk⟩
    · rw [if_neg q] at g; cases g
  | .branch 1 (.leaf (some (_ + 1, p, _, s, _, _))) (.branch _ a b), g => by
    have g : (.ok ((0, b) :: K, V.drop 1, vp_updL (E.headD (fun _ => 0)) s (V.getD 0 0) :: E.tail, n, c, ck, cf) : Except (Nat × Int) pm_S) = .ok s2 := g
    cases g
    refine ⟨⟨vb_d h.1, vb_t h.2.1 (fun k => ?_), h.2.2⟩, fun _ _ ht hk => ⟨fx_1 hk.1 ?_, hk.2⟩⟩
    · show vb c (if k = s then V.getD 0 0 else E.headD (fun _ => 0) k)
      split
      · exact vb_g h.1 0
      · exact vb_h h.2.1 k
    · obtain ⟨⟨d0, hw⟩, hf⟩ := ht
      exact ⟨⟨_, hw.2.2⟩, hf.2⟩
  | .branch 2 (.leaf (some (_, p, _, _, _, _))) (.branch _ a (.branch _ b e)), g => by
    have g : (if zhs (V.getD 0 0) = 0 then (.ok ((0, if (V.getD 0 0).toInt32 = 0 then e else b) :: K, V.drop 1, E, n, c, ck, cf) : Except (Nat × Int) pm_S) else .error (2, p)) = .ok s2 := g
    by_cases q : zhs (V.getD 0 0) = 0
    · rw [if_pos q] at g
      cases g
      refine ⟨⟨vb_d h.1, h.2⟩, fun _ _ ht hk => ⟨fx_1 hk.1 ?_, hk.2⟩⟩
      obtain ⟨⟨d0, hw⟩, hf⟩ := ht
      split
      · exact ⟨⟨_, hw.2.2⟩, hf.2.2⟩
      · exact ⟨⟨_, hw.2.1⟩, hf.2.1⟩
    · rw [if_neg q] at g; cases g
  | .leaf none, g => by cases g
  | .branch (_ + 3) _ _, g => by cases g
  | .leaf (some (0, _, _, _, _, _)), g => by cases g
  | .leaf (some (_ + 1, _, _, _, _, _)), g => by cases g
  | .branch 0 (.leaf (some (_ + 3, _, _, _, _, _))) _, g => by cases g
  | .branch 0 (.leaf none) _, g => by cases g
  | .branch 0 (.branch _ _ _) _, g => by cases g
  | .branch 1 (.leaf none) _, g => by cases g
  | .branch 1 (.branch _ _ _) _, g => by cases g
  | .branch 1 (.leaf (some (0, _, _, _, _, _))) (.leaf _), g => by cases g
  | .branch 1 (.leaf (some (_ + 1, _, _, _, _, _))) (.leaf _), g => by cases g
  | .branch 2 (.leaf none) _, g => by cases g
  | .branch 2 (.branch _ _ _) _, g => by cases g
  | .branch 2 (.leaf (some (_, _, _, _, _, _))) (.leaf _), g => by cases g
  | .branch 2 (.leaf (some (_, _, _, _, _, _))) (.branch _ _ (.leaf _)), g => by cases g
def vOS (s : pm_S) : Prop := vOk s.2.1 s.2.2.1 s.2.2.2.2.1 s.2.2.2.2.2.2
def kOS (zk : Nat) (fd : Nat → Int32) (F : sp_F) (s : pm_S) : Prop := kOk zk fd F s.1 s.2.2.2.2.1 s.2.2.2.2.2.1
theorem ok_st : ∀ {s s2 : pm_S}, vOS s → pm_st F al s = .ok s2 → vOS s2 ∧ (fxZ zk → (∀ f, f < F.1 → fxP zk fd F (F.2.2.2 f)) → kOS zk fd F s → kOS zk fd F s2)
  | ([], V, E, n, c, ck, cf), s2, _, g => by cases g
  | ((j, t) :: K, V, E, n, c, ck, cf), s2, h, g => by
    have g : (if j = 0 then (if n = al then (.error (5, pm_pl t) : Except (Nat × Int) pm_S) else pm_w t K V E (n + 1) c ck cf) else if j = 1 then pm_d F t K V E n c ck cf else .ok (K, V, E.tail, n, c, ck, cf)) = .ok s2 := g
    have h : vOk V E c cf := h
    have hK : kOS zk fd F ((j, t) :: K, V, E, n, c, ck, cf) → kOk zk fd F K c ck := fun hk => ⟨fun u hu => hk.1 u (List.mem_cons_of_mem _ hu), hk.2⟩
    by_cases j0 : j = 0
    · rw [if_pos j0] at g
      by_cases u : n = al
      · rw [if_pos u] at g; cases g
      · rw [if_neg u] at g
        exact ⟨vOk_w h t g, fun _ _ hk => kOk_w (hK hk) t (hk.1 (j, t) List.mem_cons_self (Or.inl j0)) g⟩
    · rw [if_neg j0] at g
      by_cases j1 : j = 1
      · rw [if_pos j1] at g
        obtain ⟨a, b⟩ := ok_d (zk := zk) (fd := fd) h t g
        exact ⟨a, fun hz hF hk => b hz hF (hk.1 (j, t) List.mem_cons_self (Or.inr j1)) (hK hk)⟩
      · rw [if_neg j1] at g
        cases g
        exact ⟨⟨h.1, fun e he => h.2.1 e (List.mem_of_mem_tail he), h.2.2⟩, fun _ _ hk => hK hk⟩
theorem ok_it : ∀ {m : Nat} {s s2 : pm_S}, vOS s → pm_it F al m s = .ok s2 → vOS s2 ∧ (fxZ zk → (∀ f, f < F.1 → fxP zk fd F (F.2.2.2 f)) → kOS zk fd F s → kOS zk fd F s2)
  | 0, s, s2, h, g => by cases g; exact ⟨h, fun _ _ hk => hk⟩
  | m + 1, s, s2, h, g => by
    unfold pm_it at g
    cases q : pm_st F al s with
    | ok s3 =>
      rw [q] at g
      obtain ⟨a, b⟩ := ok_st (zk := zk) (fd := fd) h q
      obtain ⟨a2, b2⟩ := ok_it a g
      exact ⟨a2, fun hz hF hk => b2 hz hF (b hz hF hk)⟩
    | error e => rw [q] at g; cases g
theorem ok_re {f : Nat} {a1 a2 a3 a4 : Int32} {s : pm_S} (h : pm_re F al (pm_s0 F f a1 a2 a3 a4) s) : vOS s ∧ (fxZ zk → (∀ f, f < F.1 → fxP zk fd F (F.2.2.2 f)) → f < F.1 → kOS zk fd F s) := by
  obtain ⟨m, h⟩ := h
  have h0 : vOS (pm_s0 F f a1 a2 a3 a4) := by
    refine ⟨fun v hv => (by have hv : v ∈ ([] : List Int64) := hv; cases hv), fun e he k => ?_, fun j => vb_0, fun j => vb_0⟩
    rcases List.mem_cons.mp he with u | u
    · rw [u]
      show vb 0 (if (k : Int) < F.2.2.1 f then pv0 (if k = 0 then a1 else if k = 1 then a2 else if k = 2 then a3 else if k = 3 then a4 else 0) else 0)
      split
      · exact vb_n pvn_0
      · exact vb_0
    · cases u
  obtain ⟨a, b⟩ := ok_it (zk := zk) (fd := fd) h0 h
  exact ⟨a, fun hz hF hf => b hz hF ⟨fx_1 (fx_2 (fun u hu => (nomatch hu)) ⟨by decide, by decide⟩) (hF f hf), fun d hd => absurd hd (Nat.not_lt_zero _)⟩⟩
end

end
section
/-! the value of a run, as it is shown, on both sides -/
/-- what show(false) and show(true) would write, and OUT -/
abbrev shS := Option (List Int32) × Option (List Int32) × List Int32
def shR (S : shS) (W : Option (List Int32)) (r : Int32) (S2 : shS) : Prop := (W = none ∧ r.toInt = -1 ∧ S2 = S) ∨ ∃ T, W = some T ∧ (4000 < T.length ∧ r.toInt = -1 ∧ S2 = S ∨ T.length ≤ 4000 ∧ r.toInt = (T.length : Int) ∧ S2 = (S.1, S.2.1, T))
theorem shR_1 {S S2 S3 : shS} {W : Option (List Int32)} {r r2 : Int32} (h : shR S W r S2) (h2 : shR S W r2 S3) : r = r2 ∧ S2 = S3 := by
  rcases h with ⟨a, b, c⟩ | ⟨T, a, h⟩
  · rcases h2 with ⟨-, e, f⟩ | ⟨T2, d, -⟩
    · exact ⟨Int32.toInt_inj.mp (b.trans e.symm), c.trans f.symm⟩
    · rw [a] at d; cases d
  · rcases h2 with ⟨d, -⟩ | ⟨T2, d, h2⟩
    · rw [a] at d; cases d
    · rw [a] at d
      cases d
      rcases h with ⟨b, c, d⟩ | ⟨b, c, d⟩
      · rcases h2 with ⟨-, e, f⟩ | ⟨e, -⟩
        · exact ⟨Int32.toInt_inj.mp (c.trans e.symm), d.trans f.symm⟩
        · exact absurd b (by omega)
      · rcases h2 with ⟨e, -⟩ | ⟨-, e, f⟩
        · exact absurd b (by omega)
        · exact ⟨Int32.toInt_inj.mp (c.trans e.symm), d.trans f.symm⟩
/-- out() -/
def ouR (T : List Int32) (i : Int32) (r : Option Int32) : Prop := (r = none ∧ (i.toInt < 0 ∨ (T.length : Int) ≤ i.toInt)) ∨ ∃ x, r = some (pB x) ∧ 0 ≤ i.toInt ∧ T[Int32.toNatClampNeg i]? = some x
theorem ouR_1 {T : List Int32} {i : Int32} {r r2 : Option Int32} (h : ouR T i r) (h2 : ouR T i r2) : r = r2 := by
  rcases h with ⟨a, b⟩ | ⟨x, a, b, c⟩
  · rcases h2 with ⟨d, -⟩ | ⟨y, -, e, f⟩
    · rw [a, d]
    · exfalso
      have := zn_nat e
      have := (List.getElem?_eq_some_iff.mp f).1
      omega
  · rcases h2 with ⟨-, e⟩ | ⟨y, d, -, f⟩
    · exfalso
      have := zn_nat b
      have := (List.getElem?_eq_some_iff.mp c).1
      omega
    · rw [c] at f
      cases f
      rw [a, d]
/-! a plain run ends in one state -/
section
variable {F : sp_F} {al : Nat}
theorem st_0 {t s : pm_S} (e : t.1 = []) (h : pm_st F al t = .ok s) : False := by
  obtain ⟨K, V, E, n, c, ck, cf⟩ := t
  have e : K = [] := e
  subst e
  cases h
theorem it_e : ∀ {n m : Nat} {s t t2 : pm_S}, pm_it F al n s = .ok t → pm_it F al m s = .ok t2 → t.1 = [] → t2.1 = [] → t = t2
  | 0, 0, s, t, t2, h, h2, _, _ => by cases h; cases h2; rfl
  | 0, m + 1, s, t, t2, h, h2, e, _ => by
    cases h
    unfold pm_it at h2
    cases g : pm_st F al s with
    | ok a => exact (st_0 e g).elim
    | error x => rw [g] at h2; cases h2
  | n + 1, 0, s, t, t2, h, h2, _, e => by
    cases h2
    unfold pm_it at h
    cases g : pm_st F al s with
    | ok a => exact (st_0 e g).elim
    | error x => rw [g] at h; cases h
  | n + 1, m + 1, s, t, t2, h, h2, e, e2 => by
    unfold pm_it at h h2
    cases g : pm_st F al s with
    | ok a => rw [g] at h h2; exact it_e h h2 e e2
    | error x => rw [g] at h; cases h
theorem re_1 {s t t2 : pm_S} (h : pm_re F al s t) (h2 : pm_re F al s t2) (e : t.1 = []) (e2 : t2.1 = []) : t = t2 := by
  obtain ⟨n, h⟩ := h
  obtain ⟨m, h2⟩ := h2
  exact it_e h h2 e e2
end
/-! run -/
def rsC (o : Option (sp_S × sp_F)) (f cs al a b c d r : Int32) (S S2 : shS) : Prop := ((∀ s F, o = some (s, F) → ¬ rnK f cs al F.1) ∧ S2 = S) ∨ ∃ (s : sp_S) (F : sp_F), o = some (s, F) ∧ rnK f cs al F.1 ∧ ∃ (hw : Nat) (p : Int) (t : cm_S), r.toInt = (hw : Int) ∧ S2 = (pOf hw s t.1, S.2) ∧ ∀ fd : Nat → Int32, (∀ k, k < s.2.1 → fd k = s.2.2.2.1 k) → cm_ou F fd (Int32.toInt cs) (Int32.toNatClampNeg al) (cm_s0 F (Int32.toNatClampNeg f) a b c d) (hw, p, t)
def rsX (o : Option (sp_S × sp_F)) (f cs al a b c d r : Int32) (S S2 : shS) : Prop := ((∀ s F, o = some (s, F) → ¬ rnK f cs al F.1) ∧ S2 = S) ∨ ∃ (s : sp_S) (F : sp_F), o = some (s, F) ∧ rnK f cs al F.1 ∧ ∃ (fd : Nat → Int32) (hw : Nat) (p : Int) (t : cm_S), (∀ k, k < s.2.1 → fd k = s.2.2.2.1 k) ∧ r.toInt = (hw : Int) ∧ S2 = (pOf hw s t.1, S.2) ∧ cm_ou F fd (Int32.toInt cs) (Int32.toNatClampNeg al) (cm_s0 F (Int32.toNatClampNeg f) a b c d) (hw, p, t)
theorem rs_1 {o : Option (sp_S × sp_F)} {f cs al a b c d r r2 : Int32} {S S2 S3 : shS} (h : rsC o f cs al a b c d r S S2) (h2 : rsX o f cs al a b c d r2 S S3) : S2 = S3 := by
  rcases h with ⟨h, e0⟩ | ⟨s, F, e, g, hw, p, t, k1, k0, k2⟩
  · rcases h2 with ⟨-, e3⟩ | ⟨s2, F2, e2, g2, -⟩
    · exact e0.trans e3.symm
    · exact absurd g2 (h s2 F2 e2)
  · rcases h2 with ⟨h2, -⟩ | ⟨s2, F2, e2, g2, fd, hw2, p2, t2, j0, j1, j3, j2⟩
    · exact absurd g (h2 s F e)
    · rw [e] at e2
      cases e2
      have := cm_ou_1 (k2 fd j0) j2
      cases this
      exact k0.trans j3.symm
/-! plain -/
def psR (o : Option (sp_S × sp_F)) (f al a b c d r : Int32) (S S2 : shS) : Prop := ((∀ s F, o = some (s, F) → f.toInt < 0 ∨ (F.1 : Int) ≤ f.toInt ∨ al.toInt < 0 ∨ 20000 < al.toInt) ∧ S2 = S) ∨ ∃ (s : sp_S) (F : sp_F), o = some (s, F) ∧ (0 ≤ f.toInt ∧ f.toInt < (F.1 : Int) ∧ 0 ≤ al.toInt ∧ al.toInt ≤ 20000) ∧ cEn F (Int32.toNatClampNeg al) (pm_s0 F (Int32.toNatClampNeg f) a b c d) r ∧ (r.toInt = 1 ∧ (∃ t : pm_S, pm_re F (Int32.toNatClampNeg al) (pm_s0 F (Int32.toNatClampNeg f) a b c d) t ∧ t.1 = [] ∧ S2 = (S.1, some (pT s t), S.2.2)) ∨ r.toInt ≠ 1 ∧ S2 = (S.1, none, S.2.2))
theorem ps_1 {o : Option (sp_S × sp_F)} {f al a b c d r r2 : Int32} {S S2 S3 : shS} (h : psR o f al a b c d r S S2) (h2 : psR o f al a b c d r2 S S3) : S2 = S3 := by
  rcases h with ⟨h, e0⟩ | ⟨s, F, e, g, ⟨n, p, n1, n2⟩, k⟩
  · rcases h2 with ⟨-, e3⟩ | ⟨s2, F2, e2, g2, -⟩
    · exact e0.trans e3.symm
    · have := h s2 F2 e2; exfalso; omega
  · rcases h2 with ⟨h2, -⟩ | ⟨s2, F2, e2, g2, ⟨n3, p3, n4, n5⟩, k2⟩
    · have := h2 s F e; exfalso; omega
    · rw [e] at e2
      cases e2
      have q := pm_ou_1 n2 n5
      cases q
      rcases k with ⟨r1, t, t1, t2, t3⟩ | ⟨r1, t3⟩
      · rcases k2 with ⟨-, u, u1, u2, u3⟩ | ⟨r3, -⟩
        · rw [t3, u3, re_1 t1 u1 t2 u2]
        · exact absurd r1 (by omega)
      · rcases k2 with ⟨r3, -⟩ | ⟨-, u3⟩
        · exact absurd r1 (by omega)
        · exact t3.trans u3.symm
/-! the class's rows -/
def cPv (n : Int) (kz : Int32) (kw : Nat → Int64) (kf gk : Nat → Int32) (gv : Nat → Int64) (u : Int64) (T : List Int32) : Prop := ∃ (P : Nat → Prop) (M : Nat → List Int32), zPq n (zwd kz kf gk) gv P ∧ (zhs u = 2 → 0 ≤ u.toInt32.toInt ∧ P (Int32.toNatClampNeg u.toInt32)) ∧ mC (pKn kz.toInt kw) M (zwd kz kf gk) gk gv P ∧ (∀ c, P c → 0 ≤ (gk c).toInt ∧ (gk c).toInt < kz.toInt) ∧ mv (pKn kz.toInt kw) M u = T
theorem cPv_c {z c : Nat} {kz : Int32} {kw : Nat → Int64} {kf gk gc ck : Nat → Int32} {gv cf : Nat → Int64} {ph : Nat → Nat} {lv : Nat → Bool} {gA R : Nat → Int} {FL : List Nat} {fre he : Int} {v u : Int64} (hz : kz.toInt = (z : Int)) (hv : vr ph v u) (hH : cHp kz kf z ph lv gA c ck cf R [] gk gc gv FL fre he) (hR : ∀ x, zr v x ≤ R x) : cPv 400 kz kw kf gk gv u (mv (pKn kz.toInt kw) (pA (pKn kz.toInt kw) (cWd kf ck) ck cf) v) := by
  obtain ⟨hZ0, -, -, hk⟩ := hH
  have hlc : ∀ x, lv x = true → x < c := fun x hx => (hZ_at hZ0 hx).1
  have hw := cWd_k hz hk
  have hL := hZ0.2.2.1
  have hcl : ∀ x, lv x = true → ∀ k, k < cWd kf ck x → zhs (cf (3 * x + k)) = 2 → lv (Int32.toNatClampNeg (cf (3 * x + k)).toInt32) = true ∧ Int32.toNatClampNeg (cf (3 * x + k)).toInt32 < x := fun x hx k hk2 h2 => by
    have q := (hL x hx).2.2.2.2 k hk2
    have q2 := vr_h q
    have l := hZ_fl hZ0 hx hk2 (q2.trans h2)
    have v2 := vr_c q (q2.trans h2)
    exact ⟨l, hZ0.2.1 x _ hx (zcf_1 (w := cWd kf ck) (cA := cf) hk2 v2.1 v2.2.1 rfl)⟩
  have hwd : ∀ x, lv x = true → zwd kz kf gk (ph x) = cWd kf ck x := fun x hx => by
    show (zfk kz kf (gk (ph x))).toNat = _
    rw [(hL x hx).2.1, hw x (hlc x hx)]
  obtain ⟨M, m1, m2⟩ := pC_of (kn := pKn kz.toInt kw) (A := fun x => lv x = true) (φ := ph) (wd := cWd kf ck) (wd2 := zwd kz kf gk) (gk := gk) (gv := gv) (ck := ck) (cf := cf) (fun x y hx hy e => hZ0.2.2.2.2.2 x y (Or.inl hx) (Or.inl hy) e) hcl (fun x hx => ⟨(hL x hx).2.1, hwd x hx, (hL x hx).2.2.2.2⟩)
  have hlv : zhs v = 2 → lv (Int32.toNatClampNeg v.toInt32) = true := fun g => by
    rcases hv with ⟨a, -⟩ | ⟨-, -, a, -⟩
    · exact absurd g a
    · refine hZ_lv hZ0 (Int.le_trans ?_ (hR _))
      rw [zr_c g a, if_pos rfl]
      exact Int.le_refl _
  refine ⟨fun y => ∃ x, lv x = true ∧ ph x = y, M, fun y hy => ?_, fun g => ?_, m1, fun y hy => ?_, m2 v u hv hlv⟩
  · obtain ⟨x, hx, rfl⟩ := hy
    refine ⟨by have := (hL x hx).1; omega, fun k hk2 h2 => ?_⟩
    rw [hwd x hx] at hk2
    have q := (hL x hx).2.2.2.2 k hk2
    have v2 := vr_c q h2
    have l := hZ_fl hZ0 hx hk2 h2
    refine ⟨?_, _, l, v2.2.2.symm⟩
    rcases q with ⟨a, b⟩ | ⟨-, -, -, b⟩
    · rw [b] at h2; exact absurd h2 a
    · rw [b]; omega
  · have v2 := vr_c hv g
    refine ⟨?_, _, hlv v2.1, v2.2.2.symm⟩
    rcases hv with ⟨a, b⟩ | ⟨-, -, -, b⟩
    · rw [b] at g; exact absurd g a
    · rw [b]; omega
  · obtain ⟨x, hx, rfl⟩ := hy
    obtain ⟨k, k1, k2, -⟩ := hk x (hlc x hx)
    rw [(hL x hx).2.1, k1, hz]
    exact ⟨by omega, by omega⟩
theorem vr_id {v : Int64} (h : zhs v = 2 → 0 ≤ v.toInt32.toInt) : vr (fun x => x) v v := by
  by_cases g : zhs v = 2
  · exact Or.inr ⟨g, g, h g, (zn_nat (h g)).symm⟩
  · exact Or.inl ⟨g, rfl⟩
theorem zfk_r {kz : Int32} {kf : Nat → Int32} {k : Int32} {z : Nat} (hz : kz.toInt = (z : Int)) (h0 : 0 ≤ k.toInt) (h : Int32.toNatClampNeg k < z) : (zfk kz kf k).toNat = (kf (Int32.toNatClampNeg k)).toInt.toNat := by
  have := zn_nat h0
  unfold zfk
  by_cases g : 0 < (kf (Int32.toNatClampNeg k)).toInt
  · rw [if_pos ⟨h0, by omega, g⟩]
  · rw [if_neg (fun u => g u.2.2)]; omega
theorem cPv_p {z cn sn : Nat} {kz : Int32} {kw : Nat → Int64} {kf gk ck : Nat → Int32} {gv cf : Nat → Int64} {F : sp_F} {re : Int64} (hz : kz.toInt = (z : Int)) (hc : cCe kz kf gk gv cn ck cf) (hn : (cn : Int) ≤ 4000) (h3 : ∀ k, zfk kz kf k ≤ 3) (h0 : ∀ k, 0 ≤ zfk kz kf k) (hV : vOS ([], [re], [], sn, cn, ck, cf)) (hK : kOS z kf F ([], [re], [], sn, cn, ck, cf)) : cPv 4000 kz kw kf gk gv re (mv (pKn kz.toInt kw) (pA (pKn kz.toInt kw) (cWd kf ck) ck cf) re) := by
  obtain ⟨v1, -, v3, -⟩ := hV
  have v1 : ∀ v ∈ [re], vb cn v := v1
  have v3 : ∀ j, vb (j / 3) (cf j) := v3
  have hK : ∀ d, d < cn → 0 ≤ (ck d).toInt ∧ Int32.toNatClampNeg (ck d) < z := hK.2
  have hw : ∀ x, x < cn → (zfk kz kf (ck x)).toNat = cWd kf ck x := fun x hx => zfk_r hz (hK x hx).1 (hK x hx).2
  have hw3 : ∀ x, x < cn → cWd kf ck x ≤ 3 := fun x hx => by rw [← hw x hx]; have := h3 (ck x); omega
  have hwd : ∀ x, x < cn → zwd kz kf gk x = cWd kf ck x := fun x hx => by
    show (zfk kz kf (gk x)).toNat = _
    rw [(hc x hx).1, hw x hx]
  have hold : ∀ x, x < cn → ∀ k, k < cWd kf ck x → zhs (cf (3 * x + k)) = 2 → 0 ≤ (cf (3 * x + k)).toInt32.toInt ∧ Int32.toNatClampNeg (cf (3 * x + k)).toInt32 < x := fun x hx k hk2 h2 => by
    have a := v3 (3 * x + k) h2
    have b := hw3 x hx
    rw [show (3 * x + k) / 3 = x by omega] at a
    exact a
  have hgv : ∀ x, x < cn → ∀ k, k < cWd kf ck x → gv (3 * x + k) = cf (3 * x + k) := fun x hx k hk2 => (hc x hx).2 k (by
    have a := hw x hx
    have b := h0 (ck x)
    omega)
  obtain ⟨M, m1, m2⟩ := pC_of (kn := pKn kz.toInt kw) (A := fun x => x < cn) (φ := fun x => x) (wd := cWd kf ck) (wd2 := zwd kz kf gk) (gk := gk) (gv := gv) (ck := ck) (cf := cf) (fun x y _ _ e => e) (fun x hx k hk2 h2 => ⟨Nat.lt_trans (hold x hx k hk2 h2).2 hx, (hold x hx k hk2 h2).2⟩) (fun x hx => ⟨(hc x hx).1, hwd x hx, fun k hk2 => by
    show vr (fun x => x) (cf (3 * x + k)) (gv (3 * x + k))
    rw [hgv x hx k hk2]
    exact vr_id (fun g => (hold x hx k hk2 g).1)⟩)
  have hre : vb cn re := v1 re List.mem_cons_self
  refine ⟨fun y => ∃ x, x < cn ∧ x = y, M, fun y hy => ?_, fun g => ⟨(hre g).1, _, (hre g).2, rfl⟩, m1, fun y hy => ?_, m2 re re (vr_id (fun g => (hre g).1)) (fun g => (hre g).2)⟩
  · obtain ⟨x, hx, rfl⟩ := hy
    refine ⟨by omega, fun k hk2 h2 => ?_⟩
    rw [hwd x hx] at hk2
    rw [hgv x hx k hk2] at h2 ⊢
    have a := hold x hx k hk2 h2
    exact ⟨a.1, _, Nat.lt_trans a.2 hx, rfl⟩
  · obtain ⟨x, hx, rfl⟩ := hy
    rw [(hc x hx).1]
    have a := hK x hx
    have := zn_nat a.1
    exact ⟨a.1, by omega⟩
/-! the reference's rows -/
def rPv (n : Nat) (kz : Int32) (kn : Int32 → List Int32) (fd gk : Nat → Int32) (gv : Nat → Int64) (u : Int64) (T : List Int32) : Prop := ∃ (P : Nat → Prop) (M : Nat → List Int32), zVc P kz fd gk gv ∧ (∀ c, P c → c < n) ∧ zVo P kz u ∧ mC kn M (fun c => (fd (Int32.toNatClampNeg (gk c))).toInt.toNat) gk gv P ∧ mv kn M u = T
theorem zVo_2 {P : Nat → Prop} {kz : Int32} {v : Int64} (h : zVo P kz v) (g : zhs v = 2) : 0 ≤ v.toInt32.toInt ∧ P (Int32.toNatClampNeg v.toInt32) := by
  rcases h with h | h | h
  · rw [g] at h; exact absurd h (by decide)
  · rw [g] at h; exact absurd h.1 (by decide)
  · exact h.2
theorem zVo_m {P Q : Nat → Prop} {kz : Int32} {v : Int64} (h : zVo P kz v) (g : zhs v = 2 → Q (Int32.toNatClampNeg v.toInt32)) : zVo Q kz v := by
  rcases h with h | h | h
  · exact Or.inl h
  · exact Or.inr (Or.inl h)
  · exact Or.inr (Or.inr ⟨h.1, h.2.1, g h.1⟩)
theorem rPv_c {c : Nat} {fd fd0 : Nat → Int32} {kz : Int32} {kn : Int32 → List Int32} {ph : Nat → Nat} {lv : Nat → Bool} {gA R : Nat → Int} {ck gk gc : Nat → Int32} {cf gv : Nat → Int64} {v u : Int64} {P : Nat → Prop} (hfd : ∀ k : Nat, (k : Int) < kz.toInt → fd k = fd0 k) (hv : vr ph v u) (hZ0 : hZ ph lv gA c (cWd fd ck) ck cf R [] gk gc gv) (hR : ∀ x, zr v x ≤ R x) (hP : zVc P kz fd gk gv) (hu : zVo P kz u) : rPv 400 kz kn fd gk gv u (mv kn (pA kn (cWd fd0 ck) ck cf) v) := by
  have hL := hZ0.2.2.1
  have hlv : zhs v = 2 → lv (Int32.toNatClampNeg v.toInt32) = true := fun g => by
    rcases hv with ⟨a, -⟩ | ⟨-, -, a, -⟩
    · exact absurd g a
    · refine hZ_lv hZ0 (Int.le_trans ?_ (hR _))
      rw [zr_c g a, if_pos rfl]
      exact Int.le_refl _
  have hq : ∀ x, lv x = true → P (ph x) → cWd fd0 ck x = cWd fd ck x := fun x hx hp => by
    obtain ⟨-, a, b, -⟩ := hP _ hp
    rw [(hL x hx).2.1] at a b
    have := zn_nat a
    unfold cWd
    rw [hfd _ (by omega)]
  have hch : ∀ x, lv x = true → P (ph x) → ∀ k, k < cWd fd0 ck x → zhs (cf (3 * x + k)) = 2 → (lv (Int32.toNatClampNeg (cf (3 * x + k)).toInt32) = true ∧ P (ph (Int32.toNatClampNeg (cf (3 * x + k)).toInt32))) ∧ Int32.toNatClampNeg (cf (3 * x + k)).toInt32 < x := fun x hx hp k hk2 h2 => by
    rw [hq x hx hp] at hk2
    have q := (hL x hx).2.2.2.2 k hk2
    have q2 := (vr_h q).trans h2
    have l := hZ_fl hZ0 hx hk2 q2
    have v2 := vr_c q q2
    obtain ⟨-, a, b, c1, c2, e⟩ := hP _ hp
    have e1 := e k (by rw [(hL x hx).2.1]; unfold cWd at hk2; omega)
    have e2 := (zVo_2 e1 q2).2
    rw [v2.2.2] at e2
    exact ⟨⟨l, e2⟩, hZ0.2.1 x _ hx (zcf_1 (w := cWd fd ck) (cA := cf) hk2 v2.1 v2.2.1 rfl)⟩
  obtain ⟨M, m1, m2⟩ := pC_of (kn := kn) (A := fun x => lv x = true ∧ P (ph x)) (φ := ph) (wd := cWd fd0 ck) (wd2 := fun c => (fd (Int32.toNatClampNeg (gk c))).toInt.toNat) (gk := gk) (gv := gv) (ck := ck) (cf := cf) (fun x y hx hy e => hZ0.2.2.2.2.2 x y (Or.inl hx.1) (Or.inl hy.1) e) (fun x hx => hch x hx.1 hx.2) (fun x hx => ⟨(hL x hx.1).2.1, (by
    show (fd (Int32.toNatClampNeg (gk (ph x)))).toInt.toNat = _
    rw [hq x hx.1 hx.2, (hL x hx.1).2.1]
    all_goals rfl), fun k hk2 => (hL x hx.1).2.2.2.2 k (by rw [← hq x hx.1 hx.2]; exact hk2)⟩)
  have hA : zhs v = 2 → lv (Int32.toNatClampNeg v.toInt32) = true ∧ P (ph (Int32.toNatClampNeg v.toInt32)) := fun g => by
    have q2 := (vr_h hv).trans g
    have e2 := (zVo_2 hu q2).2
    rw [(vr_c hv q2).2.2] at e2
    exact ⟨hlv g, e2⟩
  refine ⟨fun y => ∃ x, (lv x = true ∧ P (ph x)) ∧ ph x = y, M, fun y hy => ?_, fun y hy => ?_, zVo_m hu (fun g => ?_), m1, m2 v u hv hA⟩
  · obtain ⟨x, ⟨hx, hp⟩, rfl⟩ := hy
    obtain ⟨a0, a, b, c1, c2, e⟩ := hP _ hp
    refine ⟨a0, a, b, c1, c2, fun k hk2 => zVo_m (e k hk2) (fun g => ?_)⟩
    have hk3 : k < cWd fd0 ck x := by
      rw [hq x hx hp]
      rw [(hL x hx).2.1] at hk2
      unfold cWd
      omega
    have q := (hL x hx).2.2.2.2 k (by rw [← hq x hx hp]; exact hk3)
    have v2 := vr_c q g
    exact ⟨_, (hch x hx hp k hk3 v2.1).1, v2.2.2.symm⟩
  · obtain ⟨x, hx, rfl⟩ := hy
    exact (hL x hx.1).1
  · have v2 := vr_c hv g
    exact ⟨_, hA v2.1, v2.2.2.symm⟩
theorem rPv_p {cn sn : Nat} {E : List (Nat → Int64)} {fd fd0 : Nat → Int32} {kz : Int32} {kn : Int32 → List Int32} {ck gk : Nat → Int32} {cf gv : Nat → Int64} {re : Int64} {P : Nat → Prop} (hfd : ∀ k : Nat, (k : Int) < kz.toInt → fd k = fd0 k) (hc : rCe fd gk gv cn ck cf) (hV : vOS ([], [re], E, sn, cn, ck, cf)) (hP : zVc P kz fd gk gv) (hu : zVo P kz re) : rPv 4000 kz kn fd gk gv re (mv kn (pA kn (cWd fd0 ck) ck cf) re) := by
  obtain ⟨v1, -, v3, -⟩ := hV
  have v1 : ∀ v ∈ [re], vb cn v := v1
  have v3 : ∀ j, vb (j / 3) (cf j) := v3
  have hre : vb cn re := v1 re List.mem_cons_self
  have hq : ∀ x, x < cn → P x → cWd fd0 ck x = cWd fd ck x := fun x hx hp => by
    obtain ⟨-, a, b, -⟩ := hP _ hp
    rw [(hc x hx).1] at a b
    have := zn_nat a
    unfold cWd
    rw [hfd _ (by omega)]
  have hgv : ∀ x, x < cn → ∀ k, k < cWd fd ck x → gv (3 * x + k) = cf (3 * x + k) := fun x hx k hk2 => (hc x hx).2 k (by unfold cWd at hk2; omega)
  have hch : ∀ x, x < cn → P x → ∀ k, k < cWd fd0 ck x → zhs (cf (3 * x + k)) = 2 → (Int32.toNatClampNeg (cf (3 * x + k)).toInt32 < cn ∧ P (Int32.toNatClampNeg (cf (3 * x + k)).toInt32)) ∧ Int32.toNatClampNeg (cf (3 * x + k)).toInt32 < x := fun x hx hp k hk2 h2 => by
    rw [hq x hx hp] at hk2
    obtain ⟨-, a, b, c1, c2, e⟩ := hP _ hp
    rw [(hc x hx).1] at c2 e
    have e1 := e k (by unfold cWd at hk2; omega)
    rw [hgv x hx k hk2] at e1
    have a2 := v3 (3 * x + k) h2
    rw [show (3 * x + k) / 3 = x by unfold cWd at hk2; omega] at a2
    exact ⟨⟨Nat.lt_trans a2.2 hx, (zVo_2 e1 h2).2⟩, a2.2⟩
  obtain ⟨M, m1, m2⟩ := pC_of (kn := kn) (A := fun x => x < cn ∧ P x) (φ := fun x => x) (wd := cWd fd0 ck) (wd2 := fun c => (fd (Int32.toNatClampNeg (gk c))).toInt.toNat) (gk := gk) (gv := gv) (ck := ck) (cf := cf) (fun x y _ _ e => e) (fun x hx => hch x hx.1 hx.2) (fun x hx => ⟨(hc x hx.1).1, (by
    show (fd (Int32.toNatClampNeg (gk x))).toInt.toNat = _
    rw [hq x hx.1 hx.2, (hc x hx.1).1]
    all_goals rfl), fun k hk2 => by
    show vr (fun x => x) (cf (3 * x + k)) (gv (3 * x + k))
    rw [hq x hx.1 hx.2] at hk2
    obtain ⟨-, a, b, c1, c2, e⟩ := hP _ hx.2
    rw [(hc x hx.1).1] at c2 e
    have e1 := e k (by unfold cWd at hk2; omega)
    rw [hgv x hx.1 k hk2] at e1 ⊢
    exact vr_id (fun g => (zVo_2 e1 g).1)⟩)
  have hA : zhs re = 2 → Int32.toNatClampNeg re.toInt32 < cn ∧ P (Int32.toNatClampNeg re.toInt32) := fun g => ⟨(hre g).2, (zVo_2 hu g).2⟩
  refine ⟨fun y => ∃ x, (x < cn ∧ P x) ∧ x = y, M, fun y hy => ?_, fun y hy => (by obtain ⟨x, hx, rfl⟩ := hy; exact (hP _ hx.2).1), zVo_m hu (fun g => ⟨_, hA g, rfl⟩), m1, m2 re re (vr_id (fun g => (hre g).1)) hA⟩
  obtain ⟨x, ⟨hx, hp⟩, rfl⟩ := hy
  obtain ⟨a0, a, b, c1, c2, e⟩ := hP _ hp
  refine ⟨a0, a, b, c1, c2, fun k hk2 => zVo_m (e k hk2) (fun g => ?_)⟩
  have hk3 : k < cWd fd ck x := by
    rw [(hc x hx).1] at hk2
    unfold cWd
    omega
  rw [hgv x hx k hk3] at g ⊢
  exact ⟨_, (hch x hx hp k (by rw [hq x hx hp]; exact hk3) g).1, rfl⟩
/-- only the cells below n are asked for -/
theorem rPv_e {n : Nat} {kz : Int32} {kn : Int32 → List Int32} {fd gk gk2 : Nat → Int32} {gv gv2 : Nat → Int64} {u : Int64} {T : List Int32} (h : rPv n kz kn fd gk gv u T) (e1 : ∀ c, c < n → gk2 c = gk c) (e2 : ∀ j, j < 3 * n → gv2 j = gv j) : rPv n kz kn fd gk2 gv2 u T := by
  obtain ⟨P, M, h1, h2, h3, h4, h5⟩ := h
  have hg : ∀ c, P c → ∀ k : Nat, (k : Int) < (fd (Int32.toNatClampNeg (gk c))).toInt → gv2 (3 * c + k) = gv (3 * c + k) := fun c hc k hk => by
    have a := h2 c hc
    have b := (h1 c hc).2.2.2.2.1
    exact e2 _ (by omega)
  refine ⟨P, M, fun c hc => ?_, h2, h3, fun c hc => ?_, h5⟩
  · obtain ⟨a, b, d, e, f, g⟩ := h1 c hc
    rw [e1 c (h2 c hc)]
    exact ⟨a, b, d, e, f, fun k hk => by rw [hg c hc k hk]; exact g k hk⟩
  · show M c = kn (gk2 c) ++ 40 :: pFl kn M gv2 c ((fd (Int32.toNatClampNeg (gk2 c))).toInt.toNat) 0
    rw [e1 c (h2 c hc), h4 c hc, pFl_cg (gv := gv) (gv2 := gv2) (c := c) (c2 := c) (M := M) (M2 := M) _ 0 (fun j _ hj => by dsimp only at hj; rw [hg c hc j (by omega)])]

end
section
/-! the letters of a KIND: eight bits each, or six -/
theorem nb_dg {B : Nat} {d : Nat → Nat} (hB : 1 ≤ B) : ∀ (k m : Nat), (∀ j, j < k → d j < B) → m < k → nb_w B d k / B ^ m % B = d (k - 1 - m)
  | 0, m, _, h => absurd h (Nat.not_lt_zero _)
  | k + 1, 0, hd, _ => by
    show (nb_w B d k * B + d k) / 1 % B = d k
    rw [Nat.div_one, Nat.mul_add_mod_self_right, Nat.mod_eq_of_lt (hd k (Nat.lt_succ_self _))]
  | k + 1, m + 1, hd, h => by
    show (nb_w B d k * B + d k) / B ^ (m + 1) % B = d (k + 1 - 1 - (m + 1))
    have hk := hd k (Nat.lt_succ_self _)
    have e : (nb_w B d k * B + d k) / B = nb_w B d k := by
      rw [Nat.mul_comm, Nat.mul_add_div (by omega), Nat.div_eq_of_lt hk, Nat.add_zero]
    rw [Nat.pow_succ, Nat.mul_comm (B ^ m) B, ← Nat.div_div_eq_div_mul, e, nb_dg hB k m (fun j hj => hd j (by omega)) (by omega)]
    congr 1
    omega
theorem nb_z {B : Nat} {d : Nat → Nat} (hB : 1 ≤ B) {k m : Nat} (hd : ∀ j, j < k → d j < B) (h : k ≤ m) : nb_w B d k / B ^ m = 0 := Nat.div_eq_of_lt (Nat.lt_of_lt_of_le (nb_lt hB k hd) (Nat.pow_le_pow_right hB h))
theorem kb_sh : ∀ m : Fin 8, (Int64.toUInt64 (Int32.toInt64 (Int32.ofNat (8 * m.val))) &&& Int64.toUInt64 63) = UInt64.ofNat (8 * m.val) := by decide +kernel
theorem kb_m : ∀ m : Fin 8, (UInt64.ofNat (8 * m.val)).toNat % 64 = 8 * m.val := by decide +kernel
theorem pKb_n {a m : Nat} (hm : m < 8) (ha : a < 2 ^ 64) : pKb (Int64.ofNat a) (Int32.ofNat (8 * m)) = Int32.ofNat (a / 256 ^ m % 256) := by
  have e1 := kb_sh ⟨m, hm⟩
  have e2 := kb_m ⟨m, hm⟩
  have e1 : (Int64.toUInt64 (Int32.toInt64 (Int32.ofNat (8 * m))) &&& Int64.toUInt64 63) = UInt64.ofNat (8 * m) := e1
  have e2 : (UInt64.ofNat (8 * m)).toNat % 64 = 8 * m := e2
  unfold pKb
  rw [e1]
  apply Int32.toBitVec_inj.mp
  apply BitVec.eq_of_toNat_eq
  have h1 : ((Int64.ofNat a).toUInt64 >>> UInt64.ofNat (8 * m)).toNat = a / 2 ^ (8 * m) := by
    rw [UInt64.toNat_shiftRight, e2, Nat.shiftRight_eq_div_pow]
    have : (Int64.ofNat a).toUInt64.toNat = a := by
      show (Int64.ofNat a).toBitVec.toNat = a
      rw [Int64.toBitVec_ofNat', BitVec.toNat_ofNat, Nat.mod_eq_of_lt ha]
    rw [this]
  have h2 : ((((Int64.ofNat a).toUInt64 >>> UInt64.ofNat (8 * m)).toInt64.toInt32 &&& 255).toBitVec.toNat) = a / 2 ^ (8 * m) % 2 ^ 32 &&& 255 := by
    rw [Int32.toBitVec_and, BitVec.toNat_and]
    congr 1
    show (BitVec.signExtend 32 ((Int64.ofNat a).toUInt64 >>> UInt64.ofNat (8 * m)).toInt64.toBitVec).toNat = _
    rw [BitVec.signExtend_eq_setWidth_of_le _ (by decide), BitVec.toNat_setWidth]
    show ((Int64.ofNat a).toUInt64 >>> UInt64.ofNat (8 * m)).toNat % 2 ^ 32 = _
    rw [h1]
  rw [h2, Int32.toBitVec_ofNat', BitVec.toNat_ofNat, show (255 : Nat) = 2 ^ 8 - 1 from rfl, Nat.and_two_pow_sub_one_eq_mod, Nat.pow_mul]
  show a / 256 ^ m % 4294967296 % 256 = a / 256 ^ m % 256 % 4294967296
  omega
/-- the letters behind the first k - m -/
def pLr (g : Nat → Int32) (p k : Nat) : Nat → List Int32
  | 0 => []
  | m + 1 => g (p + (k - 1 - m)) :: pLr g p k m
theorem pLr_1 {g : Nat → Int32} {p k : Nat} : ∀ m, (pLr g p k m).length = m
  | 0 => rfl
  | m + 1 => by show (pLr g p k m).length + 1 = m + 1; rw [pLr_1 m]
section
variable {g : Nat → Int32} {p k : Nat}
theorem pKb_lx (hk : k ≤ 8) (hl : ∀ j, j < k → rx_lt (g (p + j)).toInt) {m : Nat} (hm : m < 8) : pKb (lx_w g p k) (Int32.ofNat (8 * m)) = if m < k then g (p + (k - 1 - m)) else 0 := by
  have b8 : ∀ j, j < k → rx_d8 g p j < 256 := fun j hj => by have := hl j hj; unfold rx_lt at this; unfold rx_d8; omega
  have l8 := Nat.lt_of_lt_of_le (nb_lt (by decide) k b8) (rx_p8 hk)
  rw [lx_w_nat k hk hl, pKb_n hm l8]
  by_cases u : m < k
  · rw [if_pos u, nb_dg (by decide) k m b8 u]
    have := hl (k - 1 - m) (by omega)
    unfold rx_lt at this
    apply Int32.toInt_inj.mp
    have e : (Int32.ofNat (rx_d8 g p (k - 1 - m))).toInt = ((rx_d8 g p (k - 1 - m) : Nat) : Int) := nI_toInt (by have := b8 (k - 1 - m) (by omega); omega)
    rw [e]
    unfold rx_d8
    omega
  · rw [if_neg u, nb_z (by decide) b8 (by omega)]
    all_goals rfl
theorem pKr_lx (hk : k ≤ 8) (hl : ∀ j, j < k → rx_lt (g (p + j)).toInt) : ∀ m, m ≤ 8 → pKr (lx_w g p k) m = pLr g p k (min m k)
  | 0, _ => by rw [Nat.zero_min] <;> rfl
  | m + 1, hm => by
    show (if pKb (lx_w g p k) (Int32.ofNat (8 * m)) = 0 then [] else [pKb (lx_w g p k) (Int32.ofNat (8 * m))]) ++ pKr (lx_w g p k) m = _
    rw [pKb_lx hk hl (by omega), pKr_lx hk hl m (by omega)]
    by_cases u : m < k
    · have := hl (k - 1 - m) (by omega)
      unfold rx_lt at this
      rw [if_pos u, if_neg (fun e => by rw [e] at this; have h0 : Int32.toInt 0 = 0 := (by decide); omega), show min (m + 1) k = m + 1 by omega, show min m k = m by omega]
      all_goals rfl
    · rw [if_neg u, if_pos rfl, show min (m + 1) k = k by omega, show min m k = k by omega]
      all_goals rfl
theorem pKw_lx (hk : k ≤ 8) (hl : ∀ j, j < k → rx_lt (g (p + j)).toInt) : pKw (lx_w g p k) = pLr g p k k := by
  unfold pKw
  rw [pKr_lx hk hl 8 (Nat.le_refl _), show min 8 k = k by omega]
theorem rk_sh : ∀ m : Fin 9, ((Int32.toInt64 (Int32.ofNat (6 * m.val)) &&& 63).toBitVec.smod 64) = BitVec.ofNat 64 (6 * m.val) := by decide +kernel
theorem rk_n {a m : Nat} {y : Int32} (hy : y.toInt = 6 * (m : Int)) (hm : m ≤ 8) (ha : a < 2 ^ 63) : (Int64.ofNat a >>> (y.toInt64 &&& 63)).toInt = ((a / 64 ^ m : Nat) : Int) := by
  have h6 : (Int32.ofNat (6 * m)).toInt = ((6 * m : Nat) : Int) := nI_toInt (by omega)
  obtain rfl : y = Int32.ofNat (6 * m) := Int32.toInt_inj.mp (by rw [h6, hy]; omega)
  have e := rk_sh ⟨m, by omega⟩
  have e : ((Int32.toInt64 (Int32.ofNat (6 * m)) &&& 63).toBitVec.smod 64) = BitVec.ofNat 64 (6 * m) := e
  show (Int64.ofNat a >>> ((Int32.ofNat (6 * m)).toInt64 &&& 63)).toBitVec.toInt = _
  rw [Int64.toBitVec_shiftRight, e]
  show ((Int64.ofNat a).toBitVec.sshiftRight (BitVec.ofNat 64 (6 * m)).toNat).toInt = _
  rw [BitVec.toNat_ofNat, Nat.mod_eq_of_lt (by omega), BitVec.toInt_sshiftRight]
  have h1 : (Int64.ofNat a).toBitVec.toInt = (a : Int) := lg_ofNat_toInt ha
  rw [h1, Int.shiftRight_eq_div_pow, Nat.pow_mul]
  all_goals rfl
theorem rk_lt (hk : k ≤ 8) (hl : ∀ j, j < k → rx_lt (g (p + j)).toInt) {w x : Int64} {y : Int32} {m : Nat} (ew : w = rx_w g p k) (hy : y.toInt = 6 * (m : Int)) (hm : m ≤ k) (ex : x = w >>> (y.toInt64 &&& 63)) : (x.toInt = 0 ↔ m = k) ∧ (m < k → ∃ n : Nat, x = Int64.ofNat n ∧ n < 2 ^ 63 ∧ n % 64 + 64 = (g (p + (k - 1 - m))).toInt.toNat) := by
  have b6 : ∀ j, j < k → 1 ≤ rx_d6 g p j ∧ rx_d6 g p j < 64 := fun j hj => by have := hl j hj; unfold rx_lt at this; unfold rx_d6; omega
  have b7 : ∀ j, j < k → rx_d6 g p j < 64 := fun j hj => (b6 j hj).2
  have l6 := nb_lt (B := 64) (d := rx_d6 g p) (by decide) k b7
  have p6 : (64 : Nat) ^ k ≤ 64 ^ 8 := Nat.pow_le_pow_right (by decide) hk
  have p7 : (64 : Nat) ^ 8 < 2 ^ 63 := by decide
  have la : nb_w 64 (rx_d6 g p) k < 2 ^ 63 := by omega
  have e := rk_n (a := nb_w 64 (rx_d6 g p) k) hy (by omega) la
  rw [← rx_w_nat k hk hl, ← ew, ← ex] at e
  have hd : nb_w 64 (rx_d6 g p) k / 64 ^ m ≤ nb_w 64 (rx_d6 g p) k := Nat.div_le_self _ _
  refine ⟨⟨fun h => ?_, fun h => ?_⟩, fun h => ?_⟩
  · by_cases u : m = k
    · exact u
    · exfalso
      have q := nb_dg (B := 64) (d := rx_d6 g p) (by decide) k m b7 (by omega)
      have q2 := b6 (k - 1 - m) (by omega)
      generalize nb_w 64 (rx_d6 g p) k / 64 ^ m = z at e q
      omega
  · rw [e, h, nb_z (by decide) b7 (Nat.le_refl _)]
    all_goals rfl
  · refine ⟨nb_w 64 (rx_d6 g p) k / 64 ^ m, ?_, by omega, ?_⟩
    · apply Int64.toInt_inj.mp
      rw [e, lg_ofNat_toInt (by omega)]
    · rw [nb_dg (by decide) k m b7 h]
      have := hl (k - 1 - m) (by omega)
      unfold rx_lt at this
      unfold rx_d6
      omega
end
theorem and_63 {n : Nat} (hn : n < 2 ^ 63) : (Int64.ofNat n &&& 63) = Int64.ofNat (n % 64) := by
  apply Int64.toBitVec_inj.mp
  apply BitVec.eq_of_toNat_eq
  rw [Int64.toBitVec_and, BitVec.toNat_and, Int64.toBitVec_ofNat', Int64.toBitVec_ofNat', BitVec.toNat_ofNat, BitVec.toNat_ofNat, Nat.mod_eq_of_lt (show n < 2 ^ 64 by omega), Nat.mod_eq_of_lt (show n % 64 < 2 ^ 64 by omega)]
  show n &&& (2 ^ 6 - 1) = n % 2 ^ 6
  rw [Nat.and_two_pow_sub_one_eq_mod]
theorem l2i_n {n : Nat} (hn : n < 64) : (Int64.ofNat n).toInt32.toInt = (n : Int) := by
  rw [Int64.toInt_toInt32, lg_ofNat_toInt (by omega), Int.bmod_def]
  omega
/-- a KIND's letters, one behind the other -/
theorem rk_c {g : Nat → Int32} {p k m n : Nat} {x x2 : Int64} {x3 c : Int32} (hl : ∀ j, j < k → rx_lt (g (p + j)).toInt) (h : m < k) (e1 : x = Int64.ofNat n) (hn : n < 2 ^ 63) (e2 : x2 = x &&& 63) (e3 : x3 = x2.toInt32) (hc : c.toInt = x3.toInt + 64) (e : n % 64 + 64 = (g (p + (k - 1 - m))).toInt.toNat) : c = g (p + (k - 1 - m)) := by
  apply Int32.toInt_inj.mp
  have := hl (k - 1 - m) (by omega)
  unfold rx_lt at this
  rw [hc, e3, e2, e1, and_63 hn, l2i_n (Nat.mod_lt _ (by decide))]
  omega
theorem pLr_s {g : Nat → Int32} {p k m m2 : Nat} {X T : List Int32} {c : Int32} (h : X ++ pLr g p k m2 = T) (e : m2 = m + 1) (ec : c = g (p + (k - 1 - m))) : (X ++ [c]) ++ pLr g p k m = T := by
  subst e
  rw [List.append_assoc, ec]
  exact h
/-- every KIND shows a byte at least -/
def pkO (o : Option (sp_S × sp_F)) : Prop := ∀ s F, o = some (s, F) → ∀ k, k < s.2.1 → 1 ≤ (pKw (s.2.2.1 k)).length
theorem cv_1 {w v : Int64} (h : sp_cv w v) (h1 : 1 ≤ v.toInt) : ∃ (g : Nat → Int32) (p k : Nat), 1 ≤ k ∧ k ≤ 8 ∧ (∀ j, j < k → rx_lt (g (p + j)).toInt) ∧ w = lx_w g p k ∧ v = rx_w g p k := by
  obtain ⟨g, p, k, hk, hl, e1, e2⟩ := h
  refine ⟨g, p, k, ?_, hk, hl, e1, e2⟩
  cases k with
  | zero => rw [e2] at h1; exact absurd (show 1 ≤ (0 : Int64).toInt from h1) (by decide)
  | succ k => omega
theorem pkO_of {B : Nat → Nat → Int32} {fd mk fs bo td wd : Nat → Int32} {nm kn fn : Nat → Int64} {kz nf pz tk : Int32} {o : Option (sp_S × sp_F)} (hp : (tk.toInt = 0 ∧ o = none) ∨ (tk.toInt ≠ 0 ∧ rx_pp o kn fd kz fn td nf B nm fs bo pz wd mk ∧ ∀ q, o = some q → wfF q.1 q.2 ∧ syF q.2)) (hk : zkn kz kn) (hz : 0 ≤ kz.toInt) : pkO o := fun s F e k hk2 => by
  rcases hp with ⟨-, p2⟩ | ⟨-, ⟨s1, kw, kf, fw, ft, G, e0, e1, e2, e3, e4, -⟩, -⟩
  · rw [p2] at e; cases e
  · rw [e0] at e
    cases e
    have := zn_nat hz
    have q : (k : Int) < kz.toInt := by omega
    obtain ⟨g, p, n, n1, n8, hl, w1, -⟩ := cv_1 (e4 k q).1 (hk k q).1
    rw [e2, w1, pKw_lx n8 hl, pLr_1]
    exact n1

end
section
/-! what show would write behind a run: the class -/
def cSv (hv : Int32) (o : Option (sp_S × sp_F)) (W : Option (List Int32)) (n : Int) (kz : Int32) (kw : Nat → Int64) (kf gk : Nat → Int32) (gv : Nat → Int64) (u : Int64) : Prop := (hv.toInt = 0 ∧ W = none) ∨ (hv.toInt ≠ 0 ∧ o ≠ none ∧ ∃ T, W = some T ∧ cPv n kz kw kf gk gv u T)
def rSv (n : Nat) (hv : Int32) (o : Option (sp_S × sp_F)) (W : Option (List Int32)) (kz : Int32) (fd gk : Nat → Int32) (gv : Nat → Int64) (u : Int64) : Prop := (hv.toInt = 0 ∧ W = none) ∨ (hv.toInt ≠ 0 ∧ ∃ (s : sp_S) (F : sp_F) (T : List Int32), o = some (s, F) ∧ W = some T ∧ rPv n kz (pKn (s.2.1 : Int) s.2.2.1) fd gk gv u T)
theorem rs_C {S : Nat → Nat → Int32} {nx : Nat → Int32} {cz az kz fz f cs al a b c d r : Int32} {kw : Nat → Int64} {kf en ff : Nat → Int32} {fw : Nat → Int64} {o : Option (sp_S × sp_F)} {gk gc gk0 : Nat → Int32} {gv gv0 : Nat → Int64} {fr fi he st md ru mo db om : Int32} {re hva hva0 : Int64} {hwr hrs hrc fd hhv wr0 st0 md0 ru0 fd0 mo0 db0 he0 om0 hv0 : Int32} {D : shS} (h : (f.toInt < 0 ∨ fz.toInt ≤ f.toInt ∨ al.toInt < 0 ∨ 20000 < al.toInt ∨ cs.toInt < 0 ∨ 400 < cs.toInt) ∧ r.toInt = -1 ∧ (hwr = wr0 ∧ hrs = st0 ∧ md = md0 ∧ ru = ru0 ∧ fd = fd0 ∧ mo = mo0 ∧ db = db0 ∧ he = he0 ∧ hrc = om0 ∧ hhv = hv0) ∨ (0 ≤ f.toInt ∧ f.toInt < fz.toInt ∧ 0 ≤ al.toInt ∧ al.toInt ≤ 20000 ∧ 0 ≤ cs.toInt ∧ cs.toInt ≤ 400) ∧ ∃ (s : sp_S) (F : sp_F), o = some (s, F) ∧ ∃ hq : Int32, cEo (Int32.toNatClampNeg kz) kz kf F (Int32.toInt cs) (Int32.toNatClampNeg al) (cm_s0 F (Int32.toNatClampNeg f) a b c d) gk gc gv fr fi hq st md ru mo db om r re ∧ (hwr.toInt = 1 ∧ hrs = st ∧ hrc = om ∧ Int32.toInt fd + Int32.toInt hq = Int32.toInt md ∧ hva = re ∧ (hhv.toInt = 1 ∧ r.toInt = 1 ∧ he = hq ∨ hhv.toInt = 0 ∧ r.toInt ≠ 1 ∧ he.toInt = 0))) (hun : r.toInt ≠ -1 ∨ (gk = gk0 ∧ gv = gv0 ∧ hva = hva0 ∧ hhv = hv0)) (hz : (o = none → fz.toInt = 0) ∧ ∀ s F, o = some (s, F) → cZZ S nx cz az kz fz kw kf en ff fw s F ∧ wfF s F ∧ syF F) (h0 : 0 ≤ fz.toInt) (hk : 0 ≤ kz.toInt ∧ kz.toInt ≤ 20) (hs : cSv hv0 o D.1 400 kz kw kf gk0 gv0 hva0) : ∃ D2 : shS, rsC o f cs al a b c d r D D2 ∧ cSv hhv o D2.1 400 kz kw kf gk gv hva ∧ D2.2 = D.2 := by
  have nf := zn_nat h0
  have nk := zn_nat hk.1
  rcases h with ⟨h, e, -⟩ | ⟨h, s, F, e, hq, ⟨hw, n, mdn, run, mon, dbn, omn, p, k1, k2, k3, ⟨K, V, E, c9, ck, cf, Sh, k4, k5⟩, k6⟩, g1, g2, g3, g4, g5, g6⟩
  · obtain ⟨q1, q2, q3, q4⟩ := hun.resolve_left (fun g => g e)
    refine ⟨D, Or.inl ⟨fun s F g u => ?_, rfl⟩, by rw [q1, q2, q3, q4]; exact hs, rfl⟩
    have := (hz.2 s F g).1.2.2.2.1
    obtain ⟨u1, u2, u3, u4, u5⟩ := u
    omega
  · obtain ⟨z1, z2, z3⟩ := hz.2 s F e
    have e4 := z1.2.2.2.1
    have hP := cPx_of z1 z2 z3 h0
    have nff := zn_nat h.1
    refine ⟨(pOf hw s (K, V, E, n, c9, ck, cf), D.2), Or.inr ⟨s, F, e, ⟨h.1, by omega, ⟨h.2.2.1, h.2.2.2.1⟩, h.2.2.2.2⟩, hw, p, ((K, V, E, n, c9, ck, cf), (Sh, mdn, run, mon, dbn, omn)), k1, rfl, fun fd hfd => (fx_ouh (zk := Int32.toNatClampNeg kz) (fd := kf) (fd2 := fd) (show Int32.toNatClampNeg kz ≤ 1000000 by omega) (fun k hk2 => by rw [hfd k (by rw [z1.1]; exact hk2), z1.2.2.1]) (cPx_fx hP) (by omega) k4).1⟩, ?_, rfl⟩
    show cSv hhv o (pOf hw s (K, V, E, n, c9, ck, cf)) 400 kz kw kf gk gv hva
    rcases g6 with ⟨u1, u2, -⟩ | ⟨u1, u2, -⟩
    · have hw1 : hw = 1 := by omega
      subst hw1
      obtain ⟨FL, -, v, c8, ck8, cf8, ph, lv, gA, j1, j2, j3⟩ := k6 rfl
      have q := cm_ou_1 k4 j1
      cases q
      refine Or.inr ⟨by omega, by rw [e]; exact (fun g9 => by cases g9), _, if_pos rfl, ?_⟩
      have y := cPv_c (kw := kw) nk.symm j2 j3 (fun x => by show zr v x ≤ (zr v x + 0) + 0; omega)
      unfold pT
      rw [z1.1, z1.2.1, z1.2.2.1, nk, g5]
      exact y
    · exact Or.inl ⟨u1, if_neg (by omega)⟩
/-- plain -/
theorem ps_C {S : Nat → Nat → Int32} {nx : Nat → Int32} {cz az kz fz f al a b c d r : Int32} {kw : Nat → Int64} {kf en ff : Nat → Int32} {fw : Nat → Int64} {o : Option (sp_S × sp_F)} {gk gk0 : Nat → Int32} {gv gv0 : Nat → Int64} {fr hhv hv0 : Int32} {hva hva0 : Int64} {D : shS} (h : (f.toInt < 0 ∨ fz.toInt ≤ f.toInt ∨ al.toInt < 0 ∨ 20000 < al.toInt) ∧ r.toInt = -1 ∨ (0 ≤ f.toInt ∧ f.toInt < fz.toInt ∧ 0 ≤ al.toInt ∧ al.toInt ≤ 20000) ∧ ∃ (s : sp_S) (F : sp_F), o = some (s, F) ∧ cEn F (Int32.toNatClampNeg al) (pm_s0 F (Int32.toNatClampNeg f) a b c d) r ∧ (r.toInt = 1 → cPe kz kf F (Int32.toNatClampNeg al) (pm_s0 F (Int32.toNatClampNeg f) a b c d) gk gv fr hva) ∧ (hhv.toInt = 1 ∧ r.toInt = 1 ∨ hhv.toInt = 0 ∧ r.toInt ≠ 1)) (hun : r.toInt ≠ -1 ∨ (gk = gk0 ∧ gv = gv0 ∧ hva = hva0 ∧ hhv = hv0)) (hz : (o = none → fz.toInt = 0) ∧ ∀ s F, o = some (s, F) → cZZ S nx cz az kz fz kw kf en ff fw s F ∧ wfF s F ∧ syF F) (h0 : 0 ≤ fz.toInt) (hk : 0 ≤ kz.toInt ∧ kz.toInt ≤ 20) (h3 : ∀ k, zfk kz kf k ≤ 3) (h30 : ∀ k, 0 ≤ zfk kz kf k) (hfr : hhv.toInt = 1 → fr.toInt ≤ 4000) (hs : cSv hv0 o D.2.1 4000 kz kw kf gk0 gv0 hva0) : ∃ D2 : shS, psR o f al a b c d r D D2 ∧ cSv hhv o D2.2.1 4000 kz kw kf gk gv hva ∧ D2.1 = D.1 ∧ D2.2.2 = D.2.2 := by
  have nf := zn_nat h0
  have nk := zn_nat hk.1
  rcases h with ⟨h, e⟩ | ⟨h, s, F, e, k1, k2, g6⟩
  · obtain ⟨q1, q2, q3, q4⟩ := hun.resolve_left (fun g => g e)
    refine ⟨D, Or.inl ⟨fun s F g => ?_, rfl⟩, by rw [q1, q2, q3, q4]; exact hs, rfl, rfl⟩
    have := (hz.2 s F g).1.2.2.2.1
    omega
  · obtain ⟨z1, z2, z3⟩ := hz.2 s F e
    have e4 := z1.2.2.2.1
    have hP := cPx_of z1 z2 z3 h0
    have nff := zn_nat h.1
    rcases g6 with ⟨u1, u2⟩ | ⟨u1, u2⟩
    · obtain ⟨sn, cn, ck, cf, j1, j2, j3⟩ := k2 u2
      obtain ⟨o1, o2⟩ := ok_re (zk := Int32.toNatClampNeg kz) (fd := kf) j1
      have o3 := o2 (show Int32.toNatClampNeg kz ≤ 1000000 by omega) (cPx_fx hP) (by omega)
      have y := cPv_p (kw := kw) nk.symm j3 (by have := hfr u1; omega) h3 h30 o1 o3
      refine ⟨(D.1, some (pT s ([], [hva], [], sn, cn, ck, cf)), D.2.2), Or.inr ⟨s, F, e, ⟨h.1, by omega, h.2.2⟩, k1, Or.inl ⟨u2, _, j1, rfl, rfl⟩⟩, Or.inr ⟨by omega, by rw [e]; exact (fun g9 => by cases g9), _, rfl, ?_⟩, rfl, rfl⟩
      unfold pT
      rw [z1.1, z1.2.1, z1.2.2.1, nk]
      exact y
    · exact ⟨(D.1, none, D.2.2), Or.inr ⟨s, F, e, ⟨h.1, by omega, h.2.2⟩, k1, Or.inr ⟨u2, rfl⟩⟩, Or.inl ⟨u1, rfl⟩, rfl, rfl⟩
/-! the reference -/
def rEu (F : sp_F) (fd : Nat → Int32) (lim : Int) (al : Nat) (s0 : cm_S) (u : Int64) (gk gc : Nat → Int32) (gv : Nat → Int64) : Prop := ∃ (v : Int64) (n c : Nat) (ck : Nat → Int32) (cf : Nat → Int64) (X : cm_X) (ph : Nat → Nat) (lv : Nat → Bool) (gA : Nat → Int), cm_ou F fd lim al s0 (1, -1, (([], [v], [], n, c, ck, cf), X)) ∧ vr ph v u ∧ hZ ph lv gA c (cWd fd ck) ck cf (fun x => zr v x) [] gk gc gv
theorem rEu_of {F : sp_F} {fd : Nat → Int32} {lim : Int} {al : Nat} {s0 : cm_S} {gi : Int} {va : Nat → Int64} {vd n : Nat} {ck gc : Nat → Int32} {cf : Nat → Int64} {fr : Nat → Int32} {fc : Int} {md ru : Nat} {mo : Int} {db om : Nat} {u : Int64} (h : rEv F fd lim al s0 gi va vd n ck gc cf fr fc md ru mo db om) (hv : vd = 1) (hu : u = va 0) : rEu F fd lim al s0 u ck gc cf := by
  subst hv
  obtain ⟨V, c, ck', cf', ph, lv, gA, h1, h2, h3, h4⟩ := h
  obtain ⟨v, rfl⟩ : ∃ v, V = [v] := by
    cases V with
    | nil => exact absurd h2.1 (by decide)
    | cons v V =>
      cases V with
      | nil => exact ⟨v, rfl⟩
      | cons w V => exact absurd h2.1 (by show V.length + 1 + 1 ≠ 1; omega)
  refine ⟨v, n, c, ck', cf', _, ph, lv, gA, h1, ?_, hZ_R h3 (fun x => by show zr v x = zr v x + 0; omega)⟩
  rw [hu]
  exact h2.2 0 (by decide)
theorem rq_R2 {B : Nat → Nat → Int32} {wh ow on tw th be ma fd us bh mk fs bo td wd : Nat → Int32} {nm kn fn : Nat → Int64} {kz nf pz tk f cs al a b c d r wr : Int32} {o : Option (sp_S × sp_F)} {hr2 st2 md2 ru2 fe2 mo2 db2 gi2 fc2 om2 hv2 hr1 st1 md1 ru1 fe1 mo1 db1 gi1 fc1 om1 hv1 : Int32} {gk gc : Nat → Int32} {gv : Nat → Int64} {vl : Int64} (h : (tk.toInt = 0 ∨ f.toInt < 0 ∨ nf.toInt ≤ f.toInt ∨ al.toInt < 0 ∨ 20000 < al.toInt ∨ cs.toInt < 0 ∨ 400 < cs.toInt) ∧ r.toInt = -1 ∧ (hr2 = hr1 ∧ st2 = st1 ∧ md2 = md1 ∧ ru2 = ru1 ∧ fe2 = fe1 ∧ mo2 = mo1 ∧ db2 = db1 ∧ gi2 = gi1 ∧ fc2 = fc1 ∧ om2 = om1 ∧ hv2 = hv1) ∨ (tk.toInt ≠ 0 ∧ 0 ≤ f.toInt ∧ f.toInt < nf.toInt ∧ 0 ≤ al.toInt ∧ al.toInt ≤ 20000 ∧ 0 ≤ cs.toInt ∧ cs.toInt ≤ 400) ∧ ∃ (s : sp_S) (F : sp_F), o = some (s, F) ∧ ∃ fx : Int, rXq F fd (Int32.toInt cs) (Int32.toNatClampNeg al) (cm_s0 F (Int32.toNatClampNeg f) a b c d) (Int32.toInt cs) r wr (Int32.toNatClampNeg st2) (Int32.toNatClampNeg md2) (Int32.toNatClampNeg ru2) (Int32.toInt mo2) (Int32.toNatClampNeg db2) (Int32.toNatClampNeg om2) fx ∧ fe2.toInt = md2.toInt - (cs.toInt - fx) ∧ hr2.toInt = 1 ∧ gi2 = cs ∧ (0 ≤ st2.toInt ∧ 0 ≤ md2.toInt ∧ 0 ≤ ru2.toInt ∧ 0 ≤ db2.toInt ∧ 0 ≤ om2.toInt) ∧ (r.toInt = 1 ∧ hv2.toInt = 1 ∧ fc2.toInt = fx ∨ r.toInt ≠ 1 ∧ hv2.toInt = 0 ∧ fc2.toInt = cs.toInt) ∧ (r.toInt = 1 → rEu F fd (Int32.toInt cs) (Int32.toNatClampNeg al) (cm_s0 F (Int32.toNatClampNeg f) a b c d) vl gk gc gv)) (hp : (tk.toInt = 0 ∧ o = none) ∨ (tk.toInt ≠ 0 ∧ rx_pp o kn fd kz fn td nf B nm fs bo pz wd mk ∧ ∀ q, o = some q → wfF q.1 q.2 ∧ syF q.2)) (hr : tk.toInt = 0 ∨ zRd wh ow on tw th be ma fd kz us bh fs bo td nf pz) (hk : 0 ≤ kz.toInt) : rqX o f cs al a b c d r (cnF hr1.toInt st1.toInt md1.toInt ru1.toInt fe1.toInt mo1.toInt db1.toInt (gi1.toInt - fc1.toInt) om1.toInt hv1.toInt) (cnF hr2.toInt st2.toInt md2.toInt ru2.toInt fe2.toInt mo2.toInt db2.toInt (gi2.toInt - fc2.toInt) om2.toInt hv2.toInt) := rq_R (wr := wr) (fd := fd) (by
  rcases h with h | ⟨h, s, F, e, fx, b1, b2, b3, b4, b5, b6, -⟩
  · exact Or.inl h
  · exact Or.inr ⟨h, s, F, e, fx, b1, b2, b3, b4, b5, b6⟩) hp hr hk
theorem rs_R {B : Nat → Nat → Int32} {wh ow on tw th be ma fd us bh mk fs bo td wd : Nat → Int32} {nm kn fn : Nat → Int64} {kz nf pz tk f cs al a b c d r wr : Int32} {o : Option (sp_S × sp_F)} {hr2 st2 md2 ru2 fe2 mo2 db2 gi2 fc2 om2 hv2 hr1 st1 md1 ru1 fe1 mo1 db1 gi1 fc1 om1 hv1 : Int32} {gk gc gk0 : Nat → Int32} {gv gv0 : Nat → Int64} {vl vl0 : Int64} {D : shS} (h : (tk.toInt = 0 ∨ f.toInt < 0 ∨ nf.toInt ≤ f.toInt ∨ al.toInt < 0 ∨ 20000 < al.toInt ∨ cs.toInt < 0 ∨ 400 < cs.toInt) ∧ r.toInt = -1 ∧ (hr2 = hr1 ∧ st2 = st1 ∧ md2 = md1 ∧ ru2 = ru1 ∧ fe2 = fe1 ∧ mo2 = mo1 ∧ db2 = db1 ∧ gi2 = gi1 ∧ fc2 = fc1 ∧ om2 = om1 ∧ hv2 = hv1) ∨ (tk.toInt ≠ 0 ∧ 0 ≤ f.toInt ∧ f.toInt < nf.toInt ∧ 0 ≤ al.toInt ∧ al.toInt ≤ 20000 ∧ 0 ≤ cs.toInt ∧ cs.toInt ≤ 400) ∧ ∃ (s : sp_S) (F : sp_F), o = some (s, F) ∧ ∃ fx : Int, rXq F fd (Int32.toInt cs) (Int32.toNatClampNeg al) (cm_s0 F (Int32.toNatClampNeg f) a b c d) (Int32.toInt cs) r wr (Int32.toNatClampNeg st2) (Int32.toNatClampNeg md2) (Int32.toNatClampNeg ru2) (Int32.toInt mo2) (Int32.toNatClampNeg db2) (Int32.toNatClampNeg om2) fx ∧ fe2.toInt = md2.toInt - (cs.toInt - fx) ∧ hr2.toInt = 1 ∧ gi2 = cs ∧ (0 ≤ st2.toInt ∧ 0 ≤ md2.toInt ∧ 0 ≤ ru2.toInt ∧ 0 ≤ db2.toInt ∧ 0 ≤ om2.toInt) ∧ (r.toInt = 1 ∧ hv2.toInt = 1 ∧ fc2.toInt = fx ∨ r.toInt ≠ 1 ∧ hv2.toInt = 0 ∧ fc2.toInt = cs.toInt) ∧ (r.toInt = 1 → rEu F fd (Int32.toInt cs) (Int32.toNatClampNeg al) (cm_s0 F (Int32.toNatClampNeg f) a b c d) vl gk gc gv)) (hun : r.toInt ≠ -1 ∨ (gk = gk0 ∧ gv = gv0 ∧ vl = vl0 ∧ hv2 = hv1)) (hp : (tk.toInt = 0 ∧ o = none) ∨ (tk.toInt ≠ 0 ∧ rx_pp o kn fd kz fn td nf B nm fs bo pz wd mk ∧ ∀ q, o = some q → wfF q.1 q.2 ∧ syF q.2)) (hr : tk.toInt = 0 ∨ zRd wh ow on tw th be ma fd kz us bh fs bo td nf pz) (hk : 0 ≤ kz.toInt) (hvp : hv2.toInt = 0 ∨ ∃ P : Nat → Prop, zVc P kz fd gk gv ∧ zVo P kz vl) (hs : rSv 400 hv1 o D.1 kz fd gk0 gv0 vl0) : ∃ D2 : shS, rsX o f cs al a b c d r D D2 ∧ rSv 400 hv2 o D2.1 kz fd gk gv vl ∧ D2.2 = D.2 := by
  have nk := zn_nat hk
  rcases hp with ⟨p1, p2⟩ | ⟨p1, ⟨s, kw, kf, fw, ft, G, e, e1, e2, e3, e4, -⟩, -⟩
  · rcases h with ⟨-, e, -⟩ | ⟨h, -⟩
    · obtain ⟨q1, q2, q3, q4⟩ := hun.resolve_left (fun g => g e)
      exact ⟨D, Or.inl ⟨fun s F g => (by rw [p2] at g; cases g), rfl⟩, by rw [q1, q2, q3, q4]; exact hs, rfl⟩
    · exact absurd p1 h.1
  · obtain ⟨-, -, n0, -⟩ := hr.resolve_left p1
    have nn := zn_nat n0
    rcases h with ⟨h, e5, -⟩ | ⟨h, s2, F2, e5, fx, ⟨hw, p, k1, -, K, V, E, c9, ck, cf, Sh, k2, k3⟩, -, -, -, -, g1, g2⟩
    · obtain ⟨q1, q2, q3, q4⟩ := hun.resolve_left (fun g => g e5)
      refine ⟨D, Or.inl ⟨fun s2 F2 g u => ?_, rfl⟩, by rw [q1, q2, q3, q4]; exact hs, rfl⟩
      rw [e] at g
      cases g
      obtain ⟨u1, u2, u3, u4, u5⟩ := u
      have u2 : f.toInt < ((Int32.toNatClampNeg nf : Nat) : Int) := u2
      omega
    · rw [e] at e5
      cases e5
      refine ⟨(pOf hw s (K, V, E, Int32.toNatClampNeg st2, c9, ck, cf), D.2), Or.inr ⟨_, _, e, ⟨h.2.1, by show f.toInt < ((Int32.toNatClampNeg nf : Nat) : Int); omega, ⟨h.2.2.2.1, h.2.2.2.2.1⟩, h.2.2.2.2.2⟩, fd, hw, p, ((K, V, E, Int32.toNatClampNeg st2, c9, ck, cf), (Sh, Int32.toNatClampNeg md2, Int32.toNatClampNeg ru2, Int32.toInt mo2, Int32.toNatClampNeg db2, Int32.toNatClampNeg om2)), fun k hk2 => by rw [e3]; exact ((e4 k (by omega)).2).symm, k1, rfl, k2⟩, ?_, rfl⟩
      show rSv 400 hv2 o (pOf hw s (K, V, E, Int32.toNatClampNeg st2, c9, ck, cf)) kz fd gk gv vl
      rcases g1 with ⟨u1, u2, -⟩ | ⟨u1, u2, -⟩
      · have hw1 : hw = 1 := by omega
        subst hw1
        obtain ⟨v, n, c8, ck8, cf8, X, ph, lv, gA, j1, j2, j3⟩ := g2 u1
        have q := cm_ou_1 k2 j1
        cases q
        obtain ⟨P, P1, P2⟩ := hvp.resolve_left (by omega)
        refine Or.inr ⟨by omega, s, _, _, e, if_pos rfl, ?_⟩
        exact rPv_c (fd0 := s.2.2.2.1) (fun k hk2 => by rw [e3]; exact ((e4 k hk2).2).symm) j2 j3 (fun x => Int.le_refl _) P1 P2
      · exact Or.inl ⟨u2, if_neg (by omega)⟩
def rPp (fd : Nat → Int32) (F : sp_F) (al : Nat) (s0 : pm_S) (u : Int64) (ck : Nat → Int32) (cf : Nat → Int64) : Prop := ∃ (E : List (Nat → Int64)) (n c : Nat) (ck' : Nat → Int32) (cf' : Nat → Int64), pm_re F al s0 ([], [u], E, n, c, ck', cf') ∧ rCe fd ck cf c ck' cf'
theorem rPp_of {fd : Nat → Int32} {F : sp_F} {al : Nat} {s0 : pm_S} {va : Nat → Int64} {vd np : Nat} {ck ok : Nat → Int32} {cf of : Nat → Int64} {u : Int64} (h : rPe fd F al s0 va vd np ck cf) (hv : vd = 1) (hu : u = va 0) (h3 : ∀ i, i < np → (fd (Int32.toNatClampNeg (ck i))).toInt ≤ 3) (hk : ∀ i, i < np → ok i = ck i) (hf : ∀ j, j < 3 * np → of j = cf j) : rPp fd F al s0 u ok of := by
  subst hv
  obtain ⟨V, E, n, ck', cf', h1, h2, h4⟩ := h
  obtain ⟨v, rfl⟩ : ∃ v, V = [v] := by
    cases V with
    | nil => exact absurd h2.1 (by decide)
    | cons v V =>
      cases V with
      | nil => exact ⟨v, rfl⟩
      | cons w V => exact absurd h2.1 (by show V.length + 1 + 1 ≠ 1; omega)
  have e : va 0 = v := h2.2 0 (by decide)
  refine ⟨E, n, np, ck', cf', by rw [hu, e]; exact h1, fun i hi => ⟨(hk i hi).trans (h4 i hi).1, fun k hk2 => ?_⟩⟩
  have a := h3 i hi
  rw [(h4 i hi).1] at a
  rw [hf (3 * i + k) (by omega)]
  exact (h4 i hi).2 k hk2
theorem ps_R {B : Nat → Nat → Int32} {wh ow on tw th be ma fd us bh mk fs bo td wd : Nat → Int32} {nm kn fn : Nat → Int64} {kz nf pz tk f al a b c d r wr : Int32} {o : Option (sp_S × sp_F)} {hv2 hv1 : Int32} {gk gk0 : Nat → Int32} {gv gv0 : Nat → Int64} {vl vl0 : Int64} {D : shS} (h : (tk.toInt = 0 ∨ f.toInt < 0 ∨ nf.toInt ≤ f.toInt ∨ al.toInt < 0 ∨ 20000 < al.toInt) ∧ r.toInt = -1 ∨ (tk.toInt ≠ 0 ∧ 0 ≤ f.toInt ∧ f.toInt < nf.toInt ∧ 0 ≤ al.toInt ∧ al.toInt ≤ 20000) ∧ ∃ (s : sp_S) (F : sp_F), o = some (s, F) ∧ rXo F (Int32.toNatClampNeg al) (pm_s0 F (Int32.toNatClampNeg f) a b c d) r wr ∧ (r.toInt = 1 ∧ hv2.toInt = 1 ∨ r.toInt ≠ 1 ∧ hv2.toInt = 0) ∧ (r.toInt = 1 → rPp fd F (Int32.toNatClampNeg al) (pm_s0 F (Int32.toNatClampNeg f) a b c d) vl gk gv)) (hun : r.toInt ≠ -1 ∨ (gk = gk0 ∧ gv = gv0 ∧ vl = vl0 ∧ hv2 = hv1)) (hp : (tk.toInt = 0 ∧ o = none) ∨ (tk.toInt ≠ 0 ∧ rx_pp o kn fd kz fn td nf B nm fs bo pz wd mk ∧ ∀ q, o = some q → wfF q.1 q.2 ∧ syF q.2)) (hr : tk.toInt = 0 ∨ zRd wh ow on tw th be ma fd kz us bh fs bo td nf pz) (hk : 0 ≤ kz.toInt) (hvp : hv2.toInt = 0 ∨ ∃ P : Nat → Prop, zVc P kz fd gk gv ∧ zVo P kz vl) (hs : rSv 4000 hv1 o D.2.1 kz fd gk0 gv0 vl0) : ∃ D2 : shS, psR o f al a b c d r D D2 ∧ rSv 4000 hv2 o D2.2.1 kz fd gk gv vl ∧ D2.1 = D.1 ∧ D2.2.2 = D.2.2 := by
  have nk := zn_nat hk
  rcases hp with ⟨p1, p2⟩ | ⟨p1, ⟨s, kw, kf, fw, ft, G, e, e1, e2, e3, e4, -⟩, -⟩
  · rcases h with ⟨-, e⟩ | ⟨h, -⟩
    · obtain ⟨q1, q2, q3, q4⟩ := hun.resolve_left (fun g => g e)
      exact ⟨D, Or.inl ⟨fun s F g => (by rw [p2] at g; cases g), rfl⟩, by rw [q1, q2, q3, q4]; exact hs, rfl, rfl⟩
    · exact absurd p1 h.1
  · obtain ⟨-, -, n0, -⟩ := hr.resolve_left p1
    have nn := zn_nat n0
    rcases h with ⟨h, e5⟩ | ⟨h, s2, F2, e5, ⟨n, p, k1, -, k2⟩, g1, g2⟩
    · obtain ⟨q1, q2, q3, q4⟩ := hun.resolve_left (fun g => g e5)
      refine ⟨D, Or.inl ⟨fun s2 F2 g => ?_, rfl⟩, by rw [q1, q2, q3, q4]; exact hs, rfl, rfl⟩
      rw [e] at g
      cases g
      show f.toInt < 0 ∨ ((Int32.toNatClampNeg nf : Nat) : Int) ≤ f.toInt ∨ _
      omega
    · rw [e] at e5
      cases e5
      have hin : 0 ≤ f.toInt ∧ f.toInt < ((Int32.toNatClampNeg nf : Nat) : Int) ∧ 0 ≤ al.toInt ∧ al.toInt ≤ 20000 := ⟨h.2.1, by omega, h.2.2.2.1, h.2.2.2.2⟩
      rcases g1 with ⟨u1, u2⟩ | ⟨u1, u2⟩
      · obtain ⟨E, n2, c8, ck, cf, j1, j2⟩ := g2 u1
        obtain ⟨o1, -⟩ := ok_re (zk := 0) (fd := fd) j1
        obtain ⟨P, P1, P2⟩ := hvp.resolve_left (by omega)
        refine ⟨(D.1, some (pT s ([], [vl], E, n2, c8, ck, cf)), D.2.2), Or.inr ⟨_, _, e, hin, ⟨n, p, k1, k2⟩, Or.inl ⟨u1, _, j1, rfl, rfl⟩⟩, Or.inr ⟨by omega, s, _, _, e, rfl, ?_⟩, rfl, rfl⟩
        exact rPv_p (fd0 := s.2.2.2.1) (fun k hk2 => by rw [e3]; exact ((e4 k hk2).2).symm) j2 o1 P1 P2
      · exact ⟨(D.1, none, D.2.2), Or.inr ⟨_, _, e, hin, ⟨n, p, k1, k2⟩, Or.inr ⟨u1, rfl⟩⟩, Or.inl ⟨u2, rfl⟩, rfl, rfl⟩
theorem rSv_e {n : Nat} {hv : Int32} {o : Option (sp_S × sp_F)} {W : Option (List Int32)} {kz : Int32} {fd gk gk2 : Nat → Int32} {gv gv2 : Nat → Int64} {u : Int64} (h : rSv n hv o W kz fd gk gv u) (e1 : ∀ c, c < n → gk2 c = gk c) (e2 : ∀ j, j < 3 * n → gv2 j = gv j) : rSv n hv o W kz fd gk2 gv2 u := by
  rcases h with h | ⟨h, s, F, T, h1, h2, h3⟩
  · exact Or.inl h
  · exact Or.inr ⟨h, s, F, T, h1, h2, rPv_e h3 e1 e2⟩
/-! all that is known of the last runs, as one -/
abbrev dD := (Nat → Int) × shS
def dD0 : dD := (fun _ => 0, none, none, [])
theorem pOw_0 : pOw (fun _ => 0) 0 dD0.2.2.2 := ⟨by decide, fun i x h => (nil_get h).elim⟩
def szR (D : dD) (w r : Int32) (D2 : dD) : Prop := D2.1 = D.1 ∧ shR D.2 (if w.toInt = 0 then D.2.1 else D.2.2.1) r D2.2
def rzC (o : Option (sp_S × sp_F)) (f cs al a b c d r : Int32) (D D2 : dD) : Prop := rqC o f cs al a b c d r D.1 D2.1 ∧ rsC o f cs al a b c d r D.2 D2.2
def rzX (o : Option (sp_S × sp_F)) (f cs al a b c d r : Int32) (D D2 : dD) : Prop := rqX o f cs al a b c d r D.1 D2.1 ∧ rsX o f cs al a b c d r D.2 D2.2
def pzR (o : Option (sp_S × sp_F)) (f al a b c d r : Int32) (D D2 : dD) : Prop := D2.1 = D.1 ∧ psR o f al a b c d r D.2 D2.2
def rlz (D : dD) (r : Int32) (D2 : dD) : Prop := rlR D.1 r D2.1 ∧ D2.2 = (none, D.2.2)
theorem sz_1 {D D2 D3 : dD} {w r r2 : Int32} (h : szR D w r D2) (h2 : szR D w r2 D3) : r = r2 ∧ D2 = D3 := by
  obtain ⟨a, b⟩ := shR_1 h.2 h2.2
  exact ⟨a, Prod.ext (h.1.trans h2.1.symm) b⟩
theorem rz_1 {o : Option (sp_S × sp_F)} {f cs al a b c d r r2 : Int32} {D D2 D3 : dD} (h : rzC o f cs al a b c d r D D2) (h2 : rzX o f cs al a b c d r2 D D3) : r = r2 ∧ D2 = D3 := by
  obtain ⟨e1, e2⟩ := rq_1 h.1 h2.1
  exact ⟨e1, Prod.ext e2 (rs_1 h.2 h2.2)⟩
theorem pz_1 {o : Option (sp_S × sp_F)} {f al a b c d r r2 : Int32} {D D2 D3 : dD} (h : pzR o f al a b c d r D D2) (h2 : pzR o f al a b c d r2 D D3) : D2 = D3 := Prod.ext (h.1.trans h2.1.symm) (ps_1 h.2 h2.2)
theorem rlz_1 {D D2 D3 : dD} {r r2 : Int32} (h : rlz D r D2) (h2 : rlz D r2 D3) : r = r2 ∧ D2 = D3 := by
  obtain ⟨e1, e2⟩ := rlq_1 h.1 h2.1
  exact ⟨e1, Prod.ext e2 (h.2.trans h2.2.symm)⟩
/-- the class's KINDS show a byte at least -/
theorem kl_of {S : Nat → Nat → Int32} {nx : Nat → Int32} {cz az kz fz : Int32} {kw : Nat → Int64} {kf en ff : Nat → Int32} {fw : Nat → Int64} {o : Option (sp_S × sp_F)} (hz : (o = none → fz.toInt = 0) ∧ ∀ s F, o = some (s, F) → cZZ S nx cz az kz fz kw kf en ff fw s F ∧ wfF s F ∧ syF F) (hp : pkO o) (ho : o ≠ none) (hk : 0 ≤ kz.toInt) : ∀ k : Nat, (k : Int) < Int32.toInt kz → 1 ≤ (pKw (kw k)).length := fun k hk2 => by
  cases o with
  | none => exact absurd rfl ho
  | some q =>
    obtain ⟨s, F⟩ := q
    obtain ⟨z1, -⟩ := hz.2 s F rfl
    have := zn_nat hk
    have h := hp s F rfl k (by rw [z1.1]; omega)
    rw [z1.2.1] at h
    exact h
/-- the reference's KINDS have the class's letters -/
theorem kr_of {B : Nat → Nat → Int32} {fd mk fs bo td wd : Nat → Int32} {nm kn fn : Nat → Int64} {kz nf pz tk : Int32} {o : Option (sp_S × sp_F)} (hp : (tk.toInt = 0 ∧ o = none) ∨ (tk.toInt ≠ 0 ∧ rx_pp o kn fd kz fn td nf B nm fs bo pz wd mk ∧ ∀ q, o = some q → wfF q.1 q.2 ∧ syF q.2)) (hz : 0 ≤ kz.toInt) : ∀ s F, o = some (s, F) → (s.2.1 : Int) = Int32.toInt kz ∧ ∀ j : Nat, (j : Int) < Int32.toInt kz → sp_cv (s.2.2.1 j) (kn j) := fun s F e => by
  rcases hp with ⟨-, p2⟩ | ⟨-, ⟨s1, kw, kf, fw, ft, G, e0, e1, e2, e3, e4, -⟩, -⟩
  · rw [p2] at e; cases e
  · rw [e0] at e
    cases e
    have := zn_nat hz
    refine ⟨by rw [e1]; exact this, fun j hj => ?_⟩
    rw [e2]
    exact (e4 j hj).1
/-- a row is copied -/
theorem cp_s {T : List Int32} {g g2 sd : Nat → Int32} {k k2 : Nat} {v : Int32} (h : ∀ (i : Nat) (x : Int32), i < k → T[i]? = some x → g i = pB x) (hs : ∀ (i : Nat) (x : Int32), T[i]? = some x → sd i = pB x) (e : g2 = upd g k (vp_nar .byte v)) (ev : v = sd k) (e2 : k2 = k + 1) : ∀ (i : Nat) (x : Int32), i < k2 → T[i]? = some x → g2 i = pB x := fun i x hi hx => by
  by_cases u : i = k
  · rw [e, u, zu_s, ev, hs k x (by rw [← u]; exact hx)]
    exact pk_vb x
  · rw [e, zu_n u]
    exact h i x (by omega) hx
/-! out() -/
def zOu (ws : va_W) (tys : List (ClassId × FieldType)) (ou : Nat) (x : Int64) : Prop := ∃ (k t : Nat) (cA : ClassId) (go : Nat → Int64), ws[k]? = some (ou, .inl (cA, 1, .inr (.inl go))) ∧ tys[t]? = some (cA, .long) ∧ go 0 = x
def ouZ (T : List Int32) (i r : Int32) (Z : Int64 → Prop) : Prop := (r.toInt = 1 ∧ ouR T i none) ∨ (r.toInt = 0 ∧ ∃ x : Int32, ouR T i (some x) ∧ Z (Int32.toInt64 x))
def ouX (T : List Int32) (i r : Int32) (Z : Int32 → Prop) : Prop := ∃ th : Int32, Z th ∧ ((th.toInt = 1 ∧ ouR T i none) ∨ (th.toInt = 0 ∧ ouR T i (some r)))
theorem ou_y {g : Nat → Int32} {z i : Int32} {T : List Int32} (h : pOw g z T) (h0 : 0 ≤ i.toInt) (h1 : i.toInt < z.toInt) : ouR T i (some (g (Int32.toNatClampNeg i))) := by
  have n := zn_nat h0
  have l := h.1
  have lt : Int32.toNatClampNeg i < T.length := by omega
  have e : T[Int32.toNatClampNeg i]? = some T[Int32.toNatClampNeg i] := List.getElem?_eq_getElem lt
  exact Or.inr ⟨_, by rw [h.2 _ _ e], h0, e⟩
theorem ou_n {g : Nat → Int32} {z i : Int32} {T : List Int32} (h : pOw g z T) (hi : i.toInt < 0 ∨ z.toInt ≤ i.toInt) : ouR T i none := by
  have l := h.1
  exact Or.inl ⟨rfl, by omega⟩
theorem ou_c {T : List Int32} {i r th b : Int32} {Z : Int64 → Prop} (h : ouZ T i r Z) (h2 : (th.toInt = 1 ∧ ouR T i none) ∨ (th.toInt = 0 ∧ ouR T i (some b))) : th.toInt = r.toInt ∧ (r.toInt = 0 → Z (Int32.toInt64 b)) := by
  rcases h with ⟨a, c⟩ | ⟨a, x, c, d⟩
  · rcases h2 with ⟨e, f⟩ | ⟨e, f⟩
    · exact ⟨by omega, fun g => by exfalso; omega⟩
    · exact absurd (ouR_1 c f) (fun g9 => by cases g9)
  · rcases h2 with ⟨e, f⟩ | ⟨e, f⟩
    · exact absurd (ouR_1 f c) (fun g9 => by cases g9)
    · have g := Option.some.inj (ouR_1 c f)
      subst g
      exact ⟨by omega, fun _ => d⟩

end
