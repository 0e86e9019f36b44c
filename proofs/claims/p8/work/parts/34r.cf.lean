/-! a function's facts, while its text is read -/
/-- function f's facts: b builds, m matches more, w names at least -/
def cF (g g2 : Nat → Int32) (f : Nat) (b m w : Int) : Prop := g2 (5 * f + 2) = g (5 * f + 2) + Int32.ofInt b ∧ g2 (5 * f + 3) = g (5 * f + 3) + Int32.ofInt m ∧ (0 ≤ (g (5 * f + 1)).toInt → (g2 (5 * f + 1)).toInt = max (g (5 * f + 1)).toInt w) ∧ ∀ j, j ≠ 5 * f + 1 → j ≠ 5 * f + 2 → j ≠ 5 * f + 3 → g2 j = g j
theorem cF_0 (x : Int32) : x = x + Int32.ofInt 0 := by
  rw [show Int32.ofInt 0 = 0 from by decide, Int32.add_zero]
theorem cF_1 (x : Int32) : x + 1 = x + Int32.ofInt 1 := by rw [show Int32.ofInt 1 = 1 from by decide]
theorem cF_rf {g : Nat → Int32} {f : Nat} : cF g g f 0 0 0 := ⟨cF_0 _, cF_0 _, fun h => by omega, fun _ _ _ _ => rfl⟩
theorem cF_tr {g g2 g3 : Nat → Int32} {f : Nat} {b m w b2 m2 w2 : Int} (p : cF g g2 f b m w) (q : cF g2 g3 f b2 m2 w2) : cF g g3 f (b + b2) (m + m2) (max w w2) := by
  obtain ⟨p1, p2, p3, p4⟩ := p
  obtain ⟨q1, q2, q3, q4⟩ := q
  refine ⟨by rw [q1, p1, Int32.ofInt_add, Int32.add_assoc], by rw [q2, p2, Int32.ofInt_add, Int32.add_assoc], fun h => ?_, fun j h1 h2 h3 => by rw [q4 j h1 h2 h3, p4 j h1 h2 h3]⟩
  have := p3 h
  have := q3 (by omega)
  omega
theorem cF_e {g g2 : Nat → Int32} {f : Nat} {b m w b2 m2 w2 : Int} (p : cF g g2 f b m w) (e1 : b2 = b) (e2 : m2 = m) (e3 : w2 = w) : cF g g2 f b2 m2 w2 := by rw [e1, e2, e3]; exact p
theorem cF_b {g g2 : Nat → Int32} {f w : Nat} (hw : w = 2) (e : g2 = upd g (5 * f + w) (g (5 * f + w) + 1)) : cF g g2 f 1 0 0 := by
  subst hw
  exact ⟨by rw [e, zu_s]; exact cF_1 _, by rw [e, zu_n (by omega)]; exact cF_0 _, fun h => by rw [e, zu_n (by omega)]; omega, fun j h1 h2 h3 => by rw [e, zu_n h2]⟩
theorem cF_m {g g2 : Nat → Int32} {f w : Nat} (hw : w = 3) (e : g2 = upd g (5 * f + w) (g (5 * f + w) + 1)) : cF g g2 f 0 1 0 := by
  subst hw
  exact ⟨by rw [e, zu_n (by omega)]; exact cF_0 _, by rw [e, zu_s]; exact cF_1 _, fun h => by rw [e, zu_n (by omega)]; omega, fun j h1 h2 h3 => by rw [e, zu_n h3]⟩
theorem cF_w0 {g : Nat → Int32} {f : Nat} {x : Int} (h : x ≤ (g (5 * f + 1)).toInt) : cF g g f 0 0 x := ⟨cF_0 _, cF_0 _, fun _ => by omega, fun _ _ _ _ => rfl⟩
theorem cF_w1 {g g2 : Nat → Int32} {f : Nat} {x : Int} {v : Int32} (e : g2 = upd g (5 * f + 1) v) (hv : v.toInt = x) (h : (g (5 * f + 1)).toInt ≤ x) : cF g g2 f 0 0 x :=
  ⟨by rw [e, zu_n (by omega)]; exact cF_0 _, by rw [e, zu_n (by omega)]; exact cF_0 _, fun _ => by rw [e, zu_s]; omega, fun j h1 h2 h3 => by rw [e, zu_n h1]⟩
/-- while names are told -/
def cT (g g2 : Nat → Int32) (f : Nat) (w : Int) : Prop := (0 ≤ (g (5 * f + 1)).toInt → (g2 (5 * f + 1)).toInt = max (g (5 * f + 1)).toInt w) ∧ ∀ j, j ≠ 5 * f → j ≠ 5 * f + 1 → g2 j = g j
theorem cT_0 {g : Nat → Int32} {f : Nat} {w : Int} (h : w ≤ (g (5 * f + 1)).toInt) : cT g g f w := ⟨fun _ => by omega, fun _ _ _ => rfl⟩
theorem cT_s {g g1 g2 g3 : Nat → Int32} {f : Nat} {w w2 : Int} {v : Int32} (h : cT g g1 f w) (p : cF g1 g2 f 0 0 w2) (hw : w ≤ w2) (e : g3 = upd g2 (5 * f + 0) v) : cT g g3 f w2 := by
  obtain ⟨h1, h2⟩ := h
  obtain ⟨p1, p2, p3, p4⟩ := p
  refine ⟨fun g0 => ?_, fun j j1 j2 => ?_⟩
  · have := h1 g0
    rw [e, zu_n (by omega), p3 (by omega)]; omega
  · rw [e, zu_n (by omega)]
    by_cases u : j = 5 * f + 2
    · rw [u, p1, ← cF_0, h2 _ (by omega) (by omega)]
    · by_cases v : j = 5 * f + 3
      · rw [v, p2, ← cF_0, h2 _ (by omega) (by omega)]
      · rw [p4 j j2 u v, h2 j j1 j2]
