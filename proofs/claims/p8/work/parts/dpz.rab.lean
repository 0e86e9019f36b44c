/-! what about() of the reference counts -/
def ab_f (wt : Int) (R : Nat → Nat → Int32) (sh : Nat → Int) (k : Nat) : Int := if wt = 2 then rf_bu R k else if wt = 3 then rf_ma R k else sh k
theorem rTo_s {f : Nat → Int} {a k : Nat} (h : a ≤ k) : rTo f a (k + 1) = rTo f a k + f k := by
  rw [rTo_add h (Nat.le_succ k), rTo_1]
section
variable {wt : Int} {R : Nat → Nat → Int32} {sh : Nat → Int} {a k : Nat} {n n2 : Int32}
def abA (wt : Int) (R : Nat → Nat → Int32) (sh : Nat → Int) (a k : Nat) (n : Int32) : Prop := n = Int32.ofInt (rTo (ab_f wt R sh) a k)
def ab8 (wt : Int) (R : Nat → Nat → Int32) (sh : Nat → Int) (a k : Nat) (n : Int32) : Prop := n = Int32.ofInt (rTo (ab_f wt R sh) a k + if wt = 2 then ab_f wt R sh k else 0)
def ab9 (wt : Int) (R : Nat → Nat → Int32) (sh : Nat → Int) (a k : Nat) (n : Int32) : Prop := n = Int32.ofInt (rTo (ab_f wt R sh) a k + ab_f wt R sh k)
theorem abA_0 (hn : n.toInt = 0) (e : a = k) : abA wt R sh a k n := by
  subst e
  unfold abA; rw [rTo_0]; exact Int32.toInt_inj.mp (hn.trans (by decide))
theorem abA_s {k2 : Nat} (h : ab9 wt R sh a k n) (hk : a ≤ k) (e : k2 = k + 1) : abA wt R sh a k2 n := by
  subst e
  unfold abA; rw [rTo_s hk]; exact h
theorem ab8_o (h : abA wt R sh a k n) (hw : wt ≠ 2) : ab8 wt R sh a k n := by
  unfold ab8; rw [if_neg hw, Int.add_zero]; exact h
theorem ab8_y (h : abA wt R sh a k n) (hw : wt = 2) (h1 : (R 0 k).toInt = 4) (h2 : 0 < (R 7 k).toInt) (e : n2 = n + 1) : ab8 wt R sh a k n2 := by
  have u : ab_f wt R sh k = 1 := by unfold ab_f; rw [if_pos hw]; exact if_pos ⟨h1, h2⟩
  unfold ab8
  rw [if_pos hw, u, Int32.ofInt_add, e, show n = _ from h]; rfl
theorem ab8_n {x : Int32} (h : abA wt R sh a k n) (hw : wt = 2) (h1 : (R 0 k).toInt ≠ 4 ∨ (R 7 k).toInt ≤ 0) (hx : x.toInt = 0) (e : n2 = n + x) : ab8 wt R sh a k n2 := by
  have u : ab_f wt R sh k = 0 := by unfold ab_f; rw [if_pos hw]; exact if_neg (fun g => h1.elim (fun q => q g.1) (fun q => by have := g.2; omega))
  have ex : x = 0 := Int32.toInt_inj.mp (hx.trans (by decide))
  unfold ab8
  rw [if_pos hw, u, Int.add_zero, e, ex, Int32.add_zero]; exact h
theorem ab9_x (h : ab8 wt R sh a k n) (h3 : (R 0 k).toInt ≠ 8) (h4 : sh k = 0) : ab9 wt R sh a k n := by
  unfold ab9
  have u : ab_f wt R sh k = if wt = 2 then ab_f wt R sh k else 0 := by
    by_cases g : wt = 2
    · rw [if_pos g]
    · rw [if_neg g]; unfold ab_f; rw [if_neg g]
      by_cases g3 : wt = 3
      · rw [if_pos g3]; exact if_neg h3
      · rw [if_neg g3]; exact h4
  rw [u]; exact h
/-- within a match: the arms from A on are still to come -/
def ab7 (wt : Int) (R : Nat → Nat → Int32) (sh : Nat → Int) (a k : Nat) (S : List Nat → Int) (A : List Nat) (n : Int32) : Prop := (wt = 4 → n + Int32.ofInt (S A) = Int32.ofInt (rTo (ab_f wt R sh) a k + ab_f wt R sh k)) ∧ (wt ≠ 4 → n = Int32.ofInt (rTo (ab_f wt R sh) a k + ab_f wt R sh k))
variable {S : List Nat → Int} {A : List Nat}
theorem ab7_3 (h : ab8 wt R sh a k n) (h3 : (R 0 k).toInt = 8) (hw : wt = 3) (e : n2 = n + 1) : ab7 wt R sh a k S A n2 := by
  refine ⟨fun g => by omega, fun _ => ?_⟩
  have u : ab_f wt R sh k = 1 := by unfold ab_f; rw [if_neg (by omega), if_pos hw]; exact if_pos h3
  unfold ab8 at h
  rw [if_neg (by omega), Int.add_zero] at h
  rw [u, Int32.ofInt_add, e, h]; rfl
theorem ab7_o (h : ab8 wt R sh a k n) (h3 : (R 0 k).toInt = 8) (hw : wt ≠ 3) (h2 : 2 ≤ wt) (h4 : wt ≤ 4) (hs : sh k = S A) : ab7 wt R sh a k S A n := by
  unfold ab8 at h
  refine ⟨fun g => ?_, fun g => ?_⟩
  · rw [if_neg (by omega), Int.add_zero] at h
    have u : ab_f wt R sh k = S A := by unfold ab_f; rw [if_neg (by omega), if_neg (by omega)]; exact hs
    rw [u, Int32.ofInt_add, h]
  · rw [if_pos (by omega)] at h; exact h
theorem ab7_s {x : Int32} {r : Nat} {l : List Nat} {d : Int} (h : ab7 wt R sh a k S (r :: l) n) (hw : wt = 4) (hS : S (r :: l) = d + S l) (hx : x = Int32.ofInt d) (e : n2 = n + x) : ab7 wt R sh a k S l n2 := by
  refine ⟨fun g => ?_, fun g => absurd hw g⟩
  rw [← h.1 hw, hS, Int32.ofInt_add, e, hx, Int32.add_assoc]
theorem ab9_7 (h : ab7 wt R sh a k S A n) (hx : wt ≠ 4 ∨ S A = 0) : ab9 wt R sh a k n := by
  by_cases g : wt = 4
  · have u := h.1 g
    rw [hx.resolve_left (fun q => q g)] at u
    unfold ab9
    rw [← u]; exact cF_0 n
  · exact h.2 g
end
/-- about's answer, of function f with parts a .. e -/
def ab_v (wt : Int) (td wd : Nat → Int32) (R : Nat → Nat → Int32) (sh : Nat → Int) (f a e : Nat) (r : Int32) : Prop := (wt = 0 → r = td f) ∧ (wt = 1 → r = wd f) ∧ (2 ≤ wt → r = Int32.ofInt (rTo (ab_f wt R sh) a e))
