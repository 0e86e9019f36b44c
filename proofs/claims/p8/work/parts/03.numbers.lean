/-! numbers, as whole numbers -/
theorem zi_lt {x y : Int32} (h : x < y) : x.toInt < y.toInt := Int32.lt_iff_toInt_lt.mp h
theorem zi_le {x y : Int32} (h : x ≤ y) : x.toInt ≤ y.toInt := Int32.le_iff_toInt_le.mp h
theorem zi_nlt {x y : Int32} (h : ¬ x < y) : y.toInt ≤ x.toInt := Int.not_lt.mp (fun g => h (Int32.lt_iff_toInt_lt.mpr g))
theorem zi_nle {x y : Int32} (h : ¬ x ≤ y) : y.toInt < x.toInt := Int.not_le.mp (fun g => h (Int32.le_iff_toInt_le.mpr g))
theorem zi_eq {x y : Int32} (h : x = y) : x.toInt = y.toInt := by rw [h]
theorem zi_ne {x y : Int32} (h : ¬ x = y) : x.toInt ≠ y.toInt := fun g => h (Int32.toInt_inj.mp g)
theorem zi_rng (x : Int32) : -2147483648 ≤ x.toInt ∧ x.toInt ≤ 2147483647 := ⟨Int32.minValue_le_toInt x, Int32.toInt_le x⟩
theorem zi_bmod {a : Int} (h1 : -2147483648 ≤ a) (h2 : a ≤ 2147483647) : a.bmod (2 ^ 32) = a := by
  rw [Int.bmod_def]
  split <;> omega
theorem zi_addc {x y : Int32} {b : Int} (hy : y.toInt = b) (h1 : -2147483648 ≤ x.toInt + b) (h2 : x.toInt + b ≤ 2147483647) : (x + y).toInt = x.toInt + b := by
  rw [Int32.toInt_add, hy]; exact zi_bmod h1 h2
theorem zi_subc {x y : Int32} {b : Int} (hy : y.toInt = b) (h1 : -2147483648 ≤ x.toInt - b) (h2 : x.toInt - b ≤ 2147483647) : (x - y).toInt = x.toInt - b := by
  rw [Int32.toInt_sub, hy]; exact zi_bmod h1 h2
theorem zi_mulc {x y : Int32} {b : Int} (hy : y.toInt = b) (h1 : -2147483648 ≤ x.toInt * b) (h2 : x.toInt * b ≤ 2147483647) : (x * y).toInt = x.toInt * b := by
  rw [Int32.toInt_mul, hy]; exact zi_bmod h1 h2
theorem zi_min {v x y : Int32} (h : v = if y < x then y else x) {a b : Int} (hx : x.toInt = a) (hy : y.toInt = b) : v.toInt ≤ a ∧ v.toInt ≤ b ∧ (v.toInt = a ∨ v.toInt = b) := by
  subst hx; subst hy
  by_cases g : y < x
  · rw [if_pos g] at h; have := zi_lt g; rw [h]; omega
  · rw [if_neg g] at h; have := zi_nlt g; rw [h]; omega
theorem zi_max {v x y : Int32} (h : v = if x < y then y else x) {a b : Int} (hx : x.toInt = a) (hy : y.toInt = b) : v.toInt ≥ a ∧ v.toInt ≥ b ∧ (v.toInt = a ∨ v.toInt = b) := by
  subst hx; subst hy
  by_cases g : x < y
  · rw [if_pos g] at h; have := zi_lt g; rw [h]; omega
  · rw [if_neg g] at h; have := zi_nlt g; rw [h]; omega
theorem zi_addl {x y : Int32} {a : Int} (hx : x.toInt = a) (h1 : -2147483648 ≤ a + y.toInt) (h2 : a + y.toInt ≤ 2147483647) : (x + y).toInt = a + y.toInt := by
  rw [Int32.toInt_add, hx]; exact zi_bmod h1 h2
theorem zi_subl {x y : Int32} {a : Int} (hx : x.toInt = a) (h1 : -2147483648 ≤ a - y.toInt) (h2 : a - y.toInt ≤ 2147483647) : (x - y).toInt = a - y.toInt := by
  rw [Int32.toInt_sub, hx]; exact zi_bmod h1 h2
theorem zi_mull {x y : Int32} {a : Int} (hx : x.toInt = a) (h1 : -2147483648 ≤ a * y.toInt) (h2 : a * y.toInt ≤ 2147483647) : (x * y).toInt = a * y.toInt := by
  rw [Int32.toInt_mul, hx]; exact zi_bmod h1 h2
/-- behind the last token: its end -/
theorem zt_adv {g : Nat → Int32} {so pa z : Int32} (h : so = g (Int32.toNatClampNeg pa)) (hz : g (Int32.toNatClampNeg z) = 256) (hle : pa.toInt ≤ z.toInt) : so.toInt = 256 ∨ pa.toInt < z.toInt := by
  rcases Int.lt_or_eq_of_le hle with g1 | g1
  · exact Or.inr g1
  · left
    have e : pa = z := Int32.toInt_inj.mp g1
    rw [h, e, hz]; decide
/-- a row whose numbers are NONE or below N -/
def zx (N : Int) (f : Nat → Int32) : Prop := ∀ j : Nat, -1 ≤ (f j).toInt ∧ (f j).toInt < N
theorem zx_upd {N : Int} {f : Nat → Int32} {k : Nat} {x : Int32} (h : zx N f) (h1 : -1 ≤ x.toInt) (h2 : x.toInt < N) : zx N (upd f k x) := fun j => by
  unfold upd
  split
  · exact ⟨h1, h2⟩
  · exact h j
