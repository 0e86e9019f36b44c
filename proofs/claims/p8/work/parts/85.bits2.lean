theorem zbit_t : ∀ (w : Fin 7) (k : Fin 32), zbit ((1 : Int32) <<< (Int32.ofInt (w.val : Int) &&& 31) - 1) k.val = decide (k.val < w.val) := by decide +kernel
theorem zbit_td {x : Int32} (h0 : 0 ≤ x.toInt) (h1 : x.toInt ≤ 6) {k : Nat} (hk : k < 32) : zbit ((1 : Int32) <<< (x &&& 31) - 1) k = decide ((k : Int) < x.toInt) := by
  have hx := zn_nat h0
  have ex := zi_of (y := x) (j := Int32.toNatClampNeg x) hx.symm
  have t := zbit_t ⟨Int32.toNatClampNeg x, by omega⟩ ⟨k, hk⟩
  have t : zbit ((1 : Int32) <<< (Int32.ofInt ((Int32.toNatClampNeg x : Nat) : Int) &&& 31) - 1) k = decide (k < Int32.toNatClampNeg x) := t
  rw [← ex] at t
  rw [t]
  exact decide_eq_decide.mpr (by omega)
/-- the one bit y, but for what is in z -/
theorem zbit_an {x z : Int32} {k : Nat} (hk : k < 32) : zbit (x &&& (z ^^^ (-1))) k = (zbit x k && !zbit z k) := by rw [zbit_and, zbit_xor1 z hk]
theorem zan_t {x z : Int32} {k : Nat} (hk : k < 32) (h : zbit (x &&& (z ^^^ (-1))) k = true) : zbit x k = true ∧ zbit z k = false := by
  rw [zbit_an hk] at h
  obtain ⟨a, b⟩ := Bool.and_eq_true _ _ |>.mp h
  refine ⟨a, ?_⟩
  cases g : zbit z k with
  | false => rfl
  | true => rw [g] at b; exact Bool.noConfusion b
