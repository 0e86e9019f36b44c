theorem zsh_n : ∀ j : Fin 32, ((Int32.ofInt (j.val : Int) &&& 31).toBitVec.smod 32).toNat = j.val := by decide +kernel
theorem zbit_sr {x y : Int32} (h0 : 0 ≤ y.toInt) (h1 : y.toInt < 32) : zbit (x >>> (y &&& 31)) 0 = zbit x (Int32.toNatClampNeg y) := by
  have hn := zn_nat h0
  have e := zi_of (y := y) (j := Int32.toNatClampNeg y) hn.symm
  have t := zsh_n ⟨Int32.toNatClampNeg y, by omega⟩
  have t : ((Int32.ofInt ((Int32.toNatClampNeg y : Nat) : Int) &&& 31).toBitVec.smod 32).toNat = Int32.toNatClampNeg y := t
  rw [← e] at t
  unfold zbit
  rw [Int32.toBitVec_shiftRight]
  show (x.toBitVec.sshiftRight ((y &&& 31).toBitVec.smod 32).toNat).getLsbD 0 = _
  rw [t, BitVec.getLsbD_sshiftRight]
  have h3 : Int32.toNatClampNeg y + 0 < 32 := by omega
  simp [h3]
  intro h9
  omega
theorem zbit_one : ∀ k : Fin 32, zbit 1 k.val = (k.val == 0) := by decide +kernel
theorem zbit_and1 {v : Int32} : (v &&& 1 = 1 ↔ zbit v 0 = true) := by
  have h1 := zbit_one ⟨0, by decide⟩
  have h1 : zbit 1 0 = true := h1
  constructor
  · intro h
    have := congrArg (fun x => zbit x 0) h
    have this : zbit (v &&& 1) 0 = zbit 1 0 := this
    rw [zbit_and, h1, Bool.and_true] at this
    exact this
  · intro h
    refine z32_ext (fun i hi => ?_)
    show zbit (v &&& 1) i = zbit 1 i
    rw [zbit_and]
    by_cases g : i = 0
    · rw [g, h, h1]; rfl
    · have := zbit_one ⟨i, hi⟩
      have this : zbit 1 i = (i == 0) := this
      rw [this, beq_false_of_ne g, Bool.and_false]
theorem zbit_t : ∀ (w : Fin 7) (k : Fin 32), zbit ((1 : Int32) <<< (Int32.ofInt (w.val : Int) &&& 31) - 1) k.val = decide (k.val < w.val) := by decide +kernel
theorem zbit_td {x : Int32} (h0 : 0 ≤ x.toInt) (h1 : x.toInt ≤ 6) {k : Nat} (hk : k < 32) : zbit ((1 : Int32) <<< (x &&& 31) - 1) k = decide ((k : Int) < x.toInt) := by
  have hx := zn_nat h0
  have ex := zi_of (y := x) (j := Int32.toNatClampNeg x) hx.symm
  have t := zbit_t ⟨Int32.toNatClampNeg x, by omega⟩ ⟨k, hk⟩
  have t : zbit ((1 : Int32) <<< (Int32.ofInt ((Int32.toNatClampNeg x : Nat) : Int) &&& 31) - 1) k = decide (k < Int32.toNatClampNeg x) := t
  rw [← ex] at t
  rw [t]
  exact decide_eq_decide.mpr (by omega)
/-- the one bit y, but for what is in z -/
theorem zbit_an {x z : Int32} {k : Nat} (hk : k < 32) : zbit (x &&& (z ^^^ (-1))) k = (zbit x k && !zbit z k) := by rw [zbit_and, zbit_xor1 z hk]
theorem zan_t {x z : Int32} {k : Nat} (hk : k < 32) (h : zbit (x &&& (z ^^^ (-1))) k = true) : zbit x k = true ∧ zbit z k = false := by
  rw [zbit_an hk] at h
  obtain ⟨a, b⟩ := Bool.and_eq_true _ _ |>.mp h
  refine ⟨a, ?_⟩
  cases g : zbit z k with
  | false => rfl
  | true => rw [g] at b; exact Bool.noConfusion b
