/-! values: what stands above the 32 low bits -/
def zhs (v : Int64) : Int64 := (v.toUInt64 >>> (Int64.toUInt64 (Int32.toInt64 32) &&& Int64.toUInt64 63)).toInt64
theorem zhs_bv (v : Int64) : (zhs v).toBitVec = v.toBitVec >>> (32 : Nat) := by
  show v.toBitVec >>> ((Int64.toUInt64 (Int32.toInt64 32) &&& Int64.toUInt64 63) % 64).toBitVec = _
  rw [show ((Int64.toUInt64 (Int32.toInt64 32) &&& Int64.toUInt64 63) % 64).toBitVec = 32#64 from by decide]
  rfl
theorem zhs_bit (v : Int64) (i : Nat) : (zhs v).toBitVec.getLsbD i = v.toBitVec.getLsbD (32 + i) := by
  rw [zhs_bv, BitVec.getLsbD_ushiftRight]
theorem zlow_b : ∀ i : Fin 64, (4294967295 : Int64).toBitVec.getLsbD i.val = decide (i.val < 32) := by decide +kernel
theorem zcell_b : ∀ i : Fin 64, (8589934592 : Int64).toBitVec.getLsbD i.val = decide (i.val = 33) := by decide +kernel
theorem zkind_b : ∀ i : Fin 64, (4294967296 : Int64).toBitVec.getLsbD i.val = decide (i.val = 32) := by decide +kernel
theorem ztwo_b : ∀ i : Fin 64, (2 : Int64).toBitVec.getLsbD i.val = decide (i.val = 1) := by decide +kernel
theorem zone_b : ∀ i : Fin 64, (1 : Int64).toBitVec.getLsbD i.val = decide (i.val = 0) := by decide +kernel
theorem z64_ext {x y : Int64} (h : ∀ i : Nat, i < 64 → x.toBitVec.getLsbD i = y.toBitVec.getLsbD i) : x = y := Int64.toBitVec_inj.mp (BitVec.eq_of_getLsbD_eq (fun i hi => h i hi))
theorem zt32_b (v : Int64) {i : Nat} (hi : i < 32) : v.toInt32.toBitVec.getLsbD i = v.toBitVec.getLsbD i := by
  rw [Int64.toBitVec_toInt32, BitVec.getLsbD_signExtend]
  have : i < 64 := by omega
  simp [hi, this]
theorem zt64_b (x : Int32) {i : Nat} (hi : i < 32) : x.toInt64.toBitVec.getLsbD i = x.toBitVec.getLsbD i := by
  rw [Int32.toBitVec_toInt64, BitVec.getLsbD_signExtend]
  have : i < 64 := by omega
  simp [hi, this]
/-- a value's low half, masked -/
theorem zlo_b (x : Int32) {i : Nat} (hi : i < 64) : (x.toInt64 &&& 4294967295).toBitVec.getLsbD i = (decide (i < 32) && x.toBitVec.getLsbD i) := by
  rw [Int64.toBitVec_and, BitVec.getLsbD_and, zlow_b ⟨i, hi⟩]
  by_cases g : i < 32
  · rw [zt64_b x g]; simp [g]
  · simp [g]
theorem zof_int (x : Int32) : zhs (x.toInt64 &&& 4294967295) = 0 ∧ (x.toInt64 &&& 4294967295).toInt32 = x := by
  refine ⟨z64_ext (fun i hi => ?_), z32_ext (fun i hi => ?_)⟩
  · rw [zhs_bit]
    by_cases g : 32 + i < 64
    · rw [zlo_b x g]
      have : ¬ (32 + i < 32) := by omega
      simp [this]
    · rw [BitVec.getLsbD_of_ge _ _ (by omega)]; simp
  · rw [zt32_b _ hi, zlo_b x (by omega)]; simp [hi]
theorem zof_cell (x : Int32) : zhs (8589934592 ||| (x.toInt64 &&& 4294967295)) = 2 ∧ (8589934592 ||| (x.toInt64 &&& 4294967295)).toInt32 = x := by
  refine ⟨z64_ext (fun i hi => ?_), z32_ext (fun i hi => ?_)⟩
  · rw [zhs_bit, ztwo_b ⟨i, hi⟩]
    by_cases g : 32 + i < 64
    · rw [Int64.toBitVec_or, BitVec.getLsbD_or, zlo_b x g, zcell_b ⟨32 + i, g⟩]
      have : ¬ (32 + i < 32) := by omega
      simp only [this, decide_false, Bool.false_and, Bool.or_false]
      exact decide_eq_decide.mpr (by omega)
    · rw [BitVec.getLsbD_of_ge _ _ (by omega)]
      symm
      exact decide_eq_false (by show ¬ i = 1; omega)
  · rw [zt32_b _ hi, Int64.toBitVec_or, BitVec.getLsbD_or, zlo_b x (by omega), zcell_b ⟨i, by omega⟩]
    have : ¬ (i = 33) := by omega
    simp [this, hi]
theorem zof_kind (x : Int32) : zhs (4294967296 ||| (x.toInt64 &&& 4294967295)) = 1 ∧ (4294967296 ||| (x.toInt64 &&& 4294967295)).toInt32 = x := by
  refine ⟨z64_ext (fun i hi => ?_), z32_ext (fun i hi => ?_)⟩
  · rw [zhs_bit, zone_b ⟨i, hi⟩]
    by_cases g : 32 + i < 64
    · rw [Int64.toBitVec_or, BitVec.getLsbD_or, zlo_b x g, zkind_b ⟨32 + i, g⟩]
      have : ¬ (32 + i < 32) := by omega
      simp only [this, decide_false, Bool.false_and, Bool.or_false]
      exact decide_eq_decide.mpr (by omega)
    · rw [BitVec.getLsbD_of_ge _ _ (by omega)]
      symm
      exact decide_eq_false (by show ¬ i = 0; omega)
  · rw [zt32_b _ hi, Int64.toBitVec_or, BitVec.getLsbD_or, zlo_b x (by omega), zkind_b ⟨i, by omega⟩]
    have : ¬ (i = 32) := by omega
    simp [this, hi]
/-- how often a value refers to cell c -/
def zr (v : Int64) (c : Nat) : Int := if zhs v = 2 ∧ v.toInt32.toInt = (c : Int) then 1 else 0
theorem zr_0 (v : Int64) (c : Nat) : 0 ≤ zr v c := by unfold zr; split <;> omega
theorem zr_n {v : Int64} {c : Nat} (h : zhs v ≠ 2) : zr v c = 0 := by unfold zr; rw [if_neg (fun g => h g.1)]
theorem zr_c {v : Int64} (h : zhs v = 2) (h0 : 0 ≤ v.toInt32.toInt) (c : Nat) : zr v c = if c = Int32.toNatClampNeg v.toInt32 then 1 else 0 := by
  have hn := zn_nat h0
  unfold zr
  by_cases g : c = Int32.toNatClampNeg v.toInt32
  · rw [if_pos g, if_pos ⟨h, by omega⟩]
  · rw [if_neg g, if_neg (fun u => g (by omega))]
