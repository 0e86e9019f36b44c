/-! the bytes of a number, however they are shifted -/
theorem fd_bv (x : BitVec 32) (t : Nat) (ht : t ≤ 24) : (x.sshiftRight t).signExtend 8 = (x >>> t).signExtend 8 := by
  apply BitVec.eq_of_getLsbD_eq
  intro i hi
  rw [BitVec.getLsbD_signExtend, BitVec.getLsbD_signExtend, if_pos (by omega), if_pos (by omega), BitVec.getLsbD_sshiftRight, BitVec.getLsbD_ushiftRight, if_pos (by omega)]
  rw [show decide (32 ≤ i) = false by simp; omega]; rfl
theorem fd_cs : ∀ j : Fin 4, ((Int32.ofInt (24 - 8 * ((j.val : Nat) : Int)) &&& 31).toBitVec.smod 32).toNat = 24 - 8 * j.val ∧ ((Int32.ofInt (24 - 8 * ((j.val : Nat) : Int))).toUInt32 &&& Int32.toUInt32 31).toBitVec.toNat % 32 = 24 - 8 * j.val := by decide +kernel
theorem fd_sr {a : Int32} {j : Nat} (hj : j < 4) : Int32.toInt8 (a >>> (Int32.ofInt (24 - 8 * (j : Int)) &&& 31)) = Int32.toInt8 ((a.toUInt32 >>> ((Int32.ofInt (24 - 8 * (j : Int))).toUInt32 &&& Int32.toUInt32 31)).toInt32) := by
  obtain ⟨c1, c2⟩ := fd_cs ⟨j, hj⟩
  have c1 : ((Int32.ofInt (24 - 8 * (j : Int)) &&& 31).toBitVec.smod 32).toNat = 24 - 8 * j := c1
  have c2 : ((Int32.ofInt (24 - 8 * (j : Int))).toUInt32 &&& Int32.toUInt32 31).toBitVec.toNat % 32 = 24 - 8 * j := c2
  apply Int8.toBitVec_inj.mp
  rw [Int32.toBitVec_toInt8, Int32.toBitVec_toInt8, Int32.toBitVec_shiftRight]
  show (a.toBitVec.sshiftRight ((Int32.ofInt (24 - 8 * (j : Int)) &&& 31).toBitVec.smod 32).toNat).signExtend 8 = (a.toUInt32 >>> ((Int32.ofInt (24 - 8 * (j : Int))).toUInt32 &&& Int32.toUInt32 31)).toBitVec.signExtend 8
  rw [c1, fd_bv _ _ (by omega), UInt32.toBitVec_shiftRight]
  congr 1
  show _ = a.toBitVec >>> (((Int32.ofInt (24 - 8 * (j : Int))).toUInt32 &&& Int32.toUInt32 31).toBitVec % 32)
  rw [BitVec.ushiftRight_eq', BitVec.toNat_umod]
  exact congrArg (fun t => a.toBitVec >>> t) c2.symm
theorem fd_ar {a : Int32} {j : Nat} (hj : j < 4) : vp_nar .byte ((Int32.toInt8 (a >>> (Int32.ofInt (24 - 8 * (j : Int)) &&& 31))).toInt32) = fd_b a j := by
  rw [fd_sr hj]; rfl
/-- n bytes of twenty -/
def fd_n (g g2 : Nat → Int32) (f n : Nat) (a b c d e : Int32) : Prop := ∀ k : Nat, g2 k = if f ≤ k ∧ k < f + n then fd_5 a b c d e (k - f) else g k
theorem fd_n_0 {g : Nat → Int32} {f n : Nat} {a b c d e : Int32} (h : n = 0) : fd_n g g f n a b c d e := fun k => by rw [if_neg (by omega)]
theorem fd_n_s {g lg g2 : Nat → Int32} {f n n2 k : Nat} {a b c d e v sh x : Int32} (h : fd_n g lg f n a b c d e) (e2 : g2 = upd lg k (vp_nar .byte x)) (ek : k = f + n) (ex : x = (Int32.toInt8 (v >>> (sh &&& 31))).toInt32) (es : sh = Int32.ofInt (24 - 8 * ((n % 4 : Nat) : Int))) (ev : v = if n < 4 then a else if n < 8 then b else if n < 12 then c else if n < 16 then d else e) (en : n2 = n + 1) : fd_n g g2 f n2 a b c d e := fun j => by
  subst en
  rw [e2]
  by_cases u : j = k
  · rw [u, zu_s, ek, if_pos (by omega), show f + n - f = n by omega, ex, es, fd_ar (Nat.mod_lt _ (by decide)), ev]; rfl
  · rw [zu_n u, h j]
    by_cases w : f ≤ j ∧ j < f + n
    · rw [if_pos w, if_pos (by omega)]
    · rw [if_neg w, if_neg (by omega)]
theorem fd_sh : ∀ k : Fin 20, (24 : Int32) - 8 * (Int32.ofInt ((k.val : Nat) : Int) - Int32.ofInt ((k.val : Nat) : Int) / 4 * 4) = Int32.ofInt (24 - 8 * ((k.val % 4 : Nat) : Int)) := by decide +kernel
theorem fd_sk {k x y z : Int32} (h0 : 0 ≤ k.toInt) (h1 : k.toInt < 20) (e1 : x = k - k / 4 * 4) (e2 : y = 8 * x) (e3 : z = 24 - y) : z = Int32.ofInt (24 - 8 * ((Int32.toNatClampNeg k % 4 : Nat) : Int)) := by
  have hn := zn_nat h0
  have e := zi_of (y := k) (j := Int32.toNatClampNeg k) hn.symm
  have t := fd_sh ⟨Int32.toNatClampNeg k, by omega⟩
  have t : (24 : Int32) - 8 * (Int32.ofInt ((Int32.toNatClampNeg k : Nat) : Int) - Int32.ofInt ((Int32.toNatClampNeg k : Nat) : Int) / 4 * 4) = _ := t
  rw [← e] at t
  rw [e3, e2, e1]; exact t
