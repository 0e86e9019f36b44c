/-- the first call -/
theorem zV0_mk {S : Nat → Nat → Int32} {nd en ff : Nat → Int32} {fz : Int32} {G : Nat → Nat → Int} {L : List Nat} {p : Nat → Bool} {cb cb2 ck2 : Nat → Int32} {on on2 ba2 tp tp2 st fu : Int32} (hw : zWk S nd en fz G L) (e10 : S 10 = ff) (h0 : 0 ≤ fu.toInt) (hf : fu.toInt < fz.toInt) (hon : on.toInt = 0) (h1 : on2.toInt = on.toInt + 1) (h2 : ba2.toInt = tp.toInt - (ff (5 * Int32.toNatClampNeg fu)).toInt) (h3 : tp2.toInt = ba2.toInt + (ff (5 * Int32.toNatClampNeg fu + 1)).toInt) (h4 : cb2 = upd cb (Int32.toNatClampNeg on) ba2) (htt : tp.toInt = (ff (5 * Int32.toNatClampNeg fu)).toInt) (hst : st.toInt = 0) (hpt : ∀ k : Nat, (k : Int) < tp.toInt → p k = true) : 0 ≤ (en (Int32.toNatClampNeg fu)).toInt ∧ zV0 S nd G L p cb2 ck2 on2 ba2 tp2 st (Int32.toNatClampNeg (en (Int32.toNatClampNeg fu))) := by
  subst e10
  have hn := zn_nat h0
  have ho := zn_nat (x := on) (by omega)
  have ho2 := zn_nat (x := on2) (by omega)
  have hb2 := zn_nat (x := ba2) (by omega)
  obtain ⟨q1, q2, q3, q4⟩ := hw.2.2.2.2.1 (Int32.toNatClampNeg fu) (by omega)
  obtain ⟨t1, t2, t3, t4⟩ := hw.2.2.2.2.2.1 (Int32.toNatClampNeg fu) (by omega)
  have eN : zNm S G (Int32.toNatClampNeg (en (Int32.toNatClampNeg fu))) = (S 10 (5 * Int32.toNatClampNeg fu + 1)).toInt := by unfold zNm; rw [q4]; rfl
  have eT : (S 10 (5 * (G (Int32.toNatClampNeg (en (Int32.toNatClampNeg fu))) 4).toNat)).toInt = (S 10 (5 * Int32.toNatClampNeg fu)).toInt := by rw [q4]; rfl
  refine ⟨q1, q2, q3, by omega, by omega, ?_, by omega, by rw [eN]; exact h3, by omega, by omega, fun k hk => ?_, fun i hi => by omega⟩
  · rw [h4, show Int32.toNatClampNeg on2 - 1 = Int32.toNatClampNeg on by omega, zu_s]
  · rw [show Int32.toNatClampNeg ba2 + k = k by omega]
    exact hpt k (by omega)
