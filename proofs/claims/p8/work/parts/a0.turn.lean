theorem zT_4h {S : Nat → Nat → Int32} {nd en a kf : Nat → Int32} {fz kz : Int32} {G : Nat → Nat → Int} {L : List Nat} {p : Nat → Bool} {cb ck : Nat → Int32} {on ba tp st : Int32} {r : Nat} (hw : zWk S nd en fz G L) (e1 : S 1 = a) (e9 : S 9 = kf) (h : zV S nd G L p cb ck on ba tp st r) (ho : Int32.toNatClampNeg (S 0 r) = 4) : zfk kz kf (a r) = 0 := by
  subst e1 e9
  obtain ⟨f, po, z, -⟩ := zV_row hw h.1 ho
  simp only [zop] at z
  unfold zfk
  rw [if_neg (by omega)]
theorem zks_up {ks ks2 : Nat → Int32} {on on2 sn : Int32} (h : ∀ i : Nat, (i : Int) < on.toInt → 0 ≤ (ks i).toInt) (e : ks2 = upd ks (Int32.toNatClampNeg on) sn) (h0 : 0 ≤ sn.toInt) (h1 : 0 ≤ on.toInt) (h2 : on2.toInt = on.toInt + 1) : ∀ i : Nat, (i : Int) < on2.toInt → 0 ≤ (ks2 i).toInt := fun i hi => by
  have hn := zn_nat h1
  rw [e]
  by_cases g : i = Int32.toNatClampNeg on
  · rw [g, zu_s]; exact h0
  · rw [zu_n g]; exact h i (by omega)
theorem zvk_0 {kz : Int32} {kf : Nat → Int32} {v : Int64} (h : zhs v = 0) : zvk kz kf v ∧ zhs v ≠ 2 := ⟨⟨fun g => absurd (h.symm.trans g) (by decide), fun g => absurd h g⟩, fun g => absurd (h.symm.trans g) (by decide)⟩
theorem zvk_1 {kz k : Int32} {kf : Nat → Int32} {v : Int64} (h : zhs v = 1) (hk : v.toInt32 = k) (h0 : zfk kz kf k = 0) : zvk kz kf v ∧ zhs v ≠ 2 := ⟨⟨fun g => absurd (h.symm.trans g) (by decide), fun _ _ => by rw [hk]; exact h0⟩, fun g => absurd (h.symm.trans g) (by decide)⟩
