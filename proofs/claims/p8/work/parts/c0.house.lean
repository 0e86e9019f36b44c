/-! the house: what its calls leave -/
theorem zMD_0 {n : Nat} {kz fr ff he db sn : Int32} {kf gk gc : Nat → Int32} {gv : Nat → Int64} {st : Nat → Int64} {p : Nat → Bool} {sh : Nat → Int32} (h : ∀ j, p j = true → j < n ∧ zhs (st j) = 0) (e1 : fr.toInt = 0) (e2 : ff.toInt = -1) (e3 : he.toInt = 0) (e4 : db.toInt = 0) (e5 : sn.toInt = 0) : zMD n kz kf gk gc gv fr ff he db st p sh sn := by
  have hn := zn_nat (x := fr) (by omega)
  have hR : ∀ c, zRS n st p c = 0 := fun c => zs_z (fun d _ => by
    show (if p d = true then zr (st d) c else 0) = 0
    by_cases g : p d = true
    · rw [if_pos g]; exact zr_n (fun u => absurd ((h d g).2.symm.trans u) (by decide))
    · rw [if_neg g])
  have e0 : Int32.toNatClampNeg fr = 0 := by omega
  refine ⟨fun _ => false, [], ⟨⟨fun c hc => Bool.noConfusion hc, fun c _ => ⟨?_, ?_⟩, fun c => ?_⟩, by omega, by omega, by omega, fun c => ?_, e2, (show (-1 : Int32).toInt = -1 by decide), List.nodup_nil, fun c hc => (nomatch hc), by show he.toInt + ((0 : Nat) : Int) = fr.toInt; omega, fun d hd => hd.elim (fun u => Bool.noConfusion u) (fun u => (nomatch u))⟩, fun c hc => Bool.noConfusion hc, fun j hj => ⟨(h j hj).1, fun g => absurd ((h j hj).2.symm.trans g) (by decide), fun g => absurd (h j hj).2 g⟩, ⟨fun i hi => by omega, fun i j _ hj => by omega⟩, fun _ => Int.le_refl _⟩
  · show zRS n st p c + 0 + 0 = 0
    rw [hR c]; rfl
  · rw [e0]; rfl
  · show 0 ≤ zRS n st p c + 0 + 0
    rw [hR c]; decide
  · show 0 ≤ zRS n st p c + 0
    rw [hR c]; decide
theorem zMP_0 {n : Nat} {kz fr sn : Int32} {kf gk : Nat → Int32} {gv : Nat → Int64} {st : Nat → Int64} {p : Nat → Bool} {sh : Nat → Int32} (h : ∀ j, p j = true → j < n ∧ zhs (st j) = 0) (e1 : fr.toInt = 0) (e5 : sn.toInt = 0) : zMP n kz kf gk gv fr st p sh sn :=
  ⟨fun j hj => ⟨(h j hj).1, ⟨fun g => absurd ((h j hj).2.symm.trans g) (by decide), fun g => absurd (h j hj).2 g⟩, fun g => absurd ((h j hj).2.symm.trans g) (by decide)⟩, fun c hc => by omega, fun i hi => by omega⟩
/-- the names told, as they lie on the stack -/
theorem zti_s {gs gs2 : Nat → Int64} {i i2 t : Nat} {v : Int64} (h : ∀ k, k < i → zhs (gs k) = 0) (e : gs2 = vp_updL gs t v) (et : t = i) (hv : zhs v = 0) (ei : i2 = i + 1) : ∀ k, k < i2 → zhs (gs2 k) = 0 := fun k hk => by
  rw [e]
  by_cases g : k = t
  · rw [g, zul_s]; exact hv
  · rw [zul_n g]; exact h k (by omega)
