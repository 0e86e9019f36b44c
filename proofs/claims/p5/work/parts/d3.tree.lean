section
/-! the reference's parts: a tree that is laid out in order, children ahead of their part -/
def zJU (f : Nat → Nat) (z v : Nat) : Nat → Nat := fun k => if k = z then v else f k
theorem zJU_s {f : Nat → Nat} {z v : Nat} : zJU f z v z = v := if_pos rfl
theorem zJU_n {f : Nat → Nat} {z v k : Nat} (h : k ≠ z) : zJU f z v k = f k := if_neg h
/-- roots, one behind the other, from a to z -/
def zJr (L : Nat → Nat) : Nat → Nat → List Nat → Prop
  | a, z, [] => a = z
  | a, z, r :: l => L r = a ∧ a ≤ r ∧ (∀ k, a ≤ k → k ≤ r → a ≤ L k) ∧ zJr L (r + 1) z l
theorem zJr_le {L : Nat → Nat} : ∀ {R : List Nat} {a z : Nat}, zJr L a z R → a ≤ z
  | [], a, z, h => Nat.le_of_eq h
  | r :: l, a, z, h => by have := h.2.1; have := zJr_le h.2.2.2; omega
theorem zJr_in {L : Nat → Nat} : ∀ {R : List Nat} {a z : Nat}, zJr L a z R → ∀ r ∈ R, a ≤ r ∧ r < z
  | [], _, _, _, r, hr => nomatch hr
  | x :: l, a, z, h, r, hr => by
    have h1 := h.2.1
    have h2 := zJr_le h.2.2.2
    rcases List.mem_cons.mp hr with e | e
    · subst e; omega
    · have := zJr_in h.2.2.2 r e; omega
theorem zJr_ext {L L2 : Nat → Nat} : ∀ {R : List Nat} {a z : Nat}, zJr L a z R → (∀ k, a ≤ k → k < z → L2 k = L k) → zJr L2 a z R
  | [], _, _, h, _ => h
  | x :: l, a, z, h, he => by
    have h1 := h.2.1
    have h2 := zJr_le h.2.2.2
    refine ⟨by rw [he x (by omega) (by omega)]; exact h.1, h1, fun k g1 g2 => by rw [he k (by omega) (by omega)]; exact h.2.2.1 k g1 g2, zJr_ext h.2.2.2 (fun k g1 g2 => he k (by omega) g2)⟩
theorem zJr_snoc {L : Nat → Nat} {z r : Nat} (e1 : L r = z) (e2 : z ≤ r) (e3 : ∀ k, z ≤ k → k ≤ r → z ≤ L k) : ∀ {R : List Nat} {a : Nat}, zJr L a z R → zJr L a (r + 1) (R ++ [r])
  | [], a, h => by have h : a = z := h; subst h; exact ⟨e1, e2, e3, rfl⟩
  | x :: l, a, h => ⟨h.1, h.2.1, h.2.2.1, zJr_snoc e1 e2 e3 h.2.2.2⟩
theorem zJr_low {L : Nat → Nat} : ∀ {R : List Nat} {a z : Nat}, zJr L a z R → ∀ k, a ≤ k → k < z → a ≤ L k
  | [], a, z, h, k, h1, h2 => by have h : a = z := h; omega
  | x :: l, a, z, h, k, h1, h2 => by
    by_cases g : k ≤ x
    · exact h.2.2.1 k h1 g
    · have := zJr_low h.2.2.2 k (by omega) h2
      have := h.2.1
      omega
/-- a root is no child of a part between -/
theorem zJr_no {L : Nat → Nat} : ∀ {R : List Nat} {a z : Nat}, zJr L a z R → ∀ r ∈ R, ∀ k, a ≤ k → k < z → k ≤ r ∨ r < L k
  | [], _, _, _, r, hr, _, _, _ => nomatch hr
  | x :: l, a, z, h, r, hr, k, h1, h2 => by
    have g1 := h.2.1
    have g2 := zJr_le h.2.2.2
    rcases List.mem_cons.mp hr with e | e
    · subst e
      by_cases g : k ≤ r
      · exact Or.inl g
      · have := zJr_low h.2.2.2 k (by omega) h2; omega
    · have g3 := zJr_in h.2.2.2 r e
      by_cases g : k ≤ x
      · omega
      · exact zJr_no h.2.2.2 r e k (by omega) h2
/-- two parts have no child in common -/
theorem zJr_one {L : Nat → Nat} {R : List Nat} {a z x k : Nat} (h : zJr L a z R) (hx : x ∈ R) (h1 : a ≤ k) (h2 : k < z) (g1 : L k ≤ x) (g2 : x < k) : False := by
  have := zJr_no h x hx k h1 h2
  omega
/-- S: 0 what, 1 own, 2 one, 3 two, 4 three, 5 beside, 6 many, 7 the kinds' fields, 8 how many kinds. L k: the first part below k; C k: how many names are told there. What is owed of part k -/
def zJn (S : Nat → Nat → Int32) (L C : Nat → Nat) (k : Nat) : Nat → Prop
  | 1 => L k = k
  | 2 => L k = k ∧ 0 ≤ (S 1 k).toInt ∧ (S 1 k).toInt < C k
  | 3 => ∃ R, zJr L (L k) k R ∧ zli (S 5) (S 2 k) R ∧ (R.length : Int) = (S 6 k).toInt ∧ ∀ r ∈ R, C r = C k ∧ (S 0 r).toInt ≠ 9
  | 4 => ∃ R, zJr L (L k) k R ∧ zli (S 5) (S 2 k) R ∧ (R.length : Int) = (S 6 k).toInt ∧ (∀ r ∈ R, C r = C k ∧ (S 0 r).toInt ≠ 9) ∧ R.length ≤ 3 ∧ 0 ≤ (S 1 k).toInt ∧ (S 1 k).toInt < (S 8 0).toInt ∧ S 7 (Int32.toNatClampNeg (S 1 k)) = S 6 k
  | 5 => ∃ a b, zJr L (L k) k [a, b] ∧ (S 2 k).toInt = (a : Nat) ∧ (S 3 k).toInt = (b : Nat) ∧ C a = C k ∧ C b = C k ∧ (S 0 a).toInt ≠ 9 ∧ (S 0 b).toInt ≠ 9
  | 6 => ∃ a b, zJr L (L k) k [a, b] ∧ (S 2 k).toInt = (a : Nat) ∧ (S 3 k).toInt = (b : Nat) ∧ C a = C k ∧ C b = C k + 1 ∧ (S 0 a).toInt ≠ 9 ∧ (S 0 b).toInt ≠ 9 ∧ (S 1 k).toInt = (C k : Nat)
  | 7 => ∃ a b c, zJr L (L k) k [a, b, c] ∧ (S 2 k).toInt = (a : Nat) ∧ (S 3 k).toInt = (b : Nat) ∧ (S 4 k).toInt = (c : Nat) ∧ C a = C k ∧ C b = C k ∧ C c = C k ∧ (S 0 a).toInt ≠ 9 ∧ (S 0 b).toInt ≠ 9 ∧ (S 0 c).toInt ≠ 9
  | 8 => ∃ R, zJr L (L k) k R ∧ zli (S 5) (S 2 k) R ∧ (∀ r ∈ R, C r = C k ∧ (S 0 r).toInt = 9) ∧ 0 ≤ (S 1 k).toInt ∧ (S 1 k).toInt < C k
  | 9 => ∃ a, zJr L (L k) k [a] ∧ (S 2 k).toInt = (a : Nat) ∧ (S 3 k).toInt = (C k : Nat) ∧ (C a : Int) = C k + (S 6 k).toInt ∧ (S 0 a).toInt ≠ 9 ∧ 0 ≤ (S 6 k).toInt ∧ (S 6 k).toInt ≤ 3 ∧ ((S 1 k).toInt = -1 ∧ (S 6 k).toInt = 0 ∨ 0 ≤ (S 1 k).toInt ∧ (S 1 k).toInt < (S 8 0).toInt ∧ S 7 (Int32.toNatClampNeg (S 1 k)) = S 6 k)
  | _ => False
/-- kinds come behind the elder ones, and keep their fields -/
def zJk (S S2 : Nat → Nat → Int32) : Prop := (S 8 0).toInt ≤ (S2 8 0).toInt ∧ ∀ q : Nat, (q : Int) < (S 8 0).toInt → (S 7 q).toInt ≠ -1 → S2 7 q = S 7 q
theorem zJk_rf {S : Nat → Nat → Int32} : zJk S S := ⟨Int.le_refl _, fun _ _ _ => rfl⟩
theorem zJk_tr {S S1 S2 : Nat → Nat → Int32} (a : zJk S S1) (b : zJk S1 S2) : zJk S S2 := ⟨Int.le_trans a.1 b.1, fun q h g => by
  have e := a.2 q h g
  rw [b.2 q (Int.lt_of_lt_of_le h a.1) (by rw [e]; exact g), e]⟩
/-- what part k rests on stays -/
def zJh (S S2 : Nat → Nat → Int32) (L L2 C C2 : Nat → Nat) (lo k : Nat) : Prop := zJk S S2 ∧ (∀ i, i ≤ 6 → i ≠ 5 → ∀ j, lo ≤ j → j ≤ k → S2 i j = S i j) ∧ (∀ j, lo ≤ j → j < k → S2 5 j = S 5 j) ∧ ∀ j, lo ≤ j → j ≤ k → L2 j = L j ∧ C2 j = C j
theorem zJn_ext {S S2 : Nat → Nat → Int32} {L L2 C C2 : Nat → Nat} {k n : Nat} (hk : L k ≤ k) (h : zJh S S2 L L2 C C2 (L k) k) (hn : zJn S L C k n) : zJn S2 L2 C2 k n := by
  obtain ⟨h7, h0, h5, hL⟩ := h
  have eL : L2 k = L k := (hL k hk (Nat.le_refl _)).1
  have eC : C2 k = C k := (hL k hk (Nat.le_refl _)).2
  have er : ∀ {R : List Nat}, zJr L (L k) k R → zJr L2 (L2 k) k R := fun {R} g => by
    rw [eL]; exact zJr_ext g (fun j g1 g2 => (hL j g1 (by omega)).1)
  have ek : ∀ i, i ≤ 6 → i ≠ 5 → S2 i k = S i k := fun i g1 g2 => h0 i g1 g2 k hk (Nat.le_refl _)
  have el : ∀ {R : List Nat} {x : Int32}, zJr L (L k) k R → zli (S 5) x R → zli (S2 5) x R := fun {R x} g u => zli_ext u (fun r hr => by have := zJr_in g r hr; exact h5 r (by omega) (by omega))
  have ei : ∀ {R : List Nat}, zJr L (L k) k R → ∀ r ∈ R, L2 r = L r ∧ C2 r = C r ∧ S2 0 r = S 0 r := fun {R} g r hr => by
    have := zJr_in g r hr
    exact ⟨(hL r (by omega) (by omega)).1, (hL r (by omega) (by omega)).2, h0 0 (by decide) (by decide) r (by omega) (by omega)⟩
  have ef : 0 ≤ (S 1 k).toInt → (S 1 k).toInt < (S 8 0).toInt → S 7 (Int32.toNatClampNeg (S 1 k)) = S 6 k → 0 ≤ (S 6 k).toInt → 0 ≤ (S2 1 k).toInt ∧ (S2 1 k).toInt < (S2 8 0).toInt ∧ S2 7 (Int32.toNatClampNeg (S2 1 k)) = S2 6 k := fun g1 g2 g3 g4 => by
    rw [ek 1 (by decide) (by decide), ek 6 (by decide) (by decide)]
    have := zn_nat g1
    exact ⟨g1, Int.lt_of_lt_of_le g2 h7.1, by rw [h7.2 _ (by omega) (by rw [g3]; omega)]; exact g3⟩
  match n, hn with
  | 1, hn => show L2 k = k; rw [eL]; exact hn
  | 2, hn =>
    obtain ⟨a, b, c⟩ := hn
    exact ⟨by rw [eL]; exact a, by rw [ek 1 (by decide) (by decide)]; exact b, by rw [ek 1 (by decide) (by decide), eC]; exact c⟩
  | 3, hn =>
    obtain ⟨R, g1, g2, g3, g4⟩ := hn
    refine ⟨R, er g1, by rw [ek 2 (by decide) (by decide)]; exact el g1 g2, by rw [ek 6 (by decide) (by decide)]; exact g3, fun r hr => ?_⟩
    rw [(ei g1 r hr).2.1, (ei g1 r hr).2.2, eC]; exact g4 r hr
  | 4, hn =>
    obtain ⟨R, g1, g2, g3, g4, g5, g6, g7, g8⟩ := hn
    refine ⟨R, er g1, by rw [ek 2 (by decide) (by decide)]; exact el g1 g2, by rw [ek 6 (by decide) (by decide)]; exact g3, fun r hr => ?_, g5, ef g6 g7 g8 (by omega)⟩
    rw [(ei g1 r hr).2.1, (ei g1 r hr).2.2, eC]; exact g4 r hr
  | 5, hn =>
    obtain ⟨a, b, g1, g2, g3, g4, g5, g6, g7⟩ := hn
    have ia := ei g1 a List.mem_cons_self
    have ib := ei g1 b (List.mem_cons_of_mem _ List.mem_cons_self)
    refine ⟨a, b, er g1, by rw [ek 2 (by decide) (by decide)]; exact g2, by rw [ek 3 (by decide) (by decide)]; exact g3, by rw [ia.2.1, eC]; exact g4, by rw [ib.2.1, eC]; exact g5, by rw [ia.2.2]; exact g6, by rw [ib.2.2]; exact g7⟩
  | 6, hn =>
    obtain ⟨a, b, g1, g2, g3, g4, g5, g6, g7, g8⟩ := hn
    have ia := ei g1 a List.mem_cons_self
    have ib := ei g1 b (List.mem_cons_of_mem _ List.mem_cons_self)
    refine ⟨a, b, er g1, by rw [ek 2 (by decide) (by decide)]; exact g2, by rw [ek 3 (by decide) (by decide)]; exact g3, by rw [ia.2.1, eC]; exact g4, by rw [ib.2.1, eC]; exact g5, by rw [ia.2.2]; exact g6, by rw [ib.2.2]; exact g7, by rw [ek 1 (by decide) (by decide), eC]; exact g8⟩
  | 7, hn =>
    obtain ⟨a, b, c, g1, g2, g3, g4, g5, g6, g7, g8, g9, g10⟩ := hn
    have ia := ei g1 a List.mem_cons_self
    have ib := ei g1 b (List.mem_cons_of_mem _ List.mem_cons_self)
    have ic := ei g1 c (List.mem_cons_of_mem _ (List.mem_cons_of_mem _ List.mem_cons_self))
    refine ⟨a, b, c, er g1, by rw [ek 2 (by decide) (by decide)]; exact g2, by rw [ek 3 (by decide) (by decide)]; exact g3, by rw [ek 4 (by decide) (by decide)]; exact g4, by rw [ia.2.1, eC]; exact g5, by rw [ib.2.1, eC]; exact g6, by rw [ic.2.1, eC]; exact g7, by rw [ia.2.2]; exact g8, by rw [ib.2.2]; exact g9, by rw [ic.2.2]; exact g10⟩
  | 8, hn =>
    obtain ⟨R, g1, g2, g3, g4, g5⟩ := hn
    refine ⟨R, er g1, by rw [ek 2 (by decide) (by decide)]; exact el g1 g2, fun r hr => ?_, by rw [ek 1 (by decide) (by decide)]; exact g4, by rw [ek 1 (by decide) (by decide), eC]; exact g5⟩
    rw [(ei g1 r hr).2.1, (ei g1 r hr).2.2, eC]; exact g3 r hr
  | 9, hn =>
    obtain ⟨a, g1, g2, g3, g4, g5, g6, g7, g8⟩ := hn
    have ia := ei g1 a List.mem_cons_self
    refine ⟨a, er g1, by rw [ek 2 (by decide) (by decide)]; exact g2, by rw [ek 3 (by decide) (by decide), eC]; exact g3, by rw [ia.2.1, ek 6 (by decide) (by decide), eC]; exact g4, by rw [ia.2.2]; exact g5, by rw [ek 6 (by decide) (by decide)]; exact g6, by rw [ek 6 (by decide) (by decide)]; exact g7, ?_⟩
    rcases g8 with ⟨u, v⟩ | ⟨u, v, w⟩
    · left; rw [ek 1 (by decide) (by decide), ek 6 (by decide) (by decide)]; exact ⟨u, v⟩
    · right; exact ef u v w g6
/-- all parts from a to z -/
def zJs (S : Nat → Nat → Int32) (L C : Nat → Nat) (a z : Nat) : Prop := ∀ k, a ≤ k → k < z → a ≤ L k ∧ L k ≤ k ∧ zJn S L C k (Int32.toNatClampNeg (S 0 k)) ∧ C k ≤ 24
/-- what stays below a -/
def zJf (S S2 : Nat → Nat → Int32) (L L2 C C2 : Nat → Nat) (a : Nat) : Prop := zJk S S2 ∧ ∀ k, k < a → (∀ i, i ≤ 6 → S2 i k = S i k) ∧ L2 k = L k ∧ C2 k = C k
theorem zJf_rf {S : Nat → Nat → Int32} {L C : Nat → Nat} {a : Nat} : zJf S S L L C C a := ⟨zJk_rf, fun _ _ => ⟨fun _ _ => rfl, rfl, rfl⟩⟩
theorem zJf_tr {S S1 S2 : Nat → Nat → Int32} {L L1 L2 C C1 C2 : Nat → Nat} {a b : Nat} (h : zJf S S1 L L1 C C1 a) (g : zJf S1 S2 L1 L2 C1 C2 b) (hab : a ≤ b) : zJf S S2 L L2 C C2 a := ⟨zJk_tr h.1 g.1, fun k hk => by
  have u := h.2 k hk
  have v := g.2 k (by omega)
  exact ⟨fun i hi => (v.1 i hi).trans (u.1 i hi), v.2.1.trans u.2.1, v.2.2.trans u.2.2⟩⟩
theorem zJs_ext {S S2 : Nat → Nat → Int32} {L L2 C C2 : Nat → Nat} {a z : Nat} (h : zJs S L C a z) (g : zJf S S2 L L2 C C2 z) : zJs S2 L2 C2 a z := fun k h1 h2 => by
  obtain ⟨u1, u2, u3, u4⟩ := h k h1 h2
  have v := g.2 k h2
  rw [v.2.1, v.2.2, v.1 0 (by decide)]
  exact ⟨u1, u2, zJn_ext u2 ⟨g.1, fun i hi _ j _ hj => (g.2 j (by omega)).1 i hi, fun j _ hj => (g.2 j (by omega)).1 5 (by decide), fun j _ hj => (g.2 j (by omega)).2⟩ u3, u4⟩
/-- the roots made so far: their numbers, the names told at each, is it an arm -/
def zJl (S0 S : Nat → Nat → Int32) (L0 L C0 C : Nat → Nat) (a z : Nat) (R : List (Nat × Nat × Bool)) : Prop := a ≤ z ∧ zJf S0 S L0 L C0 C a ∧ zJs S L C a z ∧ zJr L a z (R.map (·.1)) ∧ ∀ q ∈ R, C q.1 = q.2.1 ∧ (q.2.2 = false → (S 0 q.1).toInt ≠ 9) ∧ (q.2.2 = true → (S 0 q.1).toInt = 9)
/-- one root from a to z, with nothing beside it -/
def zJE (S0 S : Nat → Nat → Int32) (L0 L C0 C : Nat → Nat) (a z c : Nat) (t : Bool) : Prop := a < z ∧ zJl S0 S L0 L C0 C a z [(z - 1, c, t)] ∧ (S 5 (z - 1)).toInt = -1
theorem zJl_nil {S : Nat → Nat → Int32} {L C : Nat → Nat} {a : Nat} : zJl S S L L C C a a [] := ⟨Nat.le_refl _, zJf_rf, fun k h1 h2 => absurd h1 (by omega), rfl, fun q hq => nomatch hq⟩
theorem zJl_idk {S0 S S2 : Nat → Nat → Int32} {L0 L C0 C : Nat → Nat} {a z : Nat} {R : List (Nat × Nat × Bool)} (h : zJl S0 S L0 L C0 C a z R) (hk : zJk S S2) (hs : ∀ i, i ≤ 6 → S2 i = S i) : zJl S0 S2 L0 L C0 C a z R := by
  have f : zJf S S2 L L C C z := ⟨hk, fun k _ => ⟨fun i hi => by rw [hs i hi], rfl, rfl⟩⟩
  exact ⟨h.1, zJf_tr h.2.1 f h.1, zJs_ext h.2.2.1 f, h.2.2.2.1, fun q hq => by rw [hs 0 (by decide)]; exact h.2.2.2.2 q hq⟩
theorem zJl_add {S0 S S2 : Nat → Nat → Int32} {L0 L L2 C0 C C2 : Nat → Nat} {a z z2 c : Nat} {t : Bool} {R : List (Nat × Nat × Bool)} (h : zJl S0 S L0 L C0 C a z R) (g : zJE S S2 L L2 C C2 z z2 c t) : zJl S0 S2 L0 L2 C0 C2 a z2 (R ++ [(z2 - 1, c, t)]) := by
  obtain ⟨h1, h2, h3, h4, h5⟩ := h
  obtain ⟨g1, ⟨-, g2, g3, g4, g5⟩, g6⟩ := g
  obtain ⟨r1, r2, r3, -⟩ := g4
  have e : z2 - 1 + 1 = z2 := by omega
  refine ⟨by omega, zJf_tr h2 g2 h1, fun k k1 k2 => ?_, ?_, fun q hq => ?_⟩
  · by_cases u : k < z
    · exact zJs_ext h3 g2 k k1 u
    · obtain ⟨v1, v2, v3⟩ := g3 k (by omega) k2
      exact ⟨by omega, v2, v3⟩
  · have := zJr_snoc (R := R.map (·.1)) (L := L2) (z := z) (r := z2 - 1) r1 r2 r3 (zJr_ext h4 (fun k _ hk => (g2.2 k hk).2.1))
    rw [e] at this
    rw [List.map_append]
    exact this
  · rcases List.mem_append.mp hq with u | u
    · have v := h5 q u
      have w := (zJr_in h4 q.1 (List.mem_map_of_mem u)).2
      rw [(g2.2 q.1 w).2.2, (g2.2 q.1 w).1 0 (by decide)]
      exact v
    · exact g5 q u
/-- a new part over the roots -/
theorem zJE_new {S0 S S2 : Nat → Nat → Int32} {L0 L C0 C : Nat → Nat} {a z c n : Nat} {t : Bool} {R : List (Nat × Nat × Bool)} (h : zJl S0 S L0 L C0 C a z R) (hf : ∀ i, i ≤ 6 → ∀ k, k < z → S2 i k = S i k) (hk : zJk S S2) (hw : (S2 0 z).toInt = (n : Int)) (ht : t = true ↔ n = 9) (h5 : (S2 5 z).toInt = -1) (hc : c ≤ 24) (hn : zJl S0 S2 L0 (zJU L z a) C0 (zJU C z c) a z R → zJU L z a z = a → zJU C z c z = c → zJn S2 (zJU L z a) (zJU C z c) z n) : zJE S0 S2 L0 (zJU L z a) C0 (zJU C z c) a (z + 1) c t := by
  have f : zJf S S2 L (zJU L z a) C (zJU C z c) z := ⟨hk, fun k hk => ⟨fun i hi => hf i hi k hk, zJU_n (by omega), zJU_n (by omega)⟩⟩
  obtain ⟨h1, h2, h3, h4, h6⟩ := h
  have hl : zJl S0 S2 L0 (zJU L z a) C0 (zJU C z c) a z R := ⟨h1, zJf_tr h2 f h1, zJs_ext h3 f, zJr_ext h4 (fun k _ hk => zJU_n (by omega)), fun q hq => by
    have w := (zJr_in h4 q.1 (List.mem_map_of_mem hq)).2
    rw [(f.2 q.1 w).2.2, (f.2 q.1 w).1 0 (by decide)]; exact h6 q hq⟩
  have hz := hn hl zJU_s zJU_s
  refine ⟨by omega, ⟨by omega, hl.2.1, fun k k1 k2 => ?_, ⟨?_, ?_, ?_, ?_⟩, fun q hq => ?_⟩, h5⟩
  · by_cases u : k < z
    · exact hl.2.2.1 k k1 u
    · have e : k = z := by omega
      rw [e, zJU_s, zJU_s, zn_lit hw]
      exact ⟨Nat.le_refl _, h1, hz, hc⟩
  · exact zJU_s
  · exact h1
  · intro k k1 k2
    by_cases u : k < z
    · exact (hl.2.2.1 k k1 u).1
    · rw [show k = z by have : k ≤ z := k2; omega, zJU_s]; exact Nat.le_refl _
  · rfl
  · rw [List.mem_singleton.mp hq]
    refine ⟨zJU_s, fun g => ?_, fun g => ?_⟩
    · show (S2 0 z).toInt ≠ 9
      rw [hw]; intro u
      have := ht.mpr (by omega)
      have g : t = false := g
      rw [g] at this; exact nomatch this
    · show (S2 0 z).toInt = 9
      rw [hw, ht.mp g]; rfl
/-- one more beside the last root -/
theorem zJl_be {S0 S S2 : Nat → Nat → Int32} {L0 L C0 C : Nat → Nat} {a z x : Nat} {v : Int32} {R : List (Nat × Nat × Bool)} (h : zJl S0 S L0 L C0 C a z R) (hx : x ∈ R.map (·.1)) (hs : ∀ i, i ≤ 8 → i ≠ 5 → S2 i = S i) (h5 : S2 5 = upd (S 5) x v) : zJl S0 S2 L0 L C0 C a z R := by
  obtain ⟨h1, h2, h3, h4, h6⟩ := h
  have hxa := zJr_in h4 x hx
  have hk : zJk S S2 := by
    unfold zJk
    rw [hs 7 (by decide) (by decide), hs 8 (by decide) (by decide)]
    exact ⟨Int.le_refl _, fun _ _ _ => rfl⟩
  refine ⟨h1, zJf_tr h2 (b := a) ⟨hk, fun k hk => ⟨fun i hi => ?_, rfl, rfl⟩⟩ (Nat.le_refl _), fun k k1 k2 => ?_, h4, fun q hq => by rw [hs 0 (by decide) (by decide)]; exact h6 q hq⟩
  · by_cases e : i = 5
    · rw [e, h5, zu_n (by omega)]
    · rw [hs i (by omega) e]
  · obtain ⟨u1, u2, u3, u4⟩ := h3 k k1 k2
    have hno := zJr_no h4 x hx k k1 k2
    rw [hs 0 (by decide) (by decide)]
    exact ⟨u1, u2, zJn_ext u2 ⟨hk, fun i hi g j _ _ => by rw [hs i (by omega) g], fun j j1 j2 => by rw [h5, zu_n (by omega)], fun _ _ _ => ⟨rfl, rfl⟩⟩ u3, u4⟩
/-- the reference's rows as one -/
def zJS (wh ow on tw th be ma fi : Nat → Int32) (kz : Int32) : Nat → Nat → Int32
  | 0 => wh
  | 1 => ow
  | 2 => on
  | 3 => tw
  | 4 => th
  | 5 => be
  | 6 => ma
  | 7 => fi
  | 8 => fun _ => kz
  | _ => fun _ => 0
/-- part z is written -/
def zJp (S S2 : Nat → Nat → Int32) (z : Nat) (w o a b t m : Int32) : Prop := S2 0 = upd (S 0) z w ∧ S2 1 = upd (S 1) z o ∧ S2 2 = upd (S 2) z a ∧ S2 3 = upd (S 3) z b ∧ S2 4 = upd (S 4) z t ∧ S2 5 = upd (S 5) z (-1) ∧ S2 6 = upd (S 6) z m ∧ S2 7 = S 7 ∧ S2 8 = S 8
theorem zJp_f {S S2 : Nat → Nat → Int32} {z : Nat} {w o a b t m : Int32} (h : zJp S S2 z w o a b t m) : (∀ i, i ≤ 6 → ∀ k, k < z → S2 i k = S i k) ∧ zJk S S2 := by
  obtain ⟨h0, h1, h2, h3, h4, h5, h6, h7, h8⟩ := h
  refine ⟨fun i hi k hk => ?_, by unfold zJk; rw [h7, h8]; exact ⟨Int.le_refl _, fun _ _ _ => rfl⟩⟩
  match i, hi with
  | 0, _ => rw [h0, zu_n (by omega)]
  | 1, _ => rw [h1, zu_n (by omega)]
  | 2, _ => rw [h2, zu_n (by omega)]
  | 3, _ => rw [h3, zu_n (by omega)]
  | 4, _ => rw [h4, zu_n (by omega)]
  | 5, _ => rw [h5, zu_n (by omega)]
  | 6, _ => rw [h6, zu_n (by omega)]
theorem zJm1 : Int32.toInt (-1) = -1 := by decide
theorem zJ_mk {S0 S S2 : Nat → Nat → Int32} {L0 L C0 C : Nat → Nat} {a z c n : Nat} {t : Bool} {R : List (Nat × Nat × Bool)} {w o x y u m : Int32} (h : zJl S0 S L0 L C0 C a z R) (hp : zJp S S2 z w o x y u m) (hw : w.toInt = (n : Int)) (ht : t = true ↔ n = 9) (hc24 : c ≤ 24) (hn : zJl S0 S2 L0 (zJU L z a) C0 (zJU C z c) a z R → zJU L z a z = a → zJU C z c z = c → S2 1 z = o → S2 2 z = x → S2 3 z = y → S2 4 z = u → S2 6 z = m → zJn S2 (zJU L z a) (zJU C z c) z n) : ∃ L2 C2, zJE S0 S2 L0 L2 C0 C2 a (z + 1) c t := by
  have hp' := hp
  obtain ⟨h0, h1, h2, h3, h4, h5, h6, h7, h8⟩ := hp'
  exact ⟨_, _, zJE_new h (zJp_f hp).1 (zJp_f hp).2 (by rw [h0, zu_s]; exact hw) ht (by rw [h5, zu_s]; exact zJm1) hc24 (fun g1 g2 g3 => hn g1 g2 g3 (by rw [h1, zu_s]) (by rw [h2, zu_s]) (by rw [h3, zu_s]) (by rw [h4, zu_s]) (by rw [h6, zu_s]))⟩
theorem zJ_num {S S2 : Nat → Nat → Int32} {L C : Nat → Nat} {z c : Nat} {w o x y u m : Int32} (hp : zJp S S2 z w o x y u m) (hw : w.toInt = 1) (hc24 : c ≤ 24) : ∃ L2 C2, zJE S S2 L L2 C C2 z (z + 1) c false :=
  zJ_mk (n := 1) zJl_nil hp hw (by simp) hc24 (fun _ g _ _ _ _ _ _ => g)
theorem zJ_use {S S2 : Nat → Nat → Int32} {L C : Nat → Nat} {z c : Nat} {w o x y u m : Int32} (hp : zJp S S2 z w o x y u m) (hw : w.toInt = 2) (h0 : 0 ≤ o.toInt) (h1 : o.toInt < (c : Int)) (hc24 : c ≤ 24) : ∃ L2 C2, zJE S S2 L L2 C C2 z (z + 1) c false :=
  zJ_mk (n := 2) (c := c) zJl_nil hp hw (by simp) hc24 (fun _ g gc go _ _ _ _ => ⟨g, by rw [go]; exact h0, by rw [go, gc]; exact h1⟩)
theorem zJ_un {S0 S S2 : Nat → Nat → Int32} {L0 L C0 C : Nat → Nat} {a z : Nat} {R : List (Nat × Nat × Bool)} (h : zJl S0 S L0 L C0 C a z R) (h5 : ∀ k, k < z → S2 5 k = S 5 k) {x : Int32} (hl : zli (S 5) x (R.map (·.1))) : zli (S2 5) x (R.map (·.1)) := zli_ext hl (fun r hr => h5 r (zJr_in h.2.2.2.1 r hr).2)
theorem zJ_all {S : Nat → Nat → Int32} {C : Nat → Nat} {R : List (Nat × Nat × Bool)} {c : Nat} {t : Bool} (h : ∀ q ∈ R, C q.1 = q.2.1 ∧ (q.2.2 = false → (S 0 q.1).toInt ≠ 9) ∧ (q.2.2 = true → (S 0 q.1).toInt = 9)) (hc : ∀ q ∈ R, q.2 = (c, t)) : ∀ r ∈ R.map (·.1), C r = c ∧ (t = false → (S 0 r).toInt ≠ 9) ∧ (t = true → (S 0 r).toInt = 9) := fun r hr => by
  obtain ⟨q, hq, rfl⟩ := List.mem_map.mp hr
  have g := h q hq
  have e := hc q hq
  rw [e] at g; exact g
theorem zJ_call {S0 S S2 : Nat → Nat → Int32} {L0 L C0 C : Nat → Nat} {a z c : Nat} {R : List (Nat × Nat × Bool)} {w o x y u m : Int32} (h : zJl S0 S L0 L C0 C a z R) (hp : zJp S S2 z w o x y u m) (hw : w.toInt = 3) (hc : ∀ q ∈ R, q.2 = (c, false)) (hl : zli (S 5) x (R.map (·.1))) (hm : (R.length : Int) = m.toInt) (hc24 : c ≤ 24) : ∃ L2 C2, zJE S0 S2 L0 L2 C0 C2 a (z + 1) c false :=
  zJ_mk (n := 3) h hp hw (by simp) hc24 (fun g gl gc go gx gy gu gm => ⟨R.map (·.1), by rw [gl]; exact g.2.2.2.1, by rw [gx]; exact zJ_un h (fun k hk => (zJp_f hp).1 5 (by decide) k hk) hl, by rw [gm, List.length_map]; exact hm, fun r hr => by
    have v := zJ_all g.2.2.2.2 hc r hr
    rw [gc]; exact ⟨v.1, v.2.1 rfl⟩⟩)
theorem zJ_made {S0 S S2 : Nat → Nat → Int32} {L0 L C0 C : Nat → Nat} {a z c : Nat} {R : List (Nat × Nat × Bool)} {w o x y u m : Int32} (h : zJl S0 S L0 L C0 C a z R) (hp : zJp S S2 z w o x y u m) (hw : w.toInt = 4) (hc : ∀ q ∈ R, q.2 = (c, false)) (hl : zli (S 5) x (R.map (·.1))) (hm : (R.length : Int) = m.toInt) (hm3 : m.toInt ≤ 3) (ho : 0 ≤ o.toInt) (ho2 : o.toInt < (S 8 0).toInt) (hf : S 7 (Int32.toNatClampNeg o) = m) (hc24 : c ≤ 24) : ∃ L2 C2, zJE S0 S2 L0 L2 C0 C2 a (z + 1) c false :=
  zJ_mk (n := 4) h hp hw (by simp) hc24 (fun g gl gc go gx gy gu gm => ⟨R.map (·.1), by rw [gl]; exact g.2.2.2.1, by rw [gx]; exact zJ_un h (fun k hk => (zJp_f hp).1 5 (by decide) k hk) hl, by rw [gm, List.length_map]; exact hm, fun r hr => by
    have v := zJ_all g.2.2.2.2 hc r hr
    rw [gc]; exact ⟨v.1, v.2.1 rfl⟩, by rw [List.length_map]; omega, by rw [go]; exact ho, by rw [go, hp.2.2.2.2.2.2.2.2]; exact ho2, by rw [go, gm, hp.2.2.2.2.2.2.2.1]; exact hf⟩)
theorem zJ_match {S0 S S2 : Nat → Nat → Int32} {L0 L C0 C : Nat → Nat} {a z c : Nat} {R : List (Nat × Nat × Bool)} {w o x y u m : Int32} (h : zJl S0 S L0 L C0 C a z R) (hp : zJp S S2 z w o x y u m) (hw : w.toInt = 8) (hc : ∀ q ∈ R, q.2 = (c, true)) (hl : zli (S 5) x (R.map (·.1))) (ho : 0 ≤ o.toInt) (ho2 : o.toInt < (c : Int)) (hc24 : c ≤ 24) : ∃ L2 C2, zJE S0 S2 L0 L2 C0 C2 a (z + 1) c false :=
  zJ_mk (n := 8) h hp hw (by simp) hc24 (fun g gl gc go gx gy gu gm => ⟨R.map (·.1), by rw [gl]; exact g.2.2.2.1, by rw [gx]; exact zJ_un h (fun k hk => (zJp_f hp).1 5 (by decide) k hk) hl, fun r hr => by
    have v := zJ_all g.2.2.2.2 hc r hr
    rw [gc]; exact ⟨v.1, v.2.2 rfl⟩, by rw [go]; exact ho, by rw [go, gc]; exact ho2⟩)
theorem zJ_bin {S0 S S2 : Nat → Nat → Int32} {L0 L C0 C : Nat → Nat} {a z c p q : Nat} {w o x y u m : Int32} (h : zJl S0 S L0 L C0 C a z [(p, c, false), (q, c, false)]) (hp : zJp S S2 z w o x y u m) (hw : w.toInt = 5) (hx : x.toInt = (p : Int)) (hy : y.toInt = (q : Int)) (hc24 : c ≤ 24) : ∃ L2 C2, zJE S0 S2 L0 L2 C0 C2 a (z + 1) c false :=
  zJ_mk (n := 5) h hp hw (by simp) hc24 (fun g gl gc go gx gy gu gm => by
    have g1 := g.2.2.2.2 (p, c, false) List.mem_cons_self
    have g2 := g.2.2.2.2 (q, c, false) (List.mem_cons_of_mem _ List.mem_cons_self)
    exact ⟨p, q, by rw [gl]; exact g.2.2.2.1, by rw [gx]; exact hx, by rw [gy]; exact hy, by rw [gc]; exact g1.1, by rw [gc]; exact g2.1, g1.2.1 rfl, g2.2.1 rfl⟩)
theorem zJ_let {S0 S S2 : Nat → Nat → Int32} {L0 L C0 C : Nat → Nat} {a z c p q : Nat} {w o x y u m : Int32} (h : zJl S0 S L0 L C0 C a z [(p, c, false), (q, c + 1, false)]) (hp : zJp S S2 z w o x y u m) (hw : w.toInt = 6) (hx : x.toInt = (p : Int)) (hy : y.toInt = (q : Int)) (ho : o.toInt = (c : Int)) (hc24 : c ≤ 24) : ∃ L2 C2, zJE S0 S2 L0 L2 C0 C2 a (z + 1) c false :=
  zJ_mk (n := 6) h hp hw (by simp) hc24 (fun g gl gc go gx gy gu gm => by
    have g1 := g.2.2.2.2 (p, c, false) List.mem_cons_self
    have g2 := g.2.2.2.2 (q, c + 1, false) (List.mem_cons_of_mem _ List.mem_cons_self)
    exact ⟨p, q, by rw [gl]; exact g.2.2.2.1, by rw [gx]; exact hx, by rw [gy]; exact hy, by rw [gc]; exact g1.1, by rw [gc]; exact g2.1, g1.2.1 rfl, g2.2.1 rfl, by rw [go, gc]; exact ho⟩)
theorem zJ_if {S0 S S2 : Nat → Nat → Int32} {L0 L C0 C : Nat → Nat} {a z c p q r : Nat} {w o x y u m : Int32} (h : zJl S0 S L0 L C0 C a z [(p, c, false), (q, c, false), (r, c, false)]) (hp : zJp S S2 z w o x y u m) (hw : w.toInt = 7) (hx : x.toInt = (p : Int)) (hy : y.toInt = (q : Int)) (hu : u.toInt = (r : Int)) (hc24 : c ≤ 24) : ∃ L2 C2, zJE S0 S2 L0 L2 C0 C2 a (z + 1) c false :=
  zJ_mk (n := 7) h hp hw (by simp) hc24 (fun g gl gc go gx gy gu gm => by
    have g1 := g.2.2.2.2 (p, c, false) List.mem_cons_self
    have g2 := g.2.2.2.2 (q, c, false) (List.mem_cons_of_mem _ List.mem_cons_self)
    have g3 := g.2.2.2.2 (r, c, false) (List.mem_cons_of_mem _ (List.mem_cons_of_mem _ List.mem_cons_self))
    exact ⟨p, q, r, by rw [gl]; exact g.2.2.2.1, by rw [gx]; exact hx, by rw [gy]; exact hy, by rw [gu]; exact hu, by rw [gc]; exact g1.1, by rw [gc]; exact g2.1, by rw [gc]; exact g3.1, g1.2.1 rfl, g2.2.1 rfl, g3.2.1 rfl⟩)
theorem zJ_arm {S0 S S2 : Nat → Nat → Int32} {L0 L C0 C : Nat → Nat} {a z c c2 p : Nat} {w o x y u m : Int32} (h : zJl S0 S L0 L C0 C a z [(p, c2, false)]) (hp : zJp S S2 z w o x y u m) (hw : w.toInt = 9) (hx : x.toInt = (p : Int)) (hy : y.toInt = (c : Int)) (hc : (c2 : Int) = c + m.toInt) (hm : 0 ≤ m.toInt) (hm3 : m.toInt ≤ 3) (ho : o.toInt = -1 ∧ m.toInt = 0 ∨ 0 ≤ o.toInt ∧ o.toInt < (S 8 0).toInt ∧ S 7 (Int32.toNatClampNeg o) = m) (hc24 : c ≤ 24) : ∃ L2 C2, zJE S0 S2 L0 L2 C0 C2 a (z + 1) c true :=
  zJ_mk (n := 9) h hp hw (by simp) hc24 (fun g gl gc go gx gy gu gm => by
    have g1 := g.2.2.2.2 (p, c2, false) List.mem_cons_self
    refine ⟨p, by rw [gl]; exact g.2.2.2.1, by rw [gx]; exact hx, by rw [gy, gc]; exact hy, by rw [gc, gm, g1.1]; exact hc, g1.2.1 rfl, by rw [gm]; exact hm, by rw [gm]; exact hm3, ?_⟩
    rw [go, gm, hp.2.2.2.2.2.2.2.2, hp.2.2.2.2.2.2.2.1]; exact ho)
theorem zJl_one {S0 S : Nat → Nat → Int32} {L0 L C0 C : Nat → Nat} {a z c : Nat} {t : Bool} (h : zJE S0 S L0 L C0 C a z c t) : zJl S0 S L0 L C0 C a z [(z - 1, c, t)] := h.2.1
/-- kinds ahead of it -/
theorem zJl_pre {S0 S1 S : Nat → Nat → Int32} {L0 L C0 C : Nat → Nat} {a z : Nat} {R : List (Nat × Nat × Bool)} (hk : zJk S0 S1) (hs : ∀ i, i ≤ 6 → S1 i = S0 i) (h : zJl S1 S L0 L C0 C a z R) : zJl S0 S L0 L C0 C a z R := ⟨h.1, zJf_tr (b := a) ⟨hk, fun k _ => ⟨fun i hi => by rw [hs i hi], rfl, rfl⟩⟩ h.2.1 (Nat.le_refl _), h.2.2⟩
/-- the roots of a chain: its first, its last, how many -/
def zJG (S0 S : Nat → Nat → Int32) (L0 L C0 C : Nat → Nat) (a z c : Nat) (t : Bool) (fi la : Int32) (n : Int) : Prop := ∃ R, zJl S0 S L0 L C0 C a z R ∧ (∀ q ∈ R, q.2 = (c, t)) ∧ zli (S 5) fi (R.map (·.1)) ∧ (R.length : Int) = n ∧ (n ≠ 0 → a < z ∧ la.toInt = ((z - 1 : Nat) : Int) ∧ (S 5 (z - 1)).toInt = -1 ∧ ∃ P, R = P ++ [(z - 1, c, t)])
theorem zJG_nil {S : Nat → Nat → Int32} {L C : Nat → Nat} {a c : Nat} {t : Bool} {fi la : Int32} {n : Int} (hf : fi.toInt = -1) (hn : n = 0) : zJG S S L L C C a a c t fi la n := ⟨[], zJl_nil, (fun q hq => nomatch hq), hf, hn.symm, fun g => absurd hn g⟩
theorem zJG_0 {S0 S S2 : Nat → Nat → Int32} {L0 L L2 C0 C C2 : Nat → Nat} {a z z2 c : Nat} {t : Bool} {fi la e : Int32} {n n2 : Int} (h : zJG S0 S L0 L C0 C a z c t fi la n) (hn : n = 0) (g : zJE S S2 L L2 C C2 z z2 c t) (he : e.toInt = ((z2 - 1 : Nat) : Int)) (en : n2 = 1) : zJG S0 S2 L0 L2 C0 C2 a z2 c t e e n2 := by
  obtain ⟨R, h1, h2, h3, h4, h5⟩ := h
  have e0 : R = [] := List.eq_nil_of_length_eq_zero (by omega)
  subst e0
  have := zJl_add h1 g
  refine ⟨[(z2 - 1, c, t)], this, fun q hq => by rw [List.mem_singleton.mp hq], ⟨he, g.2.2⟩, by rw [en]; rfl, fun _ => ⟨by have := g.1; have := h1.1; omega, he, g.2.2, [], rfl⟩⟩
theorem zli_sn {nx nx2 : Nat → Int32} {x y : Nat} (h1 : (nx2 x).toInt = (y : Int)) (h2 : (nx2 y).toInt = -1) : ∀ {P : List Nat} {f : Int32}, zli nx f (P ++ [x]) → (∀ r ∈ P, nx2 r = nx r) → zli nx2 f (P ++ [x] ++ [y])
  | [], f, h, _ => ⟨h.1, h1, h2⟩
  | p :: P, f, h, he => ⟨h.1, by rw [he p List.mem_cons_self]; exact zli_sn h1 h2 h.2 (fun r hr => he r (List.mem_cons_of_mem _ hr))⟩
theorem zJr_lt {L : Nat → Nat} {x z : Nat} : ∀ {P : List Nat} {a : Nat}, zJr L a z (P ++ [x]) → ∀ r ∈ P, r < x
  | [], _, _, r, hr => nomatch hr
  | p :: P, a, h, r, hr => by
    rcases List.mem_cons.mp hr with e | e
    · subst e
      have := zJr_in h.2.2.2 x (List.mem_append.mpr (Or.inr List.mem_cons_self)); omega
    · exact zJr_lt h.2.2.2 r e
theorem zJG_add {S0 S S2 S3 : Nat → Nat → Int32} {L0 L L2 C0 C C2 : Nat → Nat} {a z z2 c : Nat} {t : Bool} {fi la e : Int32} {n n2 : Int} (h : zJG S0 S L0 L C0 C a z c t fi la n) (hn : n ≠ 0) (g : zJE S S2 L L2 C C2 z z2 c t) (he : e.toInt = ((z2 - 1 : Nat) : Int)) (en : n2 = n + 1) (hs : ∀ i, i ≤ 8 → i ≠ 5 → S3 i = S2 i) (h5 : S3 5 = upd (S2 5) (Int32.toNatClampNeg la) e) : zJG S0 S3 L0 L2 C0 C2 a z2 c t fi e n2 := by
  obtain ⟨R, h1, h2, h3, h4, h6⟩ := h
  obtain ⟨k1, k2, k3, P, k4⟩ := h6 hn
  have hla : Int32.toNatClampNeg la = z - 1 := zn_lit k2
  have hz := g.1
  have hA := zJl_add h1 g
  have hx : z - 1 ∈ R.map (·.1) := by rw [k4, List.map_append]; exact List.mem_append.mpr (Or.inr List.mem_cons_self)
  have hB := zJl_be (S2 := S3) hA (x := z - 1) (v := e) (by rw [List.map_append]; exact List.mem_append.mpr (Or.inl hx)) hs (by rw [h5, hla])
  refine ⟨_, hB, fun q hq => ?_, ?_, by rw [en, List.length_append, ← h4]; rfl, fun _ => ⟨by omega, he, ?_, R, rfl⟩⟩
  · rcases List.mem_append.mp hq with u | u
    · exact h2 q u
    · rw [List.mem_singleton.mp u]
  · rw [List.map_append, k4, List.map_append]
    have h4' := h1.2.2.2.1
    rw [k4, List.map_append] at h4' h3
    refine zli_sn (nx := S 5) (x := z - 1) (y := z2 - 1) ?_ ?_ h3 (fun r hr => ?_)
    · rw [h5, hla, zu_s]; exact he
    · rw [h5, hla, zu_n (by omega)]; exact g.2.2
    · have : r < z - 1 := zJr_lt h4' r hr
      rw [h5, hla, zu_n (by omega)]
      exact (g.2.1.2.1.2 r (by omega)).1 5 (by decide)
  · rw [h5, hla, zu_n (by omega)]; exact g.2.2

end
section
/-! the reference's parts of a tree -/
/-- is it a row? -/
def tm_cl : Tm → Prop
  | .leaf none => True
  | .branch (_ + 3) _ _ => True
  | _ => False
/-- the parts a .. b - 1 are the tree, the last one its root; of a row of trees: fi is its first one's root. R: what, place, own, one, two, three, beside, many; J says what a call has for its word -/
def rI (R : Nat → Nat → Int32) (J : Nat → Int64 → Prop) : Tm → Int32 → Nat → Nat → Prop
  | .leaf (some (0, p, v, _, _, _)), _, a, b => b = a + 1 ∧ (R 0 a).toInt = 1 ∧ (R 1 a).toInt = p ∧ (R 2 a).toInt = v
  | .leaf (some (_ + 1, p, _, s, _, _)), _, a, b => b = a + 1 ∧ (R 0 a).toInt = 2 ∧ (R 1 a).toInt = p ∧ (R 2 a).toInt = (s : Int)
  | .branch 0 (.leaf (some (0, p, _, _, _, w))) x, _, a, b => ∃ m : Nat, rI R J x (R 3 m) a m ∧ b = m + 1 ∧ (R 0 m).toInt = 3 ∧ (R 1 m).toInt = p ∧ J m w ∧ (R 7 m).toInt = (tm_ln x : Int)
  | .branch 0 (.leaf (some (1, p, _, k, _, _))) x, _, a, b => ∃ m : Nat, rI R J x (R 3 m) a m ∧ b = m + 1 ∧ (R 0 m).toInt = 4 ∧ (R 1 m).toInt = p ∧ (R 2 m).toInt = (k : Int) ∧ (R 7 m).toInt = (tm_ln x : Int)
  | .branch 1 (.leaf (some (0, p, o, _, _, _))) (.branch _ x y), _, a, b => ∃ m n : Nat, rI R J x 0 a m ∧ rI R J y 0 m n ∧ b = n + 1 ∧ (R 0 n).toInt = 5 ∧ (R 1 n).toInt = p ∧ (R 2 n).toInt = o ∧ (R 3 n).toInt = (m : Int) - 1 ∧ (R 4 n).toInt = (n : Int) - 1
  | .branch 1 (.leaf (some (_ + 1, p, _, s, _, _))) (.branch _ x y), _, a, b => ∃ m n : Nat, rI R J x 0 a m ∧ rI R J y 0 m n ∧ b = n + 1 ∧ (R 0 n).toInt = 6 ∧ (R 1 n).toInt = p ∧ (R 2 n).toInt = (s : Int) ∧ (R 3 n).toInt = (m : Int) - 1 ∧ (R 4 n).toInt = (n : Int) - 1
  | .branch 2 (.leaf (some (_, p, _, _, _, _))) (.branch _ x (.branch _ y z)), _, a, b => ∃ m n q : Nat, rI R J x 0 a m ∧ rI R J y 0 m n ∧ rI R J z 0 n q ∧ b = q + 1 ∧ (R 0 q).toInt = 7 ∧ (R 1 q).toInt = p ∧ (R 3 q).toInt = (m : Int) - 1 ∧ (R 4 q).toInt = (n : Int) - 1 ∧ (R 5 q).toInt = (q : Int) - 1
  | .branch 0 (.leaf (some (2, p, _, s, _, _))) x, _, a, b => ∃ m : Nat, rI R J x (R 3 m) a m ∧ b = m + 1 ∧ (R 0 m).toInt = 8 ∧ (R 1 m).toInt = p ∧ (R 2 m).toInt = (s : Int)
  | .branch 0 (.leaf (some (_ + 3, p, k, h, mm, _))) x, _, a, b => ∃ m : Nat, rI R J x 0 a m ∧ b = m + 1 ∧ (R 0 m).toInt = 9 ∧ (R 1 m).toInt = p ∧ (R 2 m).toInt = k ∧ (R 4 m).toInt = (h : Int) ∧ (R 7 m).toInt = (mm : Int) ∧ (R 3 m).toInt = (m : Int) - 1
  | .leaf none, fi, a, b => a = b ∧ fi.toInt = -1
  | .branch (_ + 3) x y, fi, a, b => ∃ m : Nat, rI R J x 0 a m ∧ (a < m ∧ ¬ tm_cl x) ∧ fi.toInt = (m : Int) - 1 ∧ rI R J y (R 6 (m - 1)) m b
  | _, _, _, _ => False
theorem rI_le {R : Nat → Nat → Int32} {J : Nat → Int64 → Prop} : ∀ (t : Tm) {fi : Int32} {a b : Nat}, rI R J t fi a b → a ≤ b
  | .leaf (some (0, _, _, _, _, _)), _, _, _, h => by have := h.1; omega
  | .leaf (some (_ + 1, _, _, _, _, _)), _, _, _, h => by have := h.1; omega
  | .branch 0 (.leaf (some (0, _, _, _, _, _))) x, _, _, _, h => by obtain ⟨m, h1, h2, -⟩ := h; have := rI_le x h1; omega
  | .branch 0 (.leaf (some (1, _, _, _, _, _))) x, _, _, _, h => by obtain ⟨m, h1, h2, -⟩ := h; have := rI_le x h1; omega
  | .branch 1 (.leaf (some (0, _, _, _, _, _))) (.branch _ x y), _, _, _, h => by obtain ⟨m, n, h1, h2, h3, -⟩ := h; have := rI_le x h1; have := rI_le y h2; omega
  | .branch 1 (.leaf (some (_ + 1, _, _, _, _, _))) (.branch _ x y), _, _, _, h => by obtain ⟨m, n, h1, h2, h3, -⟩ := h; have := rI_le x h1; have := rI_le y h2; omega
  | .branch 2 (.leaf (some (_, _, _, _, _, _))) (.branch _ x (.branch _ y z)), _, _, _, h => by obtain ⟨m, n, q, h1, h2, h3, h4, -⟩ := h; have := rI_le x h1; have := rI_le y h2; have := rI_le z h3; omega
  | .branch 0 (.leaf (some (2, _, _, _, _, _))) x, _, _, _, h => by obtain ⟨m, h1, h2, -⟩ := h; have := rI_le x h1; omega
  | .branch 0 (.leaf (some (_ + 3, _, _, _, _, _))) x, _, _, _, h => by obtain ⟨m, h1, h2, -⟩ := h; have := rI_le x h1; omega
  | .branch 0 (.leaf none) _, _, _, _, h9 => h9.elim
  | .branch 0 (.branch _ _ _) _, _, _, _, h9 => h9.elim
  | .branch 1 (.leaf none) _, _, _, _, h9 => h9.elim
  | .branch 1 (.branch _ _ _) _, _, _, _, h9 => h9.elim
  | .branch 1 (.leaf (some (0, _, _, _, _, _))) (.leaf _), _, _, _, h9 => h9.elim
  | .branch 1 (.leaf (some (_ + 1, _, _, _, _, _))) (.leaf _), _, _, _, h9 => h9.elim
  | .branch 2 (.leaf none) _, _, _, _, h9 => h9.elim
  | .branch 2 (.branch _ _ _) _, _, _, _, h9 => h9.elim
  | .branch 2 (.leaf (some (_, _, _, _, _, _))) (.leaf _), _, _, _, h9 => h9.elim
  | .branch 2 (.leaf (some (_, _, _, _, _, _))) (.branch _ _ (.leaf _)), _, _, _, h9 => h9.elim
  | .leaf none, _, _, _, h => by have := h.1; omega
  | .branch (_ + 3) x y, _, _, _, h => by obtain ⟨m, h1, ⟨h2, -⟩, -, h3⟩ := h; have := rI_le y h3; omega
/-- what stays -/
theorem rI_st {R R2 : Nat → Nat → Int32} {J J2 : Nat → Int64 → Prop} {lo hi c : Nat} (h0 : ∀ k, lo ≤ k → k < hi → ∀ i, i ≠ 6 → R2 i k = R i k) (h6 : ∀ k, lo ≤ k → k < c → R2 6 k = R 6 k) (hJ : ∀ k w, lo ≤ k → k < hi → J k w → J2 k w) : ∀ (t : Tm) {fi : Int32} {a b : Nat}, lo ≤ a → b ≤ hi → b ≤ c + 1 → (tm_cl t → b ≤ c) → rI R J t fi a b → rI R2 J2 t fi a b
  | .leaf (some (0, _, _, _, _, _)), _, a, b, ha, hb, _, _, h => by
    obtain ⟨e, h1, h2, h3⟩ := h
    have r := h0 a ha (by omega)
    exact ⟨e, by rw [r 0 (by decide)]; exact h1, by rw [r 1 (by decide)]; exact h2, by rw [r 2 (by decide)]; exact h3⟩
  | .leaf (some (_ + 1, _, _, _, _, _)), _, a, b, ha, hb, _, _, h => by
    obtain ⟨e, h1, h2, h3⟩ := h
    have r := h0 a ha (by omega)
    exact ⟨e, by rw [r 0 (by decide)]; exact h1, by rw [r 1 (by decide)]; exact h2, by rw [r 2 (by decide)]; exact h3⟩
  | .branch 0 (.leaf (some (0, _, _, _, _, w))) x, _, a, b, ha, hb, hc, _, h => by
    obtain ⟨m, q, e, h1, h2, h3, h4⟩ := h
    have l := rI_le x q
    have r := h0 m (by omega) (by omega)
    exact ⟨m, by rw [r 3 (by decide)]; exact rI_st h0 h6 hJ x ha (by omega) (by omega) (fun _ => by omega) q, e, by rw [r 0 (by decide)]; exact h1, by rw [r 1 (by decide)]; exact h2, hJ m w (by omega) (by omega) h3, by rw [r 7 (by decide)]; exact h4⟩
  | .branch 0 (.leaf (some (1, _, _, _, _, _))) x, _, a, b, ha, hb, hc, _, h => by
    obtain ⟨m, q, e, h1, h2, h3, h4⟩ := h
    have l := rI_le x q
    have r := h0 m (by omega) (by omega)
    exact ⟨m, by rw [r 3 (by decide)]; exact rI_st h0 h6 hJ x ha (by omega) (by omega) (fun _ => by omega) q, e, by rw [r 0 (by decide)]; exact h1, by rw [r 1 (by decide)]; exact h2, by rw [r 2 (by decide)]; exact h3, by rw [r 7 (by decide)]; exact h4⟩
  | .branch 1 (.leaf (some (0, _, _, _, _, _))) (.branch _ x y), _, a, b, ha, hb, hc, _, h => by
    obtain ⟨m, n, q1, q2, e, h1, h2, h3, h4, h5⟩ := h
    have l1 := rI_le x q1
    have l2 := rI_le y q2
    have r := h0 n (by omega) (by omega)
    exact ⟨m, n, rI_st h0 h6 hJ x ha (by omega) (by omega) (fun _ => by omega) q1, rI_st h0 h6 hJ y (by omega) (by omega) (by omega) (fun _ => by omega) q2, e, by rw [r 0 (by decide)]; exact h1, by rw [r 1 (by decide)]; exact h2, by rw [r 2 (by decide)]; exact h3, by rw [r 3 (by decide)]; exact h4, by rw [r 4 (by decide)]; exact h5⟩
  | .branch 1 (.leaf (some (_ + 1, _, _, _, _, _))) (.branch _ x y), _, a, b, ha, hb, hc, _, h => by
    obtain ⟨m, n, q1, q2, e, h1, h2, h3, h4, h5⟩ := h
    have l1 := rI_le x q1
    have l2 := rI_le y q2
    have r := h0 n (by omega) (by omega)
    exact ⟨m, n, rI_st h0 h6 hJ x ha (by omega) (by omega) (fun _ => by omega) q1, rI_st h0 h6 hJ y (by omega) (by omega) (by omega) (fun _ => by omega) q2, e, by rw [r 0 (by decide)]; exact h1, by rw [r 1 (by decide)]; exact h2, by rw [r 2 (by decide)]; exact h3, by rw [r 3 (by decide)]; exact h4, by rw [r 4 (by decide)]; exact h5⟩
  | .branch 2 (.leaf (some (_, _, _, _, _, _))) (.branch _ x (.branch _ y z)), _, a, b, ha, hb, hc, _, h => by
    obtain ⟨m, n, q, q1, q2, q3, e, h1, h2, h3, h4, h5⟩ := h
    have l1 := rI_le x q1
    have l2 := rI_le y q2
    have l3 := rI_le z q3
    have r := h0 q (by omega) (by omega)
    exact ⟨m, n, q, rI_st h0 h6 hJ x ha (by omega) (by omega) (fun _ => by omega) q1, rI_st h0 h6 hJ y (by omega) (by omega) (by omega) (fun _ => by omega) q2, rI_st h0 h6 hJ z (by omega) (by omega) (by omega) (fun _ => by omega) q3, e, by rw [r 0 (by decide)]; exact h1, by rw [r 1 (by decide)]; exact h2, by rw [r 3 (by decide)]; exact h3, by rw [r 4 (by decide)]; exact h4, by rw [r 5 (by decide)]; exact h5⟩
  | .branch 0 (.leaf (some (2, _, _, _, _, _))) x, _, a, b, ha, hb, hc, _, h => by
    obtain ⟨m, q, e, h1, h2, h3⟩ := h
    have l := rI_le x q
    have r := h0 m (by omega) (by omega)
    exact ⟨m, by rw [r 3 (by decide)]; exact rI_st h0 h6 hJ x ha (by omega) (by omega) (fun _ => by omega) q, e, by rw [r 0 (by decide)]; exact h1, by rw [r 1 (by decide)]; exact h2, by rw [r 2 (by decide)]; exact h3⟩
  | .branch 0 (.leaf (some (_ + 3, _, _, _, _, _))) x, _, a, b, ha, hb, hc, _, h => by
    obtain ⟨m, q, e, h1, h2, h3, h4, h5, h6'⟩ := h
    have l := rI_le x q
    have r := h0 m (by omega) (by omega)
    exact ⟨m, rI_st h0 h6 hJ x ha (by omega) (by omega) (fun _ => by omega) q, e, by rw [r 0 (by decide)]; exact h1, by rw [r 1 (by decide)]; exact h2, by rw [r 2 (by decide)]; exact h3, by rw [r 4 (by decide)]; exact h4, by rw [r 7 (by decide)]; exact h5, by rw [r 3 (by decide)]; exact h6'⟩
  | .branch 0 (.leaf none) _, _, _, _, _, _, _, _, h9 => h9.elim
  | .branch 0 (.branch _ _ _) _, _, _, _, _, _, _, _, h9 => h9.elim
  | .branch 1 (.leaf none) _, _, _, _, _, _, _, _, h9 => h9.elim
  | .branch 1 (.branch _ _ _) _, _, _, _, _, _, _, _, h9 => h9.elim
  | .branch 1 (.leaf (some (0, _, _, _, _, _))) (.leaf _), _, _, _, _, _, _, _, h9 => h9.elim
  | .branch 1 (.leaf (some (_ + 1, _, _, _, _, _))) (.leaf _), _, _, _, _, _, _, _, h9 => h9.elim
  | .branch 2 (.leaf none) _, _, _, _, _, _, _, _, h9 => h9.elim
  | .branch 2 (.branch _ _ _) _, _, _, _, _, _, _, _, h9 => h9.elim
  | .branch 2 (.leaf (some (_, _, _, _, _, _))) (.leaf _), _, _, _, _, _, _, _, h9 => h9.elim
  | .branch 2 (.leaf (some (_, _, _, _, _, _))) (.branch _ _ (.leaf _)), _, _, _, _, _, _, _, h9 => h9.elim
  | .leaf none, _, _, _, _, _, _, _, h => h
  | .branch (_ + 3) x y, fi, a, b, ha, hb, hc, hl, h => by
    obtain ⟨m, q1, ⟨l1, l9⟩, e, q2⟩ := h
    have l2 := rI_le y q2
    have u : b ≤ c := hl trivial
    exact ⟨m, rI_st h0 h6 hJ x ha (by omega) (by omega) (fun _ => by omega) q1, ⟨l1, l9⟩, e, by rw [h6 (m - 1) (by omega) (by omega)]; exact rI_st h0 h6 hJ y (by omega) hb hc (fun _ => u) q2⟩
theorem rI_ne {R : Nat → Nat → Int32} {J : Nat → Int64 → Prop} : ∀ (y : Tm) {fi : Int32} {q m : Nat}, tm_li y → y ≠ Tm.nil → rI R J y fi q m → q < m
  | .leaf none, _, _, _, _, u, _ => absurd rfl u
  | .branch (_ + 3) _ _, _, _, _, _, _, h => by obtain ⟨_, _, ⟨w1, _⟩, _, w2⟩ := h; have := rI_le _ w2; omega
  | .leaf (some (0, _, _, _, _, _)), _, _, _, g, _, _ => g.elim
  | .leaf (some (_ + 1, _, _, _, _, _)), _, _, _, g, _, _ => g.elim
  | .branch 0 (.leaf (some (0, _, _, _, _, _))) _, _, _, _, g, _, _ => g.elim
  | .branch 0 (.leaf (some (1, _, _, _, _, _))) _, _, _, _, g, _, _ => g.elim
  | .branch 1 (.leaf (some (0, _, _, _, _, _))) (.branch _ _ _), _, _, _, g, _, _ => g.elim
  | .branch 1 (.leaf (some (_ + 1, _, _, _, _, _))) (.branch _ _ _), _, _, _, g, _, _ => g.elim
  | .branch 2 (.leaf (some (_, _, _, _, _, _))) (.branch _ _ (.branch _ _ _)), _, _, _, g, _, _ => g.elim
  | .branch 0 (.leaf (some (2, _, _, _, _, _))) _, _, _, _, g, _, _ => g.elim
  | .branch 0 (.leaf (some (_ + 3, _, _, _, _, _))) _, _, _, _, g, _, _ => g.elim
  | .branch 0 (.leaf none) _, _, _, _, g, _, _ => g.elim
  | .branch 0 (.branch _ _ _) _, _, _, _, g, _, _ => g.elim
  | .branch 1 (.leaf none) _, _, _, _, g, _, _ => g.elim
  | .branch 1 (.branch _ _ _) _, _, _, _, g, _, _ => g.elim
  | .branch 1 (.leaf (some (0, _, _, _, _, _))) (.leaf _), _, _, _, g, _, _ => g.elim
  | .branch 1 (.leaf (some (_ + 1, _, _, _, _, _))) (.leaf _), _, _, _, g, _, _ => g.elim
  | .branch 2 (.leaf none) _, _, _, _, g, _, _ => g.elim
  | .branch 2 (.branch _ _ _) _, _, _, _, g, _, _ => g.elim
  | .branch 2 (.leaf (some (_, _, _, _, _, _))) (.leaf _), _, _, _, g, _, _ => g.elim
  | .branch 2 (.leaf (some (_, _, _, _, _, _))) (.branch _ _ (.leaf _)), _, _, _, g, _, _ => g.elim
/-- one more behind a row -/
theorem rI_sn {R R2 : Nat → Nat → Int32} {J J2 : Nat → Int64 → Prop} {t : Tm} {m b : Nat} (h0 : ∀ k, k < m → ∀ i, i ≠ 6 → R2 i k = R i k) (h6 : ∀ k, k + 1 < m → R2 6 k = R 6 k) (hJ : ∀ k w, k < m → J k w → J2 k w) (ht : rI R2 J2 t 0 m b) (hmb : m < b) (htl : ¬ tm_cl t) (hb : (R2 6 (b - 1)).toInt = -1) : ∀ {c : Tm} {fi fi2 : Int32} {a : Nat}, tm_li c → rI R J c fi a m → (c = Tm.nil → fi2.toInt = (b : Int) - 1) → (c ≠ Tm.nil → fi2 = fi ∧ (R2 6 (m - 1)).toInt = (b : Int) - 1) → rI R2 J2 (tm_sn c t) fi2 a b
  | .leaf none, fi, fi2, a, _, h, e1, _ => by
    obtain ⟨rfl, -⟩ := h
    exact ⟨b, ht, ⟨hmb, htl⟩, e1 rfl, rfl, hb⟩
  | .branch (_ + 3) x y, fi, fi2, a, hl, h, _, e2 => by
    obtain ⟨q, q1, ⟨l1, l9⟩, e, q2⟩ := h
    have l2 := rI_le y q2
    obtain ⟨e3, e4⟩ := e2 (fun g => by cases g)
    have hx : rI R2 J2 x 0 a q := rI_st (lo := a) (hi := m) (c := m - 1) (fun k _ k2 i hi => h0 k k2 i hi) (fun k _ k2 => h6 k (by omega)) (fun k w _ k2 g => hJ k w k2 g) x (Nat.le_refl _) l2 (by omega) (fun g => absurd g l9) q1
    · refine ⟨q, hx, ⟨l1, l9⟩, by rw [e3]; exact e, ?_⟩
      by_cases u : y = Tm.nil
      · subst u
        have q3 : q = m := q2.1
        subst q3
        exact ⟨b, ht, ⟨hmb, htl⟩, e4, rfl, hb⟩
      · have l3 : q < m := rI_ne y hl u q2
        exact rI_sn h0 h6 hJ ht hmb htl hb (c := y) hl q2 (fun g => absurd g u) (fun _ => ⟨h6 (q - 1) (by omega), e4⟩)
/-- the reference's rows -/
def rcs (wh pl ow on tw th be ma : Nat → Int32) : Nat → Nat → Int32
  | 0 => wh | 1 => pl | 2 => ow | 3 => on | 4 => tw | 5 => th | 6 => be | _ => ma
def rJ (nm : Nat → Int64) (k : Nat) (w : Int64) : Prop := sp_cv w (nm k)
/-- a part as it was made -/
theorem zJp_at {S S2 : Nat → Nat → Int32} {z : Nat} {w o a b t m : Int32} (h : zJp S S2 z w o a b t m) : S2 0 z = w ∧ S2 1 z = o ∧ S2 2 z = a ∧ S2 3 z = b ∧ S2 4 z = t ∧ S2 5 z = -1 ∧ S2 6 z = m := by
  obtain ⟨h0, h1, h2, h3, h4, h5, h6, -⟩ := h
  exact ⟨by rw [h0, zu_s], by rw [h1, zu_s], by rw [h2, zu_s], by rw [h3, zu_s], by rw [h4, zu_s], by rw [h5, zu_s], by rw [h6, zu_s]⟩
/-- the rows below p stay -/
def rF (p : Nat) (A B : Nat → Nat → Int32) (n n2 : Nat → Int64) : Prop := ∀ k, k < p → (∀ i, B i k = A i k) ∧ n2 k = n k
theorem rF_rf {p : Nat} {A : Nat → Nat → Int32} {n : Nat → Int64} : rF p A A n n := fun _ _ => ⟨fun _ => rfl, rfl⟩
theorem rF_tr {p q : Nat} {A B C : Nat → Nat → Int32} {n n2 n3 : Nat → Int64} (h : rF p A B n n2) (g : rF q B C n2 n3) (hp : p ≤ q) : rF p A C n n3 := fun k hk => ⟨fun i => ((g k (by omega)).1 i).trans ((h k hk).1 i), (g k (by omega)).2.trans (h k hk).2⟩
theorem rI_mv {p : Nat} {A B : Nat → Nat → Int32} {n n2 : Nat → Int64} {t : Tm} {fi : Int32} {a b : Nat} (hF : rF p A B n n2) (h : rI A (rJ n) t fi a b) (hb : b ≤ p) : rI B (rJ n2) t fi a b :=
  rI_st (R := A) (J := rJ n) (lo := 0) (hi := p) (c := p) (fun k _ k2 i _ => (hF k k2).1 i) (fun k _ k2 => (hF k k2).1 6) (fun k w _ k2 g => by show sp_cv w (n2 k); rw [(hF k k2).2]; exact g) t (Nat.zero_le _) hb (by omega) (fun _ => hb) h
/-- a part more -/
theorem rF_p {wh pl ow on tw th be ma fi wh2 pl2 ow2 on2 tw2 th2 be2 ma2 fi2 : Nat → Int32} {kz kz2 : Int32} {nm nm2 : Nat → Int64} {z : Nat} {w o a b t m p : Int32} {x : Int64} (h : zJp (zJS wh ow on tw th be ma fi kz) (zJS wh2 ow2 on2 tw2 th2 be2 ma2 fi2 kz2) z w o a b t m) (hpl : pl2 = upd pl z p) (hnm : nm2 = vp_updL nm z x) : rF z (rcs wh pl ow on tw th be ma) (rcs wh2 pl2 ow2 on2 tw2 th2 be2 ma2) nm nm2 := fun k hk => by
  have hne : k ≠ z := by omega
  obtain ⟨h0, h1, h2, h3, h4, h5, h6, -⟩ := h
  refine ⟨fun i => ?_, by rw [hnm]; simp [vp_updL, hne]⟩
  match i with
  | 0 => show wh2 k = wh k; rw [show wh2 = upd wh z w from h0, zu_n hne]
  | 1 => show pl2 k = pl k; rw [hpl, zu_n hne]
  | 2 => show ow2 k = ow k; rw [show ow2 = upd ow z o from h1, zu_n hne]
  | 3 => show on2 k = on k; rw [show on2 = upd on z a from h2, zu_n hne]
  | 4 => show tw2 k = tw k; rw [show tw2 = upd tw z b from h3, zu_n hne]
  | 5 => show th2 k = th k; rw [show th2 = upd th z t from h4, zu_n hne]
  | 6 => show be2 k = be k; rw [show be2 = upd be z (-1) from h5, zu_n hne]
  | _ + 7 => show ma2 k = ma k; rw [show ma2 = upd ma z m from h6, zu_n hne]
/-- a part's row -/
def rV (R : Nat → Nat → Int32) (z : Nat) (w p o a b t m : Int32) : Prop := R 0 z = w ∧ R 1 z = p ∧ R 2 z = o ∧ R 3 z = a ∧ R 4 z = b ∧ R 5 z = t ∧ R 6 z = -1 ∧ R 7 z = m
theorem rV_p {S : Nat → Nat → Int32} {pl fi wh2 pl2 ow2 on2 tw2 th2 be2 ma2 : Nat → Int32} {kz2 : Int32} {z : Nat} {w o a b t m p : Int32} (h : zJp S (zJS wh2 ow2 on2 tw2 th2 be2 ma2 fi kz2) z w o a b t m) (hpl : pl2 = upd pl z p) : rV (rcs wh2 pl2 ow2 on2 tw2 th2 be2 ma2) z w p o a b t m := by
  obtain ⟨h0, h1, h2, h3, h4, h5, h6⟩ := zJp_at h
  exact ⟨h0, by show pl2 z = p; rw [hpl, zu_s], h1, h2, h3, h4, h5, h6⟩
section
variable {R : Nat → Nat → Int32} {J : Nat → Int64 → Prop} {x y u : Tm} {a z m n : Nat} {w p o c d t q : Int32} {pp vv : Int} {s : Nat}
theorem rN_num (h : rV R z w p o c d t q) (hw : w.toInt = 1) (hp : p.toInt = pp) (ho : o.toInt = vv) : rI R J (Tm.num pp vv) 0 z (z + 1) := by
  obtain ⟨h0, h1, h2, -⟩ := h
  exact ⟨rfl, by rw [h0]; exact hw, by rw [h1]; exact hp, by rw [h2]; exact ho⟩
theorem rN_use (h : rV R z w p o c d t q) (hw : w.toInt = 2) (hp : p.toInt = pp) (ho : o.toInt = (s : Int)) : rI R J (Tm.use pp s) 0 z (z + 1) := by
  obtain ⟨h0, h1, h2, -⟩ := h
  exact ⟨rfl, by rw [h0]; exact hw, by rw [h1]; exact hp, by rw [h2]; exact ho⟩
theorem rN_call {wd : Int64} (hx : rI R J x c a z) (h : rV R z w p o c d t q) (hw : w.toInt = 3) (hp : p.toInt = pp) (hj : J z wd) (hq : q.toInt = (tm_ln x : Int)) : rI R J (Tm.call pp wd x) 0 a (z + 1) := by
  obtain ⟨h0, h1, h2, h3, h4, h5, h6, h7⟩ := h
  exact ⟨z, by rw [h3]; exact hx, rfl, by rw [h0]; exact hw, by rw [h1]; exact hp, hj, by rw [h7]; exact hq⟩
theorem rN_made (hx : rI R J x c a z) (h : rV R z w p o c d t q) (hw : w.toInt = 4) (hp : p.toInt = pp) (ho : o.toInt = (s : Int)) (hq : q.toInt = (tm_ln x : Int)) : rI R J (Tm.made pp s x) 0 a (z + 1) := by
  obtain ⟨h0, h1, h2, h3, h4, h5, h6, h7⟩ := h
  exact ⟨z, by rw [h3]; exact hx, rfl, by rw [h0]; exact hw, by rw [h1]; exact hp, by rw [h2]; exact ho, by rw [h7]; exact hq⟩
theorem rN_bin (hx : rI R J x 0 a m) (hy : rI R J y 0 m z) (h : rV R z w p o c d t q) (hw : w.toInt = 5) (hp : p.toInt = pp) (ho : o.toInt = vv) (hc : c.toInt = (m : Int) - 1) (hd : d.toInt = (z : Int) - 1) : rI R J (Tm.bin pp vv x y) 0 a (z + 1) := by
  obtain ⟨h0, h1, h2, h3, h4, h5, h6, h7⟩ := h
  exact ⟨m, z, hx, hy, rfl, by rw [h0]; exact hw, by rw [h1]; exact hp, by rw [h2]; exact ho, by rw [h3]; exact hc, by rw [h4]; exact hd⟩
theorem rN_let (hx : rI R J x 0 a m) (hy : rI R J y 0 m z) (h : rV R z w p o c d t q) (hw : w.toInt = 6) (hp : p.toInt = pp) (ho : o.toInt = (s : Int)) (hc : c.toInt = (m : Int) - 1) (hd : d.toInt = (z : Int) - 1) : rI R J (Tm.tlet pp s x y) 0 a (z + 1) := by
  obtain ⟨h0, h1, h2, h3, h4, h5, h6, h7⟩ := h
  exact ⟨m, z, hx, hy, rfl, by rw [h0]; exact hw, by rw [h1]; exact hp, by rw [h2]; exact ho, by rw [h3]; exact hc, by rw [h4]; exact hd⟩
theorem rN_ite (hx : rI R J x 0 a m) (hy : rI R J y 0 m n) (hu : rI R J u 0 n z) (h : rV R z w p o c d t q) (hw : w.toInt = 7) (hp : p.toInt = pp) (hc : c.toInt = (m : Int) - 1) (hd : d.toInt = (n : Int) - 1) (ht : t.toInt = (z : Int) - 1) : rI R J (Tm.ite pp x y u) 0 a (z + 1) := by
  obtain ⟨h0, h1, h2, h3, h4, h5, h6, h7⟩ := h
  exact ⟨m, n, z, hx, hy, hu, rfl, by rw [h0]; exact hw, by rw [h1]; exact hp, by rw [h3]; exact hc, by rw [h4]; exact hd, by rw [h5]; exact ht⟩
theorem rN_mat (hx : rI R J x c a z) (h : rV R z w p o c d t q) (hw : w.toInt = 8) (hp : p.toInt = pp) (ho : o.toInt = (s : Int)) : rI R J (Tm.mat pp s x) 0 a (z + 1) := by
  obtain ⟨h0, h1, h2, h3, h4, h5, h6, h7⟩ := h
  exact ⟨z, by rw [h3]; exact hx, rfl, by rw [h0]; exact hw, by rw [h1]; exact hp, by rw [h2]; exact ho⟩
theorem rN_arm {mm : Nat} (hx : rI R J x 0 a z) (h : rV R z w p o c d t q) (hw : w.toInt = 9) (hp : p.toInt = pp) (ho : o.toInt = vv) (hd : d.toInt = (s : Int)) (hq : q.toInt = (mm : Int)) (hc : c.toInt = (z : Int) - 1) : rI R J (Tm.arm pp vv s mm x) 0 a (z + 1) := by
  obtain ⟨h0, h1, h2, h3, h4, h5, h6, h7⟩ := h
  exact ⟨z, hx, rfl, by rw [h0]; exact hw, by rw [h1]; exact hp, by rw [h2]; exact ho, by rw [h4]; exact hd, by rw [h7]; exact hq, by rw [h3]; exact hc⟩
theorem rN_b {b2 : Nat} {fi : Int32} (h : rI R J x fi a z) (e : z = b2) : rI R J x fi a b2 := e ▸ h
end

end
section
/-! what about() tells, of a tree -/
/-- a sum over the parts from a on -/
def rSum (f : Nat → Int) (a : Nat) : Nat → Int
  | 0 => 0
  | n + 1 => rSum f a n + f (a + n)
theorem rSum_add (f : Nat → Int) (a n : Nat) : ∀ m, rSum f a (n + m) = rSum f a n + rSum f (a + n) m
  | 0 => by show _ = _ + 0; rw [Int.add_zero]; rfl
  | m + 1 => by
    show rSum f a (n + m) + f (a + (n + m)) = rSum f a n + (rSum f (a + n) m + f (a + n + m))
    rw [rSum_add f a n m, Nat.add_assoc, Int.add_assoc]
/-- from a to b -/
def rTo (f : Nat → Int) (a b : Nat) : Int := rSum f a (b - a)
theorem rTo_add {f : Nat → Int} {a m b : Nat} (h1 : a ≤ m) (h2 : m ≤ b) : rTo f a b = rTo f a m + rTo f m b := by
  unfold rTo
  have e := rSum_add f a (m - a) (b - m)
  rw [show m - a + (b - m) = b - a by omega, show a + (m - a) = m by omega] at e
  exact e
theorem rTo_1 {f : Nat → Int} {a : Nat} : rTo f a (a + 1) = f a := by
  unfold rTo
  rw [show a + 1 - a = 1 by omega]
  show 0 + f (a + 0) = f a
  rw [Int.zero_add, Nat.add_zero]
theorem rTo_0 {f : Nat → Int} {a : Nat} : rTo f a a = 0 := by
  unfold rTo; rw [Nat.sub_self]; rfl
def rf_bu (R : Nat → Nat → Int32) (k : Nat) : Int := if (R 0 k).toInt = 4 ∧ 0 < (R 7 k).toInt then 1 else 0
def rf_ma (R : Nat → Nat → Int32) (k : Nat) : Int := if (R 0 k).toInt = 8 then 1 else 0
theorem rI_ma {R : Nat → Nat → Int32} {J : Nat → Int64 → Prop} : ∀ (t : Tm) {fi : Int32} {a b : Nat}, rI R J t fi a b → rTo (rf_ma R) a b = tm_ma t
  | .leaf (some (0, _, _, _, _, _)), _, a, b, h => by obtain ⟨rfl, h1, -⟩ := h; rw [rTo_1]; exact if_neg (by omega)
  | .leaf (some (_ + 1, _, _, _, _, _)), _, a, b, h => by obtain ⟨rfl, h1, -⟩ := h; rw [rTo_1]; exact if_neg (by omega)
  | .branch 0 (.leaf (some (0, _, _, _, _, _))) x, _, a, b, h => by
    obtain ⟨m, q, rfl, h1, -⟩ := h
    have l := rI_le x q
    rw [rTo_add l (Nat.le_succ m), rI_ma x q, rTo_1, show rf_ma R m = 0 from if_neg (by omega)]; exact Int.add_zero _
  | .branch 0 (.leaf (some (1, _, _, _, _, _))) x, _, a, b, h => by
    obtain ⟨m, q, rfl, h1, -⟩ := h
    have l := rI_le x q
    rw [rTo_add l (Nat.le_succ m), rI_ma x q, rTo_1, show rf_ma R m = 0 from if_neg (by omega)]; exact Int.add_zero _
  | .branch 1 (.leaf (some (0, _, _, _, _, _))) (.branch _ x y), _, a, b, h => by
    obtain ⟨m, n, q, q2, rfl, h1, -⟩ := h
    have l := rI_le x q
    have l2 := rI_le y q2
    rw [rTo_add (m := n) (by omega) (Nat.le_succ n), rTo_add l l2, rI_ma x q, rI_ma y q2, rTo_1, show rf_ma R n = 0 from if_neg (by omega)]; exact Int.add_zero _
  | .branch 1 (.leaf (some (_ + 1, _, _, _, _, _))) (.branch _ x y), _, a, b, h => by
    obtain ⟨m, n, q, q2, rfl, h1, -⟩ := h
    have l := rI_le x q
    have l2 := rI_le y q2
    rw [rTo_add (m := n) (by omega) (Nat.le_succ n), rTo_add l l2, rI_ma x q, rI_ma y q2, rTo_1, show rf_ma R n = 0 from if_neg (by omega)]; exact Int.add_zero _
  | .branch 2 (.leaf (some (_, _, _, _, _, _))) (.branch _ x (.branch _ y z)), _, a, b, h => by
    obtain ⟨m, n, p, q, q2, q3, rfl, h1, -⟩ := h
    have l := rI_le x q
    have l2 := rI_le y q2
    have l3 := rI_le z q3
    rw [rTo_add (m := p) (by omega) (Nat.le_succ p), rTo_add (m := n) (by omega) l3, rTo_add l l2, rI_ma x q, rI_ma y q2, rI_ma z q3, rTo_1, show rf_ma R p = 0 from if_neg (by omega)]; exact Int.add_zero _
  | .branch 0 (.leaf (some (2, _, _, _, _, _))) x, _, a, b, h => by
    obtain ⟨m, q, rfl, h1, -⟩ := h
    have l := rI_le x q
    rw [rTo_add l (Nat.le_succ m), rI_ma x q, rTo_1, show rf_ma R m = 1 from if_pos h1]; rfl
  | .branch 0 (.leaf (some (_ + 3, _, _, _, _, _))) x, _, a, b, h => by
    obtain ⟨m, q, rfl, h1, -⟩ := h
    have l := rI_le x q
    rw [rTo_add l (Nat.le_succ m), rI_ma x q, rTo_1, show rf_ma R m = 0 from if_neg (by omega)]; exact Int.add_zero _
  | .branch 0 (.leaf none) _, _, _, _, h9 => h9.elim
  | .branch 0 (.branch _ _ _) _, _, _, _, h9 => h9.elim
  | .branch 1 (.leaf none) _, _, _, _, h9 => h9.elim
  | .branch 1 (.branch _ _ _) _, _, _, _, h9 => h9.elim
  | .branch 1 (.leaf (some (0, _, _, _, _, _))) (.leaf _), _, _, _, h9 => h9.elim
  | .branch 1 (.leaf (some (_ + 1, _, _, _, _, _))) (.leaf _), _, _, _, h9 => h9.elim
  | .branch 2 (.leaf none) _, _, _, _, h9 => h9.elim
  | .branch 2 (.branch _ _ _) _, _, _, _, h9 => h9.elim
  | .branch 2 (.leaf (some (_, _, _, _, _, _))) (.leaf _), _, _, _, h9 => h9.elim
  | .branch 2 (.leaf (some (_, _, _, _, _, _))) (.branch _ _ (.leaf _)), _, _, _, h9 => h9.elim
  | .leaf none, _, a, b, h => by obtain ⟨rfl, -⟩ := h; exact rTo_0
  | .branch (_ + 3) x y, _, a, b, h => by
    obtain ⟨m, q, ⟨l, -⟩, -, q2⟩ := h
    have l2 := rI_le y q2
    rw [rTo_add (by omega) l2, rI_ma x q, rI_ma y q2]; rfl
theorem rI_bu {R : Nat → Nat → Int32} {J : Nat → Int64 → Prop} : ∀ (t : Tm) {fi : Int32} {a b : Nat}, rI R J t fi a b → rTo (rf_bu R) a b = tm_bu t
  | .leaf (some (0, _, _, _, _, _)), _, a, b, h => by obtain ⟨rfl, h1, -⟩ := h; rw [rTo_1]; exact if_neg (by omega)
  | .leaf (some (_ + 1, _, _, _, _, _)), _, a, b, h => by obtain ⟨rfl, h1, -⟩ := h; rw [rTo_1]; exact if_neg (by omega)
  | .branch 0 (.leaf (some (0, _, _, _, _, _))) x, _, a, b, h => by
    obtain ⟨m, q, rfl, h1, -⟩ := h
    have l := rI_le x q
    rw [rTo_add l (Nat.le_succ m), rI_bu x q, rTo_1, show rf_bu R m = 0 from if_neg (by omega)]; exact Int.add_zero _
  | .branch 0 (.leaf (some (1, _, _, _, _, _))) x, _, a, b, h => by
    obtain ⟨m, q, rfl, h1, h2, h3, h4⟩ := h
    have l := rI_le x q
    rw [rTo_add l (Nat.le_succ m), rI_bu x q, rTo_1]
    show tm_bu x + rf_bu R m = tm_bu x + _
    unfold rf_bu
    by_cases u : 0 < tm_ln x
    · rw [if_pos u, if_pos ⟨h1, by omega⟩]
    · rw [if_neg u, if_neg (fun g => u (by have := g.2; omega))]
  | .branch 1 (.leaf (some (0, _, _, _, _, _))) (.branch _ x y), _, a, b, h => by
    obtain ⟨m, n, q, q2, rfl, h1, -⟩ := h
    have l := rI_le x q
    have l2 := rI_le y q2
    rw [rTo_add (m := n) (by omega) (Nat.le_succ n), rTo_add l l2, rI_bu x q, rI_bu y q2, rTo_1, show rf_bu R n = 0 from if_neg (by omega)]; exact Int.add_zero _
  | .branch 1 (.leaf (some (_ + 1, _, _, _, _, _))) (.branch _ x y), _, a, b, h => by
    obtain ⟨m, n, q, q2, rfl, h1, -⟩ := h
    have l := rI_le x q
    have l2 := rI_le y q2
    rw [rTo_add (m := n) (by omega) (Nat.le_succ n), rTo_add l l2, rI_bu x q, rI_bu y q2, rTo_1, show rf_bu R n = 0 from if_neg (by omega)]; exact Int.add_zero _
  | .branch 2 (.leaf (some (_, _, _, _, _, _))) (.branch _ x (.branch _ y z)), _, a, b, h => by
    obtain ⟨m, n, p, q, q2, q3, rfl, h1, -⟩ := h
    have l := rI_le x q
    have l2 := rI_le y q2
    have l3 := rI_le z q3
    rw [rTo_add (m := p) (by omega) (Nat.le_succ p), rTo_add (m := n) (by omega) l3, rTo_add l l2, rI_bu x q, rI_bu y q2, rI_bu z q3, rTo_1, show rf_bu R p = 0 from if_neg (by omega)]; exact Int.add_zero _
  | .branch 0 (.leaf (some (2, _, _, _, _, _))) x, _, a, b, h => by
    obtain ⟨m, q, rfl, h1, -⟩ := h
    have l := rI_le x q
    rw [rTo_add l (Nat.le_succ m), rI_bu x q, rTo_1, show rf_bu R m = 0 from if_neg (by omega)]; exact Int.add_zero _
  | .branch 0 (.leaf (some (_ + 3, _, _, _, _, _))) x, _, a, b, h => by
    obtain ⟨m, q, rfl, h1, -⟩ := h
    have l := rI_le x q
    rw [rTo_add l (Nat.le_succ m), rI_bu x q, rTo_1, show rf_bu R m = 0 from if_neg (by omega)]; exact Int.add_zero _
  | .branch 0 (.leaf none) _, _, _, _, h9 => h9.elim
  | .branch 0 (.branch _ _ _) _, _, _, _, h9 => h9.elim
  | .branch 1 (.leaf none) _, _, _, _, h9 => h9.elim
  | .branch 1 (.branch _ _ _) _, _, _, _, h9 => h9.elim
  | .branch 1 (.leaf (some (0, _, _, _, _, _))) (.leaf _), _, _, _, h9 => h9.elim
  | .branch 1 (.leaf (some (_ + 1, _, _, _, _, _))) (.leaf _), _, _, _, h9 => h9.elim
  | .branch 2 (.leaf none) _, _, _, _, h9 => h9.elim
  | .branch 2 (.branch _ _ _) _, _, _, _, h9 => h9.elim
  | .branch 2 (.leaf (some (_, _, _, _, _, _))) (.leaf _), _, _, _, h9 => h9.elim
  | .branch 2 (.leaf (some (_, _, _, _, _, _))) (.branch _ _ (.leaf _)), _, _, _, h9 => h9.elim
  | .leaf none, _, a, b, h => by obtain ⟨rfl, -⟩ := h; exact rTo_0
  | .branch (_ + 3) x y, _, a, b, h => by
    obtain ⟨m, q, ⟨l, -⟩, -, q2⟩ := h
    have l2 := rI_le y q2
    rw [rTo_add (by omega) l2, rI_bu x q, rI_bu y q2]; rfl
/-- names at most, where an arm that tells none counts for nothing -/
def tm_wj : Tm → Nat
  | .branch 0 (.leaf (some (1, _, _, _, _, _))) x => tm_wj x
  | .branch 0 (.leaf (some (0, _, _, _, _, _))) x => tm_wj x
  | .branch 1 (.leaf (some (0, _, _, _, _, _))) (.branch _ x y) => max (tm_wj x) (tm_wj y)
  | .branch 1 (.leaf (some (_ + 1, _, _, s, _, _))) (.branch _ x y) => max (tm_wj x) (max (s + 1) (tm_wj y))
  | .branch 2 (.leaf (some (_, _, _, _, _, _))) (.branch _ x (.branch _ y z)) => max (tm_wj x) (max (tm_wj y) (tm_wj z))
  | .branch 0 (.leaf (some (2, _, _, _, _, _))) x => tm_wj x
  | .branch 0 (.leaf (some (_ + 3, _, _, h, m, _))) x => if m = 0 then tm_wj x else max (h + m) (tm_wj x)
  | .branch (_ + 3) x y => max (tm_wj x) (tm_wj y)
  | _ => 0
theorem tm_wj_sn {t : Tm} : ∀ {c : Tm}, tm_li c → tm_wj (tm_sn c t) = max (tm_wj c) (tm_wj t)
  | .leaf none, _ => by show max (tm_wj t) 0 = max 0 (tm_wj t); omega
  | .branch (_ + 3) a b, h => by
    show max (tm_wj a) (tm_wj (tm_sn b t)) = max (max (tm_wj a) (tm_wj b)) (tm_wj t)
    rw [tm_wj_sn (c := b) h]; omega
theorem wj_wi {z : Nat} {kf : Nat → Int32} : ∀ (t : Tm) {c : Nat}, tm_wf z kf t c → max c (tm_wi t) = max c (tm_wj t)
  | .leaf (some (0, _, _, _, _, _)), _, _ => rfl
  | .leaf (some (_ + 1, _, _, _, _, _)), _, _ => rfl
  | .branch 0 (.leaf (some (0, _, _, _, _, _))) x, c, h => wj_wi x (c := c) h
  | .branch 0 (.leaf (some (1, _, _, _, _, _))) x, c, h => wj_wi x h.2
  | .branch 1 (.leaf (some (0, _, _, _, _, _))) (.branch _ x y), c, h => by
    have a := wj_wi x h.1
    have b := wj_wi y h.2
    show max c (max (tm_wi x) (tm_wi y)) = max c (max (tm_wj x) (tm_wj y)); omega
  | .branch 1 (.leaf (some (_ + 1, _, _, s, _, _))) (.branch _ x y), c, h => by
    have a := wj_wi x h.2.1
    have b := wj_wi y h.2.2
    have e := h.1.1
    show max c (max (tm_wi x) (max (s + 1) (tm_wi y))) = max c (max (tm_wj x) (max (s + 1) (tm_wj y))); omega
  | .branch 2 (.leaf (some (_, _, _, _, _, _))) (.branch _ x (.branch _ y w)), c, h => by
    have a := wj_wi x h.1
    have b := wj_wi y h.2.1
    have d := wj_wi w h.2.2
    show max c (max (tm_wi x) (max (tm_wi y) (tm_wi w))) = max c (max (tm_wj x) (max (tm_wj y) (tm_wj w))); omega
  | .branch 0 (.leaf (some (2, _, _, _, _, _))) x, c, h => wj_wi x h.2
  | .branch 0 (.leaf (some (_ + 3, _, _, hh, m, _))) x, c, h => by
    have a := wj_wi x h.2
    have e := h.1.1.1
    show max c (max (hh + m) (tm_wi x)) = max c (if m = 0 then tm_wj x else max (hh + m) (tm_wj x))
    split <;> omega
  | .branch 0 (.leaf none) _, _, _ => rfl
  | .branch 0 (.branch _ _ _) _, _, _ => rfl
  | .branch 1 (.leaf none) _, _, _ => rfl
  | .branch 1 (.branch _ _ _) _, _, _ => rfl
  | .branch 1 (.leaf (some (0, _, _, _, _, _))) (.leaf _), _, _ => rfl
  | .branch 1 (.leaf (some (_ + 1, _, _, _, _, _))) (.leaf _), _, _ => rfl
  | .branch 2 (.leaf none) _, _, _ => rfl
  | .branch 2 (.branch _ _ _) _, _, _ => rfl
  | .branch 2 (.leaf (some (_, _, _, _, _, _))) (.leaf _), _, _ => rfl
  | .branch 2 (.leaf (some (_, _, _, _, _, _))) (.branch _ _ (.leaf _)), _, _ => rfl
  | .leaf none, _, _ => rfl
  | .branch (_ + 3) x y, c, h => by
    have a := wj_wi x h.1
    have b := wj_wi y h.2
    show max c (max (tm_wi x) (tm_wi y)) = max c (max (tm_wj x) (tm_wj y)); omega
/-- widest of function f: w at least -/
def rW (g g2 : Nat → Int32) (f : Nat) (w : Int) : Prop := (0 ≤ (g f).toInt → (g2 f).toInt = max (g f).toInt w) ∧ ∀ j, j ≠ f → g2 j = g j
theorem rW_rf {g : Nat → Int32} {f : Nat} : rW g g f 0 := ⟨fun h => by omega, fun _ _ => rfl⟩
theorem rW_tr {g g2 g3 : Nat → Int32} {f : Nat} {w w2 : Int} (p : rW g g2 f w) (q : rW g2 g3 f w2) : rW g g3 f (max w w2) := ⟨fun h => by
  have a := p.1 h
  have b := q.1 (by omega)
  omega, fun j hj => by rw [q.2 j hj, p.2 j hj]⟩
theorem rW_e {g g2 : Nat → Int32} {f : Nat} {w w2 : Int} (p : rW g g2 f w) (e : w2 = w) : rW g g2 f w2 := e ▸ p
theorem rW_w {g g2 : Nat → Int32} {f : Nat} {x : Int} {v : Int32} (e : g2 = upd g f v) (hv : v.toInt = max (g f).toInt x) : rW g g2 f x := ⟨fun _ => by rw [e, zu_s]; exact hv, fun j hj => by rw [e, zu_n hj]⟩
/-- all functions' widest -/
def rWa (wd td : Nat → Int32) (fz : Int32) (G : Nat → Tm) : Prop := ∀ g : Nat, (g : Int) < fz.toInt → (wd g).toInt = max (td g).toInt (tm_wj (G g) : Int)
theorem rWa_0 {wd td : Nat → Int32} {fz : Int32} {G : Nat → Tm} (h : fz.toInt = 0) : rWa wd td fz G := fun g hg => by omega
theorem rWa_s {wd wd0 wd1 wd2 td td2 : Nat → Int32} {fz fz2 x y : Int32} {G : Nat → Tm} {t : Tm} {w : Int} (h : rWa wd td fz G) (h0 : 0 ≤ fz.toInt) (ez : fz2.toInt = fz.toInt + 1) (e0 : wd0 = upd wd (Int32.toNatClampNeg fz) x) (hx : x.toInt = 0) (p : rW wd0 wd1 (Int32.toNatClampNeg fz) w) (q : rW wd1 wd2 (Int32.toNatClampNeg fz) (tm_wj t : Int)) (et : td2 = upd td (Int32.toNatClampNeg fz) y) (hy : y.toInt = w) (hw : 0 ≤ w) : rWa wd2 td2 fz2 (fun k => if k = Int32.toNatClampNeg fz then t else G k) := fun g hg => by
  have hn := zn_nat h0
  have pq := rW_tr p q
  by_cases u : g = Int32.toNatClampNeg fz
  · subst u
    have e1 : wd0 (Int32.toNatClampNeg fz) = x := by rw [e0, zu_s]
    have := pq.1 (by rw [e1]; omega)
    show (wd2 _).toInt = max (td2 _).toInt ((tm_wj (if Int32.toNatClampNeg fz = Int32.toNatClampNeg fz then t else _) : Nat) : Int)
    rw [if_pos rfl, et, zu_s, this, e1]; omega
  · show (wd2 g).toInt = max (td2 g).toInt ((tm_wj (if g = Int32.toNatClampNeg fz then t else G g) : Nat) : Int)
    rw [if_neg u, et, zu_n u, pq.2 g u, e0, zu_n u]
    exact h g (by omega)

end
section
/-! the trees that the parser gives are trees -/
def tm_ok : Tm → Prop
  | .branch 0 (.leaf (some (0, _, _, _, _, _))) x => tm_li x ∧ tm_ok x
  | .branch 0 (.leaf (some (1, _, _, _, _, _))) x => tm_li x ∧ tm_ok x
  | .branch 0 (.leaf (some (2, _, _, _, _, _))) x => tm_li x ∧ tm_ok x
  | .branch 1 (.leaf (some (0, _, _, _, _, _))) (.branch _ x y) => (¬ tm_cl x ∧ tm_ok x) ∧ (¬ tm_cl y ∧ tm_ok y)
  | .branch 1 (.leaf (some (_ + 1, _, _, _, _, _))) (.branch _ x y) => (¬ tm_cl x ∧ tm_ok x) ∧ (¬ tm_cl y ∧ tm_ok y)
  | .branch 2 (.leaf (some (_, _, _, _, _, _))) (.branch _ x (.branch _ y z)) => (¬ tm_cl x ∧ tm_ok x) ∧ (¬ tm_cl y ∧ tm_ok y) ∧ (¬ tm_cl z ∧ tm_ok z)
  | .branch 0 (.leaf (some (_ + 3, _, _, _, _, _))) x => ¬ tm_cl x ∧ tm_ok x
  | .branch (_ + 3) x y => (¬ tm_cl x ∧ tm_ok x) ∧ tm_ok y
  | _ => True
section
variable {T P : Nat → Int32} {V : Nat → Int64} {E : List Int64 → sp_S → Option (Tm × sp_S)}
end

end
section
theorem zbyt9 : ∀ j : Fin 10, (vp_nar .byte ((Int32.toInt8 (Int32.ofInt (j.val : Int))).toInt32)) = Int32.ofInt (j.val : Int) := by decide
theorem zbyt {x : Int32} (h0 : 1 ≤ x.toInt) (h1 : x.toInt ≤ 9) : (vp_nar .byte ((Int32.toInt8 x).toInt32)).toInt = x.toInt := by
  have h := zbyt9 ⟨x.toInt.toNat, by omega⟩
  have e : ((x.toInt.toNat : Nat) : Int) = x.toInt := by omega
  have e2 : (Int32.ofInt ((x.toInt.toNat : Nat) : Int)) = x := by rw [e]; exact Int32.ofInt_toInt x
  have h : vp_nar .byte ((Int32.toInt8 (Int32.ofInt ((x.toInt.toNat : Nat) : Int))).toInt32) = Int32.ofInt ((x.toInt.toNat : Nat) : Int) := h
  rw [e2] at h
  rw [h]
theorem zJp_1 {S : Nat → Nat → Int32} {wh ow on tw th be ma fi ow2 : Nat → Int32} {kz : Int32} {z : Nat} {w o a b t m o2 : Int32} (h : zJp S (zJS wh ow on tw th be ma fi kz) z w o a b t m) (e : ow2 = upd ow z o2) : zJp S (zJS wh ow2 on tw th be ma fi kz) z w o2 a b t m := by
  obtain ⟨h0, h1, h2⟩ := h
  refine ⟨h0, ?_, h2⟩
  show ow2 = _
  rw [e, show ow = _ from h1, zu_uu]
theorem zJp_2 {S : Nat → Nat → Int32} {wh ow on tw th be ma fi on2 : Nat → Int32} {kz : Int32} {z : Nat} {w o a b t m o2 : Int32} (h : zJp S (zJS wh ow on tw th be ma fi kz) z w o a b t m) (e : on2 = upd on z o2) : zJp S (zJS wh ow on2 tw th be ma fi kz) z w o o2 b t m := by
  obtain ⟨h0, h1, h2, h3⟩ := h
  refine ⟨h0, h1, ?_, h3⟩
  show on2 = _
  rw [e, show on = _ from h2, zu_uu]
theorem zJp_3 {S : Nat → Nat → Int32} {wh ow on tw th be ma fi tw2 : Nat → Int32} {kz : Int32} {z : Nat} {w o a b t m o2 : Int32} (h : zJp S (zJS wh ow on tw th be ma fi kz) z w o a b t m) (e : tw2 = upd tw z o2) : zJp S (zJS wh ow on tw2 th be ma fi kz) z w o a o2 t m := by
  obtain ⟨h0, h1, h2, h3, h4⟩ := h
  refine ⟨h0, h1, h2, ?_, h4⟩
  show tw2 = _
  rw [e, show tw = _ from h3, zu_uu]
theorem zJp_4 {S : Nat → Nat → Int32} {wh ow on tw th be ma fi th2 : Nat → Int32} {kz : Int32} {z : Nat} {w o a b t m o2 : Int32} (h : zJp S (zJS wh ow on tw th be ma fi kz) z w o a b t m) (e : th2 = upd th z o2) : zJp S (zJS wh ow on tw th2 be ma fi kz) z w o a b o2 m := by
  obtain ⟨h0, h1, h2, h3, h4, h5⟩ := h
  refine ⟨h0, h1, h2, h3, ?_, h5⟩
  show th2 = _
  rw [e, show th = _ from h4, zu_uu]
theorem zJp_6 {S : Nat → Nat → Int32} {wh ow on tw th be ma fi ma2 : Nat → Int32} {kz : Int32} {z : Nat} {w o a b t m o2 : Int32} (h : zJp S (zJS wh ow on tw th be ma fi kz) z w o a b t m) (e : ma2 = upd ma z o2) : zJp S (zJS wh ow on tw th be ma2 fi kz) z w o a b t o2 := by
  obtain ⟨h0, h1, h2, h3, h4, h5, h6, h7⟩ := h
  refine ⟨h0, h1, h2, h3, h4, h5, ?_, h7⟩
  show ma2 = _
  rw [e, show ma = _ from h6, zu_uu]
/-- the kinds' names are good -/
def zkn (kz : Int32) (kn : Nat → Int64) : Prop := ∀ j : Nat, (j : Int) < kz.toInt → 1 ≤ (kn j).toInt ∧ (kn j).toInt < 281474976710656
theorem zkn_add {kz kz2 so k : Int32} {kn kn2 : Nat → Int64} {le : Int64} (h : zkn kz kn) (hl : zkl so le) (hs : so.toInt = 3) (e : kn2 = vp_updL kn (Int32.toNatClampNeg k) le) (hk : k.toInt = kz.toInt) (h0 : 0 ≤ kz.toInt) (e2 : kz2.toInt = kz.toInt + 1) : zkn kz2 kn2 := fun j hj => by
  have hn := zn_nat (x := k) (by omega)
  rw [e]
  unfold vp_updL
  by_cases g : j = Int32.toNatClampNeg k
  · rw [if_pos g]; exact hl hs
  · rw [if_neg g]; exact h j (by omega)
/-- only kinds have come -/
theorem zJk_S {wh ow on tw th be ma fi fi2 : Nat → Int32} {kz kz2 : Int32} (h : kz.toInt ≤ kz2.toInt) (g : ∀ q : Nat, (q : Int) < kz.toInt → (fi q).toInt ≠ -1 → fi2 q = fi q) : zJk (zJS wh ow on tw th be ma fi kz) (zJS wh ow on tw th be ma fi2 kz2) := ⟨h, g⟩
theorem zJs_S {wh ow on tw th be ma fi fi2 : Nat → Int32} {kz kz2 : Int32} : ∀ i, i ≤ 6 → (zJS wh ow on tw th be ma fi2 kz2) i = (zJS wh ow on tw th be ma fi kz) i
  | 0, _ => rfl
  | 1, _ => rfl
  | 2, _ => rfl
  | 3, _ => rfl
  | 4, _ => rfl
  | 5, _ => rfl
  | 6, _ => rfl
  | _ + 7, h => absurd h (by omega)
theorem zJb_S {wh ow on tw th be ma fi be2 : Nat → Int32} {kz : Int32} : ∀ i, i ≤ 8 → i ≠ 5 → (zJS wh ow on tw th be2 ma fi kz) i = (zJS wh ow on tw th be ma fi kz) i
  | 0, _, _ => rfl
  | 1, _, _ => rfl
  | 2, _, _ => rfl
  | 3, _, _ => rfl
  | 4, _, _ => rfl
  | 5, _, h => absurd rfl h
  | 6, _, _ => rfl
  | 7, _, _ => rfl
  | 8, _, _ => rfl
  | _ + 9, h, _ => absurd h (by omega)
theorem zJX {S0 S : Nat → Nat → Int32} {L0 C0 : Nat → Nat} {a a2 z c z2 c2 : Nat} {t : Bool} (h : ∃ L2 C2, zJE S0 S L0 L2 C0 C2 a z c t) (ea : a = a2) (ez : z = z2) (ec : c = c2) : ∃ L2 C2, zJE S0 S L0 L2 C0 C2 a2 z2 c2 t := ea ▸ ez ▸ ec ▸ h
theorem zJG_pre {S0 S1 S : Nat → Nat → Int32} {L0 L C0 C : Nat → Nat} {a z c : Nat} {t : Bool} {fi la : Int32} {n : Int} (hk : zJk S0 S1) (hs : ∀ i, i ≤ 6 → S1 i = S0 i) (h : zJG S1 S L0 L C0 C a z c t fi la n) : zJG S0 S L0 L C0 C a z c t fi la n := by
  obtain ⟨R, h1, h2⟩ := h
  exact ⟨R, zJl_pre hk hs h1, h2⟩
theorem zJG_idk {S0 S S2 : Nat → Nat → Int32} {L0 L C0 C : Nat → Nat} {a z c : Nat} {t : Bool} {fi la : Int32} {n : Int} (hk : zJk S S2) (hs : ∀ i, i ≤ 6 → S2 i = S i) (h : zJG S0 S L0 L C0 C a z c t fi la n) : zJG S0 S2 L0 L C0 C a z c t fi la n := by
  obtain ⟨R, h1, h2, h3, h4, h5⟩ := h
  exact ⟨R, zJl_idk h1 hk hs, h2, by rw [hs 5 (by decide)]; exact h3, h4, fun g => by rw [hs 5 (by decide)]; exact h5 g⟩
theorem zJ_callG {S0 S S2 : Nat → Nat → Int32} {L0 L C0 C : Nat → Nat} {a z c : Nat} {fi la : Int32} {n : Int} {w o y u m : Int32} (h : zJG S0 S L0 L C0 C a z c false fi la n) (hp : zJp S S2 z w o fi y u m) (hw : w.toInt = 3) (hm : n = m.toInt) (hc24 : c ≤ 24) : ∃ L2 C2, zJE S0 S2 L0 L2 C0 C2 a (z + 1) c false := by
  obtain ⟨R, h1, h2, h3, h4, -⟩ := h
  exact zJ_call h1 hp hw h2 h3 (h4.trans hm) hc24
theorem zJ_madeG {S0 S S2 : Nat → Nat → Int32} {L0 L C0 C : Nat → Nat} {a z c : Nat} {fi la : Int32} {n : Int} {w o y u m : Int32} (h : zJG S0 S L0 L C0 C a z c false fi la n) (hp : zJp S S2 z w o fi y u m) (hw : w.toInt = 4) (hm : n = m.toInt) (hm3 : m.toInt ≤ 3) (ho : 0 ≤ o.toInt) (ho2 : o.toInt < (S 8 0).toInt) (hf : S 7 (Int32.toNatClampNeg o) = m) (hc24 : c ≤ 24) : ∃ L2 C2, zJE S0 S2 L0 L2 C0 C2 a (z + 1) c false := by
  obtain ⟨R, h1, h2, h3, h4, -⟩ := h
  exact zJ_made h1 hp hw h2 h3 (h4.trans hm) hm3 ho ho2 hf hc24
theorem zJ_matchG {S0 S S2 : Nat → Nat → Int32} {L0 L C0 C : Nat → Nat} {a z c : Nat} {fi la : Int32} {n : Int} {w o y u m : Int32} (h : zJG S0 S L0 L C0 C a z c true fi la n) (hp : zJp S S2 z w o fi y u m) (hw : w.toInt = 8) (ho : 0 ≤ o.toInt) (ho2 : o.toInt < (c : Int)) (hc24 : c ≤ 24) : ∃ L2 C2, zJE S0 S2 L0 L2 C0 C2 a (z + 1) c false := by
  obtain ⟨R, h1, h2, h3, h4, -⟩ := h
  exact zJ_match h1 hp hw h2 h3 ho ho2 hc24
theorem zJG_z {S0 S : Nat → Nat → Int32} {L0 L C0 C : Nat → Nat} {a z c z2 : Nat} {t : Bool} {fi la : Int32} {n n2 : Int} (h : zJG S0 S L0 L C0 C a z c t fi la n) (ez : z = z2) (en : n = n2) : zJG S0 S L0 L C0 C a z2 c t fi la n2 := ez ▸ en ▸ h
theorem zJE_c {S0 S : Nat → Nat → Int32} {L0 L C0 C : Nat → Nat} {a z c c2 : Nat} {t : Bool} (h : zJE S0 S L0 L C0 C a z c t) (ec : c = c2) : zJE S0 S L0 L C0 C a z c2 t := ec ▸ h
/-! the reference at a token -/
theorem lx_tk_uq {g : Nat → Int32} {n : Int} {f p e p2 e2 : Nat} {t t2 : Int32} {v v2 : Int64} (h : lx_tk g n f p e t v) (h2 : lx_tk g n f p2 e2 t2 v2) : p = p2 ∧ e = e2 ∧ t.toInt = t2.toInt ∧ (t.toInt = 258 ∨ t.toInt = 259 → v = v2) ∧ (t.toInt = 260 → Int64.toInt32 v = Int64.toInt32 v2) := by
  obtain ⟨a1, a2, a3, a4, a5, a6⟩ := h
  obtain ⟨b1, b2, b3, b4, b5, b6⟩ := h2
  have ep : p = p2 := by
    rcases Nat.lt_trichotomy p p2 with u | u | u
    · have := b3 p a1 u; omega
    · exact u
    · have := a3 p2 b1 u; omega
  subst ep
  refine ⟨rfl, ?_⟩
  rcases a6 with q | q
  · rcases b6 with r | r
    · obtain ⟨q1, q2, q3, q4, q5, q6, q7⟩ := q
      obtain ⟨r1, r2, r3, r4, r5, r6, r7⟩ := r
      have ee : e = e2 := by
        rcases Nat.lt_trichotomy e e2 with u | u | u
        · rcases q4 with w | w
          · omega
          · exact absurd (r3 e (by omega) u) w
        · exact u
        · rcases r4 with w | w
          · omega
          · exact absurd (q3 e2 (by omega) u) w
      subst ee
      have et : t.toInt = t2.toInt := by rw [q5, r5]
      exact ⟨rfl, et, fun g => (q6 g).trans (r6 (by rw [← et]; exact g)).symm, fun g => Int32.toInt_inj.mp ((q7 g).trans (r7 (by rw [← et]; exact g)).symm)⟩
    · exact absurd (q.2.2.1 p (Nat.le_refl _) q.1) r.1
  · rcases b6 with r | r
    · exact absurd (r.2.2.1 p (Nat.le_refl _) r.1) q.1
    · rcases q.2 with ⟨x1, x2, x3⟩ | ⟨x1, x2, x3⟩
      · rcases r.2 with ⟨y1, y2, y3⟩ | ⟨y1, y2, y3⟩
        · exact ⟨by omega, by omega, fun g => by omega, fun g => by omega⟩
        · exact absurd x1 y1
      · rcases r.2 with ⟨y1, y2, y3⟩ | ⟨y1, y2, y3⟩
        · exact absurd y1 x1
        · refine ⟨by omega, ?_, fun g => ?_, fun g => ?_⟩
          · rcases x3 with ⟨z1, z2⟩ | ⟨z1, z2⟩
            · rcases y3 with ⟨w1, w2⟩ | ⟨w1, w2⟩
              · omega
              · exact absurd z1 w1
            · rcases y3 with ⟨w1, w2⟩ | ⟨w1, w2⟩
              · exact absurd w1 z1
              · omega
          · rcases x3 with ⟨z1, z2⟩ | ⟨z1, z2⟩
            · unfold lx_sg at z1; omega
            · omega
          · rcases x3 with ⟨z1, z2⟩ | ⟨z1, z2⟩
            · unfold lx_sg at z1; omega
            · omega
/-- the reference stands at token i of all tokens -/
def rx_st (g : Nat → Int32) (n : Int32) (T P : Nat → Int32) (V : Nat → Int64) (z : Int32) (e : Nat → Nat) (i : Nat) (at_ so sg : Int32) (le : Int64) (pl : Int32) : Prop := (0 ≤ n.toInt ∧ 0 ≤ z.toInt ∧ z.toInt ≤ 2000 ∧ (T (Int32.toNatClampNeg z)).toInt = 256 ∧ (P (Int32.toNatClampNeg z)).toInt = n.toInt ∧ lx_to g n.toInt T P V (Int32.toNatClampNeg z) n.toInt.toNat e) ∧ ((i = Int32.toNatClampNeg z ∧ so.toInt = 1) ∨ (i < Int32.toNatClampNeg z ∧ rx_rel (T i) (V i) so sg le ∧ (so.toInt = 0 ∨ at_.toInt = (e i : Int)))) ∧ pl.toInt = (P i).toInt
theorem rx_rel_v {t t2 : Int32} {v v2 : Int64} {so sg : Int32} {le : Int64} (h : rx_rel t v so sg le) (et : t.toInt = t2.toInt) (ev : t.toInt = 258 ∨ t.toInt = 259 → v = v2) (ew : t.toInt = 260 → Int64.toInt32 v = Int64.toInt32 v2) : rx_rel t2 v2 so sg le := by
  rcases h with q | q | q | q | q | q | q
  · exact Or.inl (by omega)
  · exact Or.inr (Or.inl ⟨by omega, q.2.1, by rw [← ev (by omega)]; exact q.2.2⟩)
  · exact Or.inr (Or.inr (Or.inl ⟨by omega, q.2.1, by rw [← ev (by omega)]; exact q.2.2⟩))
  · exact Or.inr (Or.inr (Or.inr (Or.inl ⟨by omega, q.2.1, by rw [← ew q.1]; exact q.2.2⟩)))
  · exact Or.inr (Or.inr (Or.inr (Or.inr (Or.inl (by omega)))))
  · obtain ⟨c, c1, c2, c3, c4⟩ := q
    exact Or.inr (Or.inr (Or.inr (Or.inr (Or.inr (Or.inl ⟨c, c1, c2, by omega, c4⟩)))))
  · exact Or.inr (Or.inr (Or.inr (Or.inr (Or.inr (Or.inr (by omega))))))
/-- from the end of token i - 1 on -/
theorem rx_st_nx {g : Nat → Int32} {n : Int32} {T P : Nat → Int32} {V : Nat → Int64} {z : Int32} {e : Nat → Nat} {i : Nat} {f pl at2 so sg : Int32} {le : Int64} (h : 0 ≤ n.toInt ∧ 0 ≤ z.toInt ∧ z.toInt ≤ 2000 ∧ (T (Int32.toNatClampNeg z)).toInt = 256 ∧ (P (Int32.toNatClampNeg z)).toInt = n.toInt ∧ lx_to g n.toInt T P V (Int32.toNatClampNeg z) n.toInt.toNat e) (hi : i ≤ Int32.toNatClampNeg z) (hf0 : 0 ≤ f.toInt) (hf : Int32.toNatClampNeg f = lx_b e i) (hx : rx_nx g n f pl at2 so sg le) (hp0 : 0 ≤ pl.toInt) : rx_st g n T P V z e i at2 so sg le pl := by
  have hn := zn_nat hf0
  refine ⟨h, ?_⟩
  obtain ⟨h0, h1, h2, h3, h4, k1, k2, k3⟩ := h
  rcases hx with ⟨u1, u2, u3⟩ | ⟨t, v, e', u1, u2, u3⟩
  · have ei : i = Int32.toNatClampNeg z := by
      by_cases w : i = Int32.toNatClampNeg z
      · exact w
      · obtain ⟨⟨a1, a2, a3, a4, a5, a6⟩, a7⟩ := k1 i (by omega)
        have := u3 (Int32.toNatClampNeg (P i)) (by omega) a2
        omega
    exact ⟨Or.inl ⟨ei, u1⟩, by rw [ei, h4]; exact u2⟩
  · by_cases w : i = Int32.toNatClampNeg z
    · obtain ⟨a1, a2, a3, a4, a5, a6⟩ := u1
      rw [w] at hf
      have := k3 (Int32.toNatClampNeg pl) (by omega) (by omega)
      omega
    · obtain ⟨hk, hk0⟩ := k1 i (by omega)
      rw [← hf] at hk
      obtain ⟨ep, ee, et, ev, ew⟩ := lx_tk_uq u1 hk
      exact ⟨Or.inr ⟨by omega, rx_rel_v u2 et ev ew, by rw [← ee]; exact u3⟩, by have := zn_nat hp0; have := zn_nat hk0; omega⟩
theorem rx_st_ad {g : Nat → Int32} {n : Int32} {T P : Nat → Int32} {V : Nat → Int64} {z : Int32} {e : Nat → Nat} {i : Nat} {at_ so sg pl pl2 at2 so2 sg2 : Int32} {le le2 : Int64} (h : rx_st g n T P V z e i at_ so sg le pl) (h0 : 0 ≤ at_.toInt) (hs0 : so.toInt ≠ 0) (hs1 : so.toInt ≠ 1) (hp0 : 0 ≤ pl2.toInt) (hx : rx_nx g n at_ pl2 at2 so2 sg2 le2) : rx_st g n T P V z e (i + 1) at2 so2 sg2 le2 pl2 := by
  have hn := zn_nat h0
  rcases h.2.1 with ⟨u1, u2⟩ | ⟨u1, u2, u3⟩
  · exact absurd u2 hs1
  · refine rx_st_nx h.1 (by omega) h0 ?_ hx hp0
    unfold lx_b
    rw [if_neg (by omega), Nat.add_sub_cancel]
    have := u3.resolve_left hs0
    omega
section
variable {g : Nat → Int32} {n : Int32} {T P : Nat → Int32} {V : Nat → Int64} {z : Int32} {e : Nat → Nat} {i : Nat} {at_ so sg pl : Int32} {le : Int64}
theorem rx_T {k : Int} (h : rx_st g n T P V z e i at_ so sg le pl) : ((T i).toInt = 256 ↔ so.toInt = 1) ∧ ((T i).toInt = 258 ↔ so.toInt = 2) ∧ ((T i).toInt = 259 ↔ so.toInt = 3) ∧ ((T i).toInt = 260 ↔ so.toInt = 4) ∧ ((T i).toInt = 261 ↔ so.toInt = 7) ∧ (0 ≤ k → k < 256 → ((T i).toInt = k ↔ so.toInt = 6 ∧ sg.toInt = k)) := by
  rcases h.2.1 with ⟨u1, u2⟩ | ⟨u1, u2, u3⟩
  · have := h.1.2.2.2.1
    rw [← u1] at this
    exact ⟨by omega, by omega, by omega, by omega, by omega, fun _ _ => by omega⟩
  · rcases u2 with q | q | q | q | q | ⟨c, c1, c2, c3, c4, c5⟩ | q
    all_goals exact ⟨by omega, by omega, by omega, by omega, by omega, fun _ _ => by omega⟩
theorem rx_kd : ∀ c, c < 8 → ∀ d, d < 8 → 1 ≤ c → 1 ≤ d → rx_k c = rx_k d → c = d := by decide +kernel
theorem rx_Tw {c : Nat} (h : rx_st g n T P V z e i at_ so sg le pl) (h1 : 1 ≤ c) (h7 : c ≤ 7) : (T i).toInt = 261 + (c : Int) ↔ so.toInt = 5 ∧ le = rx_k c := by
  rcases h.2.1 with ⟨u1, u2⟩ | ⟨u1, u2, u3⟩
  · have := h.1.2.2.2.1
    rw [← u1] at this
    exact ⟨fun g => by omega, fun g => by omega⟩
  · rcases u2 with q | q | q | q | q | ⟨d, d1, d2, d3, d4, d5⟩ | q
    · exact ⟨fun g => by omega, fun g => by omega⟩
    · exact ⟨fun g => by omega, fun g => by omega⟩
    · exact ⟨fun g => by omega, fun g => by omega⟩
    · exact ⟨fun g => by omega, fun g => by omega⟩
    · exact ⟨fun g => by omega, fun g => by omega⟩
    · constructor
      · intro g
        have : c = d := by omega
        subst this
        exact ⟨d4, d5⟩
      · intro g
        have : c = d := rx_kd c (by omega) d (by omega) h1 d1 (by rw [← g.2, d5])
        omega
    · exact ⟨fun g => by omega, fun g => by omega⟩
theorem rx_cv (h : rx_st g n T P V z e i at_ so sg le pl) (hs : so.toInt = 2 ∨ so.toInt = 3) : sp_cv (V i) le := by
  rcases h.2.1 with ⟨u1, u2⟩ | ⟨u1, u2, u3⟩
  · omega
  · rcases u2 with q | q | q | q | q | ⟨d, d1, d2, d3, d4, d5⟩ | q
    · omega
    · exact q.2.2
    · exact q.2.2
    · omega
    · omega
    · omega
    · omega
theorem rx_nu (h : rx_st g n T P V z e i at_ so sg le pl) (hs : so.toInt = 4) : Int64.toInt32 (V i) = Int64.toInt32 le := by
  rcases h.2.1 with ⟨u1, u2⟩ | ⟨u1, u2, u3⟩
  · omega
  · rcases u2 with q | q | q | q | q | ⟨d, d1, d2, d3, d4, d5⟩ | q
    · omega
    · omega
    · omega
    · exact q.2.2
    · omega
    · omega
    · omega
theorem rx_pl (h : rx_st g n T P V z e i at_ so sg le pl) : pl.toInt = (P i).toInt := h.2.2
end
/-- the names around, as the reference keeps them -/
def sp_nr (sc : Nat → Int64) (k : Int32) (L : List Int64) : Prop := (L.length : Int) = k.toInt ∧ (∀ j : Nat, j < L.length → ∃ w, L[j]? = some w ∧ sp_cv w (sc j)) ∧ L.Nodup
theorem sp_nr_mem {sc : Nat → Int64} {k : Int32} {L : List Int64} (h : sp_nr sc k L) {w v : Int64} (hc : sp_cv w v) : w ∈ L ↔ ∃ j : Nat, (j : Int) < k.toInt ∧ sc j = v := by
  constructor
  · intro g
    obtain ⟨j, hj, e⟩ := List.mem_iff_getElem.mp g
    obtain ⟨w2, e2, c2⟩ := h.2.1 j hj
    rw [List.getElem?_eq_getElem hj, e] at e2
    cases Option.some.inj e2
    exact ⟨j, by have := h.1; omega, (sp_cv_inj c2 hc).mp rfl⟩
  · rintro ⟨j, hj, e⟩
    obtain ⟨w2, e2, c2⟩ := h.2.1 j (by have := h.1; omega)
    have := (sp_cv_inj c2 hc).mpr e
    rw [this] at e2
    exact List.mem_of_getElem? e2
theorem sp_nr_ap {sc sc2 : Nat → Int64} {k k2 : Int32} {L : List Int64} {w v : Int64} (h : sp_nr sc k L) (hnw : w ∉ L) (hc : sp_cv w v) (e : sc2 = vp_updL sc (Int32.toNatClampNeg k) v) (hk : k2.toInt = k.toInt + 1) : sp_nr sc2 k2 (L ++ [w]) := by
  have h0 := h.1
  have hn := zn_nat (x := k) (by omega)
  refine ⟨by rw [List.length_append]; show ((L.length + 1 : Nat) : Int) = _; omega, fun j hj => ?_, List.nodup_append.mpr ⟨h.2.2, by simp, fun a ha b hb e => by rw [List.mem_singleton] at hb; subst hb; subst e; exact hnw ha⟩⟩
  rw [List.length_append] at hj
  have hj : j < L.length + 1 := hj
  by_cases u : j = L.length
  · have e2 : Int32.toNatClampNeg k = L.length := by omega
    refine ⟨w, by rw [u]; simp, ?_⟩
    rw [e, e2, u]; simp [vp_updL]; exact hc
  · obtain ⟨w2, e2, c2⟩ := h.2.1 j (by omega)
    refine ⟨w2, by rw [List.getElem?_append_left (by omega)]; exact e2, ?_⟩
    have e3 : j ≠ Int32.toNatClampNeg k := by omega
    rw [e]; simp [vp_updL, e3]; exact c2
theorem sp_nr_dn {sc : Nat → Int64} {k k2 : Int32} {L M : List Int64} (h : sp_nr sc k (L ++ M)) (ha : (L.length : Int) = k2.toInt) : sp_nr sc k2 L := ⟨ha, fun j hj => by
  obtain ⟨w, e, c⟩ := h.2.1 j (by rw [List.length_append]; omega)
  rw [List.getElem?_append_left hj] at e
  exact ⟨w, e, c⟩, (List.nodup_append.mp h.2.2).1⟩
/-- the kinds, as the reference keeps them -/
def sp_kr (kn : Nat → Int64) (fi : Nat → Int32) (kz : Int32) (kw : Nat → Int64) (kf : Nat → Int32) : Prop := ∀ j : Nat, (j : Int) < kz.toInt → sp_cv (kw j) (kn j) ∧ kf j = fi j
/-- the calls, as the reference keeps them -/
def sp_cr (wh ma pl : Nat → Int32) (nm : Nat → Int64) (pz : Int32) (C : List (Int64 × Int × Int)) : Prop := (∀ k : Nat, (k : Int) < pz.toInt → (wh k).toInt = 3 → ∃ q ∈ C, sp_cv q.1 (nm k) ∧ (ma k).toInt = q.2.1 ∧ (pl k).toInt = q.2.2) ∧ ∀ q ∈ C, ∃ k : Nat, (k : Int) < pz.toInt ∧ (wh k).toInt = 3 ∧ sp_cv q.1 (nm k) ∧ (ma k).toInt = q.2.1 ∧ (pl k).toInt = q.2.2
theorem sp_sr_s {sc : Nat → Int64} {w : Int64} {k k2 m : Int32} (h : ∀ j : Nat, k.toInt < (j : Int) → (j : Int) < m.toInt → sc j ≠ w) (h0 : 0 ≤ k.toInt) (e : k2.toInt = k.toInt - 1) (hn : sc (Int32.toNatClampNeg k) ≠ w) : ∀ j : Nat, k2.toInt < (j : Int) → (j : Int) < m.toInt → sc j ≠ w := fun j h1 h2 => by
  have := zn_nat h0
  by_cases u : j = Int32.toNatClampNeg k
  · rw [u]; exact hn
  · exact h j (by omega) h2
theorem sp_sr_n {sc : Nat → Int64} {m r : Int32} {L : List Int64} {w v : Int64} (h : sp_nr sc m L) (hc : sp_cv w v) (hr : r.toInt = -1) (hno : ∀ j : Nat, (j : Int) < m.toInt → sc j ≠ v) : sp_in r w L := ⟨fun _ g => by
  obtain ⟨j, hj, e⟩ := (sp_nr_mem h hc).mp g
  exact hno j hj e, fun g => absurd hr g⟩
theorem sp_sr_y {sc : Nat → Int64} {m r : Int32} {L : List Int64} {w v : Int64} (h : sp_nr sc m L) (hc : sp_cv w v) (h0 : 0 ≤ r.toInt) (h1 : r.toInt < m.toInt) (e : sc (Int32.toNatClampNeg r) = v) : sp_in r w L := by
  have hn := zn_nat h0
  obtain ⟨hl, hw, hnd⟩ := h
  have hr : Int32.toNatClampNeg r < L.length := by omega
  obtain ⟨w2, e2, c2⟩ := hw _ hr
  have ew : w2 = w := (sp_cv_inj c2 hc).mpr e
  rw [ew] at e2
  refine ⟨fun g => by omega, fun _ => ⟨List.mem_of_getElem? e2, ?_⟩⟩
  rw [sp_ix_eq e2 (fun i hi q => ?_)]
  · exact hn.symm
  · have hi2 : i < L.length := by omega
    have := (List.getElem?_inj hi2 hnd).mp (q.trans e2.symm)
    omega
theorem sp_kk_y {kn kw : Nat → Int64} {fi kf : Nat → Int32} {kz k : Int32} {wd le : Int64} (h : sp_kr kn fi kz kw kf) (hc : sp_cv wd le) (h0 : 0 ≤ k.toInt) (h1 : k.toInt < kz.toInt) (hno : ∀ j : Nat, (j : Int) < k.toInt → kn j ≠ le) (e : kn (Int32.toNatClampNeg k) = le) : sp_kh wd kz kw kf (some (k, kz, kw, kf)) := by
  have n1 := zn_nat h0
  exact sp_kh_y (sp_fd_y h0 h1 ((sp_cv_inj (h _ (by omega)).1 hc).mpr e) (fun j hj q => hno j hj ((sp_cv_inj (h j (by omega)).1 hc).mp q))) h0 h1
theorem sp_kk_n {kn kw : Nat → Int64} {fi kf : Nat → Int32} {kz q : Int32} {wd le : Int64} (h : sp_kr kn fi kz kw kf) (hc : sp_cv wd le) (h0 : 0 ≤ kz.toInt) (hq : q.toInt = -1) (hno : ∀ j : Nat, (j : Int) < kz.toInt → kn j ≠ le) : sp_fd kw wd kz q := sp_fd_n h0 hq (fun j hj u => hno j hj ((sp_cv_inj (h j hj).1 hc).mp u))
theorem sp_kk_a {kn kw kn2 : Nat → Int64} {fi kf fi2 : Nat → Int32} {kz kz2 k : Int32} {wd le : Int64} (h : sp_kr kn fi kz kw kf) (hc : sp_cv wd le) (h0 : 0 ≤ kz.toInt) (h20 : kz.toInt < 20) (ek : k.toInt = kz.toInt) (hno : ∀ j : Nat, (j : Int) < kz.toInt → kn j ≠ le) (en : kn2 = vp_updL kn (Int32.toNatClampNeg k) le) (ef : fi2 = upd fi (Int32.toNatClampNeg k) (-1)) (ez : kz2.toInt = kz.toInt + 1) : ∃ kw2 kf2, sp_kr kn2 fi2 kz2 kw2 kf2 ∧ sp_kh wd kz kw kf (some (k, kz2, kw2, kf2)) := by
  have e2 : k = kz := Int32.toInt_inj.mp ek
  have hn := zn_nat h0
  refine ⟨vp_updL kw (Int32.toNatClampNeg kz) wd, upd kf (Int32.toNatClampNeg kz) (-1), fun j hj => ?_, sp_kh_a (q := -1) (sp_kk_n h hc h0 (by decide) hno) (by decide) h0 h20 ek ez rfl rfl⟩
  rw [en, ef, e2]
  by_cases u : j = Int32.toNatClampNeg kz
  · rw [u, zu_s, zu_s]
    exact ⟨by simp [vp_updL]; exact hc, rfl⟩
  · rw [zu_n u, zu_n u]
    have := h j (by omega)
    exact ⟨by simp [vp_updL, u]; exact this.1, this.2⟩
theorem sp_kk_x {kn kw : Nat → Int64} {fi kf : Nat → Int32} {kz : Int32} {wd le : Int64} (h : sp_kr kn fi kz kw kf) (hc : sp_cv wd le) (h20 : 20 ≤ kz.toInt) (hno : ∀ j : Nat, (j : Int) < kz.toInt → kn j ≠ le) : sp_kh wd kz kw kf none := sp_kh_x (q := -1) (sp_kk_n h hc (by omega) (by decide) hno) (by decide) h20
theorem sp_hh_1 {kn kw : Nat → Int64} {fi kf fi2 : Nat → Int32} {kz kd mn : Int32} (h : sp_kr kn fi kz kw kf) (h0 : 0 ≤ kd.toInt) (h1 : kd.toInt < kz.toInt) (e : (fi (Int32.toNatClampNeg kd)).toInt = -1) (ef : fi2 = upd fi (Int32.toNatClampNeg kd) mn) : ∃ kf2, sp_kr kn fi2 kz kw kf2 ∧ sp_td kd mn kf (some kf2) := by
  have hn := zn_nat h0
  refine ⟨upd kf (Int32.toNatClampNeg kd) mn, fun j hj => ?_, sp_td_1 (by rw [(h _ (by omega)).2]; exact e) rfl⟩
  rw [ef]
  by_cases u : j = Int32.toNatClampNeg kd
  · rw [u, zu_s, zu_s]; exact ⟨(h _ (by omega)).1, rfl⟩
  · rw [zu_n u, zu_n u]; exact h j hj
theorem sp_hh_2 {kn kw : Nat → Int64} {fi kf : Nat → Int32} {kz kd mn : Int32} (h : sp_kr kn fi kz kw kf) (h0 : 0 ≤ kd.toInt) (h1 : kd.toInt < kz.toInt) (e : (fi (Int32.toNatClampNeg kd)).toInt ≠ -1) (e2 : (fi (Int32.toNatClampNeg kd)).toInt = mn.toInt) : ∃ kf2, sp_kr kn fi kz kw kf2 ∧ sp_td kd mn kf (some kf2) := by
  have hn := zn_nat h0
  have hk := (h _ (show ((Int32.toNatClampNeg kd : Nat) : Int) < kz.toInt by omega)).2
  exact ⟨kf, h, sp_td_2 (by rw [hk]; exact e) (by rw [hk]; exact e2)⟩
theorem sp_hh_x {kn kw : Nat → Int64} {fi kf : Nat → Int32} {kz kd mn : Int32} (h : sp_kr kn fi kz kw kf) (h0 : 0 ≤ kd.toInt) (h1 : kd.toInt < kz.toInt) (e : (fi (Int32.toNatClampNeg kd)).toInt ≠ -1) (e2 : (fi (Int32.toNatClampNeg kd)).toInt ≠ mn.toInt) : sp_td kd mn kf none := by
  have hn := zn_nat h0
  have hk := (h _ (show ((Int32.toNatClampNeg kd : Nat) : Int) < kz.toInt by omega)).2
  exact sp_td_x (by rw [hk]; exact e) (by rw [hk]; exact e2)
/-- may an expression begin here? -/
def rx_bg (t : Int) (r : Int32) : Prop := (r.toInt = 1 ∧ (t = 262 ∨ t = 264 ∨ t = 267 ∨ t = 260 ∨ t = 258 ∨ t = 259 ∨ t = 40)) ∨ (r.toInt = 0 ∧ ¬ (t = 262 ∨ t = 264 ∨ t = 267 ∨ t = 260 ∨ t = 258 ∨ t = 259 ∨ t = 40))
/-- a name may be told here -/
def rx_tl (t : Int) (w : Int64) (L : List Int64) : Prop := t = 258 ∧ w ∉ L ∧ L.length < 24
/-- the fields of a pattern, as the reference goes through them -/
def rx_fs (T : Nat → Int32) (V : Nat → Int64) (L : List Int64) (i : Nat) : Option (List Int64 × Nat) := if (T i).toInt = 40 then sp_pn T V 3 L i else some (L, i)
def rx_fl (T P : Nat → Int32) (V : Nat → Int64) (L : List Int64) (o : Option (List Int64 × Nat)) (p : Int) (sc : Nat → Int64) (sd : Int32) (nq mo : Int) (st : Nat → Prop) : Prop := ∃ (M : List Int64) (n a i : Nat), sp_nr sc sd (L ++ M) ∧ (M.length : Int) = nq ∧ (n : Int) = 3 - nq ∧ st i ∧ sp_im (mo ≠ 0) (i = a + 1 ∧ o = sp_pn T V n (L ++ M) a) ∧ sp_im (mo = 0) (o = if (T i).toInt = 41 then some (L ++ M, i + 1) else none) ∧ sp_im (mo ≠ 0) (p = pf_pn T P V n (L ++ M) a) ∧ sp_im (mo = 0) (p = (P i).toInt)
theorem rx_pn_x {T : Nat → Int32} {V : Nat → Int64} {L : List Int64} {a i : Nat} (ei : i = a + 1) (h : ¬ rx_tl (T i).toInt (V i) L) : ∀ n, sp_pn T V n L a = none
  | 0 => rfl
  | n + 1 => by
    unfold sp_pn
    rw [← ei]; exact if_neg (fun g => h g)
theorem rxp_pn_x {T P : Nat → Int32} {V : Nat → Int64} {L : List Int64} {a i : Nat} (ei : i = a + 1) (h : ¬ rx_tl (T i).toInt (V i) L) : ∀ n, pf_pn T P V n L a = (P i).toInt
  | 0 => by rw [ei]; rfl
  | n + 1 => by
    unfold pf_pn
    rw [← ei]; exact if_neg (fun g => h g)
theorem rx_fl_s {T P : Nat → Int32} {V : Nat → Int64} {p : Int} {L M : List Int64} {o : Option (List Int64 × Nat)} {sc2 : Nat → Int64} {sd2 : Int32} {nq nq2 mo2 : Int} {st : Nat → Prop} {n a i i2 : Nat} (hM : (M.length : Int) = nq) (hn : (n : Int) = 3 - nq) (h3 : nq < 3) (hi : i = a + 1) (hq : o = sp_pn T V n (L ++ M) a) (hg : p = pf_pn T P V n (L ++ M) a) (ht : rx_tl (T i).toInt (V i) (L ++ M)) (h2 : sp_nr sc2 sd2 (L ++ M ++ [V i])) (e2 : nq2 = nq + 1) (hs : st i2) (hmo : (mo2 ≠ 0 ∧ (T (i + 1)).toInt = 44 ∧ i2 = i + 2) ∨ (mo2 = 0 ∧ (T (i + 1)).toInt ≠ 44 ∧ i2 = i + 1)) : rx_fl T P V L o p sc2 sd2 nq2 mo2 st := by
  obtain ⟨k, rfl⟩ : ∃ k, n = k + 1 := ⟨n - 1, by omega⟩
  have hst : sp_pn T V (k + 1) (L ++ M) a = if (T (i + 1)).toInt = 44 then sp_pn T V k (L ++ (M ++ [V i])) (i + 1) else if (T (i + 1)).toInt = 41 then some (L ++ (M ++ [V i]), i + 2) else none := by
    rw [← List.append_assoc]
    conv => lhs; unfold sp_pn
    rw [← hi, show a + 2 = i + 1 by omega, if_pos (show (T i).toInt = 258 ∧ V i ∉ L ++ M ∧ (L ++ M).length < 24 from ht), show a + 3 = i + 2 by omega]
  have hst2 : pf_pn T P V (k + 1) (L ++ M) a = if (T (i + 1)).toInt = 44 then pf_pn T P V k (L ++ (M ++ [V i])) (i + 1) else (P (i + 1)).toInt := by
    rw [← List.append_assoc]
    conv => lhs; unfold pf_pn
    rw [← hi, show a + 2 = i + 1 by omega, if_pos (show (T i).toInt = 258 ∧ V i ∉ L ++ M ∧ (L ++ M).length < 24 from ht)]
  rw [hst] at hq
  rw [hst2] at hg
  refine ⟨M ++ [V i], k, i + 1, i2, by rw [← List.append_assoc]; exact h2, by rw [List.length_append]; show ((M.length + 1 : Nat) : Int) = _; omega, by omega, hs, fun g => ?_, fun g => ?_, fun g => ?_, fun g => ?_⟩
  · rcases hmo with ⟨u1, u2, u3⟩ | ⟨u1, u2, u3⟩
    · exact ⟨by omega, by rw [hq, if_pos u2]⟩
    · exact absurd u1 g
  · rcases hmo with ⟨u1, u2, u3⟩ | ⟨u1, u2, u3⟩
    · exact absurd g u1
    · rw [hq, if_neg u2, u3]
  · rcases hmo with ⟨u1, u2, u3⟩ | ⟨u1, u2, u3⟩
    · rw [hg, if_pos u2]
    · exact absurd u1 g
  · rcases hmo with ⟨u1, u2, u3⟩ | ⟨u1, u2, u3⟩
    · exact absurd g u1
    · rw [hg, if_neg u2, u3]

end
section
theorem wi_1508 : Cond.fieldLink RX14 27 "ReuseHouseModel" "spare" "LReuseHouseModel$Program;" ∈ zw := zw_in (List.mem_of_getElem? (i := 1508) (by decide +kernel)) (by decide +kernel)
theorem wi_1798 : Cond.code yX14_part cX14_part 4 (some .int) ∈ zw := zw_in (List.mem_of_getElem? (i := 1798) (by decide +kernel)) (by decide +kernel)
theorem wi_1795 : Cond.methodLink RX14 279 yX14_part ∈ zw := zw_in (List.mem_of_getElem? (i := 1795) (by decide +kernel)) (by decide +kernel)
theorem wi_1797 : Cond.instanceMethod yX14_part ∈ zw := zw_in (List.mem_of_getElem? (i := 1797) (by decide +kernel)) (by decide +kernel)
theorem wi_86 : Cond.selects RX14 yX14_part yX14_part ∈ zw := zw_in (List.mem_of_getElem? (i := 86) (by decide +kernel)) (by decide +kernel)
theorem dX14_both_0 : decode cX14_both 0 = .ok (.aload_n 0, 1) := by decide +kernel
theorem dX14_both_1 : decode cX14_both 1 = .ok (.iconst 5, 1) := by decide +kernel
theorem dX14_both_2 : decode cX14_both 2 = .ok (.iload_n 2, 1) := by decide +kernel
theorem dX14_both_3 : decode cX14_both 3 = .ok (.invokevirtual 279, 3) := by decide +kernel
theorem dX14_both_6 : decode cX14_both 6 = .ok (.istore 5, 2) := by decide +kernel
theorem dX14_both_8 : decode cX14_both 8 = .ok (.aload_n 0, 1) := by decide +kernel
theorem dX14_both_9 : decode cX14_both 9 = .ok (.getfield 27, 3) := by decide +kernel
theorem dX14_both_12 : decode cX14_both 12 = .ok (.getfield 199, 3) := by decide +kernel
theorem dX14_both_15 : decode cX14_both 15 = .ok (.iload 5, 2) := by decide +kernel
theorem dX14_both_17 : decode cX14_both 17 = .ok (.iload_n 1, 1) := by decide +kernel
theorem dX14_both_18 : decode cX14_both 18 = .ok (.iastore, 1) := by decide +kernel
theorem dX14_both_19 : decode cX14_both 19 = .ok (.aload_n 0, 1) := by decide +kernel
theorem dX14_both_20 : decode cX14_both 20 = .ok (.getfield 27, 3) := by decide +kernel
theorem dX14_both_23 : decode cX14_both 23 = .ok (.getfield 202, 3) := by decide +kernel
theorem dX14_both_26 : decode cX14_both 26 = .ok (.iload 5, 2) := by decide +kernel
theorem dX14_both_28 : decode cX14_both 28 = .ok (.iload_n 3, 1) := by decide +kernel
theorem dX14_both_29 : decode cX14_both 29 = .ok (.iastore, 1) := by decide +kernel
theorem dX14_both_30 : decode cX14_both 30 = .ok (.aload_n 0, 1) := by decide +kernel
theorem dX14_both_31 : decode cX14_both 31 = .ok (.getfield 27, 3) := by decide +kernel
theorem dX14_both_34 : decode cX14_both 34 = .ok (.getfield 205, 3) := by decide +kernel
theorem dX14_both_37 : decode cX14_both 37 = .ok (.iload 5, 2) := by decide +kernel
theorem dX14_both_39 : decode cX14_both 39 = .ok (.iload 4, 2) := by decide +kernel
theorem dX14_both_41 : decode cX14_both 41 = .ok (.iastore, 1) := by decide +kernel
theorem dX14_both_42 : decode cX14_both 42 = .ok (.iload 5, 2) := by decide +kernel
theorem dX14_both_44 : decode cX14_both 44 = .ok (.ireturn, 1) := by decide +kernel
theorem dX14_part_0 : decode cX14_part 0 = .ok (.aload_n 0, 1) := by decide +kernel
theorem dX14_part_1 : decode cX14_part 1 = .ok (.getfield 27, 3) := by decide +kernel
theorem dX14_part_4 : decode cX14_part 4 = .ok (.getfield 191, 3) := by decide +kernel
theorem dX14_part_7 : decode cX14_part 7 = .ok (.istore_n 3, 1) := by decide +kernel
theorem dX14_part_8 : decode cX14_part 8 = .ok (.aload_n 0, 1) := by decide +kernel
theorem dX14_part_9 : decode cX14_part 9 = .ok (.getfield 27, 3) := by decide +kernel
theorem dX14_part_12 : decode cX14_part 12 = .ok (.dup, 1) := by decide +kernel
theorem dX14_part_13 : decode cX14_part 13 = .ok (.getfield 191, 3) := by decide +kernel
theorem dX14_part_16 : decode cX14_part 16 = .ok (.iconst 1, 1) := by decide +kernel
theorem dX14_part_17 : decode cX14_part 17 = .ok (.iadd, 1) := by decide +kernel
theorem dX14_part_18 : decode cX14_part 18 = .ok (.putfield 191, 3) := by decide +kernel
theorem dX14_part_21 : decode cX14_part 21 = .ok (.aload_n 0, 1) := by decide +kernel
theorem dX14_part_22 : decode cX14_part 22 = .ok (.getfield 27, 3) := by decide +kernel
theorem dX14_part_25 : decode cX14_part 25 = .ok (.getfield 194, 3) := by decide +kernel
theorem dX14_part_28 : decode cX14_part 28 = .ok (.iload_n 3, 1) := by decide +kernel
theorem dX14_part_29 : decode cX14_part 29 = .ok (.iload_n 1, 1) := by decide +kernel
theorem dX14_part_30 : decode cX14_part 30 = .ok (.i2b, 1) := by decide +kernel
theorem dX14_part_31 : decode cX14_part 31 = .ok (.bastore, 1) := by decide +kernel
theorem dX14_part_32 : decode cX14_part 32 = .ok (.aload_n 0, 1) := by decide +kernel
theorem dX14_part_33 : decode cX14_part 33 = .ok (.getfield 27, 3) := by decide +kernel
theorem dX14_part_36 : decode cX14_part 36 = .ok (.getfield 197, 3) := by decide +kernel
theorem dX14_part_39 : decode cX14_part 39 = .ok (.iload_n 3, 1) := by decide +kernel
theorem dX14_part_40 : decode cX14_part 40 = .ok (.iload_n 2, 1) := by decide +kernel
theorem dX14_part_41 : decode cX14_part 41 = .ok (.iastore, 1) := by decide +kernel
theorem dX14_part_42 : decode cX14_part 42 = .ok (.aload_n 0, 1) := by decide +kernel
theorem dX14_part_43 : decode cX14_part 43 = .ok (.getfield 27, 3) := by decide +kernel
theorem dX14_part_46 : decode cX14_part 46 = .ok (.getfield 199, 3) := by decide +kernel
theorem dX14_part_49 : decode cX14_part 49 = .ok (.iload_n 3, 1) := by decide +kernel
theorem dX14_part_50 : decode cX14_part 50 = .ok (.iconst 0, 1) := by decide +kernel
theorem dX14_part_51 : decode cX14_part 51 = .ok (.iastore, 1) := by decide +kernel
theorem dX14_part_52 : decode cX14_part 52 = .ok (.aload_n 0, 1) := by decide +kernel
theorem dX14_part_53 : decode cX14_part 53 = .ok (.getfield 27, 3) := by decide +kernel
theorem dX14_part_56 : decode cX14_part 56 = .ok (.getfield 202, 3) := by decide +kernel
theorem dX14_part_59 : decode cX14_part 59 = .ok (.iload_n 3, 1) := by decide +kernel
theorem dX14_part_60 : decode cX14_part 60 = .ok (.iconst (-1), 1) := by decide +kernel
theorem dX14_part_61 : decode cX14_part 61 = .ok (.iastore, 1) := by decide +kernel
theorem dX14_part_62 : decode cX14_part 62 = .ok (.aload_n 0, 1) := by decide +kernel
theorem dX14_part_63 : decode cX14_part 63 = .ok (.getfield 27, 3) := by decide +kernel
theorem dX14_part_66 : decode cX14_part 66 = .ok (.getfield 205, 3) := by decide +kernel
theorem dX14_part_69 : decode cX14_part 69 = .ok (.iload_n 3, 1) := by decide +kernel
theorem dX14_part_70 : decode cX14_part 70 = .ok (.iconst (-1), 1) := by decide +kernel
theorem dX14_part_71 : decode cX14_part 71 = .ok (.iastore, 1) := by decide +kernel
theorem dX14_part_72 : decode cX14_part 72 = .ok (.aload_n 0, 1) := by decide +kernel
theorem dX14_part_73 : decode cX14_part 73 = .ok (.getfield 27, 3) := by decide +kernel
theorem dX14_part_76 : decode cX14_part 76 = .ok (.getfield 208, 3) := by decide +kernel
theorem dX14_part_79 : decode cX14_part 79 = .ok (.iload_n 3, 1) := by decide +kernel
theorem dX14_part_80 : decode cX14_part 80 = .ok (.iconst (-1), 1) := by decide +kernel
theorem dX14_part_81 : decode cX14_part 81 = .ok (.iastore, 1) := by decide +kernel
theorem dX14_part_82 : decode cX14_part 82 = .ok (.aload_n 0, 1) := by decide +kernel
theorem dX14_part_83 : decode cX14_part 83 = .ok (.getfield 27, 3) := by decide +kernel
theorem dX14_part_86 : decode cX14_part 86 = .ok (.getfield 211, 3) := by decide +kernel
theorem dX14_part_89 : decode cX14_part 89 = .ok (.iload_n 3, 1) := by decide +kernel
theorem dX14_part_90 : decode cX14_part 90 = .ok (.iconst (-1), 1) := by decide +kernel
theorem dX14_part_91 : decode cX14_part 91 = .ok (.iastore, 1) := by decide +kernel
theorem dX14_part_92 : decode cX14_part 92 = .ok (.aload_n 0, 1) := by decide +kernel
theorem dX14_part_93 : decode cX14_part 93 = .ok (.getfield 27, 3) := by decide +kernel
theorem dX14_part_96 : decode cX14_part 96 = .ok (.getfield 214, 3) := by decide +kernel
theorem dX14_part_99 : decode cX14_part 99 = .ok (.iload_n 3, 1) := by decide +kernel
theorem dX14_part_100 : decode cX14_part 100 = .ok (.iconst 0, 1) := by decide +kernel
theorem dX14_part_101 : decode cX14_part 101 = .ok (.iastore, 1) := by decide +kernel
theorem dX14_part_102 : decode cX14_part 102 = .ok (.aload_n 0, 1) := by decide +kernel
theorem dX14_part_103 : decode cX14_part 103 = .ok (.getfield 27, 3) := by decide +kernel
theorem dX14_part_106 : decode cX14_part 106 = .ok (.getfield 217, 3) := by decide +kernel
theorem dX14_part_109 : decode cX14_part 109 = .ok (.iload_n 3, 1) := by decide +kernel
theorem dX14_part_110 : decode cX14_part 110 = .ok (.lconst 0, 1) := by decide +kernel
theorem dX14_part_111 : decode cX14_part 111 = .ok (.lastore, 1) := by decide +kernel
theorem dX14_part_112 : decode cX14_part 112 = .ok (.iload_n 3, 1) := by decide +kernel
theorem dX14_part_113 : decode cX14_part 113 = .ok (.ireturn, 1) := by decide +kernel
set_option maxHeartbeats 4000000 in
set_option maxRecDepth 100000 in
theorem c_X14_part_x (l : Launch) (dC : Nat → ClassId) (dI : Nat → Nat → Nat) (aK aV : Nat → Nat) (h0 : Nat) (m_thrown : Int32) (m_stop : Nat) (m_tape : Nat) (m_taped : Int32) (m_length : Int32) (m_at : Int32) (m_sort : Int32) (m_place : Int32) (m_sign : Int32) (m_letters : Int64) (m_p : Nat) (m_spare : Nat) (m_isTaken : Int32) (m_scope : Nat) (m_scoped : Int32) (m_deep : Int32) (m_counted : Int32) (m_fault : Int32) (m_where : Int32) (m_cellKind : Nat) (m_cellCount : Nat) (m_free : Nat) (m_pile : Nat) (m_cellField : Nat) (m_freeCount : Int32) (m_given : Int32) (m_nextPlain : Int32) (m_otherKind : Nat) (m_otherField : Nat) (m_isPlain : Int32) (m_hasRun : Int32) (m_hasValue : Int32) (m_hasOther : Int32) (m_value : Int64) (m_other : Int64) (m_steps : Int32) (m_made : Int32) (m_reused : Int32) (m_freed : Int32) (m_most : Int32) (m_doubled : Int32) (m_openMost : Int32) (m_taskWhat : Nat) (m_taskPart : Nat) (m_values : Nat) (m_tasks : Int32) (m_valued : Int32) (m_open : Int32) (m_slots : Nat) (m_present : Nat) (m_shell : Nat) (m_shellArm : Nat) (m_shellCall : Nat) (m_shells : Int32) (m_keptCounts : Nat) (m_asideKind : Nat) (m_asideCount : Nat) (m_asideField : Nat) (m_out : Nat) (m_side : Nat) (m_outs : Int32) (m_sides : Int32) (m_saying : Nat) (pr_what : Nat) (pr_place : Nat) (pr_own : Nat) (pr_one : Nat) (pr_two : Nat) (pr_three : Nat) (pr_beside : Nat) (pr_many : Nat) (pr_uses : Nat) (pr_behind : Nat) (pr_name : Nat) (pr_makes : Nat) (pr_parts : Int32) (pr_functionName : Nat) (pr_kindName : Nat) (pr_told : Nat) (pr_body : Nat) (pr_first : Nat) (pr_widest : Nat) (pr_fields : Nat) (pr_functions : Int32) (pr_kinds : Int32) (rk_what : ClassId) (rk_place : ClassId) (rk_own : ClassId) (rk_one : ClassId) (rk_two : ClassId) (rk_three : ClassId) (rk_beside : ClassId) (rk_many : ClassId) (rk_name : ClassId) (rg_what : Nat → Int32) (rg_place : Nat → Int32) (rg_own : Nat → Int32) (rg_one : Nat → Int32) (rg_two : Nat → Int32) (rg_three : Nat → Int32) (rg_beside : Nat → Int32) (rg_many : Nat → Int32) (rg_name : Nat → Int64) (rg_fields : Nat → Int32) (wh : Int32) (pw : Int32) (sz : Nat) (hpz0 : 0 ≤ pr_parts.toInt) (hpz1 : pr_parts.toInt < 2100) (hwh0 : 1 ≤ wh.toInt) (hwh1 : wh.toInt ≤ 9) : Met l yX14_part (Cond.code yX14_part cX14_part 4 (some .int) :: zw) ({ frames := 8, cells := 0, slots := 0, locals := 200 }) (va_Pc [.ref h0, .int wh, .int pw] (zP dC dI aK aV sz [(rk_what, .byte), (rk_place, .int), (rk_own, .int), (rk_one, .int), (rk_two, .int), (rk_three, .int), (rk_beside, .int), (rk_many, .int), (rk_name, .long)] [(h0, .inr (14, [.int m_thrown, .ref m_stop, .ref m_tape, .int m_taped, .int m_length, .int m_at, .int m_sort, .int m_place, .int m_sign, .long m_letters, .ref m_p, .ref m_spare, .int m_isTaken, .ref m_scope, .int m_scoped, .int m_deep, .int m_counted, .int m_fault, .int m_where, .ref m_cellKind, .ref m_cellCount, .ref m_free, .ref m_pile, .ref m_cellField, .int m_freeCount, .int m_given, .int m_nextPlain, .ref m_otherKind, .ref m_otherField, .int m_isPlain, .int m_hasRun, .int m_hasValue, .int m_hasOther, .long m_value, .long m_other, .int m_steps, .int m_made, .int m_reused, .int m_freed, .int m_most, .int m_doubled, .int m_openMost, .ref m_taskWhat, .ref m_taskPart, .ref m_values, .int m_tasks, .int m_valued, .int m_open, .ref m_slots, .ref m_present, .ref m_shell, .ref m_shellArm, .ref m_shellCall, .int m_shells, .ref m_keptCounts, .ref m_asideKind, .ref m_asideCount, .ref m_asideField, .ref m_out, .ref m_side, .int m_outs, .int m_sides, .ref m_saying])), (m_spare, .inr (12, [.ref pr_what, .ref pr_place, .ref pr_own, .ref pr_one, .ref pr_two, .ref pr_three, .ref pr_beside, .ref pr_many, .ref pr_uses, .ref pr_behind, .ref pr_name, .ref pr_makes, .int pr_parts, .ref pr_functionName, .ref pr_kindName, .ref pr_told, .ref pr_body, .ref pr_first, .ref pr_widest, .ref pr_fields, .int pr_functions, .int pr_kinds])), (pr_what, .inl (rk_what, 2100, .inl rg_what)), (pr_place, .inl (rk_place, 2100, .inl rg_place)), (pr_own, .inl (rk_own, 2100, .inl rg_own)), (pr_one, .inl (rk_one, 2100, .inl rg_one)), (pr_two, .inl (rk_two, 2100, .inl rg_two)), (pr_three, .inl (rk_three, 2100, .inl rg_three)), (pr_beside, .inl (rk_beside, 2100, .inl rg_beside)), (pr_many, .inl (rk_many, 2100, .inl rg_many)), (pr_name, .inl (rk_name, 2100, .inr (.inl rg_name)))])) (va_Qi (fun (r : Int32) (u : Int32 × (Nat → Int32) × (Nat → Int32) × (Nat → Int32) × (Nat → Int32) × (Nat → Int32) × (Nat → Int32) × (Nat → Int32) × (Nat → Int32) × (Nat → Int64)) => match u with | (pz2, n_what, n_place, n_own, n_one, n_two, n_three, n_beside, n_many, n_name) => (r = pr_parts) ∧ (pz2.toInt = pr_parts.toInt + 1) ∧ (∃ w9 : Int32, zJp (zJS rg_what rg_own rg_one rg_two rg_three rg_beside rg_many rg_fields pr_kinds) (zJS n_what n_own n_one n_two n_three n_beside n_many rg_fields pr_kinds) (Int32.toNatClampNeg pr_parts) w9 0 (-1) (-1) (-1) 0 ∧ w9.toInt = wh.toInt) ∧ (n_name = vp_updL rg_name (Int32.toNatClampNeg pr_parts) 0) ∧ (n_place = upd rg_place (Int32.toNatClampNeg pr_parts) pw)) (fun u => match u with | (pz2, n_what, n_place, n_own, n_one, n_two, n_three, n_beside, n_many, n_name) => zQ dC dI (va_A [(h0, .inr (14, [.int m_thrown, .ref m_stop, .ref m_tape, .int m_taped, .int m_length, .int m_at, .int m_sort, .int m_place, .int m_sign, .long m_letters, .ref m_p, .ref m_spare, .int m_isTaken, .ref m_scope, .int m_scoped, .int m_deep, .int m_counted, .int m_fault, .int m_where, .ref m_cellKind, .ref m_cellCount, .ref m_free, .ref m_pile, .ref m_cellField, .int m_freeCount, .int m_given, .int m_nextPlain, .ref m_otherKind, .ref m_otherField, .int m_isPlain, .int m_hasRun, .int m_hasValue, .int m_hasOther, .long m_value, .long m_other, .int m_steps, .int m_made, .int m_reused, .int m_freed, .int m_most, .int m_doubled, .int m_openMost, .ref m_taskWhat, .ref m_taskPart, .ref m_values, .int m_tasks, .int m_valued, .int m_open, .ref m_slots, .ref m_present, .ref m_shell, .ref m_shellArm, .ref m_shellCall, .int m_shells, .ref m_keptCounts, .ref m_asideKind, .ref m_asideCount, .ref m_asideField, .ref m_out, .ref m_side, .int m_outs, .int m_sides, .ref m_saying])), (m_spare, .inr (12, [.ref pr_what, .ref pr_place, .ref pr_own, .ref pr_one, .ref pr_two, .ref pr_three, .ref pr_beside, .ref pr_many, .ref pr_uses, .ref pr_behind, .ref pr_name, .ref pr_makes, .int pr_parts, .ref pr_functionName, .ref pr_kindName, .ref pr_told, .ref pr_body, .ref pr_first, .ref pr_widest, .ref pr_fields, .int pr_functions, .int pr_kinds])), (pr_what, .inl (rk_what, 2100, .inl rg_what)), (pr_place, .inl (rk_place, 2100, .inl rg_place)), (pr_own, .inl (rk_own, 2100, .inl rg_own)), (pr_one, .inl (rk_one, 2100, .inl rg_one)), (pr_two, .inl (rk_two, 2100, .inl rg_two)), (pr_three, .inl (rk_three, 2100, .inl rg_three)), (pr_beside, .inl (rk_beside, 2100, .inl rg_beside)), (pr_many, .inl (rk_many, 2100, .inl rg_many)), (pr_name, .inl (rk_name, 2100, .inr (.inl rg_name)))] sz) [(rk_what, .byte), (rk_place, .int), (rk_own, .int), (rk_one, .int), (rk_two, .int), (rk_three, .int), (rk_beside, .int), (rk_many, .int), (rk_name, .long)] [(h0, .inr (14, [.int m_thrown, .ref m_stop, .ref m_tape, .int m_taped, .int m_length, .int m_at, .int m_sort, .int m_place, .int m_sign, .long m_letters, .ref m_p, .ref m_spare, .int m_isTaken, .ref m_scope, .int m_scoped, .int m_deep, .int m_counted, .int m_fault, .int m_where, .ref m_cellKind, .ref m_cellCount, .ref m_free, .ref m_pile, .ref m_cellField, .int m_freeCount, .int m_given, .int m_nextPlain, .ref m_otherKind, .ref m_otherField, .int m_isPlain, .int m_hasRun, .int m_hasValue, .int m_hasOther, .long m_value, .long m_other, .int m_steps, .int m_made, .int m_reused, .int m_freed, .int m_most, .int m_doubled, .int m_openMost, .ref m_taskWhat, .ref m_taskPart, .ref m_values, .int m_tasks, .int m_valued, .int m_open, .ref m_slots, .ref m_present, .ref m_shell, .ref m_shellArm, .ref m_shellCall, .int m_shells, .ref m_keptCounts, .ref m_asideKind, .ref m_asideCount, .ref m_asideField, .ref m_out, .ref m_side, .int m_outs, .int m_sides, .ref m_saying])), (m_spare, .inr (12, [.ref pr_what, .ref pr_place, .ref pr_own, .ref pr_one, .ref pr_two, .ref pr_three, .ref pr_beside, .ref pr_many, .ref pr_uses, .ref pr_behind, .ref pr_name, .ref pr_makes, .int pz2, .ref pr_functionName, .ref pr_kindName, .ref pr_told, .ref pr_body, .ref pr_first, .ref pr_widest, .ref pr_fields, .int pr_functions, .int pr_kinds])), (pr_what, .inl (rk_what, 2100, .inl n_what)), (pr_place, .inl (rk_place, 2100, .inl n_place)), (pr_own, .inl (rk_own, 2100, .inl n_own)), (pr_one, .inl (rk_one, 2100, .inl n_one)), (pr_two, .inl (rk_two, 2100, .inl n_two)), (pr_three, .inl (rk_three, 2100, .inl n_three)), (pr_beside, .inl (rk_beside, 2100, .inl n_beside)), (pr_many, .inl (rk_many, 2100, .inl n_many)), (pr_name, .inl (rk_name, 2100, .inr (.inl n_name)))]) (va_A [(h0, .inr (14, [.int m_thrown, .ref m_stop, .ref m_tape, .int m_taped, .int m_length, .int m_at, .int m_sort, .int m_place, .int m_sign, .long m_letters, .ref m_p, .ref m_spare, .int m_isTaken, .ref m_scope, .int m_scoped, .int m_deep, .int m_counted, .int m_fault, .int m_where, .ref m_cellKind, .ref m_cellCount, .ref m_free, .ref m_pile, .ref m_cellField, .int m_freeCount, .int m_given, .int m_nextPlain, .ref m_otherKind, .ref m_otherField, .int m_isPlain, .int m_hasRun, .int m_hasValue, .int m_hasOther, .long m_value, .long m_other, .int m_steps, .int m_made, .int m_reused, .int m_freed, .int m_most, .int m_doubled, .int m_openMost, .ref m_taskWhat, .ref m_taskPart, .ref m_values, .int m_tasks, .int m_valued, .int m_open, .ref m_slots, .ref m_present, .ref m_shell, .ref m_shellArm, .ref m_shellCall, .int m_shells, .ref m_keptCounts, .ref m_asideKind, .ref m_asideCount, .ref m_asideField, .ref m_out, .ref m_side, .int m_outs, .int m_sides, .ref m_saying])), (m_spare, .inr (12, [.ref pr_what, .ref pr_place, .ref pr_own, .ref pr_one, .ref pr_two, .ref pr_three, .ref pr_beside, .ref pr_many, .ref pr_uses, .ref pr_behind, .ref pr_name, .ref pr_makes, .int pr_parts, .ref pr_functionName, .ref pr_kindName, .ref pr_told, .ref pr_body, .ref pr_first, .ref pr_widest, .ref pr_fields, .int pr_functions, .int pr_kinds])), (pr_what, .inl (rk_what, 2100, .inl rg_what)), (pr_place, .inl (rk_place, 2100, .inl rg_place)), (pr_own, .inl (rk_own, 2100, .inl rg_own)), (pr_one, .inl (rk_one, 2100, .inl rg_one)), (pr_two, .inl (rk_two, 2100, .inl rg_two)), (pr_three, .inl (rk_three, 2100, .inl rg_three)), (pr_beside, .inl (rk_beside, 2100, .inl rg_beside)), (pr_many, .inl (rk_many, 2100, .inl rg_many)), (pr_name, .inl (rk_name, 2100, .inr (.inl rg_name)))] sz)) 0 0 (va_A [(h0, .inr (14, [.int m_thrown, .ref m_stop, .ref m_tape, .int m_taped, .int m_length, .int m_at, .int m_sort, .int m_place, .int m_sign, .long m_letters, .ref m_p, .ref m_spare, .int m_isTaken, .ref m_scope, .int m_scoped, .int m_deep, .int m_counted, .int m_fault, .int m_where, .ref m_cellKind, .ref m_cellCount, .ref m_free, .ref m_pile, .ref m_cellField, .int m_freeCount, .int m_given, .int m_nextPlain, .ref m_otherKind, .ref m_otherField, .int m_isPlain, .int m_hasRun, .int m_hasValue, .int m_hasOther, .long m_value, .long m_other, .int m_steps, .int m_made, .int m_reused, .int m_freed, .int m_most, .int m_doubled, .int m_openMost, .ref m_taskWhat, .ref m_taskPart, .ref m_values, .int m_tasks, .int m_valued, .int m_open, .ref m_slots, .ref m_present, .ref m_shell, .ref m_shellArm, .ref m_shellCall, .int m_shells, .ref m_keptCounts, .ref m_asideKind, .ref m_asideCount, .ref m_asideField, .ref m_out, .ref m_side, .int m_outs, .int m_sides, .ref m_saying])), (m_spare, .inr (12, [.ref pr_what, .ref pr_place, .ref pr_own, .ref pr_one, .ref pr_two, .ref pr_three, .ref pr_beside, .ref pr_many, .ref pr_uses, .ref pr_behind, .ref pr_name, .ref pr_makes, .int pr_parts, .ref pr_functionName, .ref pr_kindName, .ref pr_told, .ref pr_body, .ref pr_first, .ref pr_widest, .ref pr_fields, .int pr_functions, .int pr_kinds])), (pr_what, .inl (rk_what, 2100, .inl rg_what)), (pr_place, .inl (rk_place, 2100, .inl rg_place)), (pr_own, .inl (rk_own, 2100, .inl rg_own)), (pr_one, .inl (rk_one, 2100, .inl rg_one)), (pr_two, .inl (rk_two, 2100, .inl rg_two)), (pr_three, .inl (rk_three, 2100, .inl rg_three)), (pr_beside, .inl (rk_beside, 2100, .inl rg_beside)), (pr_many, .inl (rk_many, 2100, .inl rg_many)), (pr_name, .inl (rk_name, 2100, .inr (.inl rg_name)))] sz) := by
  refine Met.ofW (cc := cX14_part) (maxL := 4) (ret := (some .int)) (by decide) rfl ?_
  intro p e s m args below meth c s₁ B hml hv
  obtain ⟨rfl, hsz, hP, hK, hD0, hN, hT⟩ := hv
  have hx := B.exec
  have hb := B.bytes
  have hr := B.returns
  have hts := atoms_spec (ws := Cond.code yX14_part cX14_part 4 (some .int) :: zw) B.pre
  have hA : ∀ w ∈ zw, w.before _ s = true := fun w h => hts w (List.mem_cons_of_mem _ h)
  have hown : s.vm.findClass RX14 = some m.cls := findClass_of_methodNamed B.named
  have hlocks := B.notSynchronized
  subst hsz
  have hD := hD0.self (sz := s.heap.size)
  generalize hAe : va_A [(h0, .inr (14, [.int m_thrown, .ref m_stop, .ref m_tape, .int m_taped, .int m_length, .int m_at, .int m_sort, .int m_place, .int m_sign, .long m_letters, .ref m_p, .ref m_spare, .int m_isTaken, .ref m_scope, .int m_scoped, .int m_deep, .int m_counted, .int m_fault, .int m_where, .ref m_cellKind, .ref m_cellCount, .ref m_free, .ref m_pile, .ref m_cellField, .int m_freeCount, .int m_given, .int m_nextPlain, .ref m_otherKind, .ref m_otherField, .int m_isPlain, .int m_hasRun, .int m_hasValue, .int m_hasOther, .long m_value, .long m_other, .int m_steps, .int m_made, .int m_reused, .int m_freed, .int m_most, .int m_doubled, .int m_openMost, .ref m_taskWhat, .ref m_taskPart, .ref m_values, .int m_tasks, .int m_valued, .int m_open, .ref m_slots, .ref m_present, .ref m_shell, .ref m_shellArm, .ref m_shellCall, .int m_shells, .ref m_keptCounts, .ref m_asideKind, .ref m_asideCount, .ref m_asideField, .ref m_out, .ref m_side, .int m_outs, .int m_sides, .ref m_saying])), (m_spare, .inr (12, [.ref pr_what, .ref pr_place, .ref pr_own, .ref pr_one, .ref pr_two, .ref pr_three, .ref pr_beside, .ref pr_many, .ref pr_uses, .ref pr_behind, .ref pr_name, .ref pr_makes, .int pr_parts, .ref pr_functionName, .ref pr_kindName, .ref pr_told, .ref pr_body, .ref pr_first, .ref pr_widest, .ref pr_fields, .int pr_functions, .int pr_kinds])), (pr_what, .inl (rk_what, 2100, .inl rg_what)), (pr_place, .inl (rk_place, 2100, .inl rg_place)), (pr_own, .inl (rk_own, 2100, .inl rg_own)), (pr_one, .inl (rk_one, 2100, .inl rg_one)), (pr_two, .inl (rk_two, 2100, .inl rg_two)), (pr_three, .inl (rk_three, 2100, .inl rg_three)), (pr_beside, .inl (rk_beside, 2100, .inl rg_beside)), (pr_many, .inl (rk_many, 2100, .inl rg_many)), (pr_name, .inl (rk_name, 2100, .inr (.inl rg_name)))] s.heap.size = A at hD hT ⊢
  have hAA : ∀ q : Nat, s.heap.size ≤ q → A q := fun q h => by rw [← hAe]; exact Or.inr h
  have hS : va_S A s.heap s.heap [] := va_S.rf
  have hl := lv_entry ([.ref h0, .int wh, .int pw]) (n := 4) (Nat.le_of_ble_eq_true rfl)
  rw [lg_entry_eq]
  generalize (lg_sl ([.ref h0, .int wh, .int pw]) ++ List.replicate (4 - (lg_sl ([.ref h0, .int wh, .int pw])).length) Slot.unset).toArray = ls at hl ⊢
  have hl : lv_has ls 4 [(0, .ref h0), (1, .int wh), (2, .int pw)] := hl
  refine lv_aload_n hx hb dX14_part_0 rfl (lv_at hl 0 rfl) ?_
  refine va_get (D := (dC, dI)) (ci := 14) (v := .ref m_spare) (C := RX14) (T := TX14) (N := 63) hx hb hA zin_X14 hown hK hP 0 rfl rfl 11 (by decide) (hA _ wi_1508) (fun _ h9 => h9) rfl dX14_part_1 ?_
  refine va_getN (D := (dC, dI)) (ci := 12) (v := .int pr_parts) (C := RX12) (T := TX12) (N := 22) hx hb hA zin_X12 hown hK hP 1 rfl rfl 12 (by decide) (va_Nw.use rfl (hN.1 ("ReuseHouseModel", 191, "ReuseHouseModel$Program", "parts", "I", "ReuseHouseModel") (by decide +kernel))) (fun _ h9 => h9) rfl dX14_part_4 ?_
  refine lv_istore_n (lv' := [(3, .int pr_parts), (0, .ref h0), (1, .int wh), (2, .int pw)]) hx hb dX14_part_7 rfl hl (by decide) rfl (fun ls hl => ?_)
  refine lv_aload_n hx hb dX14_part_8 rfl (lv_at hl 1 rfl) ?_
  refine va_get (D := (dC, dI)) (ci := 14) (v := .ref m_spare) (C := RX14) (T := TX14) (N := 63) hx hb hA zin_X14 hown hK hP 0 rfl rfl 11 (by decide) (hA _ wi_1508) (fun _ h9 => h9) rfl dX14_part_9 ?_
  refine lv_dup hx hb dX14_part_12 rfl ?_
  refine va_getN (D := (dC, dI)) (ci := 12) (v := .int pr_parts) (C := RX12) (T := TX12) (N := 22) hx hb hA zin_X12 hown hK hP 1 rfl rfl 12 (by decide) (va_Nw.use rfl (hN.1 ("ReuseHouseModel", 191, "ReuseHouseModel$Program", "parts", "I", "ReuseHouseModel") (by decide +kernel))) (fun _ h9 => h9) rfl dX14_part_13 ?_
  refine lv_iconst (v := 1) hx hb dX14_part_16 (by decide) ?_
  refine lv_iadd hx hb dX14_part_17 ?_
  refine lv_topi (fun x_1 ex_1 => ?_)
  have ix_1 : x_1.toInt = pr_parts.toInt + 1 := by rw [ex_1]; exact zi_addc (by decide) (by omega) (by omega)
  refine va_putN (D := (dC, dI)) (ci := 12) (v := .int x_1) (ty := .int) (C := RX12) (T := TX12) (N := 22) hx hb hA zin_X12 tyX12 tyX12_ok nmX12 hown hK hP hD hS 1 rfl rfl 12 (by decide) (va_Nw.use rfl (hN.1 ("ReuseHouseModel", 191, "ReuseHouseModel$Program", "parts", "I", "ReuseHouseModel") (by decide +kernel))) (fun _ h9 => h9) rfl (by decide +kernel) rfl rfl (Nat.le_of_ble_eq_true rfl) dX14_part_18 (fun H locs hP hD hS => ?_)
  have hP : va_P (dC, dI) vwCl [(h0, .inr (14, [.int m_thrown, .ref m_stop, .ref m_tape, .int m_taped, .int m_length, .int m_at, .int m_sort, .int m_place, .int m_sign, .long m_letters, .ref m_p, .ref m_spare, .int m_isTaken, .ref m_scope, .int m_scoped, .int m_deep, .int m_counted, .int m_fault, .int m_where, .ref m_cellKind, .ref m_cellCount, .ref m_free, .ref m_pile, .ref m_cellField, .int m_freeCount, .int m_given, .int m_nextPlain, .ref m_otherKind, .ref m_otherField, .int m_isPlain, .int m_hasRun, .int m_hasValue, .int m_hasOther, .long m_value, .long m_other, .int m_steps, .int m_made, .int m_reused, .int m_freed, .int m_most, .int m_doubled, .int m_openMost, .ref m_taskWhat, .ref m_taskPart, .ref m_values, .int m_tasks, .int m_valued, .int m_open, .ref m_slots, .ref m_present, .ref m_shell, .ref m_shellArm, .ref m_shellCall, .int m_shells, .ref m_keptCounts, .ref m_asideKind, .ref m_asideCount, .ref m_asideField, .ref m_out, .ref m_side, .int m_outs, .int m_sides, .ref m_saying])), (m_spare, .inr (12, [.ref pr_what, .ref pr_place, .ref pr_own, .ref pr_one, .ref pr_two, .ref pr_three, .ref pr_beside, .ref pr_many, .ref pr_uses, .ref pr_behind, .ref pr_name, .ref pr_makes, .int x_1, .ref pr_functionName, .ref pr_kindName, .ref pr_told, .ref pr_body, .ref pr_first, .ref pr_widest, .ref pr_fields, .int pr_functions, .int pr_kinds])), (pr_what, .inl (rk_what, 2100, .inl rg_what)), (pr_place, .inl (rk_place, 2100, .inl rg_place)), (pr_own, .inl (rk_own, 2100, .inl rg_own)), (pr_one, .inl (rk_one, 2100, .inl rg_one)), (pr_two, .inl (rk_two, 2100, .inl rg_two)), (pr_three, .inl (rk_three, 2100, .inl rg_three)), (pr_beside, .inl (rk_beside, 2100, .inl rg_beside)), (pr_many, .inl (rk_many, 2100, .inl rg_many)), (pr_name, .inl (rk_name, 2100, .inr (.inl rg_name)))] H := hP
  have hD : va_D A [(h0, .inr (14, [.int m_thrown, .ref m_stop, .ref m_tape, .int m_taped, .int m_length, .int m_at, .int m_sort, .int m_place, .int m_sign, .long m_letters, .ref m_p, .ref m_spare, .int m_isTaken, .ref m_scope, .int m_scoped, .int m_deep, .int m_counted, .int m_fault, .int m_where, .ref m_cellKind, .ref m_cellCount, .ref m_free, .ref m_pile, .ref m_cellField, .int m_freeCount, .int m_given, .int m_nextPlain, .ref m_otherKind, .ref m_otherField, .int m_isPlain, .int m_hasRun, .int m_hasValue, .int m_hasOther, .long m_value, .long m_other, .int m_steps, .int m_made, .int m_reused, .int m_freed, .int m_most, .int m_doubled, .int m_openMost, .ref m_taskWhat, .ref m_taskPart, .ref m_values, .int m_tasks, .int m_valued, .int m_open, .ref m_slots, .ref m_present, .ref m_shell, .ref m_shellArm, .ref m_shellCall, .int m_shells, .ref m_keptCounts, .ref m_asideKind, .ref m_asideCount, .ref m_asideField, .ref m_out, .ref m_side, .int m_outs, .int m_sides, .ref m_saying])), (m_spare, .inr (12, [.ref pr_what, .ref pr_place, .ref pr_own, .ref pr_one, .ref pr_two, .ref pr_three, .ref pr_beside, .ref pr_many, .ref pr_uses, .ref pr_behind, .ref pr_name, .ref pr_makes, .int x_1, .ref pr_functionName, .ref pr_kindName, .ref pr_told, .ref pr_body, .ref pr_first, .ref pr_widest, .ref pr_fields, .int pr_functions, .int pr_kinds])), (pr_what, .inl (rk_what, 2100, .inl rg_what)), (pr_place, .inl (rk_place, 2100, .inl rg_place)), (pr_own, .inl (rk_own, 2100, .inl rg_own)), (pr_one, .inl (rk_one, 2100, .inl rg_one)), (pr_two, .inl (rk_two, 2100, .inl rg_two)), (pr_three, .inl (rk_three, 2100, .inl rg_three)), (pr_beside, .inl (rk_beside, 2100, .inl rg_beside)), (pr_many, .inl (rk_many, 2100, .inl rg_many)), (pr_name, .inl (rk_name, 2100, .inr (.inl rg_name)))] := hD
  refine lv_aload_n hx hb dX14_part_21 rfl (lv_at hl 1 rfl) ?_
  refine va_get (D := (dC, dI)) (ci := 14) (v := .ref m_spare) (C := RX14) (T := TX14) (N := 63) hx hb hA zin_X14 hown hK hP 0 rfl rfl 11 (by decide) (hA _ wi_1508) (fun _ h9 => h9) rfl dX14_part_22 ?_
  refine va_getN (D := (dC, dI)) (ci := 12) (v := .ref pr_what) (C := RX12) (T := TX12) (N := 22) hx hb hA zin_X12 hown hK hP 1 rfl rfl 0 (by decide) (va_Nw.use rfl (hN.1 ("ReuseHouseModel", 194, "ReuseHouseModel$Program", "what", "[B", "ReuseHouseModel") (by decide +kernel))) (fun _ h9 => h9) rfl dX14_part_25 ?_
  refine lv_iload_n hx hb dX14_part_28 rfl (lv_at hl 0 rfl) ?_
  refine lv_iload_n hx hb dX14_part_29 rfl (lv_at hl 2 rfl) ?_
  obtain ⟨x_2, ex_2⟩ : ∃ z : Int32, z = (Int32.toInt8 wh).toInt32 := ⟨_, rfl⟩
  refine lv_i2b (v := x_2) hx hb dX14_part_30 ex_2.symm ?_
  refine va_bast hx hb hK hP hD hS 2 0 rfl rfl (vp_in_iff.mpr ⟨by omega, by omega⟩) dX14_part_31 (fun H locs hP hD hS => ?_)
  obtain ⟨f_3, ef_3⟩ : ∃ gz9 : Nat → Int32, gz9 = upd rg_what (Int32.toNatClampNeg pr_parts) (vp_nar .byte x_2) := ⟨_, rfl⟩
  rw [← ef_3] at hP hD
  have hP : va_P (dC, dI) vwCl [(h0, .inr (14, [.int m_thrown, .ref m_stop, .ref m_tape, .int m_taped, .int m_length, .int m_at, .int m_sort, .int m_place, .int m_sign, .long m_letters, .ref m_p, .ref m_spare, .int m_isTaken, .ref m_scope, .int m_scoped, .int m_deep, .int m_counted, .int m_fault, .int m_where, .ref m_cellKind, .ref m_cellCount, .ref m_free, .ref m_pile, .ref m_cellField, .int m_freeCount, .int m_given, .int m_nextPlain, .ref m_otherKind, .ref m_otherField, .int m_isPlain, .int m_hasRun, .int m_hasValue, .int m_hasOther, .long m_value, .long m_other, .int m_steps, .int m_made, .int m_reused, .int m_freed, .int m_most, .int m_doubled, .int m_openMost, .ref m_taskWhat, .ref m_taskPart, .ref m_values, .int m_tasks, .int m_valued, .int m_open, .ref m_slots, .ref m_present, .ref m_shell, .ref m_shellArm, .ref m_shellCall, .int m_shells, .ref m_keptCounts, .ref m_asideKind, .ref m_asideCount, .ref m_asideField, .ref m_out, .ref m_side, .int m_outs, .int m_sides, .ref m_saying])), (m_spare, .inr (12, [.ref pr_what, .ref pr_place, .ref pr_own, .ref pr_one, .ref pr_two, .ref pr_three, .ref pr_beside, .ref pr_many, .ref pr_uses, .ref pr_behind, .ref pr_name, .ref pr_makes, .int x_1, .ref pr_functionName, .ref pr_kindName, .ref pr_told, .ref pr_body, .ref pr_first, .ref pr_widest, .ref pr_fields, .int pr_functions, .int pr_kinds])), (pr_what, .inl (rk_what, 2100, .inl f_3)), (pr_place, .inl (rk_place, 2100, .inl rg_place)), (pr_own, .inl (rk_own, 2100, .inl rg_own)), (pr_one, .inl (rk_one, 2100, .inl rg_one)), (pr_two, .inl (rk_two, 2100, .inl rg_two)), (pr_three, .inl (rk_three, 2100, .inl rg_three)), (pr_beside, .inl (rk_beside, 2100, .inl rg_beside)), (pr_many, .inl (rk_many, 2100, .inl rg_many)), (pr_name, .inl (rk_name, 2100, .inr (.inl rg_name)))] H := hP
  have hD : va_D A [(h0, .inr (14, [.int m_thrown, .ref m_stop, .ref m_tape, .int m_taped, .int m_length, .int m_at, .int m_sort, .int m_place, .int m_sign, .long m_letters, .ref m_p, .ref m_spare, .int m_isTaken, .ref m_scope, .int m_scoped, .int m_deep, .int m_counted, .int m_fault, .int m_where, .ref m_cellKind, .ref m_cellCount, .ref m_free, .ref m_pile, .ref m_cellField, .int m_freeCount, .int m_given, .int m_nextPlain, .ref m_otherKind, .ref m_otherField, .int m_isPlain, .int m_hasRun, .int m_hasValue, .int m_hasOther, .long m_value, .long m_other, .int m_steps, .int m_made, .int m_reused, .int m_freed, .int m_most, .int m_doubled, .int m_openMost, .ref m_taskWhat, .ref m_taskPart, .ref m_values, .int m_tasks, .int m_valued, .int m_open, .ref m_slots, .ref m_present, .ref m_shell, .ref m_shellArm, .ref m_shellCall, .int m_shells, .ref m_keptCounts, .ref m_asideKind, .ref m_asideCount, .ref m_asideField, .ref m_out, .ref m_side, .int m_outs, .int m_sides, .ref m_saying])), (m_spare, .inr (12, [.ref pr_what, .ref pr_place, .ref pr_own, .ref pr_one, .ref pr_two, .ref pr_three, .ref pr_beside, .ref pr_many, .ref pr_uses, .ref pr_behind, .ref pr_name, .ref pr_makes, .int x_1, .ref pr_functionName, .ref pr_kindName, .ref pr_told, .ref pr_body, .ref pr_first, .ref pr_widest, .ref pr_fields, .int pr_functions, .int pr_kinds])), (pr_what, .inl (rk_what, 2100, .inl f_3)), (pr_place, .inl (rk_place, 2100, .inl rg_place)), (pr_own, .inl (rk_own, 2100, .inl rg_own)), (pr_one, .inl (rk_one, 2100, .inl rg_one)), (pr_two, .inl (rk_two, 2100, .inl rg_two)), (pr_three, .inl (rk_three, 2100, .inl rg_three)), (pr_beside, .inl (rk_beside, 2100, .inl rg_beside)), (pr_many, .inl (rk_many, 2100, .inl rg_many)), (pr_name, .inl (rk_name, 2100, .inr (.inl rg_name)))] := hD
  refine lv_aload_n hx hb dX14_part_32 rfl (lv_at hl 1 rfl) ?_
  refine va_get (D := (dC, dI)) (ci := 14) (v := .ref m_spare) (C := RX14) (T := TX14) (N := 63) hx hb hA zin_X14 hown hK hP 0 rfl rfl 11 (by decide) (hA _ wi_1508) (fun _ h9 => h9) rfl dX14_part_33 ?_
  refine va_getN (D := (dC, dI)) (ci := 12) (v := .ref pr_place) (C := RX12) (T := TX12) (N := 22) hx hb hA zin_X12 hown hK hP 1 rfl rfl 1 (by decide) (va_Nw.use rfl (hN.1 ("ReuseHouseModel", 197, "ReuseHouseModel$Program", "place", "[I", "ReuseHouseModel") (by decide +kernel))) (fun _ h9 => h9) rfl dX14_part_36 ?_
  refine lv_iload_n hx hb dX14_part_39 rfl (lv_at hl 0 rfl) ?_
  refine lv_iload_n hx hb dX14_part_40 rfl (lv_at hl 3 rfl) ?_
  refine va_iast hx hb hK hP hD hS 3 1 rfl rfl (vp_in_iff.mpr ⟨by omega, by omega⟩) dX14_part_41 (fun H locs hP hD hS => ?_)
  obtain ⟨f_4, ef_4⟩ : ∃ gz9 : Nat → Int32, gz9 = upd rg_place (Int32.toNatClampNeg pr_parts) pw := ⟨_, rfl⟩
  rw [← ef_4] at hP hD
  have hP : va_P (dC, dI) vwCl [(h0, .inr (14, [.int m_thrown, .ref m_stop, .ref m_tape, .int m_taped, .int m_length, .int m_at, .int m_sort, .int m_place, .int m_sign, .long m_letters, .ref m_p, .ref m_spare, .int m_isTaken, .ref m_scope, .int m_scoped, .int m_deep, .int m_counted, .int m_fault, .int m_where, .ref m_cellKind, .ref m_cellCount, .ref m_free, .ref m_pile, .ref m_cellField, .int m_freeCount, .int m_given, .int m_nextPlain, .ref m_otherKind, .ref m_otherField, .int m_isPlain, .int m_hasRun, .int m_hasValue, .int m_hasOther, .long m_value, .long m_other, .int m_steps, .int m_made, .int m_reused, .int m_freed, .int m_most, .int m_doubled, .int m_openMost, .ref m_taskWhat, .ref m_taskPart, .ref m_values, .int m_tasks, .int m_valued, .int m_open, .ref m_slots, .ref m_present, .ref m_shell, .ref m_shellArm, .ref m_shellCall, .int m_shells, .ref m_keptCounts, .ref m_asideKind, .ref m_asideCount, .ref m_asideField, .ref m_out, .ref m_side, .int m_outs, .int m_sides, .ref m_saying])), (m_spare, .inr (12, [.ref pr_what, .ref pr_place, .ref pr_own, .ref pr_one, .ref pr_two, .ref pr_three, .ref pr_beside, .ref pr_many, .ref pr_uses, .ref pr_behind, .ref pr_name, .ref pr_makes, .int x_1, .ref pr_functionName, .ref pr_kindName, .ref pr_told, .ref pr_body, .ref pr_first, .ref pr_widest, .ref pr_fields, .int pr_functions, .int pr_kinds])), (pr_what, .inl (rk_what, 2100, .inl f_3)), (pr_place, .inl (rk_place, 2100, .inl f_4)), (pr_own, .inl (rk_own, 2100, .inl rg_own)), (pr_one, .inl (rk_one, 2100, .inl rg_one)), (pr_two, .inl (rk_two, 2100, .inl rg_two)), (pr_three, .inl (rk_three, 2100, .inl rg_three)), (pr_beside, .inl (rk_beside, 2100, .inl rg_beside)), (pr_many, .inl (rk_many, 2100, .inl rg_many)), (pr_name, .inl (rk_name, 2100, .inr (.inl rg_name)))] H := hP
  have hD : va_D A [(h0, .inr (14, [.int m_thrown, .ref m_stop, .ref m_tape, .int m_taped, .int m_length, .int m_at, .int m_sort, .int m_place, .int m_sign, .long m_letters, .ref m_p, .ref m_spare, .int m_isTaken, .ref m_scope, .int m_scoped, .int m_deep, .int m_counted, .int m_fault, .int m_where, .ref m_cellKind, .ref m_cellCount, .ref m_free, .ref m_pile, .ref m_cellField, .int m_freeCount, .int m_given, .int m_nextPlain, .ref m_otherKind, .ref m_otherField, .int m_isPlain, .int m_hasRun, .int m_hasValue, .int m_hasOther, .long m_value, .long m_other, .int m_steps, .int m_made, .int m_reused, .int m_freed, .int m_most, .int m_doubled, .int m_openMost, .ref m_taskWhat, .ref m_taskPart, .ref m_values, .int m_tasks, .int m_valued, .int m_open, .ref m_slots, .ref m_present, .ref m_shell, .ref m_shellArm, .ref m_shellCall, .int m_shells, .ref m_keptCounts, .ref m_asideKind, .ref m_asideCount, .ref m_asideField, .ref m_out, .ref m_side, .int m_outs, .int m_sides, .ref m_saying])), (m_spare, .inr (12, [.ref pr_what, .ref pr_place, .ref pr_own, .ref pr_one, .ref pr_two, .ref pr_three, .ref pr_beside, .ref pr_many, .ref pr_uses, .ref pr_behind, .ref pr_name, .ref pr_makes, .int x_1, .ref pr_functionName, .ref pr_kindName, .ref pr_told, .ref pr_body, .ref pr_first, .ref pr_widest, .ref pr_fields, .int pr_functions, .int pr_kinds])), (pr_what, .inl (rk_what, 2100, .inl f_3)), (pr_place, .inl (rk_place, 2100, .inl f_4)), (pr_own, .inl (rk_own, 2100, .inl rg_own)), (pr_one, .inl (rk_one, 2100, .inl rg_one)), (pr_two, .inl (rk_two, 2100, .inl rg_two)), (pr_three, .inl (rk_three, 2100, .inl rg_three)), (pr_beside, .inl (rk_beside, 2100, .inl rg_beside)), (pr_many, .inl (rk_many, 2100, .inl rg_many)), (pr_name, .inl (rk_name, 2100, .inr (.inl rg_name)))] := hD
  refine lv_aload_n hx hb dX14_part_42 rfl (lv_at hl 1 rfl) ?_
  refine va_get (D := (dC, dI)) (ci := 14) (v := .ref m_spare) (C := RX14) (T := TX14) (N := 63) hx hb hA zin_X14 hown hK hP 0 rfl rfl 11 (by decide) (hA _ wi_1508) (fun _ h9 => h9) rfl dX14_part_43 ?_
  refine va_getN (D := (dC, dI)) (ci := 12) (v := .ref pr_own) (C := RX12) (T := TX12) (N := 22) hx hb hA zin_X12 hown hK hP 1 rfl rfl 2 (by decide) (va_Nw.use rfl (hN.1 ("ReuseHouseModel", 199, "ReuseHouseModel$Program", "own", "[I", "ReuseHouseModel") (by decide +kernel))) (fun _ h9 => h9) rfl dX14_part_46 ?_
  refine lv_iload_n hx hb dX14_part_49 rfl (lv_at hl 0 rfl) ?_
  refine lv_iconst (v := 0) hx hb dX14_part_50 (by decide) ?_
  refine va_iast hx hb hK hP hD hS 4 2 rfl rfl (vp_in_iff.mpr ⟨by omega, by omega⟩) dX14_part_51 (fun H locs hP hD hS => ?_)
  obtain ⟨f_5, ef_5⟩ : ∃ gz9 : Nat → Int32, gz9 = upd rg_own (Int32.toNatClampNeg pr_parts) 0 := ⟨_, rfl⟩
  rw [← ef_5] at hP hD
  have hP : va_P (dC, dI) vwCl [(h0, .inr (14, [.int m_thrown, .ref m_stop, .ref m_tape, .int m_taped, .int m_length, .int m_at, .int m_sort, .int m_place, .int m_sign, .long m_letters, .ref m_p, .ref m_spare, .int m_isTaken, .ref m_scope, .int m_scoped, .int m_deep, .int m_counted, .int m_fault, .int m_where, .ref m_cellKind, .ref m_cellCount, .ref m_free, .ref m_pile, .ref m_cellField, .int m_freeCount, .int m_given, .int m_nextPlain, .ref m_otherKind, .ref m_otherField, .int m_isPlain, .int m_hasRun, .int m_hasValue, .int m_hasOther, .long m_value, .long m_other, .int m_steps, .int m_made, .int m_reused, .int m_freed, .int m_most, .int m_doubled, .int m_openMost, .ref m_taskWhat, .ref m_taskPart, .ref m_values, .int m_tasks, .int m_valued, .int m_open, .ref m_slots, .ref m_present, .ref m_shell, .ref m_shellArm, .ref m_shellCall, .int m_shells, .ref m_keptCounts, .ref m_asideKind, .ref m_asideCount, .ref m_asideField, .ref m_out, .ref m_side, .int m_outs, .int m_sides, .ref m_saying])), (m_spare, .inr (12, [.ref pr_what, .ref pr_place, .ref pr_own, .ref pr_one, .ref pr_two, .ref pr_three, .ref pr_beside, .ref pr_many, .ref pr_uses, .ref pr_behind, .ref pr_name, .ref pr_makes, .int x_1, .ref pr_functionName, .ref pr_kindName, .ref pr_told, .ref pr_body, .ref pr_first, .ref pr_widest, .ref pr_fields, .int pr_functions, .int pr_kinds])), (pr_what, .inl (rk_what, 2100, .inl f_3)), (pr_place, .inl (rk_place, 2100, .inl f_4)), (pr_own, .inl (rk_own, 2100, .inl f_5)), (pr_one, .inl (rk_one, 2100, .inl rg_one)), (pr_two, .inl (rk_two, 2100, .inl rg_two)), (pr_three, .inl (rk_three, 2100, .inl rg_three)), (pr_beside, .inl (rk_beside, 2100, .inl rg_beside)), (pr_many, .inl (rk_many, 2100, .inl rg_many)), (pr_name, .inl (rk_name, 2100, .inr (.inl rg_name)))] H := hP
  have hD : va_D A [(h0, .inr (14, [.int m_thrown, .ref m_stop, .ref m_tape, .int m_taped, .int m_length, .int m_at, .int m_sort, .int m_place, .int m_sign, .long m_letters, .ref m_p, .ref m_spare, .int m_isTaken, .ref m_scope, .int m_scoped, .int m_deep, .int m_counted, .int m_fault, .int m_where, .ref m_cellKind, .ref m_cellCount, .ref m_free, .ref m_pile, .ref m_cellField, .int m_freeCount, .int m_given, .int m_nextPlain, .ref m_otherKind, .ref m_otherField, .int m_isPlain, .int m_hasRun, .int m_hasValue, .int m_hasOther, .long m_value, .long m_other, .int m_steps, .int m_made, .int m_reused, .int m_freed, .int m_most, .int m_doubled, .int m_openMost, .ref m_taskWhat, .ref m_taskPart, .ref m_values, .int m_tasks, .int m_valued, .int m_open, .ref m_slots, .ref m_present, .ref m_shell, .ref m_shellArm, .ref m_shellCall, .int m_shells, .ref m_keptCounts, .ref m_asideKind, .ref m_asideCount, .ref m_asideField, .ref m_out, .ref m_side, .int m_outs, .int m_sides, .ref m_saying])), (m_spare, .inr (12, [.ref pr_what, .ref pr_place, .ref pr_own, .ref pr_one, .ref pr_two, .ref pr_three, .ref pr_beside, .ref pr_many, .ref pr_uses, .ref pr_behind, .ref pr_name, .ref pr_makes, .int x_1, .ref pr_functionName, .ref pr_kindName, .ref pr_told, .ref pr_body, .ref pr_first, .ref pr_widest, .ref pr_fields, .int pr_functions, .int pr_kinds])), (pr_what, .inl (rk_what, 2100, .inl f_3)), (pr_place, .inl (rk_place, 2100, .inl f_4)), (pr_own, .inl (rk_own, 2100, .inl f_5)), (pr_one, .inl (rk_one, 2100, .inl rg_one)), (pr_two, .inl (rk_two, 2100, .inl rg_two)), (pr_three, .inl (rk_three, 2100, .inl rg_three)), (pr_beside, .inl (rk_beside, 2100, .inl rg_beside)), (pr_many, .inl (rk_many, 2100, .inl rg_many)), (pr_name, .inl (rk_name, 2100, .inr (.inl rg_name)))] := hD
  refine lv_aload_n hx hb dX14_part_52 rfl (lv_at hl 1 rfl) ?_
  refine va_get (D := (dC, dI)) (ci := 14) (v := .ref m_spare) (C := RX14) (T := TX14) (N := 63) hx hb hA zin_X14 hown hK hP 0 rfl rfl 11 (by decide) (hA _ wi_1508) (fun _ h9 => h9) rfl dX14_part_53 ?_
  refine va_getN (D := (dC, dI)) (ci := 12) (v := .ref pr_one) (C := RX12) (T := TX12) (N := 22) hx hb hA zin_X12 hown hK hP 1 rfl rfl 3 (by decide) (va_Nw.use rfl (hN.1 ("ReuseHouseModel", 202, "ReuseHouseModel$Program", "one", "[I", "ReuseHouseModel") (by decide +kernel))) (fun _ h9 => h9) rfl dX14_part_56 ?_
  refine lv_iload_n hx hb dX14_part_59 rfl (lv_at hl 0 rfl) ?_
  refine lv_iconst (v := (-1)) hx hb dX14_part_60 (by decide) ?_
  refine va_iast hx hb hK hP hD hS 5 3 rfl rfl (vp_in_iff.mpr ⟨by omega, by omega⟩) dX14_part_61 (fun H locs hP hD hS => ?_)
  obtain ⟨f_6, ef_6⟩ : ∃ gz9 : Nat → Int32, gz9 = upd rg_one (Int32.toNatClampNeg pr_parts) (-1) := ⟨_, rfl⟩
  rw [← ef_6] at hP hD
  have hP : va_P (dC, dI) vwCl [(h0, .inr (14, [.int m_thrown, .ref m_stop, .ref m_tape, .int m_taped, .int m_length, .int m_at, .int m_sort, .int m_place, .int m_sign, .long m_letters, .ref m_p, .ref m_spare, .int m_isTaken, .ref m_scope, .int m_scoped, .int m_deep, .int m_counted, .int m_fault, .int m_where, .ref m_cellKind, .ref m_cellCount, .ref m_free, .ref m_pile, .ref m_cellField, .int m_freeCount, .int m_given, .int m_nextPlain, .ref m_otherKind, .ref m_otherField, .int m_isPlain, .int m_hasRun, .int m_hasValue, .int m_hasOther, .long m_value, .long m_other, .int m_steps, .int m_made, .int m_reused, .int m_freed, .int m_most, .int m_doubled, .int m_openMost, .ref m_taskWhat, .ref m_taskPart, .ref m_values, .int m_tasks, .int m_valued, .int m_open, .ref m_slots, .ref m_present, .ref m_shell, .ref m_shellArm, .ref m_shellCall, .int m_shells, .ref m_keptCounts, .ref m_asideKind, .ref m_asideCount, .ref m_asideField, .ref m_out, .ref m_side, .int m_outs, .int m_sides, .ref m_saying])), (m_spare, .inr (12, [.ref pr_what, .ref pr_place, .ref pr_own, .ref pr_one, .ref pr_two, .ref pr_three, .ref pr_beside, .ref pr_many, .ref pr_uses, .ref pr_behind, .ref pr_name, .ref pr_makes, .int x_1, .ref pr_functionName, .ref pr_kindName, .ref pr_told, .ref pr_body, .ref pr_first, .ref pr_widest, .ref pr_fields, .int pr_functions, .int pr_kinds])), (pr_what, .inl (rk_what, 2100, .inl f_3)), (pr_place, .inl (rk_place, 2100, .inl f_4)), (pr_own, .inl (rk_own, 2100, .inl f_5)), (pr_one, .inl (rk_one, 2100, .inl f_6)), (pr_two, .inl (rk_two, 2100, .inl rg_two)), (pr_three, .inl (rk_three, 2100, .inl rg_three)), (pr_beside, .inl (rk_beside, 2100, .inl rg_beside)), (pr_many, .inl (rk_many, 2100, .inl rg_many)), (pr_name, .inl (rk_name, 2100, .inr (.inl rg_name)))] H := hP
  have hD : va_D A [(h0, .inr (14, [.int m_thrown, .ref m_stop, .ref m_tape, .int m_taped, .int m_length, .int m_at, .int m_sort, .int m_place, .int m_sign, .long m_letters, .ref m_p, .ref m_spare, .int m_isTaken, .ref m_scope, .int m_scoped, .int m_deep, .int m_counted, .int m_fault, .int m_where, .ref m_cellKind, .ref m_cellCount, .ref m_free, .ref m_pile, .ref m_cellField, .int m_freeCount, .int m_given, .int m_nextPlain, .ref m_otherKind, .ref m_otherField, .int m_isPlain, .int m_hasRun, .int m_hasValue, .int m_hasOther, .long m_value, .long m_other, .int m_steps, .int m_made, .int m_reused, .int m_freed, .int m_most, .int m_doubled, .int m_openMost, .ref m_taskWhat, .ref m_taskPart, .ref m_values, .int m_tasks, .int m_valued, .int m_open, .ref m_slots, .ref m_present, .ref m_shell, .ref m_shellArm, .ref m_shellCall, .int m_shells, .ref m_keptCounts, .ref m_asideKind, .ref m_asideCount, .ref m_asideField, .ref m_out, .ref m_side, .int m_outs, .int m_sides, .ref m_saying])), (m_spare, .inr (12, [.ref pr_what, .ref pr_place, .ref pr_own, .ref pr_one, .ref pr_two, .ref pr_three, .ref pr_beside, .ref pr_many, .ref pr_uses, .ref pr_behind, .ref pr_name, .ref pr_makes, .int x_1, .ref pr_functionName, .ref pr_kindName, .ref pr_told, .ref pr_body, .ref pr_first, .ref pr_widest, .ref pr_fields, .int pr_functions, .int pr_kinds])), (pr_what, .inl (rk_what, 2100, .inl f_3)), (pr_place, .inl (rk_place, 2100, .inl f_4)), (pr_own, .inl (rk_own, 2100, .inl f_5)), (pr_one, .inl (rk_one, 2100, .inl f_6)), (pr_two, .inl (rk_two, 2100, .inl rg_two)), (pr_three, .inl (rk_three, 2100, .inl rg_three)), (pr_beside, .inl (rk_beside, 2100, .inl rg_beside)), (pr_many, .inl (rk_many, 2100, .inl rg_many)), (pr_name, .inl (rk_name, 2100, .inr (.inl rg_name)))] := hD
  refine lv_aload_n hx hb dX14_part_62 rfl (lv_at hl 1 rfl) ?_
  refine va_get (D := (dC, dI)) (ci := 14) (v := .ref m_spare) (C := RX14) (T := TX14) (N := 63) hx hb hA zin_X14 hown hK hP 0 rfl rfl 11 (by decide) (hA _ wi_1508) (fun _ h9 => h9) rfl dX14_part_63 ?_
  refine va_getN (D := (dC, dI)) (ci := 12) (v := .ref pr_two) (C := RX12) (T := TX12) (N := 22) hx hb hA zin_X12 hown hK hP 1 rfl rfl 4 (by decide) (va_Nw.use rfl (hN.1 ("ReuseHouseModel", 205, "ReuseHouseModel$Program", "two", "[I", "ReuseHouseModel") (by decide +kernel))) (fun _ h9 => h9) rfl dX14_part_66 ?_
  refine lv_iload_n hx hb dX14_part_69 rfl (lv_at hl 0 rfl) ?_
  refine lv_iconst (v := (-1)) hx hb dX14_part_70 (by decide) ?_
  refine va_iast hx hb hK hP hD hS 6 4 rfl rfl (vp_in_iff.mpr ⟨by omega, by omega⟩) dX14_part_71 (fun H locs hP hD hS => ?_)
  obtain ⟨f_7, ef_7⟩ : ∃ gz9 : Nat → Int32, gz9 = upd rg_two (Int32.toNatClampNeg pr_parts) (-1) := ⟨_, rfl⟩
  rw [← ef_7] at hP hD
  have hP : va_P (dC, dI) vwCl [(h0, .inr (14, [.int m_thrown, .ref m_stop, .ref m_tape, .int m_taped, .int m_length, .int m_at, .int m_sort, .int m_place, .int m_sign, .long m_letters, .ref m_p, .ref m_spare, .int m_isTaken, .ref m_scope, .int m_scoped, .int m_deep, .int m_counted, .int m_fault, .int m_where, .ref m_cellKind, .ref m_cellCount, .ref m_free, .ref m_pile, .ref m_cellField, .int m_freeCount, .int m_given, .int m_nextPlain, .ref m_otherKind, .ref m_otherField, .int m_isPlain, .int m_hasRun, .int m_hasValue, .int m_hasOther, .long m_value, .long m_other, .int m_steps, .int m_made, .int m_reused, .int m_freed, .int m_most, .int m_doubled, .int m_openMost, .ref m_taskWhat, .ref m_taskPart, .ref m_values, .int m_tasks, .int m_valued, .int m_open, .ref m_slots, .ref m_present, .ref m_shell, .ref m_shellArm, .ref m_shellCall, .int m_shells, .ref m_keptCounts, .ref m_asideKind, .ref m_asideCount, .ref m_asideField, .ref m_out, .ref m_side, .int m_outs, .int m_sides, .ref m_saying])), (m_spare, .inr (12, [.ref pr_what, .ref pr_place, .ref pr_own, .ref pr_one, .ref pr_two, .ref pr_three, .ref pr_beside, .ref pr_many, .ref pr_uses, .ref pr_behind, .ref pr_name, .ref pr_makes, .int x_1, .ref pr_functionName, .ref pr_kindName, .ref pr_told, .ref pr_body, .ref pr_first, .ref pr_widest, .ref pr_fields, .int pr_functions, .int pr_kinds])), (pr_what, .inl (rk_what, 2100, .inl f_3)), (pr_place, .inl (rk_place, 2100, .inl f_4)), (pr_own, .inl (rk_own, 2100, .inl f_5)), (pr_one, .inl (rk_one, 2100, .inl f_6)), (pr_two, .inl (rk_two, 2100, .inl f_7)), (pr_three, .inl (rk_three, 2100, .inl rg_three)), (pr_beside, .inl (rk_beside, 2100, .inl rg_beside)), (pr_many, .inl (rk_many, 2100, .inl rg_many)), (pr_name, .inl (rk_name, 2100, .inr (.inl rg_name)))] H := hP
  have hD : va_D A [(h0, .inr (14, [.int m_thrown, .ref m_stop, .ref m_tape, .int m_taped, .int m_length, .int m_at, .int m_sort, .int m_place, .int m_sign, .long m_letters, .ref m_p, .ref m_spare, .int m_isTaken, .ref m_scope, .int m_scoped, .int m_deep, .int m_counted, .int m_fault, .int m_where, .ref m_cellKind, .ref m_cellCount, .ref m_free, .ref m_pile, .ref m_cellField, .int m_freeCount, .int m_given, .int m_nextPlain, .ref m_otherKind, .ref m_otherField, .int m_isPlain, .int m_hasRun, .int m_hasValue, .int m_hasOther, .long m_value, .long m_other, .int m_steps, .int m_made, .int m_reused, .int m_freed, .int m_most, .int m_doubled, .int m_openMost, .ref m_taskWhat, .ref m_taskPart, .ref m_values, .int m_tasks, .int m_valued, .int m_open, .ref m_slots, .ref m_present, .ref m_shell, .ref m_shellArm, .ref m_shellCall, .int m_shells, .ref m_keptCounts, .ref m_asideKind, .ref m_asideCount, .ref m_asideField, .ref m_out, .ref m_side, .int m_outs, .int m_sides, .ref m_saying])), (m_spare, .inr (12, [.ref pr_what, .ref pr_place, .ref pr_own, .ref pr_one, .ref pr_two, .ref pr_three, .ref pr_beside, .ref pr_many, .ref pr_uses, .ref pr_behind, .ref pr_name, .ref pr_makes, .int x_1, .ref pr_functionName, .ref pr_kindName, .ref pr_told, .ref pr_body, .ref pr_first, .ref pr_widest, .ref pr_fields, .int pr_functions, .int pr_kinds])), (pr_what, .inl (rk_what, 2100, .inl f_3)), (pr_place, .inl (rk_place, 2100, .inl f_4)), (pr_own, .inl (rk_own, 2100, .inl f_5)), (pr_one, .inl (rk_one, 2100, .inl f_6)), (pr_two, .inl (rk_two, 2100, .inl f_7)), (pr_three, .inl (rk_three, 2100, .inl rg_three)), (pr_beside, .inl (rk_beside, 2100, .inl rg_beside)), (pr_many, .inl (rk_many, 2100, .inl rg_many)), (pr_name, .inl (rk_name, 2100, .inr (.inl rg_name)))] := hD
  refine lv_aload_n hx hb dX14_part_72 rfl (lv_at hl 1 rfl) ?_
  refine va_get (D := (dC, dI)) (ci := 14) (v := .ref m_spare) (C := RX14) (T := TX14) (N := 63) hx hb hA zin_X14 hown hK hP 0 rfl rfl 11 (by decide) (hA _ wi_1508) (fun _ h9 => h9) rfl dX14_part_73 ?_
  refine va_getN (D := (dC, dI)) (ci := 12) (v := .ref pr_three) (C := RX12) (T := TX12) (N := 22) hx hb hA zin_X12 hown hK hP 1 rfl rfl 5 (by decide) (va_Nw.use rfl (hN.1 ("ReuseHouseModel", 208, "ReuseHouseModel$Program", "three", "[I", "ReuseHouseModel") (by decide +kernel))) (fun _ h9 => h9) rfl dX14_part_76 ?_
  refine lv_iload_n hx hb dX14_part_79 rfl (lv_at hl 0 rfl) ?_
  refine lv_iconst (v := (-1)) hx hb dX14_part_80 (by decide) ?_
  refine va_iast hx hb hK hP hD hS 7 5 rfl rfl (vp_in_iff.mpr ⟨by omega, by omega⟩) dX14_part_81 (fun H locs hP hD hS => ?_)
  obtain ⟨f_8, ef_8⟩ : ∃ gz9 : Nat → Int32, gz9 = upd rg_three (Int32.toNatClampNeg pr_parts) (-1) := ⟨_, rfl⟩
  rw [← ef_8] at hP hD
  have hP : va_P (dC, dI) vwCl [(h0, .inr (14, [.int m_thrown, .ref m_stop, .ref m_tape, .int m_taped, .int m_length, .int m_at, .int m_sort, .int m_place, .int m_sign, .long m_letters, .ref m_p, .ref m_spare, .int m_isTaken, .ref m_scope, .int m_scoped, .int m_deep, .int m_counted, .int m_fault, .int m_where, .ref m_cellKind, .ref m_cellCount, .ref m_free, .ref m_pile, .ref m_cellField, .int m_freeCount, .int m_given, .int m_nextPlain, .ref m_otherKind, .ref m_otherField, .int m_isPlain, .int m_hasRun, .int m_hasValue, .int m_hasOther, .long m_value, .long m_other, .int m_steps, .int m_made, .int m_reused, .int m_freed, .int m_most, .int m_doubled, .int m_openMost, .ref m_taskWhat, .ref m_taskPart, .ref m_values, .int m_tasks, .int m_valued, .int m_open, .ref m_slots, .ref m_present, .ref m_shell, .ref m_shellArm, .ref m_shellCall, .int m_shells, .ref m_keptCounts, .ref m_asideKind, .ref m_asideCount, .ref m_asideField, .ref m_out, .ref m_side, .int m_outs, .int m_sides, .ref m_saying])), (m_spare, .inr (12, [.ref pr_what, .ref pr_place, .ref pr_own, .ref pr_one, .ref pr_two, .ref pr_three, .ref pr_beside, .ref pr_many, .ref pr_uses, .ref pr_behind, .ref pr_name, .ref pr_makes, .int x_1, .ref pr_functionName, .ref pr_kindName, .ref pr_told, .ref pr_body, .ref pr_first, .ref pr_widest, .ref pr_fields, .int pr_functions, .int pr_kinds])), (pr_what, .inl (rk_what, 2100, .inl f_3)), (pr_place, .inl (rk_place, 2100, .inl f_4)), (pr_own, .inl (rk_own, 2100, .inl f_5)), (pr_one, .inl (rk_one, 2100, .inl f_6)), (pr_two, .inl (rk_two, 2100, .inl f_7)), (pr_three, .inl (rk_three, 2100, .inl f_8)), (pr_beside, .inl (rk_beside, 2100, .inl rg_beside)), (pr_many, .inl (rk_many, 2100, .inl rg_many)), (pr_name, .inl (rk_name, 2100, .inr (.inl rg_name)))] H := hP
  have hD : va_D A [(h0, .inr (14, [.int m_thrown, .ref m_stop, .ref m_tape, .int m_taped, .int m_length, .int m_at, .int m_sort, .int m_place, .int m_sign, .long m_letters, .ref m_p, .ref m_spare, .int m_isTaken, .ref m_scope, .int m_scoped, .int m_deep, .int m_counted, .int m_fault, .int m_where, .ref m_cellKind, .ref m_cellCount, .ref m_free, .ref m_pile, .ref m_cellField, .int m_freeCount, .int m_given, .int m_nextPlain, .ref m_otherKind, .ref m_otherField, .int m_isPlain, .int m_hasRun, .int m_hasValue, .int m_hasOther, .long m_value, .long m_other, .int m_steps, .int m_made, .int m_reused, .int m_freed, .int m_most, .int m_doubled, .int m_openMost, .ref m_taskWhat, .ref m_taskPart, .ref m_values, .int m_tasks, .int m_valued, .int m_open, .ref m_slots, .ref m_present, .ref m_shell, .ref m_shellArm, .ref m_shellCall, .int m_shells, .ref m_keptCounts, .ref m_asideKind, .ref m_asideCount, .ref m_asideField, .ref m_out, .ref m_side, .int m_outs, .int m_sides, .ref m_saying])), (m_spare, .inr (12, [.ref pr_what, .ref pr_place, .ref pr_own, .ref pr_one, .ref pr_two, .ref pr_three, .ref pr_beside, .ref pr_many, .ref pr_uses, .ref pr_behind, .ref pr_name, .ref pr_makes, .int x_1, .ref pr_functionName, .ref pr_kindName, .ref pr_told, .ref pr_body, .ref pr_first, .ref pr_widest, .ref pr_fields, .int pr_functions, .int pr_kinds])), (pr_what, .inl (rk_what, 2100, .inl f_3)), (pr_place, .inl (rk_place, 2100, .inl f_4)), (pr_own, .inl (rk_own, 2100, .inl f_5)), (pr_one, .inl (rk_one, 2100, .inl f_6)), (pr_two, .inl (rk_two, 2100, .inl f_7)), (pr_three, .inl (rk_three, 2100, .inl f_8)), (pr_beside, .inl (rk_beside, 2100, .inl rg_beside)), (pr_many, .inl (rk_many, 2100, .inl rg_many)), (pr_name, .inl (rk_name, 2100, .inr (.inl rg_name)))] := hD
  refine lv_aload_n hx hb dX14_part_82 rfl (lv_at hl 1 rfl) ?_
  refine va_get (D := (dC, dI)) (ci := 14) (v := .ref m_spare) (C := RX14) (T := TX14) (N := 63) hx hb hA zin_X14 hown hK hP 0 rfl rfl 11 (by decide) (hA _ wi_1508) (fun _ h9 => h9) rfl dX14_part_83 ?_
  refine va_getN (D := (dC, dI)) (ci := 12) (v := .ref pr_beside) (C := RX12) (T := TX12) (N := 22) hx hb hA zin_X12 hown hK hP 1 rfl rfl 6 (by decide) (va_Nw.use rfl (hN.1 ("ReuseHouseModel", 211, "ReuseHouseModel$Program", "beside", "[I", "ReuseHouseModel") (by decide +kernel))) (fun _ h9 => h9) rfl dX14_part_86 ?_
  refine lv_iload_n hx hb dX14_part_89 rfl (lv_at hl 0 rfl) ?_
  refine lv_iconst (v := (-1)) hx hb dX14_part_90 (by decide) ?_
  refine va_iast hx hb hK hP hD hS 8 6 rfl rfl (vp_in_iff.mpr ⟨by omega, by omega⟩) dX14_part_91 (fun H locs hP hD hS => ?_)
  obtain ⟨f_9, ef_9⟩ : ∃ gz9 : Nat → Int32, gz9 = upd rg_beside (Int32.toNatClampNeg pr_parts) (-1) := ⟨_, rfl⟩
  rw [← ef_9] at hP hD
  have hP : va_P (dC, dI) vwCl [(h0, .inr (14, [.int m_thrown, .ref m_stop, .ref m_tape, .int m_taped, .int m_length, .int m_at, .int m_sort, .int m_place, .int m_sign, .long m_letters, .ref m_p, .ref m_spare, .int m_isTaken, .ref m_scope, .int m_scoped, .int m_deep, .int m_counted, .int m_fault, .int m_where, .ref m_cellKind, .ref m_cellCount, .ref m_free, .ref m_pile, .ref m_cellField, .int m_freeCount, .int m_given, .int m_nextPlain, .ref m_otherKind, .ref m_otherField, .int m_isPlain, .int m_hasRun, .int m_hasValue, .int m_hasOther, .long m_value, .long m_other, .int m_steps, .int m_made, .int m_reused, .int m_freed, .int m_most, .int m_doubled, .int m_openMost, .ref m_taskWhat, .ref m_taskPart, .ref m_values, .int m_tasks, .int m_valued, .int m_open, .ref m_slots, .ref m_present, .ref m_shell, .ref m_shellArm, .ref m_shellCall, .int m_shells, .ref m_keptCounts, .ref m_asideKind, .ref m_asideCount, .ref m_asideField, .ref m_out, .ref m_side, .int m_outs, .int m_sides, .ref m_saying])), (m_spare, .inr (12, [.ref pr_what, .ref pr_place, .ref pr_own, .ref pr_one, .ref pr_two, .ref pr_three, .ref pr_beside, .ref pr_many, .ref pr_uses, .ref pr_behind, .ref pr_name, .ref pr_makes, .int x_1, .ref pr_functionName, .ref pr_kindName, .ref pr_told, .ref pr_body, .ref pr_first, .ref pr_widest, .ref pr_fields, .int pr_functions, .int pr_kinds])), (pr_what, .inl (rk_what, 2100, .inl f_3)), (pr_place, .inl (rk_place, 2100, .inl f_4)), (pr_own, .inl (rk_own, 2100, .inl f_5)), (pr_one, .inl (rk_one, 2100, .inl f_6)), (pr_two, .inl (rk_two, 2100, .inl f_7)), (pr_three, .inl (rk_three, 2100, .inl f_8)), (pr_beside, .inl (rk_beside, 2100, .inl f_9)), (pr_many, .inl (rk_many, 2100, .inl rg_many)), (pr_name, .inl (rk_name, 2100, .inr (.inl rg_name)))] H := hP
  have hD : va_D A [(h0, .inr (14, [.int m_thrown, .ref m_stop, .ref m_tape, .int m_taped, .int m_length, .int m_at, .int m_sort, .int m_place, .int m_sign, .long m_letters, .ref m_p, .ref m_spare, .int m_isTaken, .ref m_scope, .int m_scoped, .int m_deep, .int m_counted, .int m_fault, .int m_where, .ref m_cellKind, .ref m_cellCount, .ref m_free, .ref m_pile, .ref m_cellField, .int m_freeCount, .int m_given, .int m_nextPlain, .ref m_otherKind, .ref m_otherField, .int m_isPlain, .int m_hasRun, .int m_hasValue, .int m_hasOther, .long m_value, .long m_other, .int m_steps, .int m_made, .int m_reused, .int m_freed, .int m_most, .int m_doubled, .int m_openMost, .ref m_taskWhat, .ref m_taskPart, .ref m_values, .int m_tasks, .int m_valued, .int m_open, .ref m_slots, .ref m_present, .ref m_shell, .ref m_shellArm, .ref m_shellCall, .int m_shells, .ref m_keptCounts, .ref m_asideKind, .ref m_asideCount, .ref m_asideField, .ref m_out, .ref m_side, .int m_outs, .int m_sides, .ref m_saying])), (m_spare, .inr (12, [.ref pr_what, .ref pr_place, .ref pr_own, .ref pr_one, .ref pr_two, .ref pr_three, .ref pr_beside, .ref pr_many, .ref pr_uses, .ref pr_behind, .ref pr_name, .ref pr_makes, .int x_1, .ref pr_functionName, .ref pr_kindName, .ref pr_told, .ref pr_body, .ref pr_first, .ref pr_widest, .ref pr_fields, .int pr_functions, .int pr_kinds])), (pr_what, .inl (rk_what, 2100, .inl f_3)), (pr_place, .inl (rk_place, 2100, .inl f_4)), (pr_own, .inl (rk_own, 2100, .inl f_5)), (pr_one, .inl (rk_one, 2100, .inl f_6)), (pr_two, .inl (rk_two, 2100, .inl f_7)), (pr_three, .inl (rk_three, 2100, .inl f_8)), (pr_beside, .inl (rk_beside, 2100, .inl f_9)), (pr_many, .inl (rk_many, 2100, .inl rg_many)), (pr_name, .inl (rk_name, 2100, .inr (.inl rg_name)))] := hD
  refine lv_aload_n hx hb dX14_part_92 rfl (lv_at hl 1 rfl) ?_
  refine va_get (D := (dC, dI)) (ci := 14) (v := .ref m_spare) (C := RX14) (T := TX14) (N := 63) hx hb hA zin_X14 hown hK hP 0 rfl rfl 11 (by decide) (hA _ wi_1508) (fun _ h9 => h9) rfl dX14_part_93 ?_
  refine va_getN (D := (dC, dI)) (ci := 12) (v := .ref pr_many) (C := RX12) (T := TX12) (N := 22) hx hb hA zin_X12 hown hK hP 1 rfl rfl 7 (by decide) (va_Nw.use rfl (hN.1 ("ReuseHouseModel", 214, "ReuseHouseModel$Program", "many", "[I", "ReuseHouseModel") (by decide +kernel))) (fun _ h9 => h9) rfl dX14_part_96 ?_
  refine lv_iload_n hx hb dX14_part_99 rfl (lv_at hl 0 rfl) ?_
  refine lv_iconst (v := 0) hx hb dX14_part_100 (by decide) ?_
  refine va_iast hx hb hK hP hD hS 9 7 rfl rfl (vp_in_iff.mpr ⟨by omega, by omega⟩) dX14_part_101 (fun H locs hP hD hS => ?_)
  obtain ⟨f_10, ef_10⟩ : ∃ gz9 : Nat → Int32, gz9 = upd rg_many (Int32.toNatClampNeg pr_parts) 0 := ⟨_, rfl⟩
  rw [← ef_10] at hP hD
  have hP : va_P (dC, dI) vwCl [(h0, .inr (14, [.int m_thrown, .ref m_stop, .ref m_tape, .int m_taped, .int m_length, .int m_at, .int m_sort, .int m_place, .int m_sign, .long m_letters, .ref m_p, .ref m_spare, .int m_isTaken, .ref m_scope, .int m_scoped, .int m_deep, .int m_counted, .int m_fault, .int m_where, .ref m_cellKind, .ref m_cellCount, .ref m_free, .ref m_pile, .ref m_cellField, .int m_freeCount, .int m_given, .int m_nextPlain, .ref m_otherKind, .ref m_otherField, .int m_isPlain, .int m_hasRun, .int m_hasValue, .int m_hasOther, .long m_value, .long m_other, .int m_steps, .int m_made, .int m_reused, .int m_freed, .int m_most, .int m_doubled, .int m_openMost, .ref m_taskWhat, .ref m_taskPart, .ref m_values, .int m_tasks, .int m_valued, .int m_open, .ref m_slots, .ref m_present, .ref m_shell, .ref m_shellArm, .ref m_shellCall, .int m_shells, .ref m_keptCounts, .ref m_asideKind, .ref m_asideCount, .ref m_asideField, .ref m_out, .ref m_side, .int m_outs, .int m_sides, .ref m_saying])), (m_spare, .inr (12, [.ref pr_what, .ref pr_place, .ref pr_own, .ref pr_one, .ref pr_two, .ref pr_three, .ref pr_beside, .ref pr_many, .ref pr_uses, .ref pr_behind, .ref pr_name, .ref pr_makes, .int x_1, .ref pr_functionName, .ref pr_kindName, .ref pr_told, .ref pr_body, .ref pr_first, .ref pr_widest, .ref pr_fields, .int pr_functions, .int pr_kinds])), (pr_what, .inl (rk_what, 2100, .inl f_3)), (pr_place, .inl (rk_place, 2100, .inl f_4)), (pr_own, .inl (rk_own, 2100, .inl f_5)), (pr_one, .inl (rk_one, 2100, .inl f_6)), (pr_two, .inl (rk_two, 2100, .inl f_7)), (pr_three, .inl (rk_three, 2100, .inl f_8)), (pr_beside, .inl (rk_beside, 2100, .inl f_9)), (pr_many, .inl (rk_many, 2100, .inl f_10)), (pr_name, .inl (rk_name, 2100, .inr (.inl rg_name)))] H := hP
  have hD : va_D A [(h0, .inr (14, [.int m_thrown, .ref m_stop, .ref m_tape, .int m_taped, .int m_length, .int m_at, .int m_sort, .int m_place, .int m_sign, .long m_letters, .ref m_p, .ref m_spare, .int m_isTaken, .ref m_scope, .int m_scoped, .int m_deep, .int m_counted, .int m_fault, .int m_where, .ref m_cellKind, .ref m_cellCount, .ref m_free, .ref m_pile, .ref m_cellField, .int m_freeCount, .int m_given, .int m_nextPlain, .ref m_otherKind, .ref m_otherField, .int m_isPlain, .int m_hasRun, .int m_hasValue, .int m_hasOther, .long m_value, .long m_other, .int m_steps, .int m_made, .int m_reused, .int m_freed, .int m_most, .int m_doubled, .int m_openMost, .ref m_taskWhat, .ref m_taskPart, .ref m_values, .int m_tasks, .int m_valued, .int m_open, .ref m_slots, .ref m_present, .ref m_shell, .ref m_shellArm, .ref m_shellCall, .int m_shells, .ref m_keptCounts, .ref m_asideKind, .ref m_asideCount, .ref m_asideField, .ref m_out, .ref m_side, .int m_outs, .int m_sides, .ref m_saying])), (m_spare, .inr (12, [.ref pr_what, .ref pr_place, .ref pr_own, .ref pr_one, .ref pr_two, .ref pr_three, .ref pr_beside, .ref pr_many, .ref pr_uses, .ref pr_behind, .ref pr_name, .ref pr_makes, .int x_1, .ref pr_functionName, .ref pr_kindName, .ref pr_told, .ref pr_body, .ref pr_first, .ref pr_widest, .ref pr_fields, .int pr_functions, .int pr_kinds])), (pr_what, .inl (rk_what, 2100, .inl f_3)), (pr_place, .inl (rk_place, 2100, .inl f_4)), (pr_own, .inl (rk_own, 2100, .inl f_5)), (pr_one, .inl (rk_one, 2100, .inl f_6)), (pr_two, .inl (rk_two, 2100, .inl f_7)), (pr_three, .inl (rk_three, 2100, .inl f_8)), (pr_beside, .inl (rk_beside, 2100, .inl f_9)), (pr_many, .inl (rk_many, 2100, .inl f_10)), (pr_name, .inl (rk_name, 2100, .inr (.inl rg_name)))] := hD
  refine lv_aload_n hx hb dX14_part_102 rfl (lv_at hl 1 rfl) ?_
  refine va_get (D := (dC, dI)) (ci := 14) (v := .ref m_spare) (C := RX14) (T := TX14) (N := 63) hx hb hA zin_X14 hown hK hP 0 rfl rfl 11 (by decide) (hA _ wi_1508) (fun _ h9 => h9) rfl dX14_part_103 ?_
  refine va_getN (D := (dC, dI)) (ci := 12) (v := .ref pr_name) (C := RX12) (T := TX12) (N := 22) hx hb hA zin_X12 hown hK hP 1 rfl rfl 10 (by decide) (va_Nw.use rfl (hN.1 ("ReuseHouseModel", 217, "ReuseHouseModel$Program", "name", "[J", "ReuseHouseModel") (by decide +kernel))) (fun _ h9 => h9) rfl dX14_part_106 ?_
  refine lv_iload_n hx hb dX14_part_109 rfl (lv_at hl 0 rfl) ?_
  refine lv_lconst (v := 0) hx hb dX14_part_110 (by decide) ?_
  refine va_last hx hb hK hP hD hS 10 8 rfl rfl (vp_in_iff.mpr ⟨by omega, by omega⟩) dX14_part_111 (fun H locs hP hD hS => ?_)
  obtain ⟨f_11, ef_11⟩ : ∃ gz9 : Nat → Int64, gz9 = vp_updL rg_name (Int32.toNatClampNeg pr_parts) 0 := ⟨_, rfl⟩
  rw [← ef_11] at hP hD
  have hP : va_P (dC, dI) vwCl [(h0, .inr (14, [.int m_thrown, .ref m_stop, .ref m_tape, .int m_taped, .int m_length, .int m_at, .int m_sort, .int m_place, .int m_sign, .long m_letters, .ref m_p, .ref m_spare, .int m_isTaken, .ref m_scope, .int m_scoped, .int m_deep, .int m_counted, .int m_fault, .int m_where, .ref m_cellKind, .ref m_cellCount, .ref m_free, .ref m_pile, .ref m_cellField, .int m_freeCount, .int m_given, .int m_nextPlain, .ref m_otherKind, .ref m_otherField, .int m_isPlain, .int m_hasRun, .int m_hasValue, .int m_hasOther, .long m_value, .long m_other, .int m_steps, .int m_made, .int m_reused, .int m_freed, .int m_most, .int m_doubled, .int m_openMost, .ref m_taskWhat, .ref m_taskPart, .ref m_values, .int m_tasks, .int m_valued, .int m_open, .ref m_slots, .ref m_present, .ref m_shell, .ref m_shellArm, .ref m_shellCall, .int m_shells, .ref m_keptCounts, .ref m_asideKind, .ref m_asideCount, .ref m_asideField, .ref m_out, .ref m_side, .int m_outs, .int m_sides, .ref m_saying])), (m_spare, .inr (12, [.ref pr_what, .ref pr_place, .ref pr_own, .ref pr_one, .ref pr_two, .ref pr_three, .ref pr_beside, .ref pr_many, .ref pr_uses, .ref pr_behind, .ref pr_name, .ref pr_makes, .int x_1, .ref pr_functionName, .ref pr_kindName, .ref pr_told, .ref pr_body, .ref pr_first, .ref pr_widest, .ref pr_fields, .int pr_functions, .int pr_kinds])), (pr_what, .inl (rk_what, 2100, .inl f_3)), (pr_place, .inl (rk_place, 2100, .inl f_4)), (pr_own, .inl (rk_own, 2100, .inl f_5)), (pr_one, .inl (rk_one, 2100, .inl f_6)), (pr_two, .inl (rk_two, 2100, .inl f_7)), (pr_three, .inl (rk_three, 2100, .inl f_8)), (pr_beside, .inl (rk_beside, 2100, .inl f_9)), (pr_many, .inl (rk_many, 2100, .inl f_10)), (pr_name, .inl (rk_name, 2100, .inr (.inl f_11)))] H := hP
  have hD : va_D A [(h0, .inr (14, [.int m_thrown, .ref m_stop, .ref m_tape, .int m_taped, .int m_length, .int m_at, .int m_sort, .int m_place, .int m_sign, .long m_letters, .ref m_p, .ref m_spare, .int m_isTaken, .ref m_scope, .int m_scoped, .int m_deep, .int m_counted, .int m_fault, .int m_where, .ref m_cellKind, .ref m_cellCount, .ref m_free, .ref m_pile, .ref m_cellField, .int m_freeCount, .int m_given, .int m_nextPlain, .ref m_otherKind, .ref m_otherField, .int m_isPlain, .int m_hasRun, .int m_hasValue, .int m_hasOther, .long m_value, .long m_other, .int m_steps, .int m_made, .int m_reused, .int m_freed, .int m_most, .int m_doubled, .int m_openMost, .ref m_taskWhat, .ref m_taskPart, .ref m_values, .int m_tasks, .int m_valued, .int m_open, .ref m_slots, .ref m_present, .ref m_shell, .ref m_shellArm, .ref m_shellCall, .int m_shells, .ref m_keptCounts, .ref m_asideKind, .ref m_asideCount, .ref m_asideField, .ref m_out, .ref m_side, .int m_outs, .int m_sides, .ref m_saying])), (m_spare, .inr (12, [.ref pr_what, .ref pr_place, .ref pr_own, .ref pr_one, .ref pr_two, .ref pr_three, .ref pr_beside, .ref pr_many, .ref pr_uses, .ref pr_behind, .ref pr_name, .ref pr_makes, .int x_1, .ref pr_functionName, .ref pr_kindName, .ref pr_told, .ref pr_body, .ref pr_first, .ref pr_widest, .ref pr_fields, .int pr_functions, .int pr_kinds])), (pr_what, .inl (rk_what, 2100, .inl f_3)), (pr_place, .inl (rk_place, 2100, .inl f_4)), (pr_own, .inl (rk_own, 2100, .inl f_5)), (pr_one, .inl (rk_one, 2100, .inl f_6)), (pr_two, .inl (rk_two, 2100, .inl f_7)), (pr_three, .inl (rk_three, 2100, .inl f_8)), (pr_beside, .inl (rk_beside, 2100, .inl f_9)), (pr_many, .inl (rk_many, 2100, .inl f_10)), (pr_name, .inl (rk_name, 2100, .inr (.inl f_11)))] := hD
  refine lv_iload_n hx hb dX14_part_112 rfl (lv_at hl 0 rfl) ?_
  have hP9 := hP.sub (ws' := [(h0, .inr (14, [.int m_thrown, .ref m_stop, .ref m_tape, .int m_taped, .int m_length, .int m_at, .int m_sort, .int m_place, .int m_sign, .long m_letters, .ref m_p, .ref m_spare, .int m_isTaken, .ref m_scope, .int m_scoped, .int m_deep, .int m_counted, .int m_fault, .int m_where, .ref m_cellKind, .ref m_cellCount, .ref m_free, .ref m_pile, .ref m_cellField, .int m_freeCount, .int m_given, .int m_nextPlain, .ref m_otherKind, .ref m_otherField, .int m_isPlain, .int m_hasRun, .int m_hasValue, .int m_hasOther, .long m_value, .long m_other, .int m_steps, .int m_made, .int m_reused, .int m_freed, .int m_most, .int m_doubled, .int m_openMost, .ref m_taskWhat, .ref m_taskPart, .ref m_values, .int m_tasks, .int m_valued, .int m_open, .ref m_slots, .ref m_present, .ref m_shell, .ref m_shellArm, .ref m_shellCall, .int m_shells, .ref m_keptCounts, .ref m_asideKind, .ref m_asideCount, .ref m_asideField, .ref m_out, .ref m_side, .int m_outs, .int m_sides, .ref m_saying])), (m_spare, .inr (12, [.ref pr_what, .ref pr_place, .ref pr_own, .ref pr_one, .ref pr_two, .ref pr_three, .ref pr_beside, .ref pr_many, .ref pr_uses, .ref pr_behind, .ref pr_name, .ref pr_makes, .int x_1, .ref pr_functionName, .ref pr_kindName, .ref pr_told, .ref pr_body, .ref pr_first, .ref pr_widest, .ref pr_fields, .int pr_functions, .int pr_kinds])), (pr_what, .inl (rk_what, 2100, .inl f_3)), (pr_place, .inl (rk_place, 2100, .inl f_4)), (pr_own, .inl (rk_own, 2100, .inl f_5)), (pr_one, .inl (rk_one, 2100, .inl f_6)), (pr_two, .inl (rk_two, 2100, .inl f_7)), (pr_three, .inl (rk_three, 2100, .inl f_8)), (pr_beside, .inl (rk_beside, 2100, .inl f_9)), (pr_many, .inl (rk_many, 2100, .inl f_10)), (pr_name, .inl (rk_name, 2100, .inr (.inl f_11)))]) [0, 1, 2, 3, 4, 5, 6, 7, 8, 9, 10] rfl
  have hD9 := hD.sub (ws' := [(h0, .inr (14, [.int m_thrown, .ref m_stop, .ref m_tape, .int m_taped, .int m_length, .int m_at, .int m_sort, .int m_place, .int m_sign, .long m_letters, .ref m_p, .ref m_spare, .int m_isTaken, .ref m_scope, .int m_scoped, .int m_deep, .int m_counted, .int m_fault, .int m_where, .ref m_cellKind, .ref m_cellCount, .ref m_free, .ref m_pile, .ref m_cellField, .int m_freeCount, .int m_given, .int m_nextPlain, .ref m_otherKind, .ref m_otherField, .int m_isPlain, .int m_hasRun, .int m_hasValue, .int m_hasOther, .long m_value, .long m_other, .int m_steps, .int m_made, .int m_reused, .int m_freed, .int m_most, .int m_doubled, .int m_openMost, .ref m_taskWhat, .ref m_taskPart, .ref m_values, .int m_tasks, .int m_valued, .int m_open, .ref m_slots, .ref m_present, .ref m_shell, .ref m_shellArm, .ref m_shellCall, .int m_shells, .ref m_keptCounts, .ref m_asideKind, .ref m_asideCount, .ref m_asideField, .ref m_out, .ref m_side, .int m_outs, .int m_sides, .ref m_saying])), (m_spare, .inr (12, [.ref pr_what, .ref pr_place, .ref pr_own, .ref pr_one, .ref pr_two, .ref pr_three, .ref pr_beside, .ref pr_many, .ref pr_uses, .ref pr_behind, .ref pr_name, .ref pr_makes, .int x_1, .ref pr_functionName, .ref pr_kindName, .ref pr_told, .ref pr_body, .ref pr_first, .ref pr_widest, .ref pr_fields, .int pr_functions, .int pr_kinds])), (pr_what, .inl (rk_what, 2100, .inl f_3)), (pr_place, .inl (rk_place, 2100, .inl f_4)), (pr_own, .inl (rk_own, 2100, .inl f_5)), (pr_one, .inl (rk_one, 2100, .inl f_6)), (pr_two, .inl (rk_two, 2100, .inl f_7)), (pr_three, .inl (rk_three, 2100, .inl f_8)), (pr_beside, .inl (rk_beside, 2100, .inl f_9)), (pr_many, .inl (rk_many, 2100, .inl f_10)), (pr_name, .inl (rk_name, 2100, .inr (.inl f_11)))]) [0, 1, 2, 3, 4, 5, 6, 7, 8, 9, 10] (by decide) rfl
  have hK9 := hK.sub (tys' := [(rk_what, .byte), (rk_place, .int), (rk_own, .int), (rk_one, .int), (rk_two, .int), (rk_three, .int), (rk_beside, .int), (rk_many, .int), (rk_name, .long)]) [0, 1, 2, 3, 4, 5, 6, 7, 8] rfl
  exact W.iret (v := pr_parts) hx hb hr (fun t ht hW => ⟨⟨pr_parts, (x_1, f_3, f_4, f_5, f_6, f_7, f_8, f_9, f_10, f_11), rfl, ⟨rfl, by omega, ⟨_, ⟨ef_3, ef_5, ef_6, ef_7, ef_8, ef_9, ef_10, rfl, rfl⟩, by rw [ex_2]; exact zbyt (by omega) (by omega)⟩, ef_11, ef_4⟩, by rw [ht]; exact hP9, va_K.moved hW.alike hK9, hD9⟩, hS.F ht⟩) hS.2.2 dX14_part_113
set_option maxHeartbeats 4000000 in
set_option maxRecDepth 100000 in
theorem c_X14_both_x (l : Launch) (dC : Nat → ClassId) (dI : Nat → Nat → Nat) (aK aV : Nat → Nat) (h0 : Nat) (m_thrown : Int32) (m_stop : Nat) (m_tape : Nat) (m_taped : Int32) (m_length : Int32) (m_at : Int32) (m_sort : Int32) (m_place : Int32) (m_sign : Int32) (m_letters : Int64) (m_p : Nat) (m_spare : Nat) (m_isTaken : Int32) (m_scope : Nat) (m_scoped : Int32) (m_deep : Int32) (m_counted : Int32) (m_fault : Int32) (m_where : Int32) (m_cellKind : Nat) (m_cellCount : Nat) (m_free : Nat) (m_pile : Nat) (m_cellField : Nat) (m_freeCount : Int32) (m_given : Int32) (m_nextPlain : Int32) (m_otherKind : Nat) (m_otherField : Nat) (m_isPlain : Int32) (m_hasRun : Int32) (m_hasValue : Int32) (m_hasOther : Int32) (m_value : Int64) (m_other : Int64) (m_steps : Int32) (m_made : Int32) (m_reused : Int32) (m_freed : Int32) (m_most : Int32) (m_doubled : Int32) (m_openMost : Int32) (m_taskWhat : Nat) (m_taskPart : Nat) (m_values : Nat) (m_tasks : Int32) (m_valued : Int32) (m_open : Int32) (m_slots : Nat) (m_present : Nat) (m_shell : Nat) (m_shellArm : Nat) (m_shellCall : Nat) (m_shells : Int32) (m_keptCounts : Nat) (m_asideKind : Nat) (m_asideCount : Nat) (m_asideField : Nat) (m_out : Nat) (m_side : Nat) (m_outs : Int32) (m_sides : Int32) (m_saying : Nat) (pr_what : Nat) (pr_place : Nat) (pr_own : Nat) (pr_one : Nat) (pr_two : Nat) (pr_three : Nat) (pr_beside : Nat) (pr_many : Nat) (pr_uses : Nat) (pr_behind : Nat) (pr_name : Nat) (pr_makes : Nat) (pr_parts : Int32) (pr_functionName : Nat) (pr_kindName : Nat) (pr_told : Nat) (pr_body : Nat) (pr_first : Nat) (pr_widest : Nat) (pr_fields : Nat) (pr_functions : Int32) (pr_kinds : Int32) (rk_what : ClassId) (rk_place : ClassId) (rk_own : ClassId) (rk_one : ClassId) (rk_two : ClassId) (rk_three : ClassId) (rk_beside : ClassId) (rk_many : ClassId) (rk_name : ClassId) (rg_what : Nat → Int32) (rg_place : Nat → Int32) (rg_own : Nat → Int32) (rg_one : Nat → Int32) (rg_two : Nat → Int32) (rg_three : Nat → Int32) (rg_beside : Nat → Int32) (rg_many : Nat → Int32) (rg_name : Nat → Int64) (rg_fields : Nat → Int32) (si : Int32) (pw : Int32) (aa : Int32) (bb : Int32) (sz : Nat) (hpz0 : 0 ≤ pr_parts.toInt) (hpz1 : pr_parts.toInt < 2100) : Met l yX14_both (Cond.code yX14_both cX14_both 6 (some .int) :: zw) ({ frames := 10, cells := 0, slots := 0, locals := 300 }) (va_Pc [.ref h0, .int si, .int pw, .int aa, .int bb] (zP dC dI aK aV sz [(rk_what, .byte), (rk_place, .int), (rk_own, .int), (rk_one, .int), (rk_two, .int), (rk_three, .int), (rk_beside, .int), (rk_many, .int), (rk_name, .long)] [(h0, .inr (14, [.int m_thrown, .ref m_stop, .ref m_tape, .int m_taped, .int m_length, .int m_at, .int m_sort, .int m_place, .int m_sign, .long m_letters, .ref m_p, .ref m_spare, .int m_isTaken, .ref m_scope, .int m_scoped, .int m_deep, .int m_counted, .int m_fault, .int m_where, .ref m_cellKind, .ref m_cellCount, .ref m_free, .ref m_pile, .ref m_cellField, .int m_freeCount, .int m_given, .int m_nextPlain, .ref m_otherKind, .ref m_otherField, .int m_isPlain, .int m_hasRun, .int m_hasValue, .int m_hasOther, .long m_value, .long m_other, .int m_steps, .int m_made, .int m_reused, .int m_freed, .int m_most, .int m_doubled, .int m_openMost, .ref m_taskWhat, .ref m_taskPart, .ref m_values, .int m_tasks, .int m_valued, .int m_open, .ref m_slots, .ref m_present, .ref m_shell, .ref m_shellArm, .ref m_shellCall, .int m_shells, .ref m_keptCounts, .ref m_asideKind, .ref m_asideCount, .ref m_asideField, .ref m_out, .ref m_side, .int m_outs, .int m_sides, .ref m_saying])), (m_spare, .inr (12, [.ref pr_what, .ref pr_place, .ref pr_own, .ref pr_one, .ref pr_two, .ref pr_three, .ref pr_beside, .ref pr_many, .ref pr_uses, .ref pr_behind, .ref pr_name, .ref pr_makes, .int pr_parts, .ref pr_functionName, .ref pr_kindName, .ref pr_told, .ref pr_body, .ref pr_first, .ref pr_widest, .ref pr_fields, .int pr_functions, .int pr_kinds])), (pr_what, .inl (rk_what, 2100, .inl rg_what)), (pr_place, .inl (rk_place, 2100, .inl rg_place)), (pr_own, .inl (rk_own, 2100, .inl rg_own)), (pr_one, .inl (rk_one, 2100, .inl rg_one)), (pr_two, .inl (rk_two, 2100, .inl rg_two)), (pr_three, .inl (rk_three, 2100, .inl rg_three)), (pr_beside, .inl (rk_beside, 2100, .inl rg_beside)), (pr_many, .inl (rk_many, 2100, .inl rg_many)), (pr_name, .inl (rk_name, 2100, .inr (.inl rg_name)))])) (va_Qi (fun (r : Int32) (u : Int32 × (Nat → Int32) × (Nat → Int32) × (Nat → Int32) × (Nat → Int32) × (Nat → Int32) × (Nat → Int32) × (Nat → Int32) × (Nat → Int32) × (Nat → Int64)) => match u with | (pz2, n_what, n_place, n_own, n_one, n_two, n_three, n_beside, n_many, n_name) => (r = pr_parts) ∧ (pz2.toInt = pr_parts.toInt + 1) ∧ (∃ w9 : Int32, zJp (zJS rg_what rg_own rg_one rg_two rg_three rg_beside rg_many rg_fields pr_kinds) (zJS n_what n_own n_one n_two n_three n_beside n_many rg_fields pr_kinds) (Int32.toNatClampNeg pr_parts) w9 si aa bb (-1) 0 ∧ w9.toInt = 5) ∧ (n_name = vp_updL rg_name (Int32.toNatClampNeg pr_parts) 0) ∧ (n_place = upd rg_place (Int32.toNatClampNeg pr_parts) pw)) (fun u => match u with | (pz2, n_what, n_place, n_own, n_one, n_two, n_three, n_beside, n_many, n_name) => zQ dC dI (va_A [(h0, .inr (14, [.int m_thrown, .ref m_stop, .ref m_tape, .int m_taped, .int m_length, .int m_at, .int m_sort, .int m_place, .int m_sign, .long m_letters, .ref m_p, .ref m_spare, .int m_isTaken, .ref m_scope, .int m_scoped, .int m_deep, .int m_counted, .int m_fault, .int m_where, .ref m_cellKind, .ref m_cellCount, .ref m_free, .ref m_pile, .ref m_cellField, .int m_freeCount, .int m_given, .int m_nextPlain, .ref m_otherKind, .ref m_otherField, .int m_isPlain, .int m_hasRun, .int m_hasValue, .int m_hasOther, .long m_value, .long m_other, .int m_steps, .int m_made, .int m_reused, .int m_freed, .int m_most, .int m_doubled, .int m_openMost, .ref m_taskWhat, .ref m_taskPart, .ref m_values, .int m_tasks, .int m_valued, .int m_open, .ref m_slots, .ref m_present, .ref m_shell, .ref m_shellArm, .ref m_shellCall, .int m_shells, .ref m_keptCounts, .ref m_asideKind, .ref m_asideCount, .ref m_asideField, .ref m_out, .ref m_side, .int m_outs, .int m_sides, .ref m_saying])), (m_spare, .inr (12, [.ref pr_what, .ref pr_place, .ref pr_own, .ref pr_one, .ref pr_two, .ref pr_three, .ref pr_beside, .ref pr_many, .ref pr_uses, .ref pr_behind, .ref pr_name, .ref pr_makes, .int pr_parts, .ref pr_functionName, .ref pr_kindName, .ref pr_told, .ref pr_body, .ref pr_first, .ref pr_widest, .ref pr_fields, .int pr_functions, .int pr_kinds])), (pr_what, .inl (rk_what, 2100, .inl rg_what)), (pr_place, .inl (rk_place, 2100, .inl rg_place)), (pr_own, .inl (rk_own, 2100, .inl rg_own)), (pr_one, .inl (rk_one, 2100, .inl rg_one)), (pr_two, .inl (rk_two, 2100, .inl rg_two)), (pr_three, .inl (rk_three, 2100, .inl rg_three)), (pr_beside, .inl (rk_beside, 2100, .inl rg_beside)), (pr_many, .inl (rk_many, 2100, .inl rg_many)), (pr_name, .inl (rk_name, 2100, .inr (.inl rg_name)))] sz) [(rk_what, .byte), (rk_place, .int), (rk_own, .int), (rk_one, .int), (rk_two, .int), (rk_three, .int), (rk_beside, .int), (rk_many, .int), (rk_name, .long)] [(h0, .inr (14, [.int m_thrown, .ref m_stop, .ref m_tape, .int m_taped, .int m_length, .int m_at, .int m_sort, .int m_place, .int m_sign, .long m_letters, .ref m_p, .ref m_spare, .int m_isTaken, .ref m_scope, .int m_scoped, .int m_deep, .int m_counted, .int m_fault, .int m_where, .ref m_cellKind, .ref m_cellCount, .ref m_free, .ref m_pile, .ref m_cellField, .int m_freeCount, .int m_given, .int m_nextPlain, .ref m_otherKind, .ref m_otherField, .int m_isPlain, .int m_hasRun, .int m_hasValue, .int m_hasOther, .long m_value, .long m_other, .int m_steps, .int m_made, .int m_reused, .int m_freed, .int m_most, .int m_doubled, .int m_openMost, .ref m_taskWhat, .ref m_taskPart, .ref m_values, .int m_tasks, .int m_valued, .int m_open, .ref m_slots, .ref m_present, .ref m_shell, .ref m_shellArm, .ref m_shellCall, .int m_shells, .ref m_keptCounts, .ref m_asideKind, .ref m_asideCount, .ref m_asideField, .ref m_out, .ref m_side, .int m_outs, .int m_sides, .ref m_saying])), (m_spare, .inr (12, [.ref pr_what, .ref pr_place, .ref pr_own, .ref pr_one, .ref pr_two, .ref pr_three, .ref pr_beside, .ref pr_many, .ref pr_uses, .ref pr_behind, .ref pr_name, .ref pr_makes, .int pz2, .ref pr_functionName, .ref pr_kindName, .ref pr_told, .ref pr_body, .ref pr_first, .ref pr_widest, .ref pr_fields, .int pr_functions, .int pr_kinds])), (pr_what, .inl (rk_what, 2100, .inl n_what)), (pr_place, .inl (rk_place, 2100, .inl n_place)), (pr_own, .inl (rk_own, 2100, .inl n_own)), (pr_one, .inl (rk_one, 2100, .inl n_one)), (pr_two, .inl (rk_two, 2100, .inl n_two)), (pr_three, .inl (rk_three, 2100, .inl n_three)), (pr_beside, .inl (rk_beside, 2100, .inl n_beside)), (pr_many, .inl (rk_many, 2100, .inl n_many)), (pr_name, .inl (rk_name, 2100, .inr (.inl n_name)))]) (va_A [(h0, .inr (14, [.int m_thrown, .ref m_stop, .ref m_tape, .int m_taped, .int m_length, .int m_at, .int m_sort, .int m_place, .int m_sign, .long m_letters, .ref m_p, .ref m_spare, .int m_isTaken, .ref m_scope, .int m_scoped, .int m_deep, .int m_counted, .int m_fault, .int m_where, .ref m_cellKind, .ref m_cellCount, .ref m_free, .ref m_pile, .ref m_cellField, .int m_freeCount, .int m_given, .int m_nextPlain, .ref m_otherKind, .ref m_otherField, .int m_isPlain, .int m_hasRun, .int m_hasValue, .int m_hasOther, .long m_value, .long m_other, .int m_steps, .int m_made, .int m_reused, .int m_freed, .int m_most, .int m_doubled, .int m_openMost, .ref m_taskWhat, .ref m_taskPart, .ref m_values, .int m_tasks, .int m_valued, .int m_open, .ref m_slots, .ref m_present, .ref m_shell, .ref m_shellArm, .ref m_shellCall, .int m_shells, .ref m_keptCounts, .ref m_asideKind, .ref m_asideCount, .ref m_asideField, .ref m_out, .ref m_side, .int m_outs, .int m_sides, .ref m_saying])), (m_spare, .inr (12, [.ref pr_what, .ref pr_place, .ref pr_own, .ref pr_one, .ref pr_two, .ref pr_three, .ref pr_beside, .ref pr_many, .ref pr_uses, .ref pr_behind, .ref pr_name, .ref pr_makes, .int pr_parts, .ref pr_functionName, .ref pr_kindName, .ref pr_told, .ref pr_body, .ref pr_first, .ref pr_widest, .ref pr_fields, .int pr_functions, .int pr_kinds])), (pr_what, .inl (rk_what, 2100, .inl rg_what)), (pr_place, .inl (rk_place, 2100, .inl rg_place)), (pr_own, .inl (rk_own, 2100, .inl rg_own)), (pr_one, .inl (rk_one, 2100, .inl rg_one)), (pr_two, .inl (rk_two, 2100, .inl rg_two)), (pr_three, .inl (rk_three, 2100, .inl rg_three)), (pr_beside, .inl (rk_beside, 2100, .inl rg_beside)), (pr_many, .inl (rk_many, 2100, .inl rg_many)), (pr_name, .inl (rk_name, 2100, .inr (.inl rg_name)))] sz)) 0 0 (va_A [(h0, .inr (14, [.int m_thrown, .ref m_stop, .ref m_tape, .int m_taped, .int m_length, .int m_at, .int m_sort, .int m_place, .int m_sign, .long m_letters, .ref m_p, .ref m_spare, .int m_isTaken, .ref m_scope, .int m_scoped, .int m_deep, .int m_counted, .int m_fault, .int m_where, .ref m_cellKind, .ref m_cellCount, .ref m_free, .ref m_pile, .ref m_cellField, .int m_freeCount, .int m_given, .int m_nextPlain, .ref m_otherKind, .ref m_otherField, .int m_isPlain, .int m_hasRun, .int m_hasValue, .int m_hasOther, .long m_value, .long m_other, .int m_steps, .int m_made, .int m_reused, .int m_freed, .int m_most, .int m_doubled, .int m_openMost, .ref m_taskWhat, .ref m_taskPart, .ref m_values, .int m_tasks, .int m_valued, .int m_open, .ref m_slots, .ref m_present, .ref m_shell, .ref m_shellArm, .ref m_shellCall, .int m_shells, .ref m_keptCounts, .ref m_asideKind, .ref m_asideCount, .ref m_asideField, .ref m_out, .ref m_side, .int m_outs, .int m_sides, .ref m_saying])), (m_spare, .inr (12, [.ref pr_what, .ref pr_place, .ref pr_own, .ref pr_one, .ref pr_two, .ref pr_three, .ref pr_beside, .ref pr_many, .ref pr_uses, .ref pr_behind, .ref pr_name, .ref pr_makes, .int pr_parts, .ref pr_functionName, .ref pr_kindName, .ref pr_told, .ref pr_body, .ref pr_first, .ref pr_widest, .ref pr_fields, .int pr_functions, .int pr_kinds])), (pr_what, .inl (rk_what, 2100, .inl rg_what)), (pr_place, .inl (rk_place, 2100, .inl rg_place)), (pr_own, .inl (rk_own, 2100, .inl rg_own)), (pr_one, .inl (rk_one, 2100, .inl rg_one)), (pr_two, .inl (rk_two, 2100, .inl rg_two)), (pr_three, .inl (rk_three, 2100, .inl rg_three)), (pr_beside, .inl (rk_beside, 2100, .inl rg_beside)), (pr_many, .inl (rk_many, 2100, .inl rg_many)), (pr_name, .inl (rk_name, 2100, .inr (.inl rg_name)))] sz) := by
  refine Met.ofW (cc := cX14_both) (maxL := 6) (ret := (some .int)) (by decide) rfl ?_
  intro p e s m args below meth c s₁ B hml hv
  obtain ⟨rfl, hsz, hP, hK, hD0, hN, hT⟩ := hv
  have hx := B.exec
  have hb := B.bytes
  have hr := B.returns
  have hts := atoms_spec (ws := Cond.code yX14_both cX14_both 6 (some .int) :: zw) B.pre
  have hA : ∀ w ∈ zw, w.before _ s = true := fun w h => hts w (List.mem_cons_of_mem _ h)
  have hown : s.vm.findClass RX14 = some m.cls := findClass_of_methodNamed B.named
  have hlocks := B.notSynchronized
  subst hsz
  have hD := hD0.self (sz := s.heap.size)
  generalize hAe : va_A [(h0, .inr (14, [.int m_thrown, .ref m_stop, .ref m_tape, .int m_taped, .int m_length, .int m_at, .int m_sort, .int m_place, .int m_sign, .long m_letters, .ref m_p, .ref m_spare, .int m_isTaken, .ref m_scope, .int m_scoped, .int m_deep, .int m_counted, .int m_fault, .int m_where, .ref m_cellKind, .ref m_cellCount, .ref m_free, .ref m_pile, .ref m_cellField, .int m_freeCount, .int m_given, .int m_nextPlain, .ref m_otherKind, .ref m_otherField, .int m_isPlain, .int m_hasRun, .int m_hasValue, .int m_hasOther, .long m_value, .long m_other, .int m_steps, .int m_made, .int m_reused, .int m_freed, .int m_most, .int m_doubled, .int m_openMost, .ref m_taskWhat, .ref m_taskPart, .ref m_values, .int m_tasks, .int m_valued, .int m_open, .ref m_slots, .ref m_present, .ref m_shell, .ref m_shellArm, .ref m_shellCall, .int m_shells, .ref m_keptCounts, .ref m_asideKind, .ref m_asideCount, .ref m_asideField, .ref m_out, .ref m_side, .int m_outs, .int m_sides, .ref m_saying])), (m_spare, .inr (12, [.ref pr_what, .ref pr_place, .ref pr_own, .ref pr_one, .ref pr_two, .ref pr_three, .ref pr_beside, .ref pr_many, .ref pr_uses, .ref pr_behind, .ref pr_name, .ref pr_makes, .int pr_parts, .ref pr_functionName, .ref pr_kindName, .ref pr_told, .ref pr_body, .ref pr_first, .ref pr_widest, .ref pr_fields, .int pr_functions, .int pr_kinds])), (pr_what, .inl (rk_what, 2100, .inl rg_what)), (pr_place, .inl (rk_place, 2100, .inl rg_place)), (pr_own, .inl (rk_own, 2100, .inl rg_own)), (pr_one, .inl (rk_one, 2100, .inl rg_one)), (pr_two, .inl (rk_two, 2100, .inl rg_two)), (pr_three, .inl (rk_three, 2100, .inl rg_three)), (pr_beside, .inl (rk_beside, 2100, .inl rg_beside)), (pr_many, .inl (rk_many, 2100, .inl rg_many)), (pr_name, .inl (rk_name, 2100, .inr (.inl rg_name)))] s.heap.size = A at hD hT ⊢
  have hAA : ∀ q : Nat, s.heap.size ≤ q → A q := fun q h => by rw [← hAe]; exact Or.inr h
  have hS : va_S A s.heap s.heap [] := va_S.rf
  have hl := lv_entry ([.ref h0, .int si, .int pw, .int aa, .int bb]) (n := 6) (Nat.le_of_ble_eq_true rfl)
  rw [lg_entry_eq]
  generalize (lg_sl ([.ref h0, .int si, .int pw, .int aa, .int bb]) ++ List.replicate (6 - (lg_sl ([.ref h0, .int si, .int pw, .int aa, .int bb])).length) Slot.unset).toArray = ls at hl ⊢
  have hl : lv_has ls 6 [(0, .ref h0), (1, .int si), (2, .int pw), (3, .int aa), (4, .int bb)] := hl
  refine lv_aload_n hx hb dX14_both_0 rfl (lv_at hl 0 rfl) ?_
  refine lv_iconst (v := 5) hx hb dX14_both_1 (by decide) ?_
  refine lv_iload_n hx hb dX14_both_2 rfl (lv_at hl 2 rfl) ?_
  have hPc := hP.sub (ws' := [(h0, .inr (14, [.int m_thrown, .ref m_stop, .ref m_tape, .int m_taped, .int m_length, .int m_at, .int m_sort, .int m_place, .int m_sign, .long m_letters, .ref m_p, .ref m_spare, .int m_isTaken, .ref m_scope, .int m_scoped, .int m_deep, .int m_counted, .int m_fault, .int m_where, .ref m_cellKind, .ref m_cellCount, .ref m_free, .ref m_pile, .ref m_cellField, .int m_freeCount, .int m_given, .int m_nextPlain, .ref m_otherKind, .ref m_otherField, .int m_isPlain, .int m_hasRun, .int m_hasValue, .int m_hasOther, .long m_value, .long m_other, .int m_steps, .int m_made, .int m_reused, .int m_freed, .int m_most, .int m_doubled, .int m_openMost, .ref m_taskWhat, .ref m_taskPart, .ref m_values, .int m_tasks, .int m_valued, .int m_open, .ref m_slots, .ref m_present, .ref m_shell, .ref m_shellArm, .ref m_shellCall, .int m_shells, .ref m_keptCounts, .ref m_asideKind, .ref m_asideCount, .ref m_asideField, .ref m_out, .ref m_side, .int m_outs, .int m_sides, .ref m_saying])), (m_spare, .inr (12, [.ref pr_what, .ref pr_place, .ref pr_own, .ref pr_one, .ref pr_two, .ref pr_three, .ref pr_beside, .ref pr_many, .ref pr_uses, .ref pr_behind, .ref pr_name, .ref pr_makes, .int pr_parts, .ref pr_functionName, .ref pr_kindName, .ref pr_told, .ref pr_body, .ref pr_first, .ref pr_widest, .ref pr_fields, .int pr_functions, .int pr_kinds])), (pr_what, .inl (rk_what, 2100, .inl rg_what)), (pr_place, .inl (rk_place, 2100, .inl rg_place)), (pr_own, .inl (rk_own, 2100, .inl rg_own)), (pr_one, .inl (rk_one, 2100, .inl rg_one)), (pr_two, .inl (rk_two, 2100, .inl rg_two)), (pr_three, .inl (rk_three, 2100, .inl rg_three)), (pr_beside, .inl (rk_beside, 2100, .inl rg_beside)), (pr_many, .inl (rk_many, 2100, .inl rg_many)), (pr_name, .inl (rk_name, 2100, .inr (.inl rg_name)))]) [0, 1, 2, 3, 4, 5, 6, 7, 8, 9, 10] rfl
  have hDc := hD.sub (ws' := [(h0, .inr (14, [.int m_thrown, .ref m_stop, .ref m_tape, .int m_taped, .int m_length, .int m_at, .int m_sort, .int m_place, .int m_sign, .long m_letters, .ref m_p, .ref m_spare, .int m_isTaken, .ref m_scope, .int m_scoped, .int m_deep, .int m_counted, .int m_fault, .int m_where, .ref m_cellKind, .ref m_cellCount, .ref m_free, .ref m_pile, .ref m_cellField, .int m_freeCount, .int m_given, .int m_nextPlain, .ref m_otherKind, .ref m_otherField, .int m_isPlain, .int m_hasRun, .int m_hasValue, .int m_hasOther, .long m_value, .long m_other, .int m_steps, .int m_made, .int m_reused, .int m_freed, .int m_most, .int m_doubled, .int m_openMost, .ref m_taskWhat, .ref m_taskPart, .ref m_values, .int m_tasks, .int m_valued, .int m_open, .ref m_slots, .ref m_present, .ref m_shell, .ref m_shellArm, .ref m_shellCall, .int m_shells, .ref m_keptCounts, .ref m_asideKind, .ref m_asideCount, .ref m_asideField, .ref m_out, .ref m_side, .int m_outs, .int m_sides, .ref m_saying])), (m_spare, .inr (12, [.ref pr_what, .ref pr_place, .ref pr_own, .ref pr_one, .ref pr_two, .ref pr_three, .ref pr_beside, .ref pr_many, .ref pr_uses, .ref pr_behind, .ref pr_name, .ref pr_makes, .int pr_parts, .ref pr_functionName, .ref pr_kindName, .ref pr_told, .ref pr_body, .ref pr_first, .ref pr_widest, .ref pr_fields, .int pr_functions, .int pr_kinds])), (pr_what, .inl (rk_what, 2100, .inl rg_what)), (pr_place, .inl (rk_place, 2100, .inl rg_place)), (pr_own, .inl (rk_own, 2100, .inl rg_own)), (pr_one, .inl (rk_one, 2100, .inl rg_one)), (pr_two, .inl (rk_two, 2100, .inl rg_two)), (pr_three, .inl (rk_three, 2100, .inl rg_three)), (pr_beside, .inl (rk_beside, 2100, .inl rg_beside)), (pr_many, .inl (rk_many, 2100, .inl rg_many)), (pr_name, .inl (rk_name, 2100, .inr (.inl rg_name)))]) [0, 1, 2, 3, 4, 5, 6, 7, 8, 9, 10] (by decide) rfl
  have hKc := hK.sub (tys' := [(rk_what, .byte), (rk_place, .int), (rk_own, .int), (rk_one, .int), (rk_two, .int), (rk_three, .int), (rk_beside, .int), (rk_many, .int), (rk_name, .long)]) [0, 1, 2, 3, 4, 5, 6, 7, 8] rfl
  have hFc := va_free (wc := [(h0, .inr (14, [.int m_thrown, .ref m_stop, .ref m_tape, .int m_taped, .int m_length, .int m_at, .int m_sort, .int m_place, .int m_sign, .long m_letters, .ref m_p, .ref m_spare, .int m_isTaken, .ref m_scope, .int m_scoped, .int m_deep, .int m_counted, .int m_fault, .int m_where, .ref m_cellKind, .ref m_cellCount, .ref m_free, .ref m_pile, .ref m_cellField, .int m_freeCount, .int m_given, .int m_nextPlain, .ref m_otherKind, .ref m_otherField, .int m_isPlain, .int m_hasRun, .int m_hasValue, .int m_hasOther, .long m_value, .long m_other, .int m_steps, .int m_made, .int m_reused, .int m_freed, .int m_most, .int m_doubled, .int m_openMost, .ref m_taskWhat, .ref m_taskPart, .ref m_values, .int m_tasks, .int m_valued, .int m_open, .ref m_slots, .ref m_present, .ref m_shell, .ref m_shellArm, .ref m_shellCall, .int m_shells, .ref m_keptCounts, .ref m_asideKind, .ref m_asideCount, .ref m_asideField, .ref m_out, .ref m_side, .int m_outs, .int m_sides, .ref m_saying])), (m_spare, .inr (12, [.ref pr_what, .ref pr_place, .ref pr_own, .ref pr_one, .ref pr_two, .ref pr_three, .ref pr_beside, .ref pr_many, .ref pr_uses, .ref pr_behind, .ref pr_name, .ref pr_makes, .int pr_parts, .ref pr_functionName, .ref pr_kindName, .ref pr_told, .ref pr_body, .ref pr_first, .ref pr_widest, .ref pr_fields, .int pr_functions, .int pr_kinds])), (pr_what, .inl (rk_what, 2100, .inl rg_what)), (pr_place, .inl (rk_place, 2100, .inl rg_place)), (pr_own, .inl (rk_own, 2100, .inl rg_own)), (pr_one, .inl (rk_one, 2100, .inl rg_one)), (pr_two, .inl (rk_two, 2100, .inl rg_two)), (pr_three, .inl (rk_three, 2100, .inl rg_three)), (pr_beside, .inl (rk_beside, 2100, .inl rg_beside)), (pr_many, .inl (rk_many, 2100, .inl rg_many)), (pr_name, .inl (rk_name, 2100, .inr (.inl rg_name)))]) hD hS hAA [0, 1, 2, 3, 4, 5, 6, 7, 8, 9, 10] rfl
  refine va_calli (va_runV (As := [.int 5, .int pw]) (rest := []) ⟨hx, hb, hml, hown, hA⟩ (c_X14_part_x l dC dI aK aV h0 m_thrown m_stop m_tape m_taped m_length m_at m_sort m_place m_sign m_letters m_p m_spare m_isTaken m_scope m_scoped m_deep m_counted m_fault m_where m_cellKind m_cellCount m_free m_pile m_cellField m_freeCount m_given m_nextPlain m_otherKind m_otherField m_isPlain m_hasRun m_hasValue m_hasOther m_value m_other m_steps m_made m_reused m_freed m_most m_doubled m_openMost m_taskWhat m_taskPart m_values m_tasks m_valued m_open m_slots m_present m_shell m_shellArm m_shellCall m_shells m_keptCounts m_asideKind m_asideCount m_asideField m_out m_side m_outs m_sides m_saying pr_what pr_place pr_own pr_one pr_two pr_three pr_beside pr_many pr_uses pr_behind pr_name pr_makes pr_parts pr_functionName pr_kindName pr_told pr_body pr_first pr_widest pr_fields pr_functions pr_kinds rk_what rk_place rk_own rk_one rk_two rk_three rk_beside rk_many rk_name rg_what rg_place rg_own rg_one rg_two rg_three rg_beside rg_many rg_name rg_fields 5 pw s.heap.size (by omega) (by omega) (by have h9_0 : Int32.toInt 5 = 5 := (by decide); omega) (by have h9_0 : Int32.toInt 5 = 5 := (by decide); omega)) (cwV 2 hA (zw_V wi_1795 wi_1797 wi_86 wi_143 (zw_good wi_1798)) rfl rfl rfl (by decide +kernel) ⟨(Nat.le_of_ble_eq_true rfl), (Nat.le_of_ble_eq_true rfl)⟩) ⟨zP_blind, va_recv hKc hPc (ci := 14) (q0 := 0) rfl rfl, zz_pre hKc hPc hDc hN hT hS hFc⟩ rfl rfl hl.1 rfl (lv_room (Nat.le_of_ble_eq_true rfl)) dX14_both_3 ⟨(Nat.le_of_ble_eq_true rfl), (Nat.le_of_ble_eq_true rfl)⟩) hS (fun q _ h => hFc q h) hFc (fun r_1 u t H1 locs ht hvm hw hB hz1 hk1 hS => ?_)
  obtain ⟨pz_2, n_what_3, n_place_4, n_own_5, n_one_6, n_two_7, n_three_8, n_beside_9, n_many_10, n_name_11⟩ := u
  obtain ⟨hP1, hK1, hD1⟩ := hB
  rw [ht] at hP1
  have hK1 := va_K.moved hvm.symm hK1
  obtain ⟨hP, hD⟩ := va_join (wr := []) (w1 := [(h0, .inr (14, [.int m_thrown, .ref m_stop, .ref m_tape, .int m_taped, .int m_length, .int m_at, .int m_sort, .int m_place, .int m_sign, .long m_letters, .ref m_p, .ref m_spare, .int m_isTaken, .ref m_scope, .int m_scoped, .int m_deep, .int m_counted, .int m_fault, .int m_where, .ref m_cellKind, .ref m_cellCount, .ref m_free, .ref m_pile, .ref m_cellField, .int m_freeCount, .int m_given, .int m_nextPlain, .ref m_otherKind, .ref m_otherField, .int m_isPlain, .int m_hasRun, .int m_hasValue, .int m_hasOther, .long m_value, .long m_other, .int m_steps, .int m_made, .int m_reused, .int m_freed, .int m_most, .int m_doubled, .int m_openMost, .ref m_taskWhat, .ref m_taskPart, .ref m_values, .int m_tasks, .int m_valued, .int m_open, .ref m_slots, .ref m_present, .ref m_shell, .ref m_shellArm, .ref m_shellCall, .int m_shells, .ref m_keptCounts, .ref m_asideKind, .ref m_asideCount, .ref m_asideField, .ref m_out, .ref m_side, .int m_outs, .int m_sides, .ref m_saying])), (m_spare, .inr (12, [.ref pr_what, .ref pr_place, .ref pr_own, .ref pr_one, .ref pr_two, .ref pr_three, .ref pr_beside, .ref pr_many, .ref pr_uses, .ref pr_behind, .ref pr_name, .ref pr_makes, .int pz_2, .ref pr_functionName, .ref pr_kindName, .ref pr_told, .ref pr_body, .ref pr_first, .ref pr_widest, .ref pr_fields, .int pr_functions, .int pr_kinds])), (pr_what, .inl (rk_what, 2100, .inl n_what_3)), (pr_place, .inl (rk_place, 2100, .inl n_place_4)), (pr_own, .inl (rk_own, 2100, .inl n_own_5)), (pr_one, .inl (rk_one, 2100, .inl n_one_6)), (pr_two, .inl (rk_two, 2100, .inl n_two_7)), (pr_three, .inl (rk_three, 2100, .inl n_three_8)), (pr_beside, .inl (rk_beside, 2100, .inl n_beside_9)), (pr_many, .inl (rk_many, 2100, .inl n_many_10)), (pr_name, .inl (rk_name, 2100, .inr (.inl n_name_11)))]) hP hD [0, 1, 2, 3, 4, 5, 6, 7, 8, 9, 10] [] rfl rfl (by decide) (by decide) hk1 hFc hP1 hD1
  have hK := (hK.sub (tys' := []) [] rfl).app hK1
  generalize H1 = H at hP hS ⊢
  have hP : va_P (dC, dI) vwCl [(h0, .inr (14, [.int m_thrown, .ref m_stop, .ref m_tape, .int m_taped, .int m_length, .int m_at, .int m_sort, .int m_place, .int m_sign, .long m_letters, .ref m_p, .ref m_spare, .int m_isTaken, .ref m_scope, .int m_scoped, .int m_deep, .int m_counted, .int m_fault, .int m_where, .ref m_cellKind, .ref m_cellCount, .ref m_free, .ref m_pile, .ref m_cellField, .int m_freeCount, .int m_given, .int m_nextPlain, .ref m_otherKind, .ref m_otherField, .int m_isPlain, .int m_hasRun, .int m_hasValue, .int m_hasOther, .long m_value, .long m_other, .int m_steps, .int m_made, .int m_reused, .int m_freed, .int m_most, .int m_doubled, .int m_openMost, .ref m_taskWhat, .ref m_taskPart, .ref m_values, .int m_tasks, .int m_valued, .int m_open, .ref m_slots, .ref m_present, .ref m_shell, .ref m_shellArm, .ref m_shellCall, .int m_shells, .ref m_keptCounts, .ref m_asideKind, .ref m_asideCount, .ref m_asideField, .ref m_out, .ref m_side, .int m_outs, .int m_sides, .ref m_saying])), (m_spare, .inr (12, [.ref pr_what, .ref pr_place, .ref pr_own, .ref pr_one, .ref pr_two, .ref pr_three, .ref pr_beside, .ref pr_many, .ref pr_uses, .ref pr_behind, .ref pr_name, .ref pr_makes, .int pz_2, .ref pr_functionName, .ref pr_kindName, .ref pr_told, .ref pr_body, .ref pr_first, .ref pr_widest, .ref pr_fields, .int pr_functions, .int pr_kinds])), (pr_what, .inl (rk_what, 2100, .inl n_what_3)), (pr_place, .inl (rk_place, 2100, .inl n_place_4)), (pr_own, .inl (rk_own, 2100, .inl n_own_5)), (pr_one, .inl (rk_one, 2100, .inl n_one_6)), (pr_two, .inl (rk_two, 2100, .inl n_two_7)), (pr_three, .inl (rk_three, 2100, .inl n_three_8)), (pr_beside, .inl (rk_beside, 2100, .inl n_beside_9)), (pr_many, .inl (rk_many, 2100, .inl n_many_10)), (pr_name, .inl (rk_name, 2100, .inr (.inl n_name_11)))] H := hP
  have hD : va_D A [(h0, .inr (14, [.int m_thrown, .ref m_stop, .ref m_tape, .int m_taped, .int m_length, .int m_at, .int m_sort, .int m_place, .int m_sign, .long m_letters, .ref m_p, .ref m_spare, .int m_isTaken, .ref m_scope, .int m_scoped, .int m_deep, .int m_counted, .int m_fault, .int m_where, .ref m_cellKind, .ref m_cellCount, .ref m_free, .ref m_pile, .ref m_cellField, .int m_freeCount, .int m_given, .int m_nextPlain, .ref m_otherKind, .ref m_otherField, .int m_isPlain, .int m_hasRun, .int m_hasValue, .int m_hasOther, .long m_value, .long m_other, .int m_steps, .int m_made, .int m_reused, .int m_freed, .int m_most, .int m_doubled, .int m_openMost, .ref m_taskWhat, .ref m_taskPart, .ref m_values, .int m_tasks, .int m_valued, .int m_open, .ref m_slots, .ref m_present, .ref m_shell, .ref m_shellArm, .ref m_shellCall, .int m_shells, .ref m_keptCounts, .ref m_asideKind, .ref m_asideCount, .ref m_asideField, .ref m_out, .ref m_side, .int m_outs, .int m_sides, .ref m_saying])), (m_spare, .inr (12, [.ref pr_what, .ref pr_place, .ref pr_own, .ref pr_one, .ref pr_two, .ref pr_three, .ref pr_beside, .ref pr_many, .ref pr_uses, .ref pr_behind, .ref pr_name, .ref pr_makes, .int pz_2, .ref pr_functionName, .ref pr_kindName, .ref pr_told, .ref pr_body, .ref pr_first, .ref pr_widest, .ref pr_fields, .int pr_functions, .int pr_kinds])), (pr_what, .inl (rk_what, 2100, .inl n_what_3)), (pr_place, .inl (rk_place, 2100, .inl n_place_4)), (pr_own, .inl (rk_own, 2100, .inl n_own_5)), (pr_one, .inl (rk_one, 2100, .inl n_one_6)), (pr_two, .inl (rk_two, 2100, .inl n_two_7)), (pr_three, .inl (rk_three, 2100, .inl n_three_8)), (pr_beside, .inl (rk_beside, 2100, .inl n_beside_9)), (pr_many, .inl (rk_many, 2100, .inl n_many_10)), (pr_name, .inl (rk_name, 2100, .inr (.inl n_name_11)))] := hD
  have hK : va_K (dC, dI) vwCl [(rk_what, .byte), (rk_place, .int), (rk_own, .int), (rk_one, .int), (rk_two, .int), (rk_three, .int), (rk_beside, .int), (rk_many, .int), (rk_name, .long)] s := hK
  obtain rfl : pr_parts = r_1 := hw.1.symm
  obtain ⟨hq_12, hq_13, hq_14, hq_15, hq_16⟩ := hw
  obtain ⟨w9_17, hpw9_17, hww9_17⟩ := hq_14
  have hvw9_17 : w9_17.toInt = 5 := hww9_17.trans (by decide)
  refine lv_istore (lv' := [(5, .int pr_parts), (0, .ref h0), (1, .int si), (2, .int pw), (3, .int aa), (4, .int bb)]) hx hb dX14_both_6 hl (by decide) rfl (fun ls hl => ?_)
  refine lv_aload_n hx hb dX14_both_8 rfl (lv_at hl 1 rfl) ?_
  refine va_get (D := (dC, dI)) (ci := 14) (v := .ref m_spare) (C := RX14) (T := TX14) (N := 63) hx hb hA zin_X14 hown hK hP 0 rfl rfl 11 (by decide) (hA _ wi_1508) (fun _ h9 => h9) rfl dX14_both_9 ?_
  refine va_getN (D := (dC, dI)) (ci := 12) (v := .ref pr_own) (C := RX12) (T := TX12) (N := 22) hx hb hA zin_X12 hown hK hP 1 rfl rfl 2 (by decide) (va_Nw.use rfl (hN.1 ("ReuseHouseModel", 199, "ReuseHouseModel$Program", "own", "[I", "ReuseHouseModel") (by decide +kernel))) (fun _ h9 => h9) rfl dX14_both_12 ?_
  refine lv_iload hx hb dX14_both_15 (lv_at hl 0 rfl) ?_
  refine lv_iload_n hx hb dX14_both_17 rfl (lv_at hl 2 rfl) ?_
  refine va_iast hx hb hK hP hD hS 4 2 rfl rfl (vp_in_iff.mpr ⟨by omega, by omega⟩) dX14_both_18 (fun H locs hP hD hS => ?_)
  obtain ⟨f_18, ef_18⟩ : ∃ gz9 : Nat → Int32, gz9 = upd n_own_5 (Int32.toNatClampNeg pr_parts) si := ⟨_, rfl⟩
  rw [← ef_18] at hP hD
  have hP : va_P (dC, dI) vwCl [(h0, .inr (14, [.int m_thrown, .ref m_stop, .ref m_tape, .int m_taped, .int m_length, .int m_at, .int m_sort, .int m_place, .int m_sign, .long m_letters, .ref m_p, .ref m_spare, .int m_isTaken, .ref m_scope, .int m_scoped, .int m_deep, .int m_counted, .int m_fault, .int m_where, .ref m_cellKind, .ref m_cellCount, .ref m_free, .ref m_pile, .ref m_cellField, .int m_freeCount, .int m_given, .int m_nextPlain, .ref m_otherKind, .ref m_otherField, .int m_isPlain, .int m_hasRun, .int m_hasValue, .int m_hasOther, .long m_value, .long m_other, .int m_steps, .int m_made, .int m_reused, .int m_freed, .int m_most, .int m_doubled, .int m_openMost, .ref m_taskWhat, .ref m_taskPart, .ref m_values, .int m_tasks, .int m_valued, .int m_open, .ref m_slots, .ref m_present, .ref m_shell, .ref m_shellArm, .ref m_shellCall, .int m_shells, .ref m_keptCounts, .ref m_asideKind, .ref m_asideCount, .ref m_asideField, .ref m_out, .ref m_side, .int m_outs, .int m_sides, .ref m_saying])), (m_spare, .inr (12, [.ref pr_what, .ref pr_place, .ref pr_own, .ref pr_one, .ref pr_two, .ref pr_three, .ref pr_beside, .ref pr_many, .ref pr_uses, .ref pr_behind, .ref pr_name, .ref pr_makes, .int pz_2, .ref pr_functionName, .ref pr_kindName, .ref pr_told, .ref pr_body, .ref pr_first, .ref pr_widest, .ref pr_fields, .int pr_functions, .int pr_kinds])), (pr_what, .inl (rk_what, 2100, .inl n_what_3)), (pr_place, .inl (rk_place, 2100, .inl n_place_4)), (pr_own, .inl (rk_own, 2100, .inl f_18)), (pr_one, .inl (rk_one, 2100, .inl n_one_6)), (pr_two, .inl (rk_two, 2100, .inl n_two_7)), (pr_three, .inl (rk_three, 2100, .inl n_three_8)), (pr_beside, .inl (rk_beside, 2100, .inl n_beside_9)), (pr_many, .inl (rk_many, 2100, .inl n_many_10)), (pr_name, .inl (rk_name, 2100, .inr (.inl n_name_11)))] H := hP
  have hD : va_D A [(h0, .inr (14, [.int m_thrown, .ref m_stop, .ref m_tape, .int m_taped, .int m_length, .int m_at, .int m_sort, .int m_place, .int m_sign, .long m_letters, .ref m_p, .ref m_spare, .int m_isTaken, .ref m_scope, .int m_scoped, .int m_deep, .int m_counted, .int m_fault, .int m_where, .ref m_cellKind, .ref m_cellCount, .ref m_free, .ref m_pile, .ref m_cellField, .int m_freeCount, .int m_given, .int m_nextPlain, .ref m_otherKind, .ref m_otherField, .int m_isPlain, .int m_hasRun, .int m_hasValue, .int m_hasOther, .long m_value, .long m_other, .int m_steps, .int m_made, .int m_reused, .int m_freed, .int m_most, .int m_doubled, .int m_openMost, .ref m_taskWhat, .ref m_taskPart, .ref m_values, .int m_tasks, .int m_valued, .int m_open, .ref m_slots, .ref m_present, .ref m_shell, .ref m_shellArm, .ref m_shellCall, .int m_shells, .ref m_keptCounts, .ref m_asideKind, .ref m_asideCount, .ref m_asideField, .ref m_out, .ref m_side, .int m_outs, .int m_sides, .ref m_saying])), (m_spare, .inr (12, [.ref pr_what, .ref pr_place, .ref pr_own, .ref pr_one, .ref pr_two, .ref pr_three, .ref pr_beside, .ref pr_many, .ref pr_uses, .ref pr_behind, .ref pr_name, .ref pr_makes, .int pz_2, .ref pr_functionName, .ref pr_kindName, .ref pr_told, .ref pr_body, .ref pr_first, .ref pr_widest, .ref pr_fields, .int pr_functions, .int pr_kinds])), (pr_what, .inl (rk_what, 2100, .inl n_what_3)), (pr_place, .inl (rk_place, 2100, .inl n_place_4)), (pr_own, .inl (rk_own, 2100, .inl f_18)), (pr_one, .inl (rk_one, 2100, .inl n_one_6)), (pr_two, .inl (rk_two, 2100, .inl n_two_7)), (pr_three, .inl (rk_three, 2100, .inl n_three_8)), (pr_beside, .inl (rk_beside, 2100, .inl n_beside_9)), (pr_many, .inl (rk_many, 2100, .inl n_many_10)), (pr_name, .inl (rk_name, 2100, .inr (.inl n_name_11)))] := hD
  refine lv_aload_n hx hb dX14_both_19 rfl (lv_at hl 1 rfl) ?_
  refine va_get (D := (dC, dI)) (ci := 14) (v := .ref m_spare) (C := RX14) (T := TX14) (N := 63) hx hb hA zin_X14 hown hK hP 0 rfl rfl 11 (by decide) (hA _ wi_1508) (fun _ h9 => h9) rfl dX14_both_20 ?_
  refine va_getN (D := (dC, dI)) (ci := 12) (v := .ref pr_one) (C := RX12) (T := TX12) (N := 22) hx hb hA zin_X12 hown hK hP 1 rfl rfl 3 (by decide) (va_Nw.use rfl (hN.1 ("ReuseHouseModel", 202, "ReuseHouseModel$Program", "one", "[I", "ReuseHouseModel") (by decide +kernel))) (fun _ h9 => h9) rfl dX14_both_23 ?_
  refine lv_iload hx hb dX14_both_26 (lv_at hl 0 rfl) ?_
  refine lv_iload_n hx hb dX14_both_28 rfl (lv_at hl 4 rfl) ?_
  refine va_iast hx hb hK hP hD hS 5 3 rfl rfl (vp_in_iff.mpr ⟨by omega, by omega⟩) dX14_both_29 (fun H locs hP hD hS => ?_)
  obtain ⟨f_19, ef_19⟩ : ∃ gz9 : Nat → Int32, gz9 = upd n_one_6 (Int32.toNatClampNeg pr_parts) aa := ⟨_, rfl⟩
  rw [← ef_19] at hP hD
  have hP : va_P (dC, dI) vwCl [(h0, .inr (14, [.int m_thrown, .ref m_stop, .ref m_tape, .int m_taped, .int m_length, .int m_at, .int m_sort, .int m_place, .int m_sign, .long m_letters, .ref m_p, .ref m_spare, .int m_isTaken, .ref m_scope, .int m_scoped, .int m_deep, .int m_counted, .int m_fault, .int m_where, .ref m_cellKind, .ref m_cellCount, .ref m_free, .ref m_pile, .ref m_cellField, .int m_freeCount, .int m_given, .int m_nextPlain, .ref m_otherKind, .ref m_otherField, .int m_isPlain, .int m_hasRun, .int m_hasValue, .int m_hasOther, .long m_value, .long m_other, .int m_steps, .int m_made, .int m_reused, .int m_freed, .int m_most, .int m_doubled, .int m_openMost, .ref m_taskWhat, .ref m_taskPart, .ref m_values, .int m_tasks, .int m_valued, .int m_open, .ref m_slots, .ref m_present, .ref m_shell, .ref m_shellArm, .ref m_shellCall, .int m_shells, .ref m_keptCounts, .ref m_asideKind, .ref m_asideCount, .ref m_asideField, .ref m_out, .ref m_side, .int m_outs, .int m_sides, .ref m_saying])), (m_spare, .inr (12, [.ref pr_what, .ref pr_place, .ref pr_own, .ref pr_one, .ref pr_two, .ref pr_three, .ref pr_beside, .ref pr_many, .ref pr_uses, .ref pr_behind, .ref pr_name, .ref pr_makes, .int pz_2, .ref pr_functionName, .ref pr_kindName, .ref pr_told, .ref pr_body, .ref pr_first, .ref pr_widest, .ref pr_fields, .int pr_functions, .int pr_kinds])), (pr_what, .inl (rk_what, 2100, .inl n_what_3)), (pr_place, .inl (rk_place, 2100, .inl n_place_4)), (pr_own, .inl (rk_own, 2100, .inl f_18)), (pr_one, .inl (rk_one, 2100, .inl f_19)), (pr_two, .inl (rk_two, 2100, .inl n_two_7)), (pr_three, .inl (rk_three, 2100, .inl n_three_8)), (pr_beside, .inl (rk_beside, 2100, .inl n_beside_9)), (pr_many, .inl (rk_many, 2100, .inl n_many_10)), (pr_name, .inl (rk_name, 2100, .inr (.inl n_name_11)))] H := hP
  have hD : va_D A [(h0, .inr (14, [.int m_thrown, .ref m_stop, .ref m_tape, .int m_taped, .int m_length, .int m_at, .int m_sort, .int m_place, .int m_sign, .long m_letters, .ref m_p, .ref m_spare, .int m_isTaken, .ref m_scope, .int m_scoped, .int m_deep, .int m_counted, .int m_fault, .int m_where, .ref m_cellKind, .ref m_cellCount, .ref m_free, .ref m_pile, .ref m_cellField, .int m_freeCount, .int m_given, .int m_nextPlain, .ref m_otherKind, .ref m_otherField, .int m_isPlain, .int m_hasRun, .int m_hasValue, .int m_hasOther, .long m_value, .long m_other, .int m_steps, .int m_made, .int m_reused, .int m_freed, .int m_most, .int m_doubled, .int m_openMost, .ref m_taskWhat, .ref m_taskPart, .ref m_values, .int m_tasks, .int m_valued, .int m_open, .ref m_slots, .ref m_present, .ref m_shell, .ref m_shellArm, .ref m_shellCall, .int m_shells, .ref m_keptCounts, .ref m_asideKind, .ref m_asideCount, .ref m_asideField, .ref m_out, .ref m_side, .int m_outs, .int m_sides, .ref m_saying])), (m_spare, .inr (12, [.ref pr_what, .ref pr_place, .ref pr_own, .ref pr_one, .ref pr_two, .ref pr_three, .ref pr_beside, .ref pr_many, .ref pr_uses, .ref pr_behind, .ref pr_name, .ref pr_makes, .int pz_2, .ref pr_functionName, .ref pr_kindName, .ref pr_told, .ref pr_body, .ref pr_first, .ref pr_widest, .ref pr_fields, .int pr_functions, .int pr_kinds])), (pr_what, .inl (rk_what, 2100, .inl n_what_3)), (pr_place, .inl (rk_place, 2100, .inl n_place_4)), (pr_own, .inl (rk_own, 2100, .inl f_18)), (pr_one, .inl (rk_one, 2100, .inl f_19)), (pr_two, .inl (rk_two, 2100, .inl n_two_7)), (pr_three, .inl (rk_three, 2100, .inl n_three_8)), (pr_beside, .inl (rk_beside, 2100, .inl n_beside_9)), (pr_many, .inl (rk_many, 2100, .inl n_many_10)), (pr_name, .inl (rk_name, 2100, .inr (.inl n_name_11)))] := hD
  refine lv_aload_n hx hb dX14_both_30 rfl (lv_at hl 1 rfl) ?_
  refine va_get (D := (dC, dI)) (ci := 14) (v := .ref m_spare) (C := RX14) (T := TX14) (N := 63) hx hb hA zin_X14 hown hK hP 0 rfl rfl 11 (by decide) (hA _ wi_1508) (fun _ h9 => h9) rfl dX14_both_31 ?_
  refine va_getN (D := (dC, dI)) (ci := 12) (v := .ref pr_two) (C := RX12) (T := TX12) (N := 22) hx hb hA zin_X12 hown hK hP 1 rfl rfl 4 (by decide) (va_Nw.use rfl (hN.1 ("ReuseHouseModel", 205, "ReuseHouseModel$Program", "two", "[I", "ReuseHouseModel") (by decide +kernel))) (fun _ h9 => h9) rfl dX14_both_34 ?_
  refine lv_iload hx hb dX14_both_37 (lv_at hl 0 rfl) ?_
  refine lv_iload hx hb dX14_both_39 (lv_at hl 5 rfl) ?_
  refine va_iast hx hb hK hP hD hS 6 4 rfl rfl (vp_in_iff.mpr ⟨by omega, by omega⟩) dX14_both_41 (fun H locs hP hD hS => ?_)
  obtain ⟨f_20, ef_20⟩ : ∃ gz9 : Nat → Int32, gz9 = upd n_two_7 (Int32.toNatClampNeg pr_parts) bb := ⟨_, rfl⟩
  rw [← ef_20] at hP hD
  have hP : va_P (dC, dI) vwCl [(h0, .inr (14, [.int m_thrown, .ref m_stop, .ref m_tape, .int m_taped, .int m_length, .int m_at, .int m_sort, .int m_place, .int m_sign, .long m_letters, .ref m_p, .ref m_spare, .int m_isTaken, .ref m_scope, .int m_scoped, .int m_deep, .int m_counted, .int m_fault, .int m_where, .ref m_cellKind, .ref m_cellCount, .ref m_free, .ref m_pile, .ref m_cellField, .int m_freeCount, .int m_given, .int m_nextPlain, .ref m_otherKind, .ref m_otherField, .int m_isPlain, .int m_hasRun, .int m_hasValue, .int m_hasOther, .long m_value, .long m_other, .int m_steps, .int m_made, .int m_reused, .int m_freed, .int m_most, .int m_doubled, .int m_openMost, .ref m_taskWhat, .ref m_taskPart, .ref m_values, .int m_tasks, .int m_valued, .int m_open, .ref m_slots, .ref m_present, .ref m_shell, .ref m_shellArm, .ref m_shellCall, .int m_shells, .ref m_keptCounts, .ref m_asideKind, .ref m_asideCount, .ref m_asideField, .ref m_out, .ref m_side, .int m_outs, .int m_sides, .ref m_saying])), (m_spare, .inr (12, [.ref pr_what, .ref pr_place, .ref pr_own, .ref pr_one, .ref pr_two, .ref pr_three, .ref pr_beside, .ref pr_many, .ref pr_uses, .ref pr_behind, .ref pr_name, .ref pr_makes, .int pz_2, .ref pr_functionName, .ref pr_kindName, .ref pr_told, .ref pr_body, .ref pr_first, .ref pr_widest, .ref pr_fields, .int pr_functions, .int pr_kinds])), (pr_what, .inl (rk_what, 2100, .inl n_what_3)), (pr_place, .inl (rk_place, 2100, .inl n_place_4)), (pr_own, .inl (rk_own, 2100, .inl f_18)), (pr_one, .inl (rk_one, 2100, .inl f_19)), (pr_two, .inl (rk_two, 2100, .inl f_20)), (pr_three, .inl (rk_three, 2100, .inl n_three_8)), (pr_beside, .inl (rk_beside, 2100, .inl n_beside_9)), (pr_many, .inl (rk_many, 2100, .inl n_many_10)), (pr_name, .inl (rk_name, 2100, .inr (.inl n_name_11)))] H := hP
  have hD : va_D A [(h0, .inr (14, [.int m_thrown, .ref m_stop, .ref m_tape, .int m_taped, .int m_length, .int m_at, .int m_sort, .int m_place, .int m_sign, .long m_letters, .ref m_p, .ref m_spare, .int m_isTaken, .ref m_scope, .int m_scoped, .int m_deep, .int m_counted, .int m_fault, .int m_where, .ref m_cellKind, .ref m_cellCount, .ref m_free, .ref m_pile, .ref m_cellField, .int m_freeCount, .int m_given, .int m_nextPlain, .ref m_otherKind, .ref m_otherField, .int m_isPlain, .int m_hasRun, .int m_hasValue, .int m_hasOther, .long m_value, .long m_other, .int m_steps, .int m_made, .int m_reused, .int m_freed, .int m_most, .int m_doubled, .int m_openMost, .ref m_taskWhat, .ref m_taskPart, .ref m_values, .int m_tasks, .int m_valued, .int m_open, .ref m_slots, .ref m_present, .ref m_shell, .ref m_shellArm, .ref m_shellCall, .int m_shells, .ref m_keptCounts, .ref m_asideKind, .ref m_asideCount, .ref m_asideField, .ref m_out, .ref m_side, .int m_outs, .int m_sides, .ref m_saying])), (m_spare, .inr (12, [.ref pr_what, .ref pr_place, .ref pr_own, .ref pr_one, .ref pr_two, .ref pr_three, .ref pr_beside, .ref pr_many, .ref pr_uses, .ref pr_behind, .ref pr_name, .ref pr_makes, .int pz_2, .ref pr_functionName, .ref pr_kindName, .ref pr_told, .ref pr_body, .ref pr_first, .ref pr_widest, .ref pr_fields, .int pr_functions, .int pr_kinds])), (pr_what, .inl (rk_what, 2100, .inl n_what_3)), (pr_place, .inl (rk_place, 2100, .inl n_place_4)), (pr_own, .inl (rk_own, 2100, .inl f_18)), (pr_one, .inl (rk_one, 2100, .inl f_19)), (pr_two, .inl (rk_two, 2100, .inl f_20)), (pr_three, .inl (rk_three, 2100, .inl n_three_8)), (pr_beside, .inl (rk_beside, 2100, .inl n_beside_9)), (pr_many, .inl (rk_many, 2100, .inl n_many_10)), (pr_name, .inl (rk_name, 2100, .inr (.inl n_name_11)))] := hD
  refine lv_iload hx hb dX14_both_42 (lv_at hl 0 rfl) ?_
  have hP9 := hP.sub (ws' := [(h0, .inr (14, [.int m_thrown, .ref m_stop, .ref m_tape, .int m_taped, .int m_length, .int m_at, .int m_sort, .int m_place, .int m_sign, .long m_letters, .ref m_p, .ref m_spare, .int m_isTaken, .ref m_scope, .int m_scoped, .int m_deep, .int m_counted, .int m_fault, .int m_where, .ref m_cellKind, .ref m_cellCount, .ref m_free, .ref m_pile, .ref m_cellField, .int m_freeCount, .int m_given, .int m_nextPlain, .ref m_otherKind, .ref m_otherField, .int m_isPlain, .int m_hasRun, .int m_hasValue, .int m_hasOther, .long m_value, .long m_other, .int m_steps, .int m_made, .int m_reused, .int m_freed, .int m_most, .int m_doubled, .int m_openMost, .ref m_taskWhat, .ref m_taskPart, .ref m_values, .int m_tasks, .int m_valued, .int m_open, .ref m_slots, .ref m_present, .ref m_shell, .ref m_shellArm, .ref m_shellCall, .int m_shells, .ref m_keptCounts, .ref m_asideKind, .ref m_asideCount, .ref m_asideField, .ref m_out, .ref m_side, .int m_outs, .int m_sides, .ref m_saying])), (m_spare, .inr (12, [.ref pr_what, .ref pr_place, .ref pr_own, .ref pr_one, .ref pr_two, .ref pr_three, .ref pr_beside, .ref pr_many, .ref pr_uses, .ref pr_behind, .ref pr_name, .ref pr_makes, .int pz_2, .ref pr_functionName, .ref pr_kindName, .ref pr_told, .ref pr_body, .ref pr_first, .ref pr_widest, .ref pr_fields, .int pr_functions, .int pr_kinds])), (pr_what, .inl (rk_what, 2100, .inl n_what_3)), (pr_place, .inl (rk_place, 2100, .inl n_place_4)), (pr_own, .inl (rk_own, 2100, .inl f_18)), (pr_one, .inl (rk_one, 2100, .inl f_19)), (pr_two, .inl (rk_two, 2100, .inl f_20)), (pr_three, .inl (rk_three, 2100, .inl n_three_8)), (pr_beside, .inl (rk_beside, 2100, .inl n_beside_9)), (pr_many, .inl (rk_many, 2100, .inl n_many_10)), (pr_name, .inl (rk_name, 2100, .inr (.inl n_name_11)))]) [0, 1, 2, 3, 4, 5, 6, 7, 8, 9, 10] rfl
  have hD9 := hD.sub (ws' := [(h0, .inr (14, [.int m_thrown, .ref m_stop, .ref m_tape, .int m_taped, .int m_length, .int m_at, .int m_sort, .int m_place, .int m_sign, .long m_letters, .ref m_p, .ref m_spare, .int m_isTaken, .ref m_scope, .int m_scoped, .int m_deep, .int m_counted, .int m_fault, .int m_where, .ref m_cellKind, .ref m_cellCount, .ref m_free, .ref m_pile, .ref m_cellField, .int m_freeCount, .int m_given, .int m_nextPlain, .ref m_otherKind, .ref m_otherField, .int m_isPlain, .int m_hasRun, .int m_hasValue, .int m_hasOther, .long m_value, .long m_other, .int m_steps, .int m_made, .int m_reused, .int m_freed, .int m_most, .int m_doubled, .int m_openMost, .ref m_taskWhat, .ref m_taskPart, .ref m_values, .int m_tasks, .int m_valued, .int m_open, .ref m_slots, .ref m_present, .ref m_shell, .ref m_shellArm, .ref m_shellCall, .int m_shells, .ref m_keptCounts, .ref m_asideKind, .ref m_asideCount, .ref m_asideField, .ref m_out, .ref m_side, .int m_outs, .int m_sides, .ref m_saying])), (m_spare, .inr (12, [.ref pr_what, .ref pr_place, .ref pr_own, .ref pr_one, .ref pr_two, .ref pr_three, .ref pr_beside, .ref pr_many, .ref pr_uses, .ref pr_behind, .ref pr_name, .ref pr_makes, .int pz_2, .ref pr_functionName, .ref pr_kindName, .ref pr_told, .ref pr_body, .ref pr_first, .ref pr_widest, .ref pr_fields, .int pr_functions, .int pr_kinds])), (pr_what, .inl (rk_what, 2100, .inl n_what_3)), (pr_place, .inl (rk_place, 2100, .inl n_place_4)), (pr_own, .inl (rk_own, 2100, .inl f_18)), (pr_one, .inl (rk_one, 2100, .inl f_19)), (pr_two, .inl (rk_two, 2100, .inl f_20)), (pr_three, .inl (rk_three, 2100, .inl n_three_8)), (pr_beside, .inl (rk_beside, 2100, .inl n_beside_9)), (pr_many, .inl (rk_many, 2100, .inl n_many_10)), (pr_name, .inl (rk_name, 2100, .inr (.inl n_name_11)))]) [0, 1, 2, 3, 4, 5, 6, 7, 8, 9, 10] (by decide) rfl
  have hK9 := hK.sub (tys' := [(rk_what, .byte), (rk_place, .int), (rk_own, .int), (rk_one, .int), (rk_two, .int), (rk_three, .int), (rk_beside, .int), (rk_many, .int), (rk_name, .long)]) [0, 1, 2, 3, 4, 5, 6, 7, 8] rfl
  exact W.iret (v := pr_parts) hx hb hr (fun t ht hW => ⟨⟨pr_parts, (pz_2, n_what_3, n_place_4, f_18, f_19, f_20, n_three_8, n_beside_9, n_many_10, n_name_11), rfl, ⟨rfl, by omega, ⟨w9_17, (zJp_3 (zJp_2 (zJp_1 hpw9_17 ef_18) ef_19) ef_20), hvw9_17⟩, hq_15, hq_16⟩, by rw [ht]; exact hP9, va_K.moved hW.alike hK9, hD9⟩, hS.F ht⟩) hS.2.2 dX14_both_44

end
