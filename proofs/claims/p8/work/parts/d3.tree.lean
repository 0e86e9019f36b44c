/-! the reference's parts: a tree that is laid out in order, children ahead of their part -/
def zJU (f : Nat → Nat) (z v : Nat) : Nat → Nat := fun k => if k = z then v else f k
theorem zJU_s {f : Nat → Nat} {z v : Nat} : zJU f z v z = v := if_pos rfl
theorem zJU_n {f : Nat → Nat} {z v k : Nat} (h : k ≠ z) : zJU f z v k = f k := if_neg h
/-- roots, one behind the other, from a to z -/
def zJr (L : Nat → Nat) : Nat → Nat → List Nat → Prop
  | a, z, [] => a = z
  | a, z, r :: l => L r = a ∧ a ≤ r ∧ (∀ k, a ≤ k → k ≤ r → a ≤ L k) ∧ zJr L (r + 1) z l
theorem zJr_le {L : Nat → Nat} : ∀ {R : List Nat} {a z : Nat}, zJr L a z R → a ≤ z
  | [], a, z, h => Nat.le_of_eq h
  | r :: l, a, z, h => by have := h.2.1; have := zJr_le h.2.2.2; omega
theorem zJr_in {L : Nat → Nat} : ∀ {R : List Nat} {a z : Nat}, zJr L a z R → ∀ r ∈ R, a ≤ r ∧ r < z
  | [], _, _, _, r, hr => nomatch hr
  | x :: l, a, z, h, r, hr => by
    have h1 := h.2.1
    have h2 := zJr_le h.2.2.2
    rcases List.mem_cons.mp hr with e | e
    · subst e; omega
    · have := zJr_in h.2.2.2 r e; omega
theorem zJr_ext {L L2 : Nat → Nat} : ∀ {R : List Nat} {a z : Nat}, zJr L a z R → (∀ k, a ≤ k → k < z → L2 k = L k) → zJr L2 a z R
  | [], _, _, h, _ => h
  | x :: l, a, z, h, he => by
    have h1 := h.2.1
    have h2 := zJr_le h.2.2.2
    refine ⟨by rw [he x (by omega) (by omega)]; exact h.1, h1, fun k g1 g2 => by rw [he k (by omega) (by omega)]; exact h.2.2.1 k g1 g2, zJr_ext h.2.2.2 (fun k g1 g2 => he k (by omega) g2)⟩
theorem zJr_snoc {L : Nat → Nat} {z r : Nat} (e1 : L r = z) (e2 : z ≤ r) (e3 : ∀ k, z ≤ k → k ≤ r → z ≤ L k) : ∀ {R : List Nat} {a : Nat}, zJr L a z R → zJr L a (r + 1) (R ++ [r])
  | [], a, h => by have h : a = z := h; subst h; exact ⟨e1, e2, e3, rfl⟩
  | x :: l, a, h => ⟨h.1, h.2.1, h.2.2.1, zJr_snoc e1 e2 e3 h.2.2.2⟩
theorem zJr_low {L : Nat → Nat} : ∀ {R : List Nat} {a z : Nat}, zJr L a z R → ∀ k, a ≤ k → k < z → a ≤ L k
  | [], a, z, h, k, h1, h2 => by have h : a = z := h; omega
  | x :: l, a, z, h, k, h1, h2 => by
    by_cases g : k ≤ x
    · exact h.2.2.1 k h1 g
    · have := zJr_low h.2.2.2 k (by omega) h2
      have := h.2.1
      omega
/-- a root is no child of a part between -/
theorem zJr_no {L : Nat → Nat} : ∀ {R : List Nat} {a z : Nat}, zJr L a z R → ∀ r ∈ R, ∀ k, a ≤ k → k < z → k ≤ r ∨ r < L k
  | [], _, _, _, r, hr, _, _, _ => nomatch hr
  | x :: l, a, z, h, r, hr, k, h1, h2 => by
    have g1 := h.2.1
    have g2 := zJr_le h.2.2.2
    rcases List.mem_cons.mp hr with e | e
    · subst e
      by_cases g : k ≤ r
      · exact Or.inl g
      · have := zJr_low h.2.2.2 k (by omega) h2; omega
    · have g3 := zJr_in h.2.2.2 r e
      by_cases g : k ≤ x
      · omega
      · exact zJr_no h.2.2.2 r e k (by omega) h2
/-- two parts have no child in common -/
theorem zJr_one {L : Nat → Nat} {R : List Nat} {a z x k : Nat} (h : zJr L a z R) (hx : x ∈ R) (h1 : a ≤ k) (h2 : k < z) (g1 : L k ≤ x) (g2 : x < k) : False := by
  have := zJr_no h x hx k h1 h2
  omega
/-- S: 0 what, 1 own, 2 one, 3 two, 4 three, 5 beside, 6 many, 7 the kinds' fields, 8 how many kinds. L k: the first part below k; C k: how many names are told there. What is owed of part k -/
def zJn (S : Nat → Nat → Int32) (L C : Nat → Nat) (k : Nat) : Nat → Prop
  | 1 => L k = k
  | 2 => L k = k ∧ 0 ≤ (S 1 k).toInt ∧ (S 1 k).toInt < C k
  | 3 => ∃ R, zJr L (L k) k R ∧ zli (S 5) (S 2 k) R ∧ (R.length : Int) = (S 6 k).toInt ∧ ∀ r ∈ R, C r = C k ∧ (S 0 r).toInt ≠ 9
  | 4 => ∃ R, zJr L (L k) k R ∧ zli (S 5) (S 2 k) R ∧ (R.length : Int) = (S 6 k).toInt ∧ (∀ r ∈ R, C r = C k ∧ (S 0 r).toInt ≠ 9) ∧ R.length ≤ 3 ∧ 0 ≤ (S 1 k).toInt ∧ (S 1 k).toInt < (S 8 0).toInt ∧ S 7 (Int32.toNatClampNeg (S 1 k)) = S 6 k
  | 5 => ∃ a b, zJr L (L k) k [a, b] ∧ (S 2 k).toInt = (a : Nat) ∧ (S 3 k).toInt = (b : Nat) ∧ C a = C k ∧ C b = C k ∧ (S 0 a).toInt ≠ 9 ∧ (S 0 b).toInt ≠ 9
  | 6 => ∃ a b, zJr L (L k) k [a, b] ∧ (S 2 k).toInt = (a : Nat) ∧ (S 3 k).toInt = (b : Nat) ∧ C a = C k ∧ C b = C k + 1 ∧ (S 0 a).toInt ≠ 9 ∧ (S 0 b).toInt ≠ 9 ∧ (S 1 k).toInt = (C k : Nat)
  | 7 => ∃ a b c, zJr L (L k) k [a, b, c] ∧ (S 2 k).toInt = (a : Nat) ∧ (S 3 k).toInt = (b : Nat) ∧ (S 4 k).toInt = (c : Nat) ∧ C a = C k ∧ C b = C k ∧ C c = C k ∧ (S 0 a).toInt ≠ 9 ∧ (S 0 b).toInt ≠ 9 ∧ (S 0 c).toInt ≠ 9
  | 8 => ∃ R, zJr L (L k) k R ∧ zli (S 5) (S 2 k) R ∧ (∀ r ∈ R, C r = C k ∧ (S 0 r).toInt = 9) ∧ 0 ≤ (S 1 k).toInt ∧ (S 1 k).toInt < C k
  | 9 => ∃ a, zJr L (L k) k [a] ∧ (S 2 k).toInt = (a : Nat) ∧ (S 3 k).toInt = (C k : Nat) ∧ (C a : Int) = C k + (S 6 k).toInt ∧ (S 0 a).toInt ≠ 9 ∧ 0 ≤ (S 6 k).toInt ∧ (S 6 k).toInt ≤ 3 ∧ ((S 1 k).toInt = -1 ∧ (S 6 k).toInt = 0 ∨ 0 ≤ (S 1 k).toInt ∧ (S 1 k).toInt < (S 8 0).toInt ∧ S 7 (Int32.toNatClampNeg (S 1 k)) = S 6 k)
  | _ => False
/-- kinds come behind the elder ones, and keep their fields -/
def zJk (S S2 : Nat → Nat → Int32) : Prop := (S 8 0).toInt ≤ (S2 8 0).toInt ∧ ∀ q : Nat, (q : Int) < (S 8 0).toInt → (S 7 q).toInt ≠ -1 → S2 7 q = S 7 q
theorem zJk_rf {S : Nat → Nat → Int32} : zJk S S := ⟨Int.le_refl _, fun _ _ _ => rfl⟩
theorem zJk_tr {S S1 S2 : Nat → Nat → Int32} (a : zJk S S1) (b : zJk S1 S2) : zJk S S2 := ⟨Int.le_trans a.1 b.1, fun q h g => by
  have e := a.2 q h g
  rw [b.2 q (Int.lt_of_lt_of_le h a.1) (by rw [e]; exact g), e]⟩
/-- what part k rests on stays -/
def zJh (S S2 : Nat → Nat → Int32) (L L2 C C2 : Nat → Nat) (lo k : Nat) : Prop := zJk S S2 ∧ (∀ i, i ≤ 6 → i ≠ 5 → ∀ j, lo ≤ j → j ≤ k → S2 i j = S i j) ∧ (∀ j, lo ≤ j → j < k → S2 5 j = S 5 j) ∧ ∀ j, lo ≤ j → j ≤ k → L2 j = L j ∧ C2 j = C j
theorem zJn_ext {S S2 : Nat → Nat → Int32} {L L2 C C2 : Nat → Nat} {k n : Nat} (hk : L k ≤ k) (h : zJh S S2 L L2 C C2 (L k) k) (hn : zJn S L C k n) : zJn S2 L2 C2 k n := by
  obtain ⟨h7, h0, h5, hL⟩ := h
  have eL : L2 k = L k := (hL k hk (Nat.le_refl _)).1
  have eC : C2 k = C k := (hL k hk (Nat.le_refl _)).2
  have er : ∀ {R : List Nat}, zJr L (L k) k R → zJr L2 (L2 k) k R := fun {R} g => by
    rw [eL]; exact zJr_ext g (fun j g1 g2 => (hL j g1 (by omega)).1)
  have ek : ∀ i, i ≤ 6 → i ≠ 5 → S2 i k = S i k := fun i g1 g2 => h0 i g1 g2 k hk (Nat.le_refl _)
  have el : ∀ {R : List Nat} {x : Int32}, zJr L (L k) k R → zli (S 5) x R → zli (S2 5) x R := fun {R x} g u => zli_ext u (fun r hr => by have := zJr_in g r hr; exact h5 r (by omega) (by omega))
  have ei : ∀ {R : List Nat}, zJr L (L k) k R → ∀ r ∈ R, L2 r = L r ∧ C2 r = C r ∧ S2 0 r = S 0 r := fun {R} g r hr => by
    have := zJr_in g r hr
    exact ⟨(hL r (by omega) (by omega)).1, (hL r (by omega) (by omega)).2, h0 0 (by decide) (by decide) r (by omega) (by omega)⟩
  have ef : 0 ≤ (S 1 k).toInt → (S 1 k).toInt < (S 8 0).toInt → S 7 (Int32.toNatClampNeg (S 1 k)) = S 6 k → 0 ≤ (S 6 k).toInt → 0 ≤ (S2 1 k).toInt ∧ (S2 1 k).toInt < (S2 8 0).toInt ∧ S2 7 (Int32.toNatClampNeg (S2 1 k)) = S2 6 k := fun g1 g2 g3 g4 => by
    rw [ek 1 (by decide) (by decide), ek 6 (by decide) (by decide)]
    have := zn_nat g1
    exact ⟨g1, Int.lt_of_lt_of_le g2 h7.1, by rw [h7.2 _ (by omega) (by rw [g3]; omega)]; exact g3⟩
  match n, hn with
  | 1, hn => show L2 k = k; rw [eL]; exact hn
  | 2, hn =>
    obtain ⟨a, b, c⟩ := hn
    exact ⟨by rw [eL]; exact a, by rw [ek 1 (by decide) (by decide)]; exact b, by rw [ek 1 (by decide) (by decide), eC]; exact c⟩
  | 3, hn =>
    obtain ⟨R, g1, g2, g3, g4⟩ := hn
    refine ⟨R, er g1, by rw [ek 2 (by decide) (by decide)]; exact el g1 g2, by rw [ek 6 (by decide) (by decide)]; exact g3, fun r hr => ?_⟩
    rw [(ei g1 r hr).2.1, (ei g1 r hr).2.2, eC]; exact g4 r hr
  | 4, hn =>
    obtain ⟨R, g1, g2, g3, g4, g5, g6, g7, g8⟩ := hn
    refine ⟨R, er g1, by rw [ek 2 (by decide) (by decide)]; exact el g1 g2, by rw [ek 6 (by decide) (by decide)]; exact g3, fun r hr => ?_, g5, ef g6 g7 g8 (by omega)⟩
    rw [(ei g1 r hr).2.1, (ei g1 r hr).2.2, eC]; exact g4 r hr
  | 5, hn =>
    obtain ⟨a, b, g1, g2, g3, g4, g5, g6, g7⟩ := hn
    have ia := ei g1 a List.mem_cons_self
    have ib := ei g1 b (List.mem_cons_of_mem _ List.mem_cons_self)
    refine ⟨a, b, er g1, by rw [ek 2 (by decide) (by decide)]; exact g2, by rw [ek 3 (by decide) (by decide)]; exact g3, by rw [ia.2.1, eC]; exact g4, by rw [ib.2.1, eC]; exact g5, by rw [ia.2.2]; exact g6, by rw [ib.2.2]; exact g7⟩
  | 6, hn =>
    obtain ⟨a, b, g1, g2, g3, g4, g5, g6, g7, g8⟩ := hn
    have ia := ei g1 a List.mem_cons_self
    have ib := ei g1 b (List.mem_cons_of_mem _ List.mem_cons_self)
    refine ⟨a, b, er g1, by rw [ek 2 (by decide) (by decide)]; exact g2, by rw [ek 3 (by decide) (by decide)]; exact g3, by rw [ia.2.1, eC]; exact g4, by rw [ib.2.1, eC]; exact g5, by rw [ia.2.2]; exact g6, by rw [ib.2.2]; exact g7, by rw [ek 1 (by decide) (by decide), eC]; exact g8⟩
  | 7, hn =>
    obtain ⟨a, b, c, g1, g2, g3, g4, g5, g6, g7, g8, g9, g10⟩ := hn
    have ia := ei g1 a List.mem_cons_self
    have ib := ei g1 b (List.mem_cons_of_mem _ List.mem_cons_self)
    have ic := ei g1 c (List.mem_cons_of_mem _ (List.mem_cons_of_mem _ List.mem_cons_self))
    refine ⟨a, b, c, er g1, by rw [ek 2 (by decide) (by decide)]; exact g2, by rw [ek 3 (by decide) (by decide)]; exact g3, by rw [ek 4 (by decide) (by decide)]; exact g4, by rw [ia.2.1, eC]; exact g5, by rw [ib.2.1, eC]; exact g6, by rw [ic.2.1, eC]; exact g7, by rw [ia.2.2]; exact g8, by rw [ib.2.2]; exact g9, by rw [ic.2.2]; exact g10⟩
  | 8, hn =>
    obtain ⟨R, g1, g2, g3, g4, g5⟩ := hn
    refine ⟨R, er g1, by rw [ek 2 (by decide) (by decide)]; exact el g1 g2, fun r hr => ?_, by rw [ek 1 (by decide) (by decide)]; exact g4, by rw [ek 1 (by decide) (by decide), eC]; exact g5⟩
    rw [(ei g1 r hr).2.1, (ei g1 r hr).2.2, eC]; exact g3 r hr
  | 9, hn =>
    obtain ⟨a, g1, g2, g3, g4, g5, g6, g7, g8⟩ := hn
    have ia := ei g1 a List.mem_cons_self
    refine ⟨a, er g1, by rw [ek 2 (by decide) (by decide)]; exact g2, by rw [ek 3 (by decide) (by decide), eC]; exact g3, by rw [ia.2.1, ek 6 (by decide) (by decide), eC]; exact g4, by rw [ia.2.2]; exact g5, by rw [ek 6 (by decide) (by decide)]; exact g6, by rw [ek 6 (by decide) (by decide)]; exact g7, ?_⟩
    rcases g8 with ⟨u, v⟩ | ⟨u, v, w⟩
    · left; rw [ek 1 (by decide) (by decide), ek 6 (by decide) (by decide)]; exact ⟨u, v⟩
    · right; exact ef u v w g6
/-- all parts from a to z -/
def zJs (S : Nat → Nat → Int32) (L C : Nat → Nat) (a z : Nat) : Prop := ∀ k, a ≤ k → k < z → a ≤ L k ∧ L k ≤ k ∧ zJn S L C k (Int32.toNatClampNeg (S 0 k)) ∧ C k ≤ 24
/-- what stays below a -/
def zJf (S S2 : Nat → Nat → Int32) (L L2 C C2 : Nat → Nat) (a : Nat) : Prop := zJk S S2 ∧ ∀ k, k < a → (∀ i, i ≤ 6 → S2 i k = S i k) ∧ L2 k = L k ∧ C2 k = C k
theorem zJf_rf {S : Nat → Nat → Int32} {L C : Nat → Nat} {a : Nat} : zJf S S L L C C a := ⟨zJk_rf, fun _ _ => ⟨fun _ _ => rfl, rfl, rfl⟩⟩
theorem zJf_tr {S S1 S2 : Nat → Nat → Int32} {L L1 L2 C C1 C2 : Nat → Nat} {a b : Nat} (h : zJf S S1 L L1 C C1 a) (g : zJf S1 S2 L1 L2 C1 C2 b) (hab : a ≤ b) : zJf S S2 L L2 C C2 a := ⟨zJk_tr h.1 g.1, fun k hk => by
  have u := h.2 k hk
  have v := g.2 k (by omega)
  exact ⟨fun i hi => (v.1 i hi).trans (u.1 i hi), v.2.1.trans u.2.1, v.2.2.trans u.2.2⟩⟩
theorem zJs_ext {S S2 : Nat → Nat → Int32} {L L2 C C2 : Nat → Nat} {a z : Nat} (h : zJs S L C a z) (g : zJf S S2 L L2 C C2 z) : zJs S2 L2 C2 a z := fun k h1 h2 => by
  obtain ⟨u1, u2, u3, u4⟩ := h k h1 h2
  have v := g.2 k h2
  rw [v.2.1, v.2.2, v.1 0 (by decide)]
  exact ⟨u1, u2, zJn_ext u2 ⟨g.1, fun i hi _ j _ hj => (g.2 j (by omega)).1 i hi, fun j _ hj => (g.2 j (by omega)).1 5 (by decide), fun j _ hj => (g.2 j (by omega)).2⟩ u3, u4⟩
/-- the roots made so far: their numbers, the names told at each, is it an arm -/
def zJl (S0 S : Nat → Nat → Int32) (L0 L C0 C : Nat → Nat) (a z : Nat) (R : List (Nat × Nat × Bool)) : Prop := a ≤ z ∧ zJf S0 S L0 L C0 C a ∧ zJs S L C a z ∧ zJr L a z (R.map (·.1)) ∧ ∀ q ∈ R, C q.1 = q.2.1 ∧ (q.2.2 = false → (S 0 q.1).toInt ≠ 9) ∧ (q.2.2 = true → (S 0 q.1).toInt = 9)
/-- one root from a to z, with nothing beside it -/
def zJE (S0 S : Nat → Nat → Int32) (L0 L C0 C : Nat → Nat) (a z c : Nat) (t : Bool) : Prop := a < z ∧ zJl S0 S L0 L C0 C a z [(z - 1, c, t)] ∧ (S 5 (z - 1)).toInt = -1
theorem zJl_nil {S : Nat → Nat → Int32} {L C : Nat → Nat} {a : Nat} : zJl S S L L C C a a [] := ⟨Nat.le_refl _, zJf_rf, fun k h1 h2 => absurd h1 (by omega), rfl, fun q hq => nomatch hq⟩
theorem zJl_idk {S0 S S2 : Nat → Nat → Int32} {L0 L C0 C : Nat → Nat} {a z : Nat} {R : List (Nat × Nat × Bool)} (h : zJl S0 S L0 L C0 C a z R) (hk : zJk S S2) (hs : ∀ i, i ≤ 6 → S2 i = S i) : zJl S0 S2 L0 L C0 C a z R := by
  have f : zJf S S2 L L C C z := ⟨hk, fun k _ => ⟨fun i hi => by rw [hs i hi], rfl, rfl⟩⟩
  exact ⟨h.1, zJf_tr h.2.1 f h.1, zJs_ext h.2.2.1 f, h.2.2.2.1, fun q hq => by rw [hs 0 (by decide)]; exact h.2.2.2.2 q hq⟩
theorem zJl_add {S0 S S2 : Nat → Nat → Int32} {L0 L L2 C0 C C2 : Nat → Nat} {a z z2 c : Nat} {t : Bool} {R : List (Nat × Nat × Bool)} (h : zJl S0 S L0 L C0 C a z R) (g : zJE S S2 L L2 C C2 z z2 c t) : zJl S0 S2 L0 L2 C0 C2 a z2 (R ++ [(z2 - 1, c, t)]) := by
  obtain ⟨h1, h2, h3, h4, h5⟩ := h
  obtain ⟨g1, ⟨-, g2, g3, g4, g5⟩, g6⟩ := g
  obtain ⟨r1, r2, r3, -⟩ := g4
  have e : z2 - 1 + 1 = z2 := by omega
  refine ⟨by omega, zJf_tr h2 g2 h1, fun k k1 k2 => ?_, ?_, fun q hq => ?_⟩
  · by_cases u : k < z
    · exact zJs_ext h3 g2 k k1 u
    · obtain ⟨v1, v2, v3⟩ := g3 k (by omega) k2
      exact ⟨by omega, v2, v3⟩
  · have := zJr_snoc (R := R.map (·.1)) (L := L2) (z := z) (r := z2 - 1) r1 r2 r3 (zJr_ext h4 (fun k _ hk => (g2.2 k hk).2.1))
    rw [e] at this
    rw [List.map_append]
    exact this
  · rcases List.mem_append.mp hq with u | u
    · have v := h5 q u
      have w := (zJr_in h4 q.1 (List.mem_map_of_mem u)).2
      rw [(g2.2 q.1 w).2.2, (g2.2 q.1 w).1 0 (by decide)]
      exact v
    · exact g5 q u
/-- a new part over the roots -/
theorem zJE_new {S0 S S2 : Nat → Nat → Int32} {L0 L C0 C : Nat → Nat} {a z c n : Nat} {t : Bool} {R : List (Nat × Nat × Bool)} (h : zJl S0 S L0 L C0 C a z R) (hf : ∀ i, i ≤ 6 → ∀ k, k < z → S2 i k = S i k) (hk : zJk S S2) (hw : (S2 0 z).toInt = (n : Int)) (ht : t = true ↔ n = 9) (h5 : (S2 5 z).toInt = -1) (hc : c ≤ 24) (hn : zJl S0 S2 L0 (zJU L z a) C0 (zJU C z c) a z R → zJU L z a z = a → zJU C z c z = c → zJn S2 (zJU L z a) (zJU C z c) z n) : zJE S0 S2 L0 (zJU L z a) C0 (zJU C z c) a (z + 1) c t := by
  have f : zJf S S2 L (zJU L z a) C (zJU C z c) z := ⟨hk, fun k hk => ⟨fun i hi => hf i hi k hk, zJU_n (by omega), zJU_n (by omega)⟩⟩
  obtain ⟨h1, h2, h3, h4, h6⟩ := h
  have hl : zJl S0 S2 L0 (zJU L z a) C0 (zJU C z c) a z R := ⟨h1, zJf_tr h2 f h1, zJs_ext h3 f, zJr_ext h4 (fun k _ hk => zJU_n (by omega)), fun q hq => by
    have w := (zJr_in h4 q.1 (List.mem_map_of_mem hq)).2
    rw [(f.2 q.1 w).2.2, (f.2 q.1 w).1 0 (by decide)]; exact h6 q hq⟩
  have hz := hn hl zJU_s zJU_s
  refine ⟨by omega, ⟨by omega, hl.2.1, fun k k1 k2 => ?_, ⟨?_, ?_, ?_, ?_⟩, fun q hq => ?_⟩, h5⟩
  · by_cases u : k < z
    · exact hl.2.2.1 k k1 u
    · have e : k = z := by omega
      rw [e, zJU_s, zJU_s, zn_lit hw]
      exact ⟨Nat.le_refl _, h1, hz, hc⟩
  · exact zJU_s
  · exact h1
  · intro k k1 k2
    by_cases u : k < z
    · exact (hl.2.2.1 k k1 u).1
    · rw [show k = z by have : k ≤ z := k2; omega, zJU_s]; exact Nat.le_refl _
  · rfl
  · rw [List.mem_singleton.mp hq]
    refine ⟨zJU_s, fun g => ?_, fun g => ?_⟩
    · show (S2 0 z).toInt ≠ 9
      rw [hw]; intro u
      have := ht.mpr (by omega)
      have g : t = false := g
      rw [g] at this; exact nomatch this
    · show (S2 0 z).toInt = 9
      rw [hw, ht.mp g]; rfl
/-- one more beside the last root -/
theorem zJl_be {S0 S S2 : Nat → Nat → Int32} {L0 L C0 C : Nat → Nat} {a z x : Nat} {v : Int32} {R : List (Nat × Nat × Bool)} (h : zJl S0 S L0 L C0 C a z R) (hx : x ∈ R.map (·.1)) (hs : ∀ i, i ≤ 8 → i ≠ 5 → S2 i = S i) (h5 : S2 5 = upd (S 5) x v) : zJl S0 S2 L0 L C0 C a z R := by
  obtain ⟨h1, h2, h3, h4, h6⟩ := h
  have hxa := zJr_in h4 x hx
  have hk : zJk S S2 := by
    unfold zJk
    rw [hs 7 (by decide) (by decide), hs 8 (by decide) (by decide)]
    exact ⟨Int.le_refl _, fun _ _ _ => rfl⟩
  refine ⟨h1, zJf_tr h2 (b := a) ⟨hk, fun k hk => ⟨fun i hi => ?_, rfl, rfl⟩⟩ (Nat.le_refl _), fun k k1 k2 => ?_, h4, fun q hq => by rw [hs 0 (by decide) (by decide)]; exact h6 q hq⟩
  · by_cases e : i = 5
    · rw [e, h5, zu_n (by omega)]
    · rw [hs i (by omega) e]
  · obtain ⟨u1, u2, u3, u4⟩ := h3 k k1 k2
    have hno := zJr_no h4 x hx k k1 k2
    rw [hs 0 (by decide) (by decide)]
    exact ⟨u1, u2, zJn_ext u2 ⟨hk, fun i hi g j _ _ => by rw [hs i (by omega) g], fun j j1 j2 => by rw [h5, zu_n (by omega)], fun _ _ _ => ⟨rfl, rfl⟩⟩ u3, u4⟩
/-- the reference's rows as one -/
def zJS (wh ow on tw th be ma fi : Nat → Int32) (kz : Int32) : Nat → Nat → Int32
  | 0 => wh
  | 1 => ow
  | 2 => on
  | 3 => tw
  | 4 => th
  | 5 => be
  | 6 => ma
  | 7 => fi
  | 8 => fun _ => kz
  | _ => fun _ => 0
/-- part z is written -/
def zJp (S S2 : Nat → Nat → Int32) (z : Nat) (w o a b t m : Int32) : Prop := S2 0 = upd (S 0) z w ∧ S2 1 = upd (S 1) z o ∧ S2 2 = upd (S 2) z a ∧ S2 3 = upd (S 3) z b ∧ S2 4 = upd (S 4) z t ∧ S2 5 = upd (S 5) z (-1) ∧ S2 6 = upd (S 6) z m ∧ S2 7 = S 7 ∧ S2 8 = S 8
theorem zJp_f {S S2 : Nat → Nat → Int32} {z : Nat} {w o a b t m : Int32} (h : zJp S S2 z w o a b t m) : (∀ i, i ≤ 6 → ∀ k, k < z → S2 i k = S i k) ∧ zJk S S2 := by
  obtain ⟨h0, h1, h2, h3, h4, h5, h6, h7, h8⟩ := h
  refine ⟨fun i hi k hk => ?_, by unfold zJk; rw [h7, h8]; exact ⟨Int.le_refl _, fun _ _ _ => rfl⟩⟩
  match i, hi with
  | 0, _ => rw [h0, zu_n (by omega)]
  | 1, _ => rw [h1, zu_n (by omega)]
  | 2, _ => rw [h2, zu_n (by omega)]
  | 3, _ => rw [h3, zu_n (by omega)]
  | 4, _ => rw [h4, zu_n (by omega)]
  | 5, _ => rw [h5, zu_n (by omega)]
  | 6, _ => rw [h6, zu_n (by omega)]
theorem zJm1 : Int32.toInt (-1) = -1 := by decide
theorem zJ_mk {S0 S S2 : Nat → Nat → Int32} {L0 L C0 C : Nat → Nat} {a z c n : Nat} {t : Bool} {R : List (Nat × Nat × Bool)} {w o x y u m : Int32} (h : zJl S0 S L0 L C0 C a z R) (hp : zJp S S2 z w o x y u m) (hw : w.toInt = (n : Int)) (ht : t = true ↔ n = 9) (hc24 : c ≤ 24) (hn : zJl S0 S2 L0 (zJU L z a) C0 (zJU C z c) a z R → zJU L z a z = a → zJU C z c z = c → S2 1 z = o → S2 2 z = x → S2 3 z = y → S2 4 z = u → S2 6 z = m → zJn S2 (zJU L z a) (zJU C z c) z n) : ∃ L2 C2, zJE S0 S2 L0 L2 C0 C2 a (z + 1) c t := by
  have hp' := hp
  obtain ⟨h0, h1, h2, h3, h4, h5, h6, h7, h8⟩ := hp'
  exact ⟨_, _, zJE_new h (zJp_f hp).1 (zJp_f hp).2 (by rw [h0, zu_s]; exact hw) ht (by rw [h5, zu_s]; exact zJm1) hc24 (fun g1 g2 g3 => hn g1 g2 g3 (by rw [h1, zu_s]) (by rw [h2, zu_s]) (by rw [h3, zu_s]) (by rw [h4, zu_s]) (by rw [h6, zu_s]))⟩
theorem zJ_num {S S2 : Nat → Nat → Int32} {L C : Nat → Nat} {z c : Nat} {w o x y u m : Int32} (hp : zJp S S2 z w o x y u m) (hw : w.toInt = 1) (hc24 : c ≤ 24) : ∃ L2 C2, zJE S S2 L L2 C C2 z (z + 1) c false :=
  zJ_mk (n := 1) zJl_nil hp hw (by simp) hc24 (fun _ g _ _ _ _ _ _ => g)
theorem zJ_use {S S2 : Nat → Nat → Int32} {L C : Nat → Nat} {z c : Nat} {w o x y u m : Int32} (hp : zJp S S2 z w o x y u m) (hw : w.toInt = 2) (h0 : 0 ≤ o.toInt) (h1 : o.toInt < (c : Int)) (hc24 : c ≤ 24) : ∃ L2 C2, zJE S S2 L L2 C C2 z (z + 1) c false :=
  zJ_mk (n := 2) (c := c) zJl_nil hp hw (by simp) hc24 (fun _ g gc go _ _ _ _ => ⟨g, by rw [go]; exact h0, by rw [go, gc]; exact h1⟩)
theorem zJ_un {S0 S S2 : Nat → Nat → Int32} {L0 L C0 C : Nat → Nat} {a z : Nat} {R : List (Nat × Nat × Bool)} (h : zJl S0 S L0 L C0 C a z R) (h5 : ∀ k, k < z → S2 5 k = S 5 k) {x : Int32} (hl : zli (S 5) x (R.map (·.1))) : zli (S2 5) x (R.map (·.1)) := zli_ext hl (fun r hr => h5 r (zJr_in h.2.2.2.1 r hr).2)
theorem zJ_all {S : Nat → Nat → Int32} {C : Nat → Nat} {R : List (Nat × Nat × Bool)} {c : Nat} {t : Bool} (h : ∀ q ∈ R, C q.1 = q.2.1 ∧ (q.2.2 = false → (S 0 q.1).toInt ≠ 9) ∧ (q.2.2 = true → (S 0 q.1).toInt = 9)) (hc : ∀ q ∈ R, q.2 = (c, t)) : ∀ r ∈ R.map (·.1), C r = c ∧ (t = false → (S 0 r).toInt ≠ 9) ∧ (t = true → (S 0 r).toInt = 9) := fun r hr => by
  obtain ⟨q, hq, rfl⟩ := List.mem_map.mp hr
  have g := h q hq
  have e := hc q hq
  rw [e] at g; exact g
theorem zJ_call {S0 S S2 : Nat → Nat → Int32} {L0 L C0 C : Nat → Nat} {a z c : Nat} {R : List (Nat × Nat × Bool)} {w o x y u m : Int32} (h : zJl S0 S L0 L C0 C a z R) (hp : zJp S S2 z w o x y u m) (hw : w.toInt = 3) (hc : ∀ q ∈ R, q.2 = (c, false)) (hl : zli (S 5) x (R.map (·.1))) (hm : (R.length : Int) = m.toInt) (hc24 : c ≤ 24) : ∃ L2 C2, zJE S0 S2 L0 L2 C0 C2 a (z + 1) c false :=
  zJ_mk (n := 3) h hp hw (by simp) hc24 (fun g gl gc go gx gy gu gm => ⟨R.map (·.1), by rw [gl]; exact g.2.2.2.1, by rw [gx]; exact zJ_un h (fun k hk => (zJp_f hp).1 5 (by decide) k hk) hl, by rw [gm, List.length_map]; exact hm, fun r hr => by
    have v := zJ_all g.2.2.2.2 hc r hr
    rw [gc]; exact ⟨v.1, v.2.1 rfl⟩⟩)
theorem zJ_made {S0 S S2 : Nat → Nat → Int32} {L0 L C0 C : Nat → Nat} {a z c : Nat} {R : List (Nat × Nat × Bool)} {w o x y u m : Int32} (h : zJl S0 S L0 L C0 C a z R) (hp : zJp S S2 z w o x y u m) (hw : w.toInt = 4) (hc : ∀ q ∈ R, q.2 = (c, false)) (hl : zli (S 5) x (R.map (·.1))) (hm : (R.length : Int) = m.toInt) (hm3 : m.toInt ≤ 3) (ho : 0 ≤ o.toInt) (ho2 : o.toInt < (S 8 0).toInt) (hf : S 7 (Int32.toNatClampNeg o) = m) (hc24 : c ≤ 24) : ∃ L2 C2, zJE S0 S2 L0 L2 C0 C2 a (z + 1) c false :=
  zJ_mk (n := 4) h hp hw (by simp) hc24 (fun g gl gc go gx gy gu gm => ⟨R.map (·.1), by rw [gl]; exact g.2.2.2.1, by rw [gx]; exact zJ_un h (fun k hk => (zJp_f hp).1 5 (by decide) k hk) hl, by rw [gm, List.length_map]; exact hm, fun r hr => by
    have v := zJ_all g.2.2.2.2 hc r hr
    rw [gc]; exact ⟨v.1, v.2.1 rfl⟩, by rw [List.length_map]; omega, by rw [go]; exact ho, by rw [go, hp.2.2.2.2.2.2.2.2]; exact ho2, by rw [go, gm, hp.2.2.2.2.2.2.2.1]; exact hf⟩)
theorem zJ_match {S0 S S2 : Nat → Nat → Int32} {L0 L C0 C : Nat → Nat} {a z c : Nat} {R : List (Nat × Nat × Bool)} {w o x y u m : Int32} (h : zJl S0 S L0 L C0 C a z R) (hp : zJp S S2 z w o x y u m) (hw : w.toInt = 8) (hc : ∀ q ∈ R, q.2 = (c, true)) (hl : zli (S 5) x (R.map (·.1))) (ho : 0 ≤ o.toInt) (ho2 : o.toInt < (c : Int)) (hc24 : c ≤ 24) : ∃ L2 C2, zJE S0 S2 L0 L2 C0 C2 a (z + 1) c false :=
  zJ_mk (n := 8) h hp hw (by simp) hc24 (fun g gl gc go gx gy gu gm => ⟨R.map (·.1), by rw [gl]; exact g.2.2.2.1, by rw [gx]; exact zJ_un h (fun k hk => (zJp_f hp).1 5 (by decide) k hk) hl, fun r hr => by
    have v := zJ_all g.2.2.2.2 hc r hr
    rw [gc]; exact ⟨v.1, v.2.2 rfl⟩, by rw [go]; exact ho, by rw [go, gc]; exact ho2⟩)
theorem zJ_bin {S0 S S2 : Nat → Nat → Int32} {L0 L C0 C : Nat → Nat} {a z c p q : Nat} {w o x y u m : Int32} (h : zJl S0 S L0 L C0 C a z [(p, c, false), (q, c, false)]) (hp : zJp S S2 z w o x y u m) (hw : w.toInt = 5) (hx : x.toInt = (p : Int)) (hy : y.toInt = (q : Int)) (hc24 : c ≤ 24) : ∃ L2 C2, zJE S0 S2 L0 L2 C0 C2 a (z + 1) c false :=
  zJ_mk (n := 5) h hp hw (by simp) hc24 (fun g gl gc go gx gy gu gm => by
    have g1 := g.2.2.2.2 (p, c, false) List.mem_cons_self
    have g2 := g.2.2.2.2 (q, c, false) (List.mem_cons_of_mem _ List.mem_cons_self)
    exact ⟨p, q, by rw [gl]; exact g.2.2.2.1, by rw [gx]; exact hx, by rw [gy]; exact hy, by rw [gc]; exact g1.1, by rw [gc]; exact g2.1, g1.2.1 rfl, g2.2.1 rfl⟩)
theorem zJ_let {S0 S S2 : Nat → Nat → Int32} {L0 L C0 C : Nat → Nat} {a z c p q : Nat} {w o x y u m : Int32} (h : zJl S0 S L0 L C0 C a z [(p, c, false), (q, c + 1, false)]) (hp : zJp S S2 z w o x y u m) (hw : w.toInt = 6) (hx : x.toInt = (p : Int)) (hy : y.toInt = (q : Int)) (ho : o.toInt = (c : Int)) (hc24 : c ≤ 24) : ∃ L2 C2, zJE S0 S2 L0 L2 C0 C2 a (z + 1) c false :=
  zJ_mk (n := 6) h hp hw (by simp) hc24 (fun g gl gc go gx gy gu gm => by
    have g1 := g.2.2.2.2 (p, c, false) List.mem_cons_self
    have g2 := g.2.2.2.2 (q, c + 1, false) (List.mem_cons_of_mem _ List.mem_cons_self)
    exact ⟨p, q, by rw [gl]; exact g.2.2.2.1, by rw [gx]; exact hx, by rw [gy]; exact hy, by rw [gc]; exact g1.1, by rw [gc]; exact g2.1, g1.2.1 rfl, g2.2.1 rfl, by rw [go, gc]; exact ho⟩)
theorem zJ_if {S0 S S2 : Nat → Nat → Int32} {L0 L C0 C : Nat → Nat} {a z c p q r : Nat} {w o x y u m : Int32} (h : zJl S0 S L0 L C0 C a z [(p, c, false), (q, c, false), (r, c, false)]) (hp : zJp S S2 z w o x y u m) (hw : w.toInt = 7) (hx : x.toInt = (p : Int)) (hy : y.toInt = (q : Int)) (hu : u.toInt = (r : Int)) (hc24 : c ≤ 24) : ∃ L2 C2, zJE S0 S2 L0 L2 C0 C2 a (z + 1) c false :=
  zJ_mk (n := 7) h hp hw (by simp) hc24 (fun g gl gc go gx gy gu gm => by
    have g1 := g.2.2.2.2 (p, c, false) List.mem_cons_self
    have g2 := g.2.2.2.2 (q, c, false) (List.mem_cons_of_mem _ List.mem_cons_self)
    have g3 := g.2.2.2.2 (r, c, false) (List.mem_cons_of_mem _ (List.mem_cons_of_mem _ List.mem_cons_self))
    exact ⟨p, q, r, by rw [gl]; exact g.2.2.2.1, by rw [gx]; exact hx, by rw [gy]; exact hy, by rw [gu]; exact hu, by rw [gc]; exact g1.1, by rw [gc]; exact g2.1, by rw [gc]; exact g3.1, g1.2.1 rfl, g2.2.1 rfl, g3.2.1 rfl⟩)
theorem zJ_arm {S0 S S2 : Nat → Nat → Int32} {L0 L C0 C : Nat → Nat} {a z c c2 p : Nat} {w o x y u m : Int32} (h : zJl S0 S L0 L C0 C a z [(p, c2, false)]) (hp : zJp S S2 z w o x y u m) (hw : w.toInt = 9) (hx : x.toInt = (p : Int)) (hy : y.toInt = (c : Int)) (hc : (c2 : Int) = c + m.toInt) (hm : 0 ≤ m.toInt) (hm3 : m.toInt ≤ 3) (ho : o.toInt = -1 ∧ m.toInt = 0 ∨ 0 ≤ o.toInt ∧ o.toInt < (S 8 0).toInt ∧ S 7 (Int32.toNatClampNeg o) = m) (hc24 : c ≤ 24) : ∃ L2 C2, zJE S0 S2 L0 L2 C0 C2 a (z + 1) c true :=
  zJ_mk (n := 9) h hp hw (by simp) hc24 (fun g gl gc go gx gy gu gm => by
    have g1 := g.2.2.2.2 (p, c2, false) List.mem_cons_self
    refine ⟨p, by rw [gl]; exact g.2.2.2.1, by rw [gx]; exact hx, by rw [gy, gc]; exact hy, by rw [gc, gm, g1.1]; exact hc, g1.2.1 rfl, by rw [gm]; exact hm, by rw [gm]; exact hm3, ?_⟩
    rw [go, gm, hp.2.2.2.2.2.2.2.2, hp.2.2.2.2.2.2.2.1]; exact ho)
theorem zJl_one {S0 S : Nat → Nat → Int32} {L0 L C0 C : Nat → Nat} {a z c : Nat} {t : Bool} (h : zJE S0 S L0 L C0 C a z c t) : zJl S0 S L0 L C0 C a z [(z - 1, c, t)] := h.2.1
/-- the same root, where only kinds have come since -/
theorem zJE_idk {S0 S S2 : Nat → Nat → Int32} {L0 L C0 C : Nat → Nat} {a z c : Nat} {t : Bool} (h : zJE S0 S L0 L C0 C a z c t) (hk : zJk S S2) (hs : ∀ i, i ≤ 6 → S2 i = S i) : zJE S0 S2 L0 L C0 C a z c t := ⟨h.1, zJl_idk h.2.1 hk hs, by rw [hs 5 (by decide)]; exact h.2.2⟩
/-- kinds ahead of it -/
theorem zJl_pre {S0 S1 S : Nat → Nat → Int32} {L0 L C0 C : Nat → Nat} {a z : Nat} {R : List (Nat × Nat × Bool)} (hk : zJk S0 S1) (hs : ∀ i, i ≤ 6 → S1 i = S0 i) (h : zJl S1 S L0 L C0 C a z R) : zJl S0 S L0 L C0 C a z R := ⟨h.1, zJf_tr (b := a) ⟨hk, fun k _ => ⟨fun i hi => by rw [hs i hi], rfl, rfl⟩⟩ h.2.1 (Nat.le_refl _), h.2.2⟩
/-- the roots of a chain: its first, its last, how many -/
def zJG (S0 S : Nat → Nat → Int32) (L0 L C0 C : Nat → Nat) (a z c : Nat) (t : Bool) (fi la : Int32) (n : Int) : Prop := ∃ R, zJl S0 S L0 L C0 C a z R ∧ (∀ q ∈ R, q.2 = (c, t)) ∧ zli (S 5) fi (R.map (·.1)) ∧ (R.length : Int) = n ∧ (n ≠ 0 → a < z ∧ la.toInt = ((z - 1 : Nat) : Int) ∧ (S 5 (z - 1)).toInt = -1 ∧ ∃ P, R = P ++ [(z - 1, c, t)])
theorem zJG_nil {S : Nat → Nat → Int32} {L C : Nat → Nat} {a c : Nat} {t : Bool} {fi la : Int32} {n : Int} (hf : fi.toInt = -1) (hn : n = 0) : zJG S S L L C C a a c t fi la n := ⟨[], zJl_nil, (fun q hq => nomatch hq), hf, hn.symm, fun g => absurd hn g⟩
theorem zJG_0 {S0 S S2 : Nat → Nat → Int32} {L0 L L2 C0 C C2 : Nat → Nat} {a z z2 c : Nat} {t : Bool} {fi la e : Int32} {n n2 : Int} (h : zJG S0 S L0 L C0 C a z c t fi la n) (hn : n = 0) (g : zJE S S2 L L2 C C2 z z2 c t) (he : e.toInt = ((z2 - 1 : Nat) : Int)) (en : n2 = 1) : zJG S0 S2 L0 L2 C0 C2 a z2 c t e e n2 := by
  obtain ⟨R, h1, h2, h3, h4, h5⟩ := h
  have e0 : R = [] := List.eq_nil_of_length_eq_zero (by omega)
  subst e0
  have := zJl_add h1 g
  refine ⟨[(z2 - 1, c, t)], this, fun q hq => by rw [List.mem_singleton.mp hq], ⟨he, g.2.2⟩, by rw [en]; rfl, fun _ => ⟨by have := g.1; have := h1.1; omega, he, g.2.2, [], rfl⟩⟩
theorem zli_sn {nx nx2 : Nat → Int32} {x y : Nat} (h1 : (nx2 x).toInt = (y : Int)) (h2 : (nx2 y).toInt = -1) : ∀ {P : List Nat} {f : Int32}, zli nx f (P ++ [x]) → (∀ r ∈ P, nx2 r = nx r) → zli nx2 f (P ++ [x] ++ [y])
  | [], f, h, _ => ⟨h.1, h1, h2⟩
  | p :: P, f, h, he => ⟨h.1, by rw [he p List.mem_cons_self]; exact zli_sn h1 h2 h.2 (fun r hr => he r (List.mem_cons_of_mem _ hr))⟩
theorem zJr_lt {L : Nat → Nat} {x z : Nat} : ∀ {P : List Nat} {a : Nat}, zJr L a z (P ++ [x]) → ∀ r ∈ P, r < x
  | [], _, _, r, hr => nomatch hr
  | p :: P, a, h, r, hr => by
    rcases List.mem_cons.mp hr with e | e
    · subst e
      have := zJr_in h.2.2.2 x (List.mem_append.mpr (Or.inr List.mem_cons_self)); omega
    · exact zJr_lt h.2.2.2 r e
theorem zJG_add {S0 S S2 S3 : Nat → Nat → Int32} {L0 L L2 C0 C C2 : Nat → Nat} {a z z2 c : Nat} {t : Bool} {fi la e : Int32} {n n2 : Int} (h : zJG S0 S L0 L C0 C a z c t fi la n) (hn : n ≠ 0) (g : zJE S S2 L L2 C C2 z z2 c t) (he : e.toInt = ((z2 - 1 : Nat) : Int)) (en : n2 = n + 1) (hs : ∀ i, i ≤ 8 → i ≠ 5 → S3 i = S2 i) (h5 : S3 5 = upd (S2 5) (Int32.toNatClampNeg la) e) : zJG S0 S3 L0 L2 C0 C2 a z2 c t fi e n2 := by
  obtain ⟨R, h1, h2, h3, h4, h6⟩ := h
  obtain ⟨k1, k2, k3, P, k4⟩ := h6 hn
  have hla : Int32.toNatClampNeg la = z - 1 := zn_lit k2
  have hz := g.1
  have hA := zJl_add h1 g
  have hx : z - 1 ∈ R.map (·.1) := by rw [k4, List.map_append]; exact List.mem_append.mpr (Or.inr List.mem_cons_self)
  have hB := zJl_be (S2 := S3) hA (x := z - 1) (v := e) (by rw [List.map_append]; exact List.mem_append.mpr (Or.inl hx)) hs (by rw [h5, hla])
  refine ⟨_, hB, fun q hq => ?_, ?_, by rw [en, List.length_append, ← h4]; rfl, fun _ => ⟨by omega, he, ?_, R, rfl⟩⟩
  · rcases List.mem_append.mp hq with u | u
    · exact h2 q u
    · rw [List.mem_singleton.mp u]
  · rw [List.map_append, k4, List.map_append]
    have h4' := h1.2.2.2.1
    rw [k4, List.map_append] at h4' h3
    refine zli_sn (nx := S 5) (x := z - 1) (y := z2 - 1) ?_ ?_ h3 (fun r hr => ?_)
    · rw [h5, hla, zu_s]; exact he
    · rw [h5, hla, zu_n (by omega)]; exact g.2.2
    · have : r < z - 1 := zJr_lt h4' r hr
      rw [h5, hla, zu_n (by omega)]
      exact (g.2.1.2.1.2 r (by omega)).1 5 (by decide)
  · rw [h5, hla, zu_n (by omega)]; exact g.2.2
