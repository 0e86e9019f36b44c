/-! the reference's tasks: what is still to be done, with how many open calls, how many values, which names -/
def zTd (S : Nat → Nat → Int32) (u : Nat → Int32) (M : Nat → Prop) (k h h' : Nat) : Prop :=
  (((S 0 k).toInt = 3 ∨ (S 0 k).toInt = 4) ∧ (h : Int) = h' + (S 6 k).toInt) ∨ ((S 0 k).toInt = 5 ∧ h = h' + 2) ∨
  ((S 0 k).toInt = 6 ∧ h = h' + 1 ∧ ∀ j, j < 32 → j ≠ Int32.toNatClampNeg (S 1 k) → zbit (u (Int32.toNatClampNeg (S 3 k))) j = true → M j) ∨
  ((S 0 k).toInt = 7 ∧ h = h' + 1 ∧ ∀ j, j < 32 → zbit (u (Int32.toNatClampNeg (S 3 k))) j = true ∨ zbit (u (Int32.toNatClampNeg (S 4 k))) j = true → M j)
theorem zTd_m {S : Nat → Nat → Int32} {u : Nat → Int32} {M M2 : Nat → Prop} {k h h' : Nat} (a : zTd S u M k h h') (hm : ∀ j, M j → M2 j) : zTd S u M2 k h h' := by
  rcases a with a | a | ⟨a1, a2, a3⟩ | ⟨a1, a2, a3⟩
  · exact Or.inl a
  · exact Or.inr (Or.inl a)
  · exact Or.inr (Or.inr (Or.inl ⟨a1, a2, fun j h1 h2 h3 => hm j (a3 j h1 h2 h3)⟩))
  · exact Or.inr (Or.inr (Or.inr ⟨a1, a2, fun j h1 h2 => hm j (a3 j h1 h2)⟩))
def zTK (S : Nat → Nat → Int32) (u b : Nat → Int32) (z : Nat) (pr tw tp : Nat → Int32) : Nat → Nat → Nat → (Nat → Prop) → Prop
  | 0, o, h, _ => o = 0 ∧ h = 1
  | t + 1, o, h, M =>
    ((tw t).toInt = 0 ∧ 0 ≤ (tp t).toInt ∧ Int32.toNatClampNeg (tp t) < z ∧ (S 0 (Int32.toNatClampNeg (tp t))).toInt ≠ 9 ∧ (∀ j, j < 32 → zbit (u (Int32.toNatClampNeg (tp t))) j = true → M j) ∧ ∃ M' : Nat → Prop, (∀ j, M' j → M j ∧ j < 32 ∧ zbit (b (Int32.toNatClampNeg (tp t))) j = true) ∧ zTK S u b z pr tw tp t o (h + 1) M') ∨
    ((tw t).toInt = 1 ∧ 0 ≤ (tp t).toInt ∧ Int32.toNatClampNeg (tp t) < z ∧ ∃ (M' : Nat → Prop) (h' : Nat), (∀ j, M' j → M j ∧ j < 32 ∧ zbit (b (Int32.toNatClampNeg (tp t))) j = true) ∧ zTd S u M (Int32.toNatClampNeg (tp t)) h h' ∧ zTK S u b z pr tw tp t o (h' + 1) M') ∨
    ((tw t).toInt = 2 ∧ zTK S u b z pr tw tp t o h M) ∨
    ((tw t).toInt = 3 ∧ ∃ (M' : Nat → Prop) (o' : Nat), o = o' + 1 ∧ (t = 0 ∨ 1 ≤ o') ∧ (∀ j, M' j → 1 ≤ o' ∧ j < 32 ∧ zbit (pr (o' - 1)) j = true) ∧ zTK S u b z pr tw tp t o' h M')
theorem zTK_ext {S : Nat → Nat → Int32} {u b : Nat → Int32} {z : Nat} {pr tw tp : Nat → Int32} {pr2 tw2 tp2 : Nat → Int32} : ∀ {t o h : Nat} {M M2 : Nat → Prop}, zTK S u b z pr tw tp t o h M → (∀ j, M j → M2 j) → (∀ i, i + 1 < o → pr2 i = pr i) → (∀ i, i < t → tw2 i = tw i) → (∀ i, i < t → tp2 i = tp i) → zTK S u b z pr2 tw2 tp2 t o h M2
  | 0, _, _, _, _, a, _, _, _, _ => a
  | t + 1, o, h, M, M2, a, hm, hp, h1, h2 => by
    have e1 := h1 t (by omega)
    have e2 := h2 t (by omega)
    have r1 : ∀ i, i < t → tw2 i = tw i := fun i hi => h1 i (by omega)
    have r2 : ∀ i, i < t → tp2 i = tp i := fun i hi => h2 i (by omega)
    show _ ∨ _ ∨ _ ∨ _
    rw [e1, e2]
    rcases a with ⟨a1, a2, a3, a4, a5, M', a6, a7⟩ | ⟨a1, a2, a3, M', h', a6, a7, a8⟩ | ⟨a1, a2⟩ | ⟨a1, M', o', a2, a20, a3, a4⟩
    · exact Or.inl ⟨a1, a2, a3, a4, fun j hj g => hm j (a5 j hj g), M', fun j g => ⟨hm j (a6 j g).1, (a6 j g).2⟩, zTK_ext a7 (fun _ g => g) hp r1 r2⟩
    · exact Or.inr (Or.inl ⟨a1, a2, a3, M', h', fun j g => ⟨hm j (a6 j g).1, (a6 j g).2⟩, zTd_m a7 hm, zTK_ext a8 (fun _ g => g) hp r1 r2⟩)
    · exact Or.inr (Or.inr (Or.inl ⟨a1, zTK_ext a2 hm hp r1 r2⟩))
    · refine Or.inr (Or.inr (Or.inr ⟨a1, M', o', a2, a20, fun j g => ?_, zTK_ext a4 (fun _ g => g) (fun i hi => hp i (by omega)) r1 r2⟩))
      have := a3 j g
      exact ⟨this.1, this.2.1, by rw [hp _ (by omega)]; exact this.2.2⟩
/-- a bound of the values -/
theorem zTK_b {S : Nat → Nat → Int32} {u b : Nat → Int32} {z : Nat} {pr tw tp : Nat → Int32} (hm : ∀ k, k < z → (S 0 k).toInt = 3 ∨ (S 0 k).toInt = 4 → (S 6 k).toInt ≤ 6) : ∀ {t o h : Nat} {M : Nat → Prop}, zTK S u b z pr tw tp t o h M → h ≤ 1 + 5 * t
  | 0, _, _, _, a => by have := a.2; omega
  | t + 1, o, h, M, a => by
    rcases a with ⟨-, -, -, -, -, M', -, a7⟩ | ⟨-, -, a3, M', h', -, a7, a8⟩ | ⟨-, a2⟩ | ⟨-, M', o', -, -, -, a4⟩
    · have := zTK_b hm a7; omega
    · have := zTK_b hm a8
      rcases a7 with ⟨q, e⟩ | ⟨-, e⟩ | ⟨-, e, -⟩ | ⟨-, e, -⟩
      · have := hm _ a3 q; omega
      · omega
      · omega
      · omega
    · have := zTK_b hm a2; omega
    · have := zTK_b hm a4; omega
theorem zTK_w {S : Nat → Nat → Int32} {u b : Nat → Int32} {z : Nat} {pr tw tp : Nat → Int32} {tw2 tp2 : Nat → Int32} {t o h : Nat} {M : Nat → Prop} {w k : Int32} (a : zTK S u b z pr tw tp t o (h + 1) M) (hk0 : 0 ≤ k.toInt) (hk : Int32.toNatClampNeg k < z) (h9 : (S 0 (Int32.toNatClampNeg k)).toInt ≠ 9) (hb : ∀ j, M j → j < 32 ∧ zbit (b (Int32.toNatClampNeg k)) j = true) (hw : w.toInt = 0) (ew : zTa tw tw2 t w) (ep : zTa tp tp2 t k) : zTK S u b z pr tw2 tp2 (t + 1) o h (fun j => M j ∨ j < 32 ∧ zbit (u (Int32.toNatClampNeg k)) j = true) := by
  show _ ∨ _ ∨ _ ∨ _
  rw [ew.1, ep.1]
  exact Or.inl ⟨hw, hk0, hk, h9, fun j hj g => Or.inr ⟨hj, g⟩, M, fun j g => ⟨Or.inl g, hb j g⟩, zTK_ext a (fun _ g => g) (fun _ _ => rfl) ew.2 ep.2⟩
theorem zTK_d {S : Nat → Nat → Int32} {u b : Nat → Int32} {z : Nat} {pr tw tp : Nat → Int32} {tw2 tp2 : Nat → Int32} {t o h h' : Nat} {M M2 : Nat → Prop} {w k : Int32} (a : zTK S u b z pr tw tp t o (h' + 1) M) (hk0 : 0 ≤ k.toInt) (hk : Int32.toNatClampNeg k < z) (hb : ∀ j, M j → M2 j ∧ j < 32 ∧ zbit (b (Int32.toNatClampNeg k)) j = true) (hd : zTd S u M2 (Int32.toNatClampNeg k) h h') (hw : w.toInt = 1) (ew : zTa tw tw2 t w) (ep : zTa tp tp2 t k) : zTK S u b z pr tw2 tp2 (t + 1) o h M2 := by
  show _ ∨ _ ∨ _ ∨ _
  rw [ew.1, ep.1]
  exact Or.inr (Or.inl ⟨hw, hk0, hk, M, h', hb, hd, zTK_ext a (fun _ g => g) (fun _ _ => rfl) ew.2 ep.2⟩)
theorem zTK_e {S : Nat → Nat → Int32} {u b : Nat → Int32} {z : Nat} {pr tw tp : Nat → Int32} {tw2 tp2 : Nat → Int32} {t o h : Nat} {M : Nat → Prop} {w k : Int32} (a : zTK S u b z pr tw tp t o h M) (hw : w.toInt = 2) (ew : zTa tw tw2 t w) (ep : zTa tp tp2 t k) : zTK S u b z pr tw2 tp2 (t + 1) o h M := by
  show _ ∨ _ ∨ _ ∨ _
  rw [ew.1, ep.1]
  exact Or.inr (Or.inr (Or.inl ⟨hw, zTK_ext a (fun _ g => g) (fun _ _ => rfl) ew.2 ep.2⟩))
theorem zTK_l {S : Nat → Nat → Int32} {u b : Nat → Int32} {z : Nat} {pr tw tp : Nat → Int32} {tw2 tp2 : Nat → Int32} {t o h : Nat} {M : Nat → Prop} {w k : Int32} (a : zTK S u b z pr tw tp t o h M) (hm : ∀ j, M j → 1 ≤ o ∧ j < 32 ∧ zbit (pr (o - 1)) j = true) (hto : t = 0 ∨ 1 ≤ o) (hw : w.toInt = 3) (ew : zTa tw tw2 t w) (ep : zTa tp tp2 t k) : zTK S u b z pr tw2 tp2 (t + 1) (o + 1) h (fun _ => False) := by
  show _ ∨ _ ∨ _ ∨ _
  rw [ew.1, ep.1]
  exact Or.inr (Or.inr (Or.inr ⟨hw, M, o, rfl, hto, hm, zTK_ext a (fun _ g => g) (fun _ _ => rfl) ew.2 ep.2⟩))
/-- the tasks as they stand, with the names of the open call -/
def zTS (S : Nat → Nat → Int32) (u b : Nat → Int32) (z : Nat) (pr tw tp : Nat → Int32) (t o h : Nat) : Prop := ∃ M, zTK S u b z pr tw tp t o h M ∧ ∀ j, M j → 1 ≤ o ∧ j < 32 ∧ zbit (pr (o - 1)) j = true
/-- part k is to be worked -/
def zTW (S : Nat → Nat → Int32) (u b : Nat → Int32) (z : Nat) (pr tw tp : Nat → Int32) (t o h k : Nat) : Prop := ∃ M, zTK S u b z pr tw tp t o (h + 1) M ∧ (∀ j, M j → 1 ≤ o ∧ j < 32 ∧ zbit (pr (o - 1)) j = true ∧ zbit (b k) j = true) ∧ ∀ j, j < 32 → zbit (u k) j = true → 1 ≤ o ∧ zbit (pr (o - 1)) j = true
/-- part k is to be done -/
def zTD (S : Nat → Nat → Int32) (u b : Nat → Int32) (z : Nat) (pr tw tp : Nat → Int32) (t o h k : Nat) : Prop := ∃ M h', zTK S u b z pr tw tp t o (h' + 1) M ∧ (∀ j, M j → 1 ≤ o ∧ j < 32 ∧ zbit (pr (o - 1)) j = true ∧ zbit (b k) j = true) ∧ zTd S u (fun j => 1 ≤ o ∧ j < 32 ∧ zbit (pr (o - 1)) j = true) k h h'
theorem zTS_pop {S : Nat → Nat → Int32} {u b : Nat → Int32} {z : Nat} {pr tw tp : Nat → Int32} {t o h : Nat} (a : zTS S u b z pr tw tp (t + 1) o h) : ((tw t).toInt = 0 ∧ 0 ≤ (tp t).toInt ∧ Int32.toNatClampNeg (tp t) < z ∧ (S 0 (Int32.toNatClampNeg (tp t))).toInt ≠ 9 ∧ zTW S u b z pr tw tp t o h (Int32.toNatClampNeg (tp t))) ∨ ((tw t).toInt = 1 ∧ 0 ≤ (tp t).toInt ∧ Int32.toNatClampNeg (tp t) < z ∧ zTD S u b z pr tw tp t o h (Int32.toNatClampNeg (tp t))) ∨ ((tw t).toInt = 2 ∧ zTS S u b z pr tw tp t o h) ∨ ((tw t).toInt = 3 ∧ ∃ o', o = o' + 1 ∧ (t = 0 ∨ 1 ≤ o') ∧ zTS S u b z pr tw tp t o' h) := by
  obtain ⟨M, a, hm⟩ := a
  rcases a with ⟨a1, a2, a3, a4, a5, M', a6, a7⟩ | ⟨a1, a2, a3, M', h', a6, a7, a8⟩ | ⟨a1, a2⟩ | ⟨a1, M', o', a2, a20, a3, a4⟩
  · exact Or.inl ⟨a1, a2, a3, a4, M', a7, fun j g => ⟨(hm j (a6 j g).1).1, (a6 j g).2.1, (hm j (a6 j g).1).2.2, (a6 j g).2.2⟩, fun j hj g => ⟨(hm j (a5 j hj g)).1, (hm j (a5 j hj g)).2.2⟩⟩
  · exact Or.inr (Or.inl ⟨a1, a2, a3, M', h', a8, fun j g => ⟨(hm j (a6 j g).1).1, (a6 j g).2.1, (hm j (a6 j g).1).2.2, (a6 j g).2.2⟩, zTd_m a7 hm⟩)
  · exact Or.inr (Or.inr (Or.inl ⟨a1, M, a2, hm⟩))
  · exact Or.inr (Or.inr (Or.inr ⟨a1, o', a2, a20, M', a4, a3⟩))
theorem zTW_s {S : Nat → Nat → Int32} {u b : Nat → Int32} {z : Nat} {pr tw tp : Nat → Int32} {t o h k : Nat} (a : zTW S u b z pr tw tp t o h k) : zTS S u b z pr tw tp t o (h + 1) := by
  obtain ⟨M, a, hm, -⟩ := a
  exact ⟨M, a, fun j g => ⟨(hm j g).1, (hm j g).2.1, (hm j g).2.2.1⟩⟩
/-- one name that is not needed behind k goes -/
theorem zTW_rm {S : Nat → Nat → Int32} {u b : Nat → Int32} {z : Nat} {pr tw tp : Nat → Int32} {pr2 : Nat → Int32} {t o h k f s : Nat} {bt : Int32} (a : zTW S u b z pr tw tp t o h k) (hf : f = o - 1) (e : pr2 = upd pr f (pr f &&& (bt ^^^ (-1)))) (hb : ∀ i, i < 32 → zbit bt i = (i == s)) (hs : zbit (b k) s = false) : zTS S u b z pr2 tw tp t o (h + 1) := by
  obtain ⟨M, a, hm, -⟩ := a
  refine ⟨M, zTK_ext a (fun _ g => g) (fun i hi => by rw [e, zu_n (by omega)]) (fun _ _ => rfl) (fun _ _ => rfl), fun j g => ?_⟩
  obtain ⟨g1, g2, g3, g4⟩ := hm j g
  refine ⟨g1, g2, ?_⟩
  rw [e, ← hf, zu_s, zbit_an g2, hf, g3, hb j g2, Bool.true_and]
  by_cases q : j = s
  · rw [q] at g4; rw [hs] at g4; exact Bool.noConfusion g4
  · rw [beq_false_of_ne q]; rfl
/-- rows behind a task -/
theorem zTS_ext {S : Nat → Nat → Int32} {u b : Nat → Int32} {z : Nat} {pr tw tp : Nat → Int32} {pr2 tw2 tp2 : Nat → Int32} {t o h : Nat} (a : zTS S u b z pr tw tp t o h) (hp : ∀ i, i < o → pr2 i = pr i) (h1 : ∀ i, i < t → tw2 i = tw i) (h2 : ∀ i, i < t → tp2 i = tp i) : zTS S u b z pr2 tw2 tp2 t o h := by
  obtain ⟨M, a, hm⟩ := a
  exact ⟨M, zTK_ext a (fun _ g => g) (fun i hi => hp i (by omega)) h1 h2, fun j g => ⟨(hm j g).1, (hm j g).2.1, by rw [hp _ (by have := (hm j g).1; omega)]; exact (hm j g).2.2⟩⟩
theorem zTS_e {S : Nat → Nat → Int32} {u b : Nat → Int32} {z : Nat} {pr tw tp : Nat → Int32} {tw2 tp2 : Nat → Int32} {t o h : Nat} {w k : Int32} (a : zTS S u b z pr tw tp t o h) (hw : w.toInt = 2) (ew : zTa tw tw2 t w) (ep : zTa tp tp2 t k) : zTS S u b z pr tw2 tp2 (t + 1) o h := by
  obtain ⟨M, a, hm⟩ := a
  exact ⟨M, zTK_e a hw ew ep, hm⟩
/-- a call begins -/
theorem zTS_enter {S : Nat → Nat → Int32} {u b : Nat → Int32} {z : Nat} {pr tw tp : Nat → Int32} {pr2 tw2 tp2 tw3 tp3 : Nat → Int32} {t o h : Nat} {w1 w2 bo : Int32} (a : zTS S u b z pr tw tp t o (h + 1)) (hto : t = 0 ∨ 1 ≤ o) (hp : ∀ i, i < o → pr2 i = pr i) (hk0 : 0 ≤ bo.toInt) (hk : Int32.toNatClampNeg bo < z) (h9 : (S 0 (Int32.toNatClampNeg bo)).toInt ≠ 9) (hu : ∀ j, j < 32 → zbit (u (Int32.toNatClampNeg bo)) j = true → zbit (pr2 o) j = true) (hw1 : w1.toInt = 3) (hw2 : w2.toInt = 0) (ew : zTa tw tw2 t w1) (ep : zTa tp tp2 t bo) (ew2 : zTa tw2 tw3 (t + 1) w2) (ep2 : zTa tp2 tp3 (t + 1) bo) : zTS S u b z pr2 tw3 tp3 (t + 2) (o + 1) h := by
  obtain ⟨M, a, hm⟩ := zTS_ext a hp (fun _ _ => rfl) (fun _ _ => rfl)
  refine ⟨_, zTK_w (zTK_l a hm hto hw1 ew ep) hk0 hk h9 (fun j g => g.elim) hw2 ew2 ep2, fun j g => ?_⟩
  rcases g with g | g
  · exact g.elim
  · exact ⟨by omega, g.1, hu j g.1 g.2⟩
/-- a way begins -/
def zTB (S : Nat → Nat → Int32) (u b : Nat → Int32) (z : Nat) (pr tw tp : Nat → Int32) (t o h k : Nat) : Prop := ∃ M, zTK S u b z pr tw tp t o (h + 1) M ∧ (∀ j, M j → 1 ≤ o ∧ j < 32 ∧ zbit (pr (o - 1)) j = true ∧ zbit (b k) j = true) ∧ ∀ j, j < 32 → zbit (u k) j = true → 1 ≤ o ∧ zbit (pr (o - 1)) j = true
theorem zTS_way {S : Nat → Nat → Int32} {u b : Nat → Int32} {z : Nat} {pr tw tp : Nat → Int32} {pr2 tw2 tp2 : Nat → Int32} {t o h : Nat} {w k : Int32} (a : zTB S u b z pr tw tp t o h (Int32.toNatClampNeg k)) (hk0 : 0 ≤ k.toInt) (hk : Int32.toNatClampNeg k < z) (h9 : (S 0 (Int32.toNatClampNeg k)).toInt ≠ 9) (g1 : ∀ i, i ≠ o - 1 → pr2 i = pr i) (g2 : pr2 (o - 1) = pr (o - 1) &&& (u (Int32.toNatClampNeg k) ||| b (Int32.toNatClampNeg k))) (hw : w.toInt = 0) (ew : zTa tw tw2 t w) (ep : zTa tp tp2 t k) : zTS S u b z pr2 tw2 tp2 (t + 1) o h := by
  obtain ⟨M, a, hm, hu⟩ := a
  refine ⟨_, zTK_w (zTK_ext a (fun _ g => g) (fun i hi => g1 i (by omega)) (fun _ _ => rfl) (fun _ _ => rfl)) hk0 hk h9 (fun j g => ⟨(hm j g).2.1, (hm j g).2.2.2⟩) hw ew ep, fun j g => ?_⟩
  rw [g2, zbit_and, zbit_or]
  rcases g with g | g
  · obtain ⟨q1, q2, q3, q4⟩ := hm j g
    exact ⟨q1, q2, by rw [q3, q4, Bool.or_true]; rfl⟩
  · have := hu j g.1 g.2
    exact ⟨this.1, g.1, by rw [this.2, g.2]; rfl⟩
/-- arguments: the first on top -/
theorem zTK_args {S : Nat → Nat → Int32} {u b : Nat → Int32} {z : Nat} {pr tw tp : Nat → Int32} {k t o h n : Nat} {M : Nat → Prop} {R : List Nat} (hn : n = R.length) (hR : ∀ r ∈ R, r < z ∧ (S 0 r).toInt ≠ 9) (hb : ∀ D r E, R = D ++ r :: E → ∀ j, j < 32 → zbit (b r) j = (zbit (b k) j || E.any (zKf u j))) (hM : ∀ j, M j → j < 32 ∧ zbit (b k) j = true) (a : zTK S u b z pr tw tp t o (h + n) M) (h1 : ∀ i, i < n → (tw (t + i)).toInt = 0) (h2 : ∀ i, i < n → (tp (t + i)).toInt = ((R.getD (n - 1 - i) 0 : Nat) : Int)) : ∀ (E D : List Nat), R = D ++ E → zTK S u b z pr tw tp (t + E.length) o (h + n - E.length) (fun j => M j ∨ j < 32 ∧ E.any (zKf u j) = true)
  | [], D, _ => by
    have e : h + n - ([] : List Nat).length = h + n := rfl
    rw [e]
    exact zTK_ext a (fun _ g => Or.inl g) (fun _ _ => rfl) (fun _ _ => rfl) (fun _ _ => rfl)
  | r :: E, D, hD => by
    have hl : R.length = D.length + (E.length + 1) := by rw [hD, List.length_append, List.length_cons]
    have ih := zTK_args hn hR hb hM a h1 h2 E (D ++ [r]) (by rw [hD, List.append_assoc]; rfl)
    have hr := hR r (by rw [hD]; exact List.mem_append.mpr (Or.inr List.mem_cons_self))
    have q1 := h1 E.length (by omega)
    have q2 := h2 E.length (by omega)
    have q3 : R.getD (n - 1 - E.length) 0 = r := by
      rw [show n - 1 - E.length = D.length by omega, hD, List.getD_eq_getElem?_getD, List.getElem?_append_right (Nat.le_refl _), Nat.sub_self]; rfl
    rw [q3] at q2
    have q4 : Int32.toNatClampNeg (tp (t + E.length)) = r := by have := zn_nat (x := tp (t + E.length)) (by omega); omega
    rw [show t + (r :: E).length = t + E.length + 1 by rw [List.length_cons]; omega]
    refine Or.inl ⟨q1, by omega, by rw [q4]; exact hr.1, by rw [q4]; exact hr.2, fun j hj g => Or.inr ⟨hj, ?_⟩, _, fun j g => ⟨?_, ?_⟩, (show h + n - E.length = h + n - (r :: E).length + 1 by rw [List.length_cons]; omega) ▸ ih⟩
    · rw [q4] at g; rw [List.any_cons, show zKf u j r = true from g]; rfl
    · rcases g with g | g
      · exact Or.inl g
      · exact Or.inr ⟨g.1, by rw [List.any_cons, g.2, Bool.or_true]⟩
    · rw [q4]
      rcases g with g | g
      · exact ⟨(hM j g).1, by rw [hb D r E hD j (hM j g).1, (hM j g).2]; rfl⟩
      · exact ⟨g.1, by rw [hb D r E hD j g.1, g.2, Bool.or_true]⟩
/-- how heavy the tasks are: one that is to be done as four -/
def zWt (f : Nat → Int32) : Nat → Nat
  | 0 => 0
  | t + 1 => zWt f t + if (f t).toInt = 1 then 4 else 1
theorem zWt_e {f f2 : Nat → Int32} : ∀ {t : Nat}, (∀ i, i < t → f2 i = f i) → zWt f2 t = zWt f t
  | 0, _ => rfl
  | t + 1, h => by
    show zWt f2 t + _ = zWt f t + _
    rw [zWt_e (fun i hi => h i (by omega)), h t (by omega)]
theorem zWt_a {f f2 : Nat → Int32} {t n : Nat} {w : Int32} (h : zTa f f2 t w) (e : n = t + 1) (hw : w.toInt ≠ 1) : zWt f2 n = zWt f t + 1 := by
  rw [e]
  show zWt f2 t + _ = _
  rw [zWt_e h.2, h.1, if_neg hw]
theorem zWt_d {f f2 : Nat → Int32} {t n : Nat} {w : Int32} (h : zTa f f2 t w) (e : n = t + 1) (hw : w.toInt = 1) : zWt f2 n = zWt f t + 4 := by
  rw [e]
  show zWt f2 t + _ = _
  rw [zWt_e h.2, h.1, if_pos hw]
theorem zWt_n {f f2 : Nat → Int32} {t : Nat} (h : ∀ i, i < t → f2 i = f i) : ∀ {n : Nat}, (∀ i, i < n → (f2 (t + i)).toInt = 0) → zWt f2 (t + n) = zWt f t + n
  | 0, _ => zWt_e h
  | n + 1, g => by
    show zWt f2 (t + n) + (if (f2 (t + n)).toInt = 1 then 4 else 1) = _
    rw [zWt_n h (fun i hi => g i (by omega)), if_neg (by rw [g n (by omega)]; omega)]; omega
theorem zTS_0 {S : Nat → Nat → Int32} {u b : Nat → Int32} {z : Nat} {pr tw tp : Nat → Int32} : zTS S u b z pr tw tp 0 0 1 := ⟨fun _ => False, ⟨rfl, rfl⟩, fun _ g => g.elim⟩
/-! a part's children -/
theorem zwh {S : Nat → Nat → Int32} {L C : Nat → Nat} {k : Nat} (h : zJn S L C k (Int32.toNatClampNeg (S 0 k))) : 1 ≤ (S 0 k).toInt ∧ (S 0 k).toInt ≤ 9 ∧ ((Int32.toNatClampNeg (S 0 k) : Nat) : Int) = (S 0 k).toInt := by
  have a : 0 ≤ (S 0 k).toInt := by
    by_cases g : 0 ≤ (S 0 k).toInt
    · exact g
    · have e : Int32.toNatClampNeg (S 0 k) = 0 := by unfold Int32.toNatClampNeg; omega
      rw [e] at h; exact h.elim
  have b := zn_nat a
  generalize Int32.toNatClampNeg (S 0 k) = n at h b
  match n, h with
  | 0, h => exact h.elim
  | 1, _ => omega
  | 2, _ => omega
  | 3, _ => omega
  | 4, _ => omega
  | 5, _ => omega
  | 6, _ => omega
  | 7, _ => omega
  | 8, _ => omega
  | 9, _ => omega
/-- what the run knows of a program -/
def zPG (S : Nat → Nat → Int32) (u b : Nat → Int32) (L C : Nat → Nat) (z : Nat) (bo to : Nat → Int32) (nf : Int) : Prop := zJs S L C 0 z ∧ z ≤ 2000 ∧ (∀ k, k < z → zKq S u k (u k) (Int32.toNatClampNeg (S 0 k)) ∧ zKb S u b k (Int32.toNatClampNeg (S 0 k))) ∧ (∀ k, k < z → (S 0 k).toInt = 3 → 0 ≤ (S 1 k).toInt ∧ (S 1 k).toInt < nf ∧ to (Int32.toNatClampNeg (S 1 k)) = S 6 k) ∧ ∀ f : Nat, (f : Int) < nf → 0 ≤ (bo f).toInt ∧ Int32.toNatClampNeg (bo f) < z ∧ (S 0 (Int32.toNatClampNeg (bo f))).toInt ≠ 9 ∧ ((C (Int32.toNatClampNeg (bo f)) : Nat) : Int) = (to f).toInt ∧ (to f).toInt ≤ 6
theorem zRd_PG {wh ow on tw th be ma fd : Nat → Int32} {kz : Int32} {us bh fi bo to : Nat → Int32} {nf zz : Int32} (h : zRd wh ow on tw th be ma fd kz us bh fi bo to nf zz) : ∃ L C, zPG (zJS wh ow on tw th be ma fd kz) us bh L C (Int32.toNatClampNeg zz) bo to nf.toInt ∧ (∀ f : Nat, (f : Int) < nf.toInt → bh (Int32.toNatClampNeg (bo f)) = 0) ∧ 0 ≤ nf.toInt ∧ nf.toInt ≤ 30 ∧ 0 ≤ kz.toInt ∧ kz.toInt ≤ 20 ∧ 0 ≤ zz.toInt := by
  obtain ⟨⟨L, C, hP, hA⟩, hc, n0, n1, z0, z1, k0, k1⟩ := h
  have hn := zn_nat n0
  have hz := zn_nat z0
  refine ⟨L, C, ⟨zJP_s hP, by omega, hA.1, fun k hk hw => hc k (by omega) hw, fun f hf => ?_⟩, fun f hf => (hA.2 f (by omega)).2, n0, n1, k0, k1, z0⟩
  obtain ⟨a, e, hw, -, h2, -, -, h5, h6, h7, h8⟩ := zJP_get hP (f := f) (by omega)
  have hae := hw.1
  have hb := zn_nat (x := bo f) (by omega)
  have eb : Int32.toNatClampNeg (bo f) = e - 1 := by omega
  rw [eb]
  exact ⟨by omega, by omega, h7, h6, h8⟩
/-- names that are used are told -/
theorem zKs {S : Nat → Nat → Int32} {u b : Nat → Int32} {L C : Nat → Nat} {z : Nat} {bo to : Nat → Int32} {nf : Int} (h : zPG S u b L C z bo to nf) : ∀ (n k : Nat), k < n → k < z → ∀ j, j < 32 → zbit (u k) j = true → j < C k
  | 0, k, hn, _, _, _, _ => absurd hn (by omega)
  | n + 1, k, hn, hk, j, hj, hb => by
    have ih := zKs h n
    obtain ⟨l1, l2, hJ, hC⟩ := h.1 k (Nat.zero_le _) hk
    have hq := (h.2.2.1 k hk).1
    generalize Int32.toNatClampNeg (S 0 k) = w at hJ hq
    match w, hJ, hq with
    | 1, _, hq => rw [hq j hj] at hb; exact Bool.noConfusion hb
    | 2, hJ, hq =>
      rw [hq j hj] at hb
      have := beq_iff_eq.mp hb
      have := zn_nat hJ.2.1
      have := hJ.2.2
      omega
    | 3, hJ, hq =>
      obtain ⟨R, g1, g2, -, g4⟩ := hJ
      rw [hq R g2 j hj] at hb
      obtain ⟨r, hr, hb⟩ := List.any_eq_true.mp hb
      have := zJr_in g1 r hr
      have := ih r (by omega) (by omega) j hj hb
      rw [(g4 r hr).1] at this; exact this
    | 4, hJ, hq =>
      obtain ⟨R, g1, g2, -, g4, -⟩ := hJ
      rw [hq R g2 j hj] at hb
      obtain ⟨r, hr, hb⟩ := List.any_eq_true.mp hb
      have := zJr_in g1 r hr
      have := ih r (by omega) (by omega) j hj hb
      rw [(g4 r hr).1] at this; exact this
    | 5, hJ, hq =>
      obtain ⟨x, y, g1, g2, g3, g4, g5, -⟩ := hJ
      have x1 := zJr_in g1 x List.mem_cons_self
      have y1 := zJr_in g1 y (List.mem_cons_of_mem _ List.mem_cons_self)
      rw [hq j hj, Bool.or_eq_true, show Int32.toNatClampNeg (S 2 k) = x by have := zn_nat (x := S 2 k) (by omega); omega, show Int32.toNatClampNeg (S 3 k) = y by have := zn_nat (x := S 3 k) (by omega); omega] at hb
      rcases hb with hb | hb
      · have := ih x (by omega) (by omega) j hj hb; omega
      · have := ih y (by omega) (by omega) j hj hb; omega
    | 6, hJ, hq =>
      obtain ⟨x, y, g1, g2, g3, g4, g5, -, -, g6⟩ := hJ
      have x1 := zJr_in g1 x List.mem_cons_self
      have y1 := zJr_in g1 y (List.mem_cons_of_mem _ List.mem_cons_self)
      rw [hq j hj, Bool.or_eq_true, Bool.and_eq_true, show Int32.toNatClampNeg (S 2 k) = x by have := zn_nat (x := S 2 k) (by omega); omega, show Int32.toNatClampNeg (S 3 k) = y by have := zn_nat (x := S 3 k) (by omega); omega] at hb
      rcases hb with hb | ⟨hb, hc⟩
      · have := ih x (by omega) (by omega) j hj hb; omega
      · have := ih y (by omega) (by omega) j hj hb
        have o := zn_nat (x := S 1 k) (by omega)
        have : j ≠ Int32.toNatClampNeg (S 1 k) := fun e => by rw [e, beq_self_eq_true] at hc; exact Bool.noConfusion hc
        omega
    | 7, hJ, hq =>
      obtain ⟨x, y, v, g1, g2, g3, g4, g5, g6, g7, -⟩ := hJ
      have x1 := zJr_in g1 x List.mem_cons_self
      have y1 := zJr_in g1 y (List.mem_cons_of_mem _ List.mem_cons_self)
      have v1 := zJr_in g1 v (List.mem_cons_of_mem _ (List.mem_cons_of_mem _ List.mem_cons_self))
      rw [hq j hj, Bool.or_eq_true, Bool.or_eq_true, show Int32.toNatClampNeg (S 2 k) = x by have := zn_nat (x := S 2 k) (by omega); omega, show Int32.toNatClampNeg (S 3 k) = y by have := zn_nat (x := S 3 k) (by omega); omega, show Int32.toNatClampNeg (S 4 k) = v by have := zn_nat (x := S 4 k) (by omega); omega] at hb
      rcases hb with (hb | hb) | hb
      · have := ih x (by omega) (by omega) j hj hb; omega
      · have := ih y (by omega) (by omega) j hj hb; omega
      · have := ih v (by omega) (by omega) j hj hb; omega
    | 8, hJ, hq =>
      obtain ⟨R, g1, g2, g3, g4, g5⟩ := hJ
      rw [hq R g2 j hj, Bool.or_eq_true] at hb
      rcases hb with hb | hb
      · have := beq_iff_eq.mp hb
        have := zn_nat g4
        omega
      · obtain ⟨r, hr, hb⟩ := List.any_eq_true.mp hb
        have := zJr_in g1 r hr
        have := ih r (by omega) (by omega) j hj hb
        rw [(g3 r hr).1] at this; exact this
    | 9, hJ, hq =>
      obtain ⟨x, g1, g2, g3, g4, -, g6, g7, -⟩ := hJ
      have x1 := zJr_in g1 x List.mem_cons_self
      rw [hq j hj, Bool.and_eq_true, show Int32.toNatClampNeg (S 2 k) = x by have := zn_nat (x := S 2 k) (by omega); omega] at hb
      have := ih x (by omega) (by omega) j hj hb.1
      have hc := hb.2
      rw [Bool.not_eq_true', Bool.and_eq_false_iff, decide_eq_false_iff_not, decide_eq_false_iff_not] at hc
      rcases hc with hc | hc <;> omega
