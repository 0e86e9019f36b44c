section
/-! what a part uses, what is needed behind it -/
def zKf (u : Nat → Int32) (j : Nat) : Nat → Bool := fun r => zbit (u r) j
/-- v is what part k uses -/
def zKq (S : Nat → Nat → Int32) (u : Nat → Int32) (k : Nat) (v : Int32) : Nat → Prop
  | 2 => ∀ j, j < 32 → zbit v j = (j == Int32.toNatClampNeg (S 1 k))
  | 3 => ∀ R, zli (S 5) (S 2 k) R → ∀ j, j < 32 → zbit v j = R.any (zKf u j)
  | 4 => ∀ R, zli (S 5) (S 2 k) R → ∀ j, j < 32 → zbit v j = R.any (zKf u j)
  | 5 => ∀ j, j < 32 → zbit v j = (zbit (u (Int32.toNatClampNeg (S 2 k))) j || zbit (u (Int32.toNatClampNeg (S 3 k))) j)
  | 6 => ∀ j, j < 32 → zbit v j = (zbit (u (Int32.toNatClampNeg (S 2 k))) j || (zbit (u (Int32.toNatClampNeg (S 3 k))) j && !(j == Int32.toNatClampNeg (S 1 k))))
  | 7 => ∀ j, j < 32 → zbit v j = (zbit (u (Int32.toNatClampNeg (S 2 k))) j || zbit (u (Int32.toNatClampNeg (S 3 k))) j || zbit (u (Int32.toNatClampNeg (S 4 k))) j)
  | 8 => ∀ R, zli (S 5) (S 2 k) R → ∀ j, j < 32 → zbit v j = ((j == Int32.toNatClampNeg (S 1 k)) || R.any (zKf u j))
  | 9 => ∀ j, j < 32 → zbit v j = (zbit (u (Int32.toNatClampNeg (S 2 k))) j && !(decide ((S 3 k).toInt ≤ (j : Int)) && decide ((j : Int) < (S 3 k).toInt + (S 6 k).toInt)))
  | _ => ∀ j, j < 32 → zbit v j = false
/-- behind k's children stands what is needed -/
def zKb (S : Nat → Nat → Int32) (u b : Nat → Int32) (k : Nat) : Nat → Prop
  | 3 => ∀ R, zli (S 5) (S 2 k) R → ∀ D r E, R = D ++ r :: E → ∀ j, j < 32 → zbit (b r) j = (zbit (b k) j || E.any (zKf u j))
  | 4 => ∀ R, zli (S 5) (S 2 k) R → ∀ D r E, R = D ++ r :: E → ∀ j, j < 32 → zbit (b r) j = (zbit (b k) j || E.any (zKf u j))
  | 5 => (∀ j, j < 32 → zbit (b (Int32.toNatClampNeg (S 2 k))) j = (zbit (b k) j || zbit (u (Int32.toNatClampNeg (S 3 k))) j)) ∧ b (Int32.toNatClampNeg (S 3 k)) = b k
  | 6 => (∀ j, j < 32 → zbit (b (Int32.toNatClampNeg (S 2 k))) j = (zbit (b k) j || (zbit (u (Int32.toNatClampNeg (S 3 k))) j && !(j == Int32.toNatClampNeg (S 1 k))))) ∧ b (Int32.toNatClampNeg (S 3 k)) = b k
  | 7 => (∀ j, j < 32 → zbit (b (Int32.toNatClampNeg (S 2 k))) j = (zbit (b k) j || zbit (u (Int32.toNatClampNeg (S 3 k))) j || zbit (u (Int32.toNatClampNeg (S 4 k))) j)) ∧ b (Int32.toNatClampNeg (S 3 k)) = b k ∧ b (Int32.toNatClampNeg (S 4 k)) = b k
  | 8 => ∀ R, zli (S 5) (S 2 k) R → ∀ r ∈ R, b r = b k
  | 9 => b (Int32.toNatClampNeg (S 2 k)) = b k
  | _ => True
theorem zli_uq' {nx : Nat → Int32} : ∀ {A B : List Nat} {x : Int32}, zli nx x A → zli nx x B → A = B
  | [], [], _, _, _ => rfl
  | [], y :: l, x, a, b => by have a : x.toInt = -1 := a; have b := b.1; omega
  | y :: l, [], x, a, b => by have b : x.toInt = -1 := b; have a := a.1; omega
  | y :: l, z :: k, x, a, b => by
    have e : y = z := by have a := a.1; have b := b.1; omega
    subst e
    rw [zli_uq' a.2 b.2]
theorem zany_ext {u u2 : Nat → Int32} {j : Nat} : ∀ {R : List Nat}, (∀ r ∈ R, u2 r = u r) → R.any (zKf u2 j) = R.any (zKf u j)
  | [], _ => rfl
  | r :: l, h => by
    rw [List.any_cons, List.any_cons, zany_ext (fun x hx => h x (List.mem_cons_of_mem _ hx))]
    unfold zKf; rw [h r List.mem_cons_self]
/-- children lie between L k and k -/
theorem zJn_ch {S : Nat → Nat → Int32} {L C : Nat → Nat} {k n : Nat} (h : zJn S L C k n) : (n = 3 ∨ n = 4 ∨ n = 8 → ∃ R, zJr L (L k) k R ∧ zli (S 5) (S 2 k) R) ∧ (n = 5 ∨ n = 6 → zJr L (L k) k [Int32.toNatClampNeg (S 2 k), Int32.toNatClampNeg (S 3 k)] ∧ 0 ≤ (S 2 k).toInt ∧ 0 ≤ (S 3 k).toInt) ∧ (n = 7 → zJr L (L k) k [Int32.toNatClampNeg (S 2 k), Int32.toNatClampNeg (S 3 k), Int32.toNatClampNeg (S 4 k)] ∧ 0 ≤ (S 2 k).toInt ∧ 0 ≤ (S 3 k).toInt ∧ 0 ≤ (S 4 k).toInt) ∧ (n = 9 → zJr L (L k) k [Int32.toNatClampNeg (S 2 k)] ∧ 0 ≤ (S 2 k).toInt) := by
  match n, h with
  | 0, h => exact h.elim
  | 1, h => exact ⟨fun g => by omega, fun g => by omega, fun g => by omega, fun g => by omega⟩
  | 2, h => exact ⟨fun g => by omega, fun g => by omega, fun g => by omega, fun g => by omega⟩
  | 3, h => exact ⟨fun _ => let ⟨R, a, b, _⟩ := h; ⟨R, a, b⟩, fun g => by omega, fun g => by omega, fun g => by omega⟩
  | 4, h => exact ⟨fun _ => let ⟨R, a, b, _⟩ := h; ⟨R, a, b⟩, fun g => by omega, fun g => by omega, fun g => by omega⟩
  | 5, h =>
    obtain ⟨a, b, g1, g2, g3, -⟩ := h
    rw [zn_lit g2, zn_lit g3]
    exact ⟨fun g => by omega, fun _ => ⟨g1, by omega, by omega⟩, fun g => by omega, fun g => by omega⟩
  | 6, h =>
    obtain ⟨a, b, g1, g2, g3, -⟩ := h
    rw [zn_lit g2, zn_lit g3]
    exact ⟨fun g => by omega, fun _ => ⟨g1, by omega, by omega⟩, fun g => by omega, fun g => by omega⟩
  | 7, h =>
    obtain ⟨a, b, c, g1, g2, g3, g4, -⟩ := h
    rw [zn_lit g2, zn_lit g3, zn_lit g4]
    exact ⟨fun g => by omega, fun g => by omega, fun _ => ⟨g1, by omega, by omega, by omega⟩, fun g => by omega⟩
  | 8, h => exact ⟨fun _ => let ⟨R, a, b, _⟩ := h; ⟨R, a, b⟩, fun g => by omega, fun g => by omega, fun g => by omega⟩
  | 9, h =>
    obtain ⟨a, g1, g2, -⟩ := h
    rw [zn_lit g2]
    exact ⟨fun g => by omega, fun g => by omega, fun g => by omega, fun _ => ⟨g1, by omega⟩⟩
  | _ + 10, h => exact h.elim
theorem zKq_ext {S : Nat → Nat → Int32} {L C : Nat → Nat} {u u2 : Nat → Int32} {k n : Nat} {v : Int32} (h : zJn S L C k n) (he : ∀ r, L k ≤ r → r < k → u2 r = u r) (q : zKq S u k v n) : zKq S u2 k v n := by
  obtain ⟨h1, h2, h3, h4⟩ := zJn_ch h
  have hR : ∀ {R : List Nat}, zJr L (L k) k R → ∀ r ∈ R, u2 r = u r := fun {R} g r hr => by have := zJr_in g r hr; exact he r this.1 this.2
  have hl : (n = 3 ∨ n = 4 ∨ n = 8) → ∀ R, zli (S 5) (S 2 k) R → ∀ j, R.any (zKf u2 j) = R.any (zKf u j) := fun g R hr j => by
    obtain ⟨R', a, b⟩ := h1 g
    rw [zli_uq' hr b]
    exact zany_ext (hR a)
  match n, q with
  | 0, q => exact q
  | 1, q => exact q
  | 2, q => exact q
  | 3, q => exact fun R hr j hj => by rw [hl (by simp) R hr j]; exact q R hr j hj
  | 4, q => exact fun R hr j hj => by rw [hl (by simp) R hr j]; exact q R hr j hj
  | 5, q =>
    obtain ⟨g, -, -⟩ := h2 (by simp)
    intro j hj
    rw [hR g _ List.mem_cons_self, hR g _ (List.mem_cons_of_mem _ List.mem_cons_self)]; exact q j hj
  | 6, q =>
    obtain ⟨g, -, -⟩ := h2 (by simp)
    intro j hj
    rw [hR g _ List.mem_cons_self, hR g _ (List.mem_cons_of_mem _ List.mem_cons_self)]; exact q j hj
  | 7, q =>
    obtain ⟨g, -, -, -⟩ := h3 rfl
    intro j hj
    rw [hR g _ List.mem_cons_self, hR g _ (List.mem_cons_of_mem _ List.mem_cons_self), hR g _ (List.mem_cons_of_mem _ (List.mem_cons_of_mem _ List.mem_cons_self))]; exact q j hj
  | 8, q => exact fun R hr j hj => by rw [hl (by simp) R hr j]; exact q R hr j hj
  | 9, q =>
    obtain ⟨g, -⟩ := h4 rfl
    intro j hj
    rw [hR g _ List.mem_cons_self]; exact q j hj
  | _ + 10, q => exact q
/-- the parts of one function, from a to e, its body the last -/
def zJw (S : Nat → Nat → Int32) (L C : Nat → Nat) (a e : Nat) : Prop := a < e ∧ L (e - 1) = a ∧ zJs S L C a e
def zKU (S : Nat → Nat → Int32) (u u0 : Nat → Int32) (a k : Nat) : Prop := (∀ q, a ≤ q → q < k → zKq S u q (u q) (Int32.toNatClampNeg (S 0 q))) ∧ ∀ q, q < a ∨ k ≤ q → u q = u0 q
theorem zKU_0 {S : Nat → Nat → Int32} {u : Nat → Int32} {a : Nat} : zKU S u u a a := ⟨fun q h1 h2 => absurd h1 (by omega), fun _ _ => rfl⟩
theorem zKU_st {S : Nat → Nat → Int32} {L C : Nat → Nat} {u u0 u2 : Nat → Int32} {a e k k2 : Nat} {v : Int32} (hw : zJw S L C a e) (h : zKU S u u0 a k) (hk : a ≤ k) (hk2 : k < e) (q : zKq S u k v (Int32.toNatClampNeg (S 0 k))) (eu : u2 = upd u k v) (ek : k2 = k + 1) : zKU S u2 u0 a k2 := by
  subst ek
  have hx : ∀ r, r < k → u2 r = u r := fun r hr => by rw [eu, zu_n (by omega)]
  refine ⟨fun r h1 h2 => ?_, fun r hr => ?_⟩
  · obtain ⟨w1, w2, w3, -⟩ := hw.2.2 r h1 (by omega)
    by_cases g : r = k
    · subst g
      rw [show u2 r = v by rw [eu, zu_s]]
      exact zKq_ext w3 (fun x _ hx' => hx x hx') q
    · rw [hx r (by omega)]
      exact zKq_ext w3 (fun x _ hx' => hx x (by omega)) (h.1 r h1 (by omega))
  · rw [eu, zu_n (by omega)]
    exact h.2 r (by omega)
/-- a chain so far -/
def zKc (u : Nat → Int32) (v : Int32) (A : List Nat) (w : Nat → Bool) (R : List Nat) : Prop := ∀ j, j < 32 → (zbit v j || A.any (zKf u j)) = (w j || R.any (zKf u j))
theorem zKc_st {u : Nat → Int32} {v v2 x : Int32} {y : Nat} {A R : List Nat} {w : Nat → Bool} (h : zKc u v (y :: A) w R) (e : v2 = v ||| x) (ex : x = u y) : zKc u v2 A w R := fun j hj => by
  rw [← h j hj, e, zbit_or, ex, List.any_cons, Bool.or_assoc]; rfl
theorem zKc_end {u : Nat → Int32} {v : Int32} {R : List Nat} {w : Nat → Bool} (h : zKc u v [] w R) : ∀ j, j < 32 → zbit v j = (w j || R.any (zKf u j)) := fun j hj => by
  have := h j hj
  rw [List.any_nil, Bool.or_false] at this
  exact this
/-- a chain's suffix: its head -/
theorem zli_hd {nx : Nat → Int32} {x : Int32} {A : List Nat} (h : zli nx x A) (hx : x.toInt ≠ -1) : ∃ l, A = Int32.toNatClampNeg x :: l ∧ zli nx (nx (Int32.toNatClampNeg x)) l ∧ 0 ≤ x.toInt := by
  cases A with
  | nil => exact (hx h).elim
  | cons y l =>
    have e : x.toInt = (y : Int) := h.1
    rw [zn_lit e]
    exact ⟨l, rfl, h.2, by omega⟩
theorem zli_nl {nx : Nat → Int32} {x : Int32} {A : List Nat} (h : zli nx x A) (hx : x.toInt = -1) : A = [] := by
  cases A with
  | nil => rfl
  | cons y l => have e : x.toInt = (y : Int) := h.1; omega
theorem zJr_lt2 {L : Nat → Nat} {x z : Nat} {Q : List Nat} : ∀ {P : List Nat} {a : Nat}, zJr L a z (P ++ x :: Q) → ∀ r ∈ P, r < x
  | [], _, _, r, hr => nomatch hr
  | p :: P, a, h, r, hr => by
    rcases List.mem_cons.mp hr with e | e
    · subst e
      have := zJr_in h.2.2.2 x (List.mem_append.mpr (Or.inr List.mem_cons_self)); omega
    · exact zJr_lt2 h.2.2.2 r e
/-- which of two places in a list comes first -/
theorem zsp {D D0 E l R : List Nat} {r y : Nat} (h1 : R = D ++ r :: E) (h2 : R = D0 ++ y :: l) : (E.length = l.length → r = y ∧ E = l) ∧ (l.length < E.length → r ∈ D0) := by
  have h : D ++ r :: E = D0 ++ y :: l := h1.symm.trans h2
  rcases List.append_eq_append_iff.mp h with ⟨a', e1, e2⟩ | ⟨c', e1, e2⟩
  · cases a' with
    | nil =>
      rw [List.nil_append] at e2
      injection e2 with e3 e4
      exact ⟨fun _ => ⟨e3, e4⟩, fun g => by rw [e4] at g; omega⟩
    | cons x t =>
      rw [List.cons_append] at e2
      injection e2 with e3 e4
      refine ⟨fun g => ?_, fun _ => ?_⟩
      · rw [e4, List.length_append, List.length_cons] at g; omega
      · rw [e1, e3]; exact List.mem_append.mpr (Or.inr List.mem_cons_self)
  · have hl := congrArg List.length e2
    rw [List.length_append, List.length_cons, List.length_cons] at hl
    refine ⟨fun g => ?_, fun g => by omega⟩
    have : c' = [] := List.eq_nil_of_length_eq_zero (by omega)
    rw [this, List.nil_append] at e2
    injection e2 with e3 e4
    exact ⟨e3.symm, e4.symm⟩
/-- behind the arguments from A on nothing is written yet -/
def zKo (u b b0 : Nat → Int32) (bk : Int32) (R A : List Nat) : Prop := (∃ D, R = D ++ A) ∧ (∀ D r E, R = D ++ r :: E → A.length ≤ E.length → ∀ j, j < 32 → zbit (b r) j = (zbit bk j || E.any (zKf u j))) ∧ ∀ r, r ∉ R → b r = b0 r
theorem zKo_0 {u b : Nat → Int32} {bk : Int32} {R : List Nat} : zKo u b b bk R R := ⟨⟨[], rfl⟩, fun D r E e h => by
  have := congrArg List.length e
  rw [List.length_append, List.length_cons] at this; omega, fun _ _ => rfl⟩
theorem zKo_st {u b b0 b2 : Nat → Int32} {bk : Int32} {R l : List Nat} {y : Nat} {L : Nat → Nat} {a z : Nat} (hr : zJr L a z R) (h : zKo u b b0 bk R (y :: l)) (hy : ∀ j, j < 32 → zbit (b2 y) j = (zbit bk j || l.any (zKf u j))) (hb : ∀ r, r ≠ y → b2 r = b r) : zKo u b2 b0 bk R l := by
  obtain ⟨⟨D0, e0⟩, h1, h2⟩ := h
  have hyR : y ∈ R := by rw [e0]; exact List.mem_append.mpr (Or.inr List.mem_cons_self)
  refine ⟨⟨D0 ++ [y], by rw [e0]; simp⟩, fun D r E e hl j hj => ?_, fun r hr => by rw [hb r (fun g => hr (g ▸ hyR))]; exact h2 r hr⟩
  obtain ⟨z1, z2⟩ := zsp e e0
  by_cases g : E.length = l.length
  · obtain ⟨e1, e2⟩ := z1 g
    rw [e1, e2]; exact hy j hj
  · have hm := z2 (by omega)
    rw [e0] at hr
    have := zJr_lt2 hr r hm
    rw [hb r (by omega)]
    exact h1 D r E e (by rw [List.length_cons]; omega) j hj
theorem zKo_end {u b b0 : Nat → Int32} {bk : Int32} {R : List Nat} (h : zKo u b b0 bk R []) : (∀ D r E, R = D ++ r :: E → ∀ j, j < 32 → zbit (b r) j = (zbit bk j || E.any (zKf u j))) ∧ ∀ r, r ∉ R → b r = b0 r := ⟨fun D r E e => h.2.1 D r E e (Nat.zero_le _), h.2.2⟩
/-- the arms from A on are not written yet -/
def zKm (b b0 : Nat → Int32) (bk : Int32) (R A : List Nat) : Prop := (∃ D, R = D ++ A) ∧ (∀ r ∈ R, b r = bk ∨ r ∈ A) ∧ ∀ r, r ∉ R → b r = b0 r
theorem zKm_0 {b : Nat → Int32} {bk : Int32} {R : List Nat} : zKm b b bk R R := ⟨⟨[], rfl⟩, fun _ hr => Or.inr hr, fun _ _ => rfl⟩
theorem zKm_st {b b0 b2 : Nat → Int32} {bk : Int32} {R l : List Nat} {y : Nat} (h : zKm b b0 bk R (y :: l)) (e : b2 = upd b y bk) : zKm b2 b0 bk R l := by
  obtain ⟨⟨D0, e0⟩, h1, h2⟩ := h
  have hyR : y ∈ R := by rw [e0]; exact List.mem_append.mpr (Or.inr List.mem_cons_self)
  refine ⟨⟨D0 ++ [y], by rw [e0]; simp⟩, fun r hr => ?_, fun r hr => by rw [e, zu_n (show r ≠ y from fun g => hr (by rw [g]; exact hyR))]; exact h2 r hr⟩
  by_cases g : r = y
  · left; rw [e, g, zu_s]
  · rw [e, zu_n g]
    rcases h1 r hr with k | k
    · exact Or.inl k
    · rcases List.mem_cons.mp k with k | k
      · exact (g k).elim
      · exact Or.inr k
/-- behind all parts from t on stands what is needed -/
def zKB (S : Nat → Nat → Int32) (u b b0 : Nat → Int32) (a e t : Nat) : Prop := (∀ q, t ≤ q → q < e → zKb S u b q (Int32.toNatClampNeg (S 0 q))) ∧ b (e - 1) = 0 ∧ ∀ q, q < a ∨ e ≤ q → b q = b0 q
theorem zKb_ext {S : Nat → Nat → Int32} {L C : Nat → Nat} {u u2 b b2 : Nat → Int32} {q n : Nat} (h : zJn S L C q n) (h0 : b2 q = b q) (he : ∀ R, zJr L (L q) q R → ∀ r ∈ R, b2 r = b r ∧ u2 r = u r) (g : zKb S u b q n) : zKb S u2 b2 q n := by
  obtain ⟨h1, h2, h3, h4⟩ := zJn_ch h
  have hl : (n = 3 ∨ n = 4 ∨ n = 8) → ∀ R, zli (S 5) (S 2 q) R → ∀ r ∈ R, b2 r = b r ∧ u2 r = u r := fun k R hr => by
    obtain ⟨R', x, y⟩ := h1 k
    rw [zli_uq' hr y]
    exact he R' x
  have ha : (n = 3 ∨ n = 4 ∨ n = 8) → ∀ R, zli (S 5) (S 2 q) R → ∀ D r E, R = D ++ r :: E → ∀ j, E.any (zKf u2 j) = E.any (zKf u j) := fun k R hr D r E e j => zany_ext (fun x hx => (hl k R hr x (by rw [e]; exact List.mem_append.mpr (Or.inr (List.mem_cons_of_mem _ hx)))).2)
  match n, g with
  | 0, g => trivial
  | 1, g => trivial
  | 2, g => trivial
  | 3, g => exact fun R hr D r E e j hj => by rw [h0, (hl (by simp) R hr r (by rw [e]; exact List.mem_append.mpr (Or.inr List.mem_cons_self))).1, ha (by simp) R hr D r E e j]; exact g R hr D r E e j hj
  | 4, g => exact fun R hr D r E e j hj => by rw [h0, (hl (by simp) R hr r (by rw [e]; exact List.mem_append.mpr (Or.inr List.mem_cons_self))).1, ha (by simp) R hr D r E e j]; exact g R hr D r E e j hj
  | 5, g =>
    obtain ⟨k, -, -⟩ := h2 (by simp)
    have a1 := he _ k _ List.mem_cons_self
    have a2 := he _ k _ (List.mem_cons_of_mem _ List.mem_cons_self)
    exact ⟨fun j hj => by rw [a1.1, h0, a2.2]; exact g.1 j hj, by rw [a2.1, h0]; exact g.2⟩
  | 6, g =>
    obtain ⟨k, -, -⟩ := h2 (by simp)
    have a1 := he _ k _ List.mem_cons_self
    have a2 := he _ k _ (List.mem_cons_of_mem _ List.mem_cons_self)
    exact ⟨fun j hj => by rw [a1.1, h0, a2.2]; exact g.1 j hj, by rw [a2.1, h0]; exact g.2⟩
  | 7, g =>
    obtain ⟨k, -, -, -⟩ := h3 rfl
    have a1 := he _ k _ List.mem_cons_self
    have a2 := he _ k _ (List.mem_cons_of_mem _ List.mem_cons_self)
    have a3 := he _ k _ (List.mem_cons_of_mem _ (List.mem_cons_of_mem _ List.mem_cons_self))
    exact ⟨fun j hj => by rw [a1.1, h0, a2.2, a3.2]; exact g.1 j hj, by rw [a2.1, h0]; exact g.2.1, by rw [a3.1, h0]; exact g.2.2⟩
  | 8, g => exact fun R hr r hm => by rw [h0, (hl (by simp) R hr r hm).1]; exact g R hr r hm
  | 9, g =>
    obtain ⟨k, -⟩ := h4 rfl
    show b2 _ = b2 q
    rw [(he _ k _ List.mem_cons_self).1, h0]; exact g
  | _ + 10, g => trivial
theorem zKB_st {S : Nat → Nat → Int32} {L C : Nat → Nat} {u b b0 b2 : Nat → Int32} {a e k t : Nat} {R : List Nat} (hw : zJw S L C a e) (h : zKB S u b b0 a e t) (et : t = k + 1) (hk : a ≤ k) (hk2 : k < e) (hR : zJr L (L k) k R) (hb : ∀ r, r ∉ R → b2 r = b r) (hz : zKb S u b2 k (Int32.toNatClampNeg (S 0 k))) : zKB S u b2 b0 a e k := by
  subst et
  obtain ⟨h1, h2, h3⟩ := h
  have hlo := (hw.2.2 k hk hk2).1
  have hin : ∀ r, r < L k ∨ k ≤ r → b2 r = b r := fun r hr => hb r (fun g => by have := zJr_in hR r g; omega)
  refine ⟨fun q q1 q2 => ?_, by rw [hin (e - 1) (by omega)]; exact h2, fun q hq => by rw [hin q (by omega)]; exact h3 q hq⟩
  by_cases g : q = k
  · rw [g]; exact hz
  · obtain ⟨w1, w2, w3, -⟩ := hw.2.2 q (by omega) q2
    refine zKb_ext w3 (hin q (by omega)) (fun RQ hRQ x hx => ⟨hb x (fun gx => ?_), rfl⟩) (h1 q (by omega) q2)
    have i1 := zJr_in hRQ x hx
    have i2 := zJr_in hR x gx
    exact zJr_one hRQ hx (k := k) (by omega) (by omega) i2.1 i2.2
/-- the nine ways of it -/
theorem zKb_leaf {S : Nat → Nat → Int32} {L C : Nat → Nat} {u b : Nat → Int32} {k n : Nat} (h : zJn S L C k n) (hn : n ≠ 3 ∧ n ≠ 4 ∧ n ≠ 5 ∧ n ≠ 6 ∧ n ≠ 7 ∧ n ≠ 8 ∧ n ≠ 9) : zJr L (L k) k [] ∧ zKb S u b k n := by
  match n, h with
  | 0, h => exact h.elim
  | 1, h => exact ⟨h, trivial⟩
  | 2, h => exact ⟨h.1, trivial⟩
  | 3, h => exact absurd rfl hn.1
  | 4, h => exact absurd rfl hn.2.1
  | 5, h => exact absurd rfl hn.2.2.1
  | 6, h => exact absurd rfl hn.2.2.2.1
  | 7, h => exact absurd rfl hn.2.2.2.2.1
  | 8, h => exact absurd rfl hn.2.2.2.2.2.1
  | 9, h => exact absurd rfl hn.2.2.2.2.2.2
  | _ + 10, h => exact h.elim
theorem zKb_5 {S : Nat → Nat → Int32} {L C : Nat → Nat} {u b b1 b2 : Nat → Int32} {k n : Nat} {bk v : Int32} (h : zJn S L C k n) (hn : n = 5) (ebk : bk = b k) (e1 : b1 = upd b (Int32.toNatClampNeg (S 2 k)) v) (ev : ∀ j, j < 32 → zbit v j = (zbit bk j || zbit (u (Int32.toNatClampNeg (S 3 k))) j)) (e2 : b2 = upd b1 (Int32.toNatClampNeg (S 3 k)) bk) : ∃ R, zJr L (L k) k R ∧ (∀ r, r ∉ R → b2 r = b r) ∧ zKb S u b2 k n := by
  subst hn
  obtain ⟨g, -, -⟩ := (zJn_ch h).2.1 (Or.inl rfl)
  have i1 := zJr_in g _ List.mem_cons_self
  have i2 := zJr_in g _ (List.mem_cons_of_mem _ List.mem_cons_self)
  have i3 : Int32.toNatClampNeg (S 2 k) < Int32.toNatClampNeg (S 3 k) := zJr_lt2 (P := [Int32.toNatClampNeg (S 2 k)]) (Q := []) g _ List.mem_cons_self
  have hk : b2 k = b k := by rw [e2, zu_n (by omega), e1, zu_n (by omega)]
  refine ⟨_, g, fun r hr => ?_, fun j hj => ?_, ?_⟩
  · rw [e2, zu_n (fun x => hr (by rw [x]; exact List.mem_cons_of_mem _ List.mem_cons_self)), e1, zu_n (fun x => hr (by rw [x]; exact List.mem_cons_self))]
  · rw [hk, e2, zu_n (by omega), e1, zu_s, ev j hj, ebk]
  · rw [hk, e2, zu_s, ebk]
theorem zKb_6 {S : Nat → Nat → Int32} {L C : Nat → Nat} {u b b1 b2 : Nat → Int32} {k n : Nat} {bk v : Int32} (h : zJn S L C k n) (hn : n = 6) (ebk : bk = b k) (e1 : b1 = upd b (Int32.toNatClampNeg (S 2 k)) v) (ev : ∀ j, j < 32 → zbit v j = (zbit bk j || (zbit (u (Int32.toNatClampNeg (S 3 k))) j && !(j == Int32.toNatClampNeg (S 1 k))))) (e2 : b2 = upd b1 (Int32.toNatClampNeg (S 3 k)) bk) : ∃ R, zJr L (L k) k R ∧ (∀ r, r ∉ R → b2 r = b r) ∧ zKb S u b2 k n := by
  subst hn
  obtain ⟨g, -, -⟩ := (zJn_ch h).2.1 (Or.inr rfl)
  have i1 := zJr_in g _ List.mem_cons_self
  have i2 := zJr_in g _ (List.mem_cons_of_mem _ List.mem_cons_self)
  have i3 : Int32.toNatClampNeg (S 2 k) < Int32.toNatClampNeg (S 3 k) := zJr_lt2 (P := [Int32.toNatClampNeg (S 2 k)]) (Q := []) g _ List.mem_cons_self
  have hk : b2 k = b k := by rw [e2, zu_n (by omega), e1, zu_n (by omega)]
  refine ⟨_, g, fun r hr => ?_, fun j hj => ?_, ?_⟩
  · rw [e2, zu_n (fun x => hr (by rw [x]; exact List.mem_cons_of_mem _ List.mem_cons_self)), e1, zu_n (fun x => hr (by rw [x]; exact List.mem_cons_self))]
  · rw [hk, e2, zu_n (by omega), e1, zu_s, ev j hj, ebk]
  · rw [hk, e2, zu_s, ebk]
theorem zKb_7 {S : Nat → Nat → Int32} {L C : Nat → Nat} {u b b1 b2 b3 : Nat → Int32} {k n : Nat} {bk v : Int32} (h : zJn S L C k n) (hn : n = 7) (ebk : bk = b k) (e1 : b1 = upd b (Int32.toNatClampNeg (S 2 k)) v) (ev : ∀ j, j < 32 → zbit v j = (zbit bk j || zbit (u (Int32.toNatClampNeg (S 3 k))) j || zbit (u (Int32.toNatClampNeg (S 4 k))) j)) (e2 : b2 = upd b1 (Int32.toNatClampNeg (S 3 k)) bk) (e3 : b3 = upd b2 (Int32.toNatClampNeg (S 4 k)) bk) : ∃ R, zJr L (L k) k R ∧ (∀ r, r ∉ R → b3 r = b r) ∧ zKb S u b3 k n := by
  subst hn
  obtain ⟨g, -, -, -⟩ := (zJn_ch h).2.2.1 rfl
  have i1 := zJr_in g _ List.mem_cons_self
  have i2 := zJr_in g _ (List.mem_cons_of_mem _ List.mem_cons_self)
  have i4 := zJr_in g _ (List.mem_cons_of_mem _ (List.mem_cons_of_mem _ List.mem_cons_self))
  have i3 : Int32.toNatClampNeg (S 2 k) < Int32.toNatClampNeg (S 3 k) := zJr_lt2 (P := [Int32.toNatClampNeg (S 2 k)]) (Q := [Int32.toNatClampNeg (S 4 k)]) g _ List.mem_cons_self
  have i5 : Int32.toNatClampNeg (S 3 k) < Int32.toNatClampNeg (S 4 k) := zJr_lt2 (P := [Int32.toNatClampNeg (S 2 k), Int32.toNatClampNeg (S 3 k)]) (Q := []) g _ (List.mem_cons_of_mem _ List.mem_cons_self)
  have hk : b3 k = b k := by rw [e3, zu_n (by omega), e2, zu_n (by omega), e1, zu_n (by omega)]
  refine ⟨_, g, fun r hr => ?_, fun j hj => ?_, ?_, ?_⟩
  · rw [e3, zu_n (fun x => hr (by rw [x]; exact List.mem_cons_of_mem _ (List.mem_cons_of_mem _ List.mem_cons_self))), e2, zu_n (fun x => hr (by rw [x]; exact List.mem_cons_of_mem _ List.mem_cons_self)), e1, zu_n (fun x => hr (by rw [x]; exact List.mem_cons_self))]
  · rw [hk, e3, zu_n (by omega), e2, zu_n (by omega), e1, zu_s, ev j hj, ebk]
  · rw [hk, e3, zu_n (by omega), e2, zu_s, ebk]
  · rw [hk, e3, zu_s, ebk]
theorem zKb_9 {S : Nat → Nat → Int32} {L C : Nat → Nat} {u b b1 : Nat → Int32} {k n : Nat} {bk : Int32} (h : zJn S L C k n) (hn : n = 9) (ebk : bk = b k) (e1 : b1 = upd b (Int32.toNatClampNeg (S 2 k)) bk) : ∃ R, zJr L (L k) k R ∧ (∀ r, r ∉ R → b1 r = b r) ∧ zKb S u b1 k n := by
  subst hn
  obtain ⟨g, -⟩ := (zJn_ch h).2.2.2 rfl
  have i1 := zJr_in g _ List.mem_cons_self
  refine ⟨_, g, fun r hr => ?_, ?_⟩
  · rw [e1, zu_n (fun x => hr (by rw [x]; exact List.mem_cons_self))]
  · show b1 _ = b1 k
    rw [e1, zu_s, zu_n (by omega), ebk]
theorem zKb_3 {S : Nat → Nat → Int32} {L : Nat → Nat} {u b b0 : Nat → Int32} {k n : Nat} {bk : Int32} {R : List Nat} (hn : n = 3 ∨ n = 4) (ebk : bk = b0 k) (hR : zJr L (L k) k R) (hl : zli (S 5) (S 2 k) R) (h : zKo u b b0 bk R []) : ∃ R, zJr L (L k) k R ∧ (∀ r, r ∉ R → b r = b0 r) ∧ zKb S u b k n := by
  obtain ⟨h1, h2⟩ := zKo_end h
  have hk : b k = b0 k := h2 k (fun g => by have := zJr_in hR k g; omega)
  refine ⟨R, hR, h2, ?_⟩
  rcases hn with rfl | rfl
  · exact fun R' hr D r E e j hj => by rw [zli_uq' hr hl] at e; rw [hk, ← ebk]; exact h1 D r E e j hj
  · exact fun R' hr D r E e j hj => by rw [zli_uq' hr hl] at e; rw [hk, ← ebk]; exact h1 D r E e j hj
theorem zKb_8 {S : Nat → Nat → Int32} {L : Nat → Nat} {u b b0 : Nat → Int32} {k n : Nat} {bk : Int32} {R : List Nat} (hn : n = 8) (ebk : bk = b0 k) (hR : zJr L (L k) k R) (hl : zli (S 5) (S 2 k) R) (h : zKm b b0 bk R []) : ∃ R, zJr L (L k) k R ∧ (∀ r, r ∉ R → b r = b0 r) ∧ zKb S u b k n := by
  have hk : b k = b0 k := h.2.2 k (fun g => by have := zJr_in hR k g; omega)
  refine ⟨R, hR, h.2.2, ?_⟩
  subst hn
  exact fun R' hr r hm => by
    rw [zli_uq' hr hl] at hm
    rw [hk, ← ebk]
    exact (h.2.1 r hm).resolve_right (fun g => nomatch g)
theorem zKq_1 {S : Nat → Nat → Int32} {L C : Nat → Nat} {u : Nat → Int32} {k n : Nat} (h : zJn S L C k n) (hn : n ≠ 2 ∧ n ≠ 3 ∧ n ≠ 4 ∧ n ≠ 5 ∧ n ≠ 6 ∧ n ≠ 7 ∧ n ≠ 8 ∧ n ≠ 9) : zKq S u k 0 n := by
  match n, h with
  | 0, h => exact h.elim
  | 1, h => exact fun j hj => zbit_z hj
  | 2, h => exact absurd rfl hn.1
  | 3, h => exact absurd rfl hn.2.1
  | 4, h => exact absurd rfl hn.2.2.1
  | 5, h => exact absurd rfl hn.2.2.2.1
  | 6, h => exact absurd rfl hn.2.2.2.2.1
  | 7, h => exact absurd rfl hn.2.2.2.2.2.1
  | 8, h => exact absurd rfl hn.2.2.2.2.2.2.1
  | 9, h => exact absurd rfl hn.2.2.2.2.2.2.2
  | _ + 10, h => exact h.elim
theorem zKq_3 {S : Nat → Nat → Int32} {u : Nat → Int32} {k n : Nat} {v : Int32} {R : List Nat} (hn : n = 3 ∨ n = 4) (hR : zli (S 5) (S 2 k) R) (h : zKc u v [] (fun _ => false) R) : zKq S u k v n := by
  rcases hn with rfl | rfl
  · exact fun R' hr j hj => by rw [zli_uq' hr hR, zKc_end h j hj, Bool.false_or]
  · exact fun R' hr j hj => by rw [zli_uq' hr hR, zKc_end h j hj, Bool.false_or]
theorem zKq_8 {S : Nat → Nat → Int32} {u : Nat → Int32} {k n : Nat} {v : Int32} {R : List Nat} (hn : n = 8) (hR : zli (S 5) (S 2 k) R) (h : zKc u v [] (fun j => j == Int32.toNatClampNeg (S 1 k)) R) : zKq S u k v n := by
  subst hn
  exact fun R' hr j hj => by rw [zli_uq' hr hR, zKc_end h j hj]
theorem zKc_0 {u : Nat → Int32} {R : List Nat} : zKc u 0 R (fun _ => false) R := fun j hj => by rw [zbit_z hj]
theorem zKc_w {u : Nat → Int32} {v : Int32} {R : List Nat} {w : Nat → Bool} (h : ∀ j, j < 32 → zbit v j = w j) : zKc u v R w R := fun j hj => by rw [h j hj]
theorem zKB_0 {S : Nat → Nat → Int32} {u b b0 : Nat → Int32} {a e p t : Nat} (hb : b = upd b0 p 0) (hp : p = e - 1) (hae : a < e) (ht : t = e) : zKB S u b b0 a e t := ⟨fun q h1 h2 => absurd h1 (by omega), by rw [hb, hp, zu_s], fun q hq => by rw [hb, zu_n (by omega)]⟩
theorem zKB_t {S : Nat → Nat → Int32} {u b b0 : Nat → Int32} {a e t t2 : Nat} (h : zKB S u b b0 a e t) (ht : t = t2) : zKB S u b b0 a e t2 := ht ▸ h
theorem zKU_t {S : Nat → Nat → Int32} {u u0 : Nat → Int32} {a t t2 : Nat} (h : zKU S u u0 a t) (ht : t = t2) : zKU S u u0 a t2 := ht ▸ h
/-! what is made in a part, a bit for each number of fields -/
def zMq (S : Nat → Nat → Int32) (u : Nat → Int32) (k : Nat) (v : Int32) : Nat → Prop
  | 3 => ∀ R, zli (S 5) (S 2 k) R → ∀ j, j < 8 → zbit v j = R.any (zKf u j)
  | 4 => ∀ R, zli (S 5) (S 2 k) R → ∀ j, j < 8 → zbit v j = ((decide (0 < (S 6 k).toInt) && (j == Int32.toNatClampNeg (S 6 k))) || R.any (zKf u j))
  | 5 => ∀ j, j < 8 → zbit v j = (zbit (u (Int32.toNatClampNeg (S 2 k))) j || zbit (u (Int32.toNatClampNeg (S 3 k))) j)
  | 6 => ∀ j, j < 8 → zbit v j = (zbit (u (Int32.toNatClampNeg (S 2 k))) j || zbit (u (Int32.toNatClampNeg (S 3 k))) j)
  | 7 => ∀ j, j < 8 → zbit v j = (zbit (u (Int32.toNatClampNeg (S 2 k))) j || zbit (u (Int32.toNatClampNeg (S 3 k))) j || zbit (u (Int32.toNatClampNeg (S 4 k))) j)
  | 8 => ∀ R, zli (S 5) (S 2 k) R → ∀ j, j < 8 → zbit v j = R.any (zKf u j)
  | 9 => ∀ j, j < 8 → zbit v j = zbit (u (Int32.toNatClampNeg (S 2 k))) j
  | _ => ∀ j, j < 8 → zbit v j = false
theorem zMq_v {S : Nat → Nat → Int32} {u : Nat → Int32} {k n : Nat} {v v2 : Int32} (e : ∀ j, j < 8 → zbit v2 j = zbit v j) (q : zMq S u k v n) : zMq S u k v2 n := by
  match n, q with
  | 0, q => exact fun j hj => (e j hj).trans (q j hj)
  | 1, q => exact fun j hj => (e j hj).trans (q j hj)
  | 2, q => exact fun j hj => (e j hj).trans (q j hj)
  | 3, q => exact fun R hr j hj => (e j hj).trans (q R hr j hj)
  | 4, q => exact fun R hr j hj => (e j hj).trans (q R hr j hj)
  | 5, q => exact fun j hj => (e j hj).trans (q j hj)
  | 6, q => exact fun j hj => (e j hj).trans (q j hj)
  | 7, q => exact fun j hj => (e j hj).trans (q j hj)
  | 8, q => exact fun R hr j hj => (e j hj).trans (q R hr j hj)
  | 9, q => exact fun j hj => (e j hj).trans (q j hj)
  | _ + 10, q => exact fun j hj => (e j hj).trans (q j hj)
theorem zMq_cg {S S2 : Nat → Nat → Int32} {u : Nat → Int32} {k n : Nat} {v : Int32} (e2 : S2 2 = S 2) (e3 : S2 3 = S 3) (e4 : S2 4 = S 4) (e5 : S2 5 = S 5) (e6 : S2 6 = S 6) (q : zMq S u k v n) : zMq S2 u k v n := by
  have c2 : S2 2 k = S 2 k := by rw [e2]
  have c3 : S2 3 k = S 3 k := by rw [e3]
  have c4 : S2 4 k = S 4 k := by rw [e4]
  have c6 : S2 6 k = S 6 k := by rw [e6]
  have li : ∀ R, zli (S2 5) (S2 2 k) R → zli (S 5) (S 2 k) R := fun R hr => by rw [e5, c2] at hr; exact hr
  match n, q with
  | 0, q => exact fun j hj => (q j hj : zbit v j = false)
  | 1, q => exact fun j hj => (q j hj : zbit v j = false)
  | 2, q => exact fun j hj => (q j hj : zbit v j = false)
  | 3, q => exact fun R hr j hj => q R (li R hr) j hj
  | 4, q => exact fun R hr j hj => (q R (li R hr) j hj).trans (by rw [c6])
  | 5, q => exact fun j hj => (q j hj).trans (by rw [c2, c3])
  | 6, q => exact fun j hj => (q j hj).trans (by rw [c2, c3])
  | 7, q => exact fun j hj => (q j hj).trans (by rw [c2, c3, c4])
  | 8, q => exact fun R hr j hj => q R (li R hr) j hj
  | 9, q => exact fun j hj => (q j hj).trans (by rw [c2])
  | _ + 10, q => exact fun j hj => (q j hj : zbit v j = false)
theorem zMq_ext {S : Nat → Nat → Int32} {L C : Nat → Nat} {u u2 : Nat → Int32} {k n : Nat} {v : Int32} (h : zJn S L C k n) (he : ∀ r, L k ≤ r → r < k → u2 r = u r) (q : zMq S u k v n) : zMq S u2 k v n := by
  obtain ⟨h1, h2, h3, h4⟩ := zJn_ch h
  have hR : ∀ {R : List Nat}, zJr L (L k) k R → ∀ r ∈ R, u2 r = u r := fun {R} g r hr => by have := zJr_in g r hr; exact he r this.1 this.2
  have hl : (n = 3 ∨ n = 4 ∨ n = 8) → ∀ R, zli (S 5) (S 2 k) R → ∀ j, R.any (zKf u2 j) = R.any (zKf u j) := fun g R hr j => by
    obtain ⟨R', a, b⟩ := h1 g
    rw [zli_uq' hr b]
    exact zany_ext (hR a)
  match n, q with
  | 0, q => exact q
  | 1, q => exact q
  | 2, q => exact q
  | 3, q => exact fun R hr j hj => by rw [hl (by simp) R hr j]; exact q R hr j hj
  | 4, q => exact fun R hr j hj => by rw [hl (by simp) R hr j]; exact q R hr j hj
  | 5, q =>
    obtain ⟨g, -, -⟩ := h2 (by simp)
    intro j hj
    rw [hR g _ List.mem_cons_self, hR g _ (List.mem_cons_of_mem _ List.mem_cons_self)]; exact q j hj
  | 6, q =>
    obtain ⟨g, -, -⟩ := h2 (by simp)
    intro j hj
    rw [hR g _ List.mem_cons_self, hR g _ (List.mem_cons_of_mem _ List.mem_cons_self)]; exact q j hj
  | 7, q =>
    obtain ⟨g, -, -, -⟩ := h3 rfl
    intro j hj
    rw [hR g _ List.mem_cons_self, hR g _ (List.mem_cons_of_mem _ List.mem_cons_self), hR g _ (List.mem_cons_of_mem _ (List.mem_cons_of_mem _ List.mem_cons_self))]; exact q j hj
  | 8, q => exact fun R hr j hj => by rw [hl (by simp) R hr j]; exact q R hr j hj
  | 9, q =>
    obtain ⟨g, -⟩ := h4 rfl
    intro j hj
    rw [hR g _ List.mem_cons_self]; exact q j hj
  | _ + 10, q => exact q
def zMU (S : Nat → Nat → Int32) (u u0 : Nat → Int32) (a k : Nat) : Prop := (∀ q, a ≤ q → q < k → zMq S u q (u q) (Int32.toNatClampNeg (S 0 q))) ∧ ∀ q, q < a ∨ k ≤ q → u q = u0 q
theorem zMU_0 {S : Nat → Nat → Int32} {u : Nat → Int32} {a : Nat} : zMU S u u a a := ⟨fun q h1 h2 => absurd h1 (by omega), fun _ _ => rfl⟩
theorem zMU_t {S : Nat → Nat → Int32} {u u0 : Nat → Int32} {a t t2 : Nat} (h : zMU S u u0 a t) (ht : t = t2) : zMU S u u0 a t2 := ht ▸ h
theorem zMU_st {S : Nat → Nat → Int32} {L C : Nat → Nat} {u u0 u2 : Nat → Int32} {a e k k2 : Nat} {v v2 : Int32} (hw : zJw S L C a e) (h : zMU S u u0 a k) (hk : a ≤ k) (hk2 : k < e) (q : zMq S u k v (Int32.toNatClampNeg (S 0 k))) (ev : ∀ j, j < 8 → zbit v2 j = zbit v j) (eu : u2 = upd u k v2) (ek : k2 = k + 1) : zMU S u2 u0 a k2 := by
  subst ek
  have hx : ∀ r, r < k → u2 r = u r := fun r hr => by rw [eu, zu_n (by omega)]
  refine ⟨fun r h1 h2 => ?_, fun r hr => ?_⟩
  · obtain ⟨w1, w2, w3, -⟩ := hw.2.2 r h1 (by omega)
    by_cases g : r = k
    · subst g
      rw [show u2 r = v2 by rw [eu, zu_s]]
      exact zMq_ext w3 (fun x _ hx' => hx x hx') (zMq_v ev q)
    · rw [hx r (by omega)]
      exact zMq_ext w3 (fun x _ hx' => hx x (by omega)) (h.1 r h1 (by omega))
  · rw [eu, zu_n (by omega)]
    exact h.2 r (by omega)
/-- a chain so far -/
def zMc (u : Nat → Int32) (v : Int32) (A : List Nat) (w : Nat → Bool) (R : List Nat) : Prop := ∀ j, j < 8 → (zbit v j || A.any (zKf u j)) = (w j || R.any (zKf u j))
theorem zMc_w {u : Nat → Int32} {v : Int32} {R : List Nat} {w : Nat → Bool} (h : ∀ j, j < 8 → zbit v j = w j) : zMc u v R w R := fun j hj => by rw [h j hj]
theorem zMc_st {u : Nat → Int32} {v v2 x : Int32} {y : Nat} {A R : List Nat} {w : Nat → Bool} (h : zMc u v (y :: A) w R) (e : v2 = v ||| x) (ex : x = u y) : zMc u v2 A w R := fun j hj => by
  rw [← h j hj, e, zbit_or, ex, List.any_cons, Bool.or_assoc]; rfl
theorem zMc_end {u : Nat → Int32} {v : Int32} {R : List Nat} {w : Nat → Bool} (h : zMc u v [] w R) : ∀ j, j < 8 → zbit v j = (w j || R.any (zKf u j)) := fun j hj => by
  have := h j hj
  rw [List.any_nil, Bool.or_false] at this
  exact this
/-- what a part makes itself -/
def zM7 (S : Nat → Nat → Int32) (k j : Nat) : Bool := decide (Int32.toNatClampNeg (S 0 k) = 4) && (decide (0 < (S 6 k).toInt) && (j == Int32.toNatClampNeg (S 6 k)))
theorem zM7_3 {S : Nat → Nat → Int32} {k j : Nat} (h : Int32.toNatClampNeg (S 0 k) ≠ 4) : zM7 S k j = false := by unfold zM7; rw [decide_eq_false h]; rfl
theorem zM7_0 {S : Nat → Nat → Int32} {k j : Nat} (h : (S 6 k).toInt ≤ 0) : zM7 S k j = false := by unfold zM7; rw [decide_eq_false (show ¬ 0 < (S 6 k).toInt by omega)]; cases decide (Int32.toNatClampNeg (S 0 k) = 4) <;> rfl
theorem zM7_y {S : Nat → Nat → Int32} {k j : Nat} (h1 : Int32.toNatClampNeg (S 0 k) = 4) (h : 0 < (S 6 k).toInt) : zM7 S k j = (j == Int32.toNatClampNeg (S 6 k)) := by unfold zM7; rw [decide_eq_true h1, decide_eq_true h]; rfl
theorem zMq_34 {S : Nat → Nat → Int32} {u : Nat → Int32} {k n : Nat} {v : Int32} {R : List Nat} (hn : n = 3 ∨ n = 4) (h0 : Int32.toNatClampNeg (S 0 k) = n) (hR : zli (S 5) (S 2 k) R) (h : zMc u v [] (zM7 S k) R) : zMq S u k v n := by
  rcases hn with rfl | rfl
  · exact fun R' hr j hj => by rw [zli_uq' hr hR, zMc_end h j hj, zM7_3 (by omega), Bool.false_or]
  · exact fun R' hr j hj => by rw [zli_uq' hr hR, zMc_end h j hj]; unfold zM7; rw [decide_eq_true h0, Bool.true_and]
theorem zMq_8 {S : Nat → Nat → Int32} {u : Nat → Int32} {k n : Nat} {v : Int32} {R : List Nat} (hn : n = 8) (hR : zli (S 5) (S 2 k) R) (h : zMc u v [] (fun _ => false) R) : zMq S u k v n := by
  subst hn
  exact fun R' hr j hj => by rw [zli_uq' hr hR, zMc_end h j hj, Bool.false_or]
theorem zMq_0 {S : Nat → Nat → Int32} {u : Nat → Int32} {k n : Nat} (hn : n ≠ 3 ∧ n ≠ 4 ∧ n ≠ 5 ∧ n ≠ 6 ∧ n ≠ 7 ∧ n ≠ 8 ∧ n ≠ 9) : zMq S u k 0 n := by
  have z : ∀ j, j < 8 → zbit 0 j = false := fun j hj => zbit_z (by omega)
  match n with
  | 0 => exact z
  | 1 => exact z
  | 2 => exact z
  | 3 => exact absurd rfl hn.1
  | 4 => exact absurd rfl hn.2.1
  | 5 => exact absurd rfl hn.2.2.1
  | 6 => exact absurd rfl hn.2.2.2.1
  | 7 => exact absurd rfl hn.2.2.2.2.1
  | 8 => exact absurd rfl hn.2.2.2.2.2.1
  | 9 => exact absurd rfl hn.2.2.2.2.2.2
  | _ + 10 => exact z
/-- all parts below t -/
def zMA (S : Nat → Nat → Int32) (u : Nat → Int32) (t : Nat) : Prop := ∀ k, k < t → zMq S u k (u k) (Int32.toNatClampNeg (S 0 k))
theorem zMA_0 {S : Nat → Nat → Int32} {u : Nat → Int32} {t : Nat} (h : t = 0) : zMA S u t := fun k hk => by omega
theorem zMA_st {S : Nat → Nat → Int32} {L C : Nat → Nat} {u u2 : Nat → Int32} {a e z : Nat} (hs : zJs S L C 0 z) (hez : e ≤ z) (h : zMA S u a) (hU : zMU S u2 u a e) : zMA S u2 e := fun k hk => by
  by_cases c : k < a
  · obtain ⟨v1, v2, v3, v4⟩ := hs k (Nat.zero_le _) (by omega)
    have hu : ∀ r, r < a → u2 r = u r := fun r hr => hU.2 r (Or.inl hr)
    rw [hu k c]; exact zMq_ext v3 (fun r _ hr => hu r (by omega)) (h k c)
  · exact hU.1 k (by omega) hk
def rMa (B : Nat → Nat → Int32) (mk : Nat → Int32) (z : Nat) : Prop := zMA (zJS (B 0) (B 2) (B 3) (B 4) (B 5) (B 6) (B 7) (B 7) 0) mk z
theorem rMa_mk {wh pl ow ow2 on tw th be ma fi mk : Nat → Int32} {kz : Int32} {z z2 : Nat} (h : zMA (zJS wh ow on tw th be ma fi kz) mk z) (ez : z = z2) : rMa (rcs wh pl ow2 on tw th be ma) mk z2 := by
  subst ez
  exact fun k hk => zMq_cg (S := zJS wh ow on tw th be ma fi kz) rfl rfl rfl rfl rfl (h k hk)
theorem zbit_b8 {x : Int32} {j : Nat} (hj : j < 8) : zbit (x.toInt8.toInt32) j = zbit x j := by
  unfold zbit
  have h : j < 32 := by omega
  rw [Int8.toBitVec_toInt32, Int32.toBitVec_toInt8, BitVec.getLsbD_signExtend, BitVec.getLsbD_signExtend]
  simp [hj, h]
theorem zbit_nb {x y : Int32} {j : Nat} (e : y = x.toInt8.toInt32) (hj : j < 8) : zbit (vp_nar .byte y) j = zbit x j := by
  rw [show vp_nar .byte y = y.toInt8.toInt32 from rfl, zbit_b8 hj, e, zbit_b8 hj]

end
section
/-! which slots a tree uses -/
section
variable {wh pl ow on tw th be ma fi : Nat → Int32} {kz : Int32} {u u0 : Nat → Int32} {a0 b0 : Nat} {J : Nat → Int64 → Prop}
theorem rI_1 {R : Nat → Nat → Int32} : ∀ {t : Tm} {fr : Int32} {a b : Nat}, ¬ tm_cl t → rI R J t fr a b → a < b
  | .leaf (some (0, _, _, _, _, _)), _, _, _, _, h => by have := h.1; omega
  | .leaf (some (_ + 1, _, _, _, _, _)), _, _, _, _, h => by have := h.1; omega
  | .branch 0 (.leaf (some (0, _, _, _, _, _))) x, _, _, _, _, h => by obtain ⟨m, h1, h2, -⟩ := h; have := rI_le x h1; omega
  | .branch 0 (.leaf (some (1, _, _, _, _, _))) x, _, _, _, _, h => by obtain ⟨m, h1, h2, -⟩ := h; have := rI_le x h1; omega
  | .branch 1 (.leaf (some (0, _, _, _, _, _))) (.branch _ x y), _, _, _, _, h => by obtain ⟨m, n, h1, h2, h3, -⟩ := h; have := rI_le x h1; have := rI_le y h2; omega
  | .branch 1 (.leaf (some (_ + 1, _, _, _, _, _))) (.branch _ x y), _, _, _, _, h => by obtain ⟨m, n, h1, h2, h3, -⟩ := h; have := rI_le x h1; have := rI_le y h2; omega
  | .branch 2 (.leaf (some (_, _, _, _, _, _))) (.branch _ x (.branch _ y z)), _, _, _, _, h => by obtain ⟨m, n, q, h1, h2, h3, h4, -⟩ := h; have := rI_le x h1; have := rI_le y h2; have := rI_le z h3; omega
  | .branch 0 (.leaf (some (2, _, _, _, _, _))) x, _, _, _, _, h => by obtain ⟨m, h1, h2, -⟩ := h; have := rI_le x h1; omega
  | .branch 0 (.leaf (some (_ + 3, _, _, _, _, _))) x, _, _, _, _, h => by obtain ⟨m, h1, h2, -⟩ := h; have := rI_le x h1; omega
  | .branch 0 (.leaf none) _, _, _, _, _, h9 => h9.elim
  | .branch 0 (.branch _ _ _) _, _, _, _, _, h9 => h9.elim
  | .branch 1 (.leaf none) _, _, _, _, _, h9 => h9.elim
  | .branch 1 (.branch _ _ _) _, _, _, _, _, h9 => h9.elim
  | .branch 1 (.leaf (some (0, _, _, _, _, _))) (.leaf _), _, _, _, _, h9 => h9.elim
  | .branch 1 (.leaf (some (_ + 1, _, _, _, _, _))) (.leaf _), _, _, _, _, h9 => h9.elim
  | .branch 2 (.leaf none) _, _, _, _, _, h9 => h9.elim
  | .branch 2 (.branch _ _ _) _, _, _, _, _, h9 => h9.elim
  | .branch 2 (.leaf (some (_, _, _, _, _, _))) (.leaf _), _, _, _, _, h9 => h9.elim
  | .branch 2 (.leaf (some (_, _, _, _, _, _))) (.branch _ _ (.leaf _)), _, _, _, _, h9 => h9.elim
  | .leaf none, _, _, _, g, _ => absurd trivial g
  | .branch (_ + 3) _ _, _, _, _, g, _ => absurd trivial g
theorem rN_i {x : Int32} {m : Nat} (h : x.toInt = (m : Int) - 1) (h1 : 1 ≤ m) : Int32.toNatClampNeg x = m - 1 := zn_lit (by omega)
theorem rU_at (hU : zKU (zJS wh ow on tw th be ma fi kz) u u0 a0 b0) {q n : Nat} (h1 : a0 ≤ q) (h2 : q < b0) (hn : (wh q).toInt = (n : Int)) : zKq (zJS wh ow on tw th be ma fi kz) u q (u q) n := by
  have h := hU.1 q h1 h2
  rw [show Int32.toNatClampNeg ((zJS wh ow on tw th be ma fi kz) 0 q) = n from zn_lit hn] at h
  exact h
theorem rI_ub (hU : zKU (zJS wh ow on tw th be ma fi kz) u u0 a0 b0) : ∀ (t : Tm), tm_ok t → ∀ {fr : Int32} {a b : Nat}, rI (rcs wh pl ow on tw th be ma) J t fr a b → a0 ≤ a → b ≤ b0 → (¬ tm_cl t → ∀ j, j < 32 → zbit (u (b - 1)) j = tm_ub t j) ∧ (tm_li t → ∃ Rl, zli be fr Rl ∧ ∀ j, j < 32 → Rl.any (zKf u j) = tm_ub t j)
  | .leaf (some (0, _, _, _, _, _)), _, fr, a, b, h, ha, hb => by
    obtain ⟨rfl, h1, -⟩ := h
    refine ⟨fun _ j hj => ?_, fun g => g.elim⟩
    rw [Nat.add_sub_cancel]; exact rU_at hU ha (by omega) (n := 1) h1 j hj
  | .leaf (some (_ + 1, _, _, s, _, _)), _, fr, a, b, h, ha, hb => by
    obtain ⟨rfl, h1, h2, h3⟩ := h
    refine ⟨fun _ j hj => ?_, fun g => g.elim⟩
    rw [Nat.add_sub_cancel]
    have e := rU_at hU ha (by omega) (n := 2) h1 j hj
    rw [show Int32.toNatClampNeg ((zJS wh ow on tw th be ma fi kz) 1 a) = s from zn_lit h3] at e
    exact e
  | .branch 0 (.leaf (some (0, _, _, _, _, _))) x, ho, fr, a, b, h, ha, hb => by
    obtain ⟨m, q, rfl, h1, -⟩ := h
    have l := rI_le x q
    refine ⟨fun _ j hj => ?_, fun g => g.elim⟩
    obtain ⟨Rl, r1, r2⟩ := (rI_ub hU x ho.2 q ha (by omega)).2 ho.1
    rw [Nat.add_sub_cancel]
    exact (rU_at hU (by omega) (by omega) (n := 3) h1 Rl r1 j hj).trans (r2 j hj)
  | .branch 0 (.leaf (some (1, _, _, _, _, _))) x, ho, fr, a, b, h, ha, hb => by
    obtain ⟨m, q, rfl, h1, -⟩ := h
    have l := rI_le x q
    refine ⟨fun _ j hj => ?_, fun g => g.elim⟩
    obtain ⟨Rl, r1, r2⟩ := (rI_ub hU x ho.2 q ha (by omega)).2 ho.1
    rw [Nat.add_sub_cancel]
    exact (rU_at hU (by omega) (by omega) (n := 4) h1 Rl r1 j hj).trans (r2 j hj)
  | .branch 1 (.leaf (some (0, _, _, _, _, _))) (.branch _ x y), ho, fr, a, b, h, ha, hb => by
    obtain ⟨m, n, q, q2, rfl, h1, h2, h3, h4, h5⟩ := h
    have l := rI_le x q
    have l2 := rI_le y q2
    refine ⟨fun _ j hj => ?_, fun g => g.elim⟩
    rw [Nat.add_sub_cancel]
    have e := rU_at hU (by omega) (by omega) (n := 5) h1 j hj
    have ex := (rI_ub hU x ho.1.2 q ha (by omega)).1 ho.1.1 j hj
    have ey := (rI_ub hU y ho.2.2 q2 (by omega) (by omega)).1 ho.2.1 j hj
    have p1 := rI_1 ho.1.1 q
    have p2 := rI_1 ho.2.1 q2
    rw [show Int32.toNatClampNeg ((zJS wh ow on tw th be ma fi kz) 2 n) = m - 1 from rN_i h4 (by omega), show Int32.toNatClampNeg ((zJS wh ow on tw th be ma fi kz) 3 n) = n - 1 from rN_i h5 (by omega), ex, ey] at e
    exact e
  | .branch 1 (.leaf (some (_ + 1, _, _, s, _, _))) (.branch _ x y), ho, fr, a, b, h, ha, hb => by
    obtain ⟨m, n, q, q2, rfl, h1, h2, h3, h4, h5⟩ := h
    have l := rI_le x q
    have l2 := rI_le y q2
    refine ⟨fun _ j hj => ?_, fun g => g.elim⟩
    rw [Nat.add_sub_cancel]
    have e := rU_at hU (by omega) (by omega) (n := 6) h1 j hj
    have ex := (rI_ub hU x ho.1.2 q ha (by omega)).1 ho.1.1 j hj
    have ey := (rI_ub hU y ho.2.2 q2 (by omega) (by omega)).1 ho.2.1 j hj
    have p1 := rI_1 ho.1.1 q
    have p2 := rI_1 ho.2.1 q2
    rw [show Int32.toNatClampNeg ((zJS wh ow on tw th be ma fi kz) 2 n) = m - 1 from rN_i h4 (by omega), show Int32.toNatClampNeg ((zJS wh ow on tw th be ma fi kz) 3 n) = n - 1 from rN_i h5 (by omega), show Int32.toNatClampNeg ((zJS wh ow on tw th be ma fi kz) 1 n) = s from zn_lit h3, ex, ey] at e
    exact e
  | .branch 2 (.leaf (some (_, _, _, _, _, _))) (.branch _ x (.branch _ y z)), ho, fr, a, b, h, ha, hb => by
    obtain ⟨m, n, p, q, q2, q3, rfl, h1, h2, h3, h4, h5⟩ := h
    have l := rI_le x q
    have l2 := rI_le y q2
    have l3 := rI_le z q3
    refine ⟨fun _ j hj => ?_, fun g => g.elim⟩
    rw [Nat.add_sub_cancel]
    have e := rU_at hU (by omega) (by omega) (n := 7) h1 j hj
    have ex := (rI_ub hU x ho.1.2 q ha (by omega)).1 ho.1.1 j hj
    have ey := (rI_ub hU y ho.2.1.2 q2 (by omega) (by omega)).1 ho.2.1.1 j hj
    have ez := (rI_ub hU z ho.2.2.2 q3 (by omega) (by omega)).1 ho.2.2.1 j hj
    have p1 := rI_1 ho.1.1 q
    have p2 := rI_1 ho.2.1.1 q2
    have p3 := rI_1 ho.2.2.1 q3
    rw [show Int32.toNatClampNeg ((zJS wh ow on tw th be ma fi kz) 2 p) = m - 1 from rN_i h3 (by omega), show Int32.toNatClampNeg ((zJS wh ow on tw th be ma fi kz) 3 p) = n - 1 from rN_i h4 (by omega), show Int32.toNatClampNeg ((zJS wh ow on tw th be ma fi kz) 4 p) = p - 1 from rN_i h5 (by omega), ex, ey, ez] at e
    exact e
  | .branch 0 (.leaf (some (2, _, _, s, _, _))) x, ho, fr, a, b, h, ha, hb => by
    obtain ⟨m, q, rfl, h1, h2, h3⟩ := h
    have l := rI_le x q
    refine ⟨fun _ j hj => ?_, fun g => g.elim⟩
    obtain ⟨Rl, r1, r2⟩ := (rI_ub hU x ho.2 q ha (by omega)).2 ho.1
    rw [Nat.add_sub_cancel]
    have e := rU_at hU (by omega) (by omega) (n := 8) h1 Rl r1 j hj
    rw [show Int32.toNatClampNeg ((zJS wh ow on tw th be ma fi kz) 1 m) = s from zn_lit h3, r2 j hj] at e
    exact e
  | .branch 0 (.leaf (some (_ + 3, _, _, hh, mm, _))) x, ho, fr, a, b, h, ha, hb => by
    obtain ⟨m, q, rfl, h1, h2, h3, h4, h5, h6⟩ := h
    have l := rI_le x q
    refine ⟨fun _ j hj => ?_, fun g => g.elim⟩
    rw [Nat.add_sub_cancel]
    have e := rU_at hU (by omega) (by omega) (n := 9) h1 j hj
    have ex := (rI_ub hU x ho.2 q ha (by omega)).1 ho.1 j hj
    have p1 := rI_1 ho.1 q
    rw [show Int32.toNatClampNeg ((zJS wh ow on tw th be ma fi kz) 2 m) = m - 1 from rN_i h6 (by omega), show ((zJS wh ow on tw th be ma fi kz) 3 m).toInt = (hh : Int) from h4, show ((zJS wh ow on tw th be ma fi kz) 6 m).toInt = (mm : Int) from h5, ex] at e
    exact e
  | .branch 0 (.leaf none) _, _, _, _, _, h9, _, _ => h9.elim
  | .branch 0 (.branch _ _ _) _, _, _, _, _, h9, _, _ => h9.elim
  | .branch 1 (.leaf none) _, _, _, _, _, h9, _, _ => h9.elim
  | .branch 1 (.branch _ _ _) _, _, _, _, _, h9, _, _ => h9.elim
  | .branch 1 (.leaf (some (0, _, _, _, _, _))) (.leaf _), _, _, _, _, h9, _, _ => h9.elim
  | .branch 1 (.leaf (some (_ + 1, _, _, _, _, _))) (.leaf _), _, _, _, _, h9, _, _ => h9.elim
  | .branch 2 (.leaf none) _, _, _, _, _, h9, _, _ => h9.elim
  | .branch 2 (.branch _ _ _) _, _, _, _, _, h9, _, _ => h9.elim
  | .branch 2 (.leaf (some (_, _, _, _, _, _))) (.leaf _), _, _, _, _, h9, _, _ => h9.elim
  | .branch 2 (.leaf (some (_, _, _, _, _, _))) (.branch _ _ (.leaf _)), _, _, _, _, h9, _, _ => h9.elim
  | .leaf none, _, fr, a, b, h, ha, hb => ⟨fun g => absurd trivial g, fun _ => ⟨[], h.2, fun _ _ => rfl⟩⟩
  | .branch (_ + 3) x y, ho, fr, a, b, h, ha, hb => by
    obtain ⟨m, q, ⟨l, l9⟩, e, q2⟩ := h
    have l2 := rI_le y q2
    refine ⟨fun g => absurd trivial g, fun hl => ?_⟩
    have ex := (rI_ub hU x ho.1.2 q ha (by omega)).1 ho.1.1
    obtain ⟨Rl, r1, r2⟩ := (rI_ub hU y ho.2 q2 (by omega) hb).2 hl
    refine ⟨(m - 1) :: Rl, ⟨by omega, r1⟩, fun j hj => ?_⟩
    show (zKf u j (m - 1) || Rl.any (zKf u j)) = (tm_ub x j || tm_ub y j)
    rw [r2 j hj, show zKf u j (m - 1) = tm_ub x j from ex j hj]
end

end
section
/-! the shells of a tree's parts -/
theorem k_cl : ∀ {t : Tm}, tm_k t ≠ 0 → ¬ tm_cl t
  | .leaf none, h => absurd rfl h
  | .branch (_ + 3) _ _, h => absurd rfl h
  | .leaf (some (0, _, _, _, _, _)), _ => fun g => g
  | .leaf (some (_ + 1, _, _, _, _, _)), _ => fun g => g
  | .branch 0 (.leaf (some (0, _, _, _, _, _))) _, _ => fun g => g
  | .branch 0 (.leaf (some (1, _, _, _, _, _))) _, _ => fun g => g
  | .branch 1 (.leaf (some (0, _, _, _, _, _))) (.branch _ _ _), _ => fun g => g
  | .branch 1 (.leaf (some (_ + 1, _, _, _, _, _))) (.branch _ _ _), _ => fun g => g
  | .branch 2 (.leaf (some (_, _, _, _, _, _))) (.branch _ _ (.branch _ _ _)), _ => fun g => g
  | .branch 0 (.leaf (some (2, _, _, _, _, _))) _, _ => fun g => g
  | .branch 0 (.leaf (some (_ + 3, _, _, _, _, _))) _, _ => fun g => g
  | .branch 0 (.leaf none) _, h => absurd rfl h
  | .branch 0 (.branch _ _ _) _, h => absurd rfl h
  | .branch 1 (.leaf none) _, h => absurd rfl h
  | .branch 1 (.branch _ _ _) _, h => absurd rfl h
  | .branch 1 (.leaf (some (0, _, _, _, _, _))) (.leaf _), h => absurd rfl h
  | .branch 1 (.leaf (some (_ + 1, _, _, _, _, _))) (.leaf _), h => absurd rfl h
  | .branch 2 (.leaf none) _, h => absurd rfl h
  | .branch 2 (.branch _ _ _) _, h => absurd rfl h
  | .branch 2 (.leaf (some (_, _, _, _, _, _))) (.leaf _), h => absurd rfl h
  | .branch 2 (.leaf (some (_, _, _, _, _, _))) (.branch _ _ (.leaf _)), h => absurd rfl h
theorem k1_cl {t : Tm} (h : tm_k t = 1) : ¬ tm_cl t := k_cl (by omega)
theorem sy_ok : ∀ {t : Tm} {b : Bool}, tm_sy t b → tm_ok t
  | .leaf none, _, _ => trivial
  | .branch (_ + 3) x y, b, h => ⟨⟨k_cl (by rw [h.1.1]; split <;> decide), sy_ok h.1.2⟩, sy_ok h.2⟩
  | .leaf (some (0, _, _, _, _, _)), _, _ => trivial
  | .leaf (some (_ + 1, _, _, _, _, _)), _, _ => trivial
  | .branch 0 (.leaf (some (0, _, _, _, _, _))) _, _, h => ⟨h.1, sy_ok h.2⟩
  | .branch 0 (.leaf (some (1, _, _, _, _, _))) _, _, h => ⟨h.1, sy_ok h.2⟩
  | .branch 1 (.leaf (some (0, _, _, _, _, _))) (.branch _ _ _), _, h => ⟨⟨k1_cl h.1.1, sy_ok h.1.2⟩, k1_cl h.2.1, sy_ok h.2.2⟩
  | .branch 1 (.leaf (some (_ + 1, _, _, _, _, _))) (.branch _ _ _), _, h => ⟨⟨k1_cl h.1.1, sy_ok h.1.2⟩, k1_cl h.2.1, sy_ok h.2.2⟩
  | .branch 2 (.leaf (some (_, _, _, _, _, _))) (.branch _ _ (.branch _ _ _)), _, h => ⟨⟨k1_cl h.1.1, sy_ok h.1.2⟩, ⟨k1_cl h.2.1.1, sy_ok h.2.1.2⟩, k1_cl h.2.2.1, sy_ok h.2.2.2⟩
  | .branch 0 (.leaf (some (2, _, _, _, _, _))) _, _, h => ⟨h.1, sy_ok h.2⟩
  | .branch 0 (.leaf (some (_ + 3, _, _, _, _, _))) _, _, h => ⟨k1_cl h.1, sy_ok h.2⟩
  | .branch 0 (.leaf none) _, _, _ => trivial
  | .branch 0 (.branch _ _ _) _, _, _ => trivial
  | .branch 1 (.leaf none) _, _, _ => trivial
  | .branch 1 (.branch _ _ _) _, _, _ => trivial
  | .branch 1 (.leaf (some (0, _, _, _, _, _))) (.leaf _), _, _ => trivial
  | .branch 1 (.leaf (some (_ + 1, _, _, _, _, _))) (.leaf _), _, _ => trivial
  | .branch 2 (.leaf none) _, _, _ => trivial
  | .branch 2 (.branch _ _ _) _, _, _ => trivial
  | .branch 2 (.leaf (some (_, _, _, _, _, _))) (.leaf _), _, _ => trivial
  | .branch 2 (.leaf (some (_, _, _, _, _, _))) (.branch _ _ (.leaf _)), _, _ => trivial
section
variable {wh pl ow on tw th be ma fi : Nat → Int32} {kz : Int32} {u bh mk : Nat → Int32} {z : Nat} {J : Nat → Int64 → Prop}
theorem rM_at (hM : zMA (zJS wh ow on tw th be ma fi kz) mk z) {q n : Nat} (h2 : q < z) (hn : (wh q).toInt = (n : Int)) : zMq (zJS wh ow on tw th be ma fi kz) mk q (mk q) n := by
  have h := hM q h2
  rw [show Int32.toNatClampNeg ((zJS wh ow on tw th be ma fi kz) 0 q) = n from zn_lit hn] at h
  exact h
theorem rI_mk (hM : zMA (zJS wh ow on tw th be ma fi kz) mk z) : ∀ (t : Tm), tm_ok t → ∀ {fr : Int32} {a b : Nat}, rI (rcs wh pl ow on tw th be ma) J t fr a b → b ≤ z → (¬ tm_cl t → ∀ j, j < 8 → zbit (mk (b - 1)) j = tm_mk t j) ∧ (tm_li t → ∃ Rl, zli be fr Rl ∧ ∀ j, j < 8 → Rl.any (zKf mk j) = tm_mk t j)
  | .leaf (some (0, _, _, _, _, _)), _, fr, a, b, h, hb => by
    obtain ⟨rfl, h1, -⟩ := h
    refine ⟨fun _ j hj => ?_, fun g => g.elim⟩
    rw [Nat.add_sub_cancel]; exact rM_at hM (by omega) (n := 1) h1 j hj
  | .leaf (some (_ + 1, _, _, s, _, _)), _, fr, a, b, h, hb => by
    obtain ⟨rfl, h1, -⟩ := h
    refine ⟨fun _ j hj => ?_, fun g => g.elim⟩
    rw [Nat.add_sub_cancel]; exact rM_at hM (by omega) (n := 2) h1 j hj
  | .branch 0 (.leaf (some (0, _, _, _, _, _))) x, ho, fr, a, b, h, hb => by
    obtain ⟨m, q, rfl, h1, -⟩ := h
    refine ⟨fun _ j hj => ?_, fun g => g.elim⟩
    obtain ⟨Rl, r1, r2⟩ := (rI_mk hM x ho.2 q (by omega)).2 ho.1
    rw [Nat.add_sub_cancel]
    exact (rM_at hM (by omega) (n := 3) h1 Rl r1 j hj).trans (r2 j hj)
  | .branch 0 (.leaf (some (1, _, _, _, _, _))) x, ho, fr, a, b, h, hb => by
    obtain ⟨m, q, rfl, h1, -, -, h4⟩ := h
    refine ⟨fun _ j hj => ?_, fun g => g.elim⟩
    obtain ⟨Rl, r1, r2⟩ := (rI_mk hM x ho.2 q (by omega)).2 ho.1
    rw [Nat.add_sub_cancel]
    have e := rM_at hM (by omega) (n := 4) h1 Rl r1 j hj
    have h4 : (ma m).toInt = (tm_ln x : Int) := h4
    rw [r2 j hj, show Int32.toNatClampNeg ((zJS wh ow on tw th be ma fi kz) 6 m) = tm_ln x from zn_lit h4] at e
    rw [e]
    show (decide (0 < (ma m).toInt) && (j == tm_ln x) || tm_mk x j) = (decide (0 < tm_ln x) && decide (tm_ln x = j) || tm_mk x j)
    rw [h4, show decide (0 < (tm_ln x : Int)) = decide (0 < tm_ln x) from decide_eq_decide.mpr (by omega), show (j == tm_ln x) = decide (tm_ln x = j) from by
      by_cases g : tm_ln x = j
      · rw [decide_eq_true g, g]; exact beq_self_eq_true j
      · rw [decide_eq_false g]; exact beq_eq_false_iff_ne.mpr (fun q => g q.symm)]
  | .branch 1 (.leaf (some (0, _, _, _, _, _))) (.branch _ x y), ho, fr, a, b, h, hb => by
    obtain ⟨m, n, q, q2, rfl, h1, h2, h3, h4, h5⟩ := h
    have l2 := rI_le y q2
    refine ⟨fun _ j hj => ?_, fun g => g.elim⟩
    rw [Nat.add_sub_cancel]
    have e := rM_at hM (by omega) (n := 5) h1 j hj
    have ex := (rI_mk hM x ho.1.2 q (by omega)).1 ho.1.1 j hj
    have ey := (rI_mk hM y ho.2.2 q2 (by omega)).1 ho.2.1 j hj
    have p1 := rI_1 ho.1.1 q
    have p2 := rI_1 ho.2.1 q2
    rw [show Int32.toNatClampNeg ((zJS wh ow on tw th be ma fi kz) 2 n) = m - 1 from rN_i h4 (by omega), show Int32.toNatClampNeg ((zJS wh ow on tw th be ma fi kz) 3 n) = n - 1 from rN_i h5 (by omega), ex, ey] at e
    exact e
  | .branch 1 (.leaf (some (_ + 1, _, _, s, _, _))) (.branch _ x y), ho, fr, a, b, h, hb => by
    obtain ⟨m, n, q, q2, rfl, h1, h2, h3, h4, h5⟩ := h
    have l2 := rI_le y q2
    refine ⟨fun _ j hj => ?_, fun g => g.elim⟩
    rw [Nat.add_sub_cancel]
    have e := rM_at hM (by omega) (n := 6) h1 j hj
    have ex := (rI_mk hM x ho.1.2 q (by omega)).1 ho.1.1 j hj
    have ey := (rI_mk hM y ho.2.2 q2 (by omega)).1 ho.2.1 j hj
    have p1 := rI_1 ho.1.1 q
    have p2 := rI_1 ho.2.1 q2
    rw [show Int32.toNatClampNeg ((zJS wh ow on tw th be ma fi kz) 2 n) = m - 1 from rN_i h4 (by omega), show Int32.toNatClampNeg ((zJS wh ow on tw th be ma fi kz) 3 n) = n - 1 from rN_i h5 (by omega), ex, ey] at e
    exact e
  | .branch 2 (.leaf (some (_, _, _, _, _, _))) (.branch _ x (.branch _ y w)), ho, fr, a, b, h, hb => by
    obtain ⟨m, n, p, q, q2, q3, rfl, h1, h2, h3, h4, h5⟩ := h
    have l2 := rI_le y q2
    have l3 := rI_le w q3
    refine ⟨fun _ j hj => ?_, fun g => g.elim⟩
    rw [Nat.add_sub_cancel]
    have e := rM_at hM (by omega) (n := 7) h1 j hj
    have ex := (rI_mk hM x ho.1.2 q (by omega)).1 ho.1.1 j hj
    have ey := (rI_mk hM y ho.2.1.2 q2 (by omega)).1 ho.2.1.1 j hj
    have ez := (rI_mk hM w ho.2.2.2 q3 (by omega)).1 ho.2.2.1 j hj
    have p1 := rI_1 ho.1.1 q
    have p2 := rI_1 ho.2.1.1 q2
    have p3 := rI_1 ho.2.2.1 q3
    rw [show Int32.toNatClampNeg ((zJS wh ow on tw th be ma fi kz) 2 p) = m - 1 from rN_i h3 (by omega), show Int32.toNatClampNeg ((zJS wh ow on tw th be ma fi kz) 3 p) = n - 1 from rN_i h4 (by omega), show Int32.toNatClampNeg ((zJS wh ow on tw th be ma fi kz) 4 p) = p - 1 from rN_i h5 (by omega), ex, ey, ez] at e
    exact e
  | .branch 0 (.leaf (some (2, _, _, s, _, _))) x, ho, fr, a, b, h, hb => by
    obtain ⟨m, q, rfl, h1, -⟩ := h
    refine ⟨fun _ j hj => ?_, fun g => g.elim⟩
    obtain ⟨Rl, r1, r2⟩ := (rI_mk hM x ho.2 q (by omega)).2 ho.1
    rw [Nat.add_sub_cancel]
    exact (rM_at hM (by omega) (n := 8) h1 Rl r1 j hj).trans (r2 j hj)
  | .branch 0 (.leaf (some (_ + 3, _, _, hh, mm, _))) x, ho, fr, a, b, h, hb => by
    obtain ⟨m, q, rfl, h1, h2, h3, h4, h5, h6⟩ := h
    refine ⟨fun _ j hj => ?_, fun g => g.elim⟩
    rw [Nat.add_sub_cancel]
    have e := rM_at hM (by omega) (n := 9) h1 j hj
    have ex := (rI_mk hM x ho.2 q (by omega)).1 ho.1 j hj
    have p1 := rI_1 ho.1 q
    rw [show Int32.toNatClampNeg ((zJS wh ow on tw th be ma fi kz) 2 m) = m - 1 from rN_i h6 (by omega), ex] at e
    exact e
  | .branch 0 (.leaf none) _, _, _, _, _, h9, _ => h9.elim
  | .branch 0 (.branch _ _ _) _, _, _, _, _, h9, _ => h9.elim
  | .branch 1 (.leaf none) _, _, _, _, _, h9, _ => h9.elim
  | .branch 1 (.branch _ _ _) _, _, _, _, _, h9, _ => h9.elim
  | .branch 1 (.leaf (some (0, _, _, _, _, _))) (.leaf _), _, _, _, _, h9, _ => h9.elim
  | .branch 1 (.leaf (some (_ + 1, _, _, _, _, _))) (.leaf _), _, _, _, _, h9, _ => h9.elim
  | .branch 2 (.leaf none) _, _, _, _, _, h9, _ => h9.elim
  | .branch 2 (.branch _ _ _) _, _, _, _, _, h9, _ => h9.elim
  | .branch 2 (.leaf (some (_, _, _, _, _, _))) (.leaf _), _, _, _, _, h9, _ => h9.elim
  | .branch 2 (.leaf (some (_, _, _, _, _, _))) (.branch _ _ (.leaf _)), _, _, _, _, h9, _ => h9.elim
  | .leaf none, _, fr, a, b, h, hb => ⟨fun g => absurd trivial g, fun _ => ⟨[], h.2, fun _ _ => rfl⟩⟩
  | .branch (_ + 3) x y, ho, fr, a, b, h, hb => by
    obtain ⟨m, q, ⟨l, l9⟩, e, q2⟩ := h
    have l2 := rI_le y q2
    refine ⟨fun g => absurd trivial g, fun hl => ?_⟩
    have ex := (rI_mk hM x ho.1.2 q (by omega)).1 ho.1.1
    obtain ⟨Rl, r1, r2⟩ := (rI_mk hM y ho.2 q2 hb).2 hl
    refine ⟨(m - 1) :: Rl, ⟨by omega, r1⟩, fun j hj => ?_⟩
    show (zKf mk j (m - 1) || Rl.any (zKf mk j)) = (tm_mk x j || tm_mk y j)
    rw [r2 j hj, show zKf mk j (m - 1) = tm_mk x j from ex j hj]
/-- is arm r's shell kept, of a match on slot s? -/
def rInd (u bh mk on ma : Nat → Int32) (s r : Nat) : Int := if 0 < (ma r).toInt ∧ (zbit (u (Int32.toNatClampNeg (on r))) s || zbit (bh r) s) = false ∧ zbit (mk (Int32.toNatClampNeg (on r))) (Int32.toNatClampNeg (ma r)) = true then 1 else 0
def rShL (u bh mk on ma : Nat → Int32) (s : Nat) : List Nat → Int
  | [] => 0
  | r :: l => rInd u bh mk on ma s r + rShL u bh mk on ma s l
def rShA (u bh mk on ma be : Nat → Int32) (s : Nat) : Nat → Int32 → Int
  | 0, _ => 0
  | n + 1, x => if x.toInt = -1 then 0 else rInd u bh mk on ma s (Int32.toNatClampNeg x) + rShA u bh mk on ma be s n (be (Int32.toNatClampNeg x))
theorem rShA_L {s : Nat} : ∀ {L : List Nat} {n : Nat} {x : Int32}, zli be x L → L.length ≤ n → rShA u bh mk on ma be s n x = rShL u bh mk on ma s L
  | [], 0, x, _, _ => rfl
  | [], n + 1, x, h, _ => by
    have h : x.toInt = -1 := h
    unfold rShA; rw [if_pos h]; rfl
  | r :: l, 0, _, _, g => absurd g (by simp)
  | r :: l, n + 1, x, h, g => by
    have e : x.toInt = (r : Int) := h.1
    unfold rShA
    rw [if_neg (by omega), show Int32.toNatClampNeg x = r from zn_lit e, rShA_L (L := l) (n := n) h.2 (by simpa using g)]; rfl
/-- the shells of one part -/
def rf_sh (wh ow on be ma u bh mk : Nat → Int32) (k : Nat) : Int := if (wh k).toInt = 8 then rShA u bh mk on ma be (Int32.toNatClampNeg (ow k)) k (on k) else 0
theorem rf_0 {k : Nat} {n : Int} (h : (wh k).toInt = n) (hn : n ≠ 8) : rf_sh wh ow on be ma u bh mk k = 0 := if_neg (by omega)
theorem rI_len {R : Nat → Nat → Int32} : ∀ {t : Tm} {fr : Int32} {a b : Nat} {Rl : List Nat}, tm_li t → rI R J t fr a b → zli (R 6) fr Rl → Rl.length ≤ b - a
  | .leaf none, fr, a, b, [], _, _, _ => Nat.zero_le _
  | .leaf none, fr, a, b, r :: l, _, h, g => by
    have h := h.2
    have g := g.1
    omega
  | .branch (_ + 3) x y, fr, a, b, [], _, _, _ => Nat.zero_le _
  | .branch (_ + 3) x y, fr, a, b, r :: l, hl, h, g => by
    obtain ⟨m, q, ⟨h1, -⟩, e, q2⟩ := h
    have l2 := rI_le y q2
    have g1 : fr.toInt = (r : Int) := g.1
    have er : r = m - 1 := by omega
    have g2 := g.2
    rw [er] at g2
    have := rI_len (t := y) hl q2 g2
    show l.length + 1 ≤ b - a
    omega
  | .leaf (some (0, _, _, _, _, _)), _, _, _, _, g, _, _ => g.elim
  | .leaf (some (_ + 1, _, _, _, _, _)), _, _, _, _, g, _, _ => g.elim
  | .branch 0 (.leaf (some (0, _, _, _, _, _))) _, _, _, _, _, g, _, _ => g.elim
  | .branch 0 (.leaf (some (1, _, _, _, _, _))) _, _, _, _, _, g, _, _ => g.elim
  | .branch 1 (.leaf (some (0, _, _, _, _, _))) (.branch _ _ _), _, _, _, _, g, _, _ => g.elim
  | .branch 1 (.leaf (some (_ + 1, _, _, _, _, _))) (.branch _ _ _), _, _, _, _, g, _, _ => g.elim
  | .branch 2 (.leaf (some (_, _, _, _, _, _))) (.branch _ _ (.branch _ _ _)), _, _, _, _, g, _, _ => g.elim
  | .branch 0 (.leaf (some (2, _, _, _, _, _))) _, _, _, _, _, g, _, _ => g.elim
  | .branch 0 (.leaf (some (_ + 3, _, _, _, _, _))) _, _, _, _, _, g, _, _ => g.elim
  | .branch 0 (.leaf none) _, _, _, _, _, g, _, _ => g.elim
  | .branch 0 (.branch _ _ _) _, _, _, _, _, g, _, _ => g.elim
  | .branch 1 (.leaf none) _, _, _, _, _, g, _, _ => g.elim
  | .branch 1 (.branch _ _ _) _, _, _, _, _, g, _, _ => g.elim
  | .branch 1 (.leaf (some (0, _, _, _, _, _))) (.leaf _), _, _, _, _, g, _, _ => g.elim
  | .branch 1 (.leaf (some (_ + 1, _, _, _, _, _))) (.leaf _), _, _, _, _, g, _, _ => g.elim
  | .branch 2 (.leaf none) _, _, _, _, _, g, _, _ => g.elim
  | .branch 2 (.branch _ _ _) _, _, _, _, _, g, _, _ => g.elim
  | .branch 2 (.leaf (some (_, _, _, _, _, _))) (.leaf _), _, _, _, _, g, _, _ => g.elim
  | .branch 2 (.leaf (some (_, _, _, _, _, _))) (.branch _ _ (.leaf _)), _, _, _, _, g, _, _ => g.elim
theorem rB_at (hA : ∀ k, k < z → zKq (zJS wh ow on tw th be ma fi kz) u k (u k) (Int32.toNatClampNeg ((zJS wh ow on tw th be ma fi kz) 0 k)) ∧ zKb (zJS wh ow on tw th be ma fi kz) u bh k (Int32.toNatClampNeg ((zJS wh ow on tw th be ma fi kz) 0 k))) {q n : Nat} (h2 : q < z) (hn : (wh q).toInt = (n : Int)) : zKb (zJS wh ow on tw th be ma fi kz) u bh q n := by
  have h := (hA q h2).2
  rw [show Int32.toNatClampNeg ((zJS wh ow on tw th be ma fi kz) 0 q) = n from zn_lit hn] at h
  exact h
theorem bfun {x y : Int32} {w : Nat → Bool} (h : ∀ j, j < 32 → zbit x j = (zbit y j || w j)) (hw : ∀ j, w j = true → j < 24) : (fun j => zbit x j) = fun j => zbit y j || w j := funext fun j => by
  by_cases g : j < 32
  · exact h j g
  · rw [zbit_ge (by omega), zbit_ge (by omega), Bool.false_or]
    cases e : w j with
    | false => rfl
    | true => have := hw j e; omega
theorem rSh {zk : Nat} {kf : Nat → Int32} (hA : ∀ k, k < z → zKq (zJS wh ow on tw th be ma fi kz) u k (u k) (Int32.toNatClampNeg ((zJS wh ow on tw th be ma fi kz) 0 k)) ∧ zKb (zJS wh ow on tw th be ma fi kz) u bh k (Int32.toNatClampNeg ((zJS wh ow on tw th be ma fi kz) 0 k))) (hM : zMA (zJS wh ow on tw th be ma fi kz) mk z) : ∀ (t : Tm) {bb : Bool}, tm_sy t bb → ∀ {c : Nat}, tm_wf zk kf t c → c ≤ 24 → ∀ {fr : Int32} {a b : Nat}, rI (rcs wh pl ow on tw th be ma) J t fr a b → b ≤ z →
    (tm_k t = 1 → rTo (rf_sh wh ow on be ma u bh mk) a b = tm_sh t (fun j => zbit (bh (b - 1)) j) 32) ∧
    (tm_k t = 2 → ∀ s : Nat, rTo (rf_sh wh ow on be ma u bh mk) a b + rInd u bh mk on ma s (b - 1) = tm_sh t (fun j => zbit (bh (b - 1)) j) s) ∧
    (tm_li t → bb = false → ∀ {Rl : List Nat} {bk : Int32}, zli be fr Rl → (∀ D r E, Rl = D ++ r :: E → ∀ j, j < 32 → zbit (bh r) j = (zbit bk j || E.any (zKf u j))) → rTo (rf_sh wh ow on be ma u bh mk) a b = tm_sh t (fun j => zbit bk j) 32) ∧
    (tm_li t → bb = true → ∀ {Rl : List Nat} {bk : Int32} {s : Nat}, zli be fr Rl → (∀ r ∈ Rl, bh r = bk) → s < 32 → rTo (rf_sh wh ow on be ma u bh mk) a b + rShL u bh mk on ma s Rl = tm_sh t (fun j => zbit bk j) s)
  | .leaf (some (0, _, _, _, _, _)), _, _, c, hw, hc, fr, a, b, h, hb => by
    obtain ⟨rfl, h1, -⟩ := h
    refine ⟨fun _ => ?_, fun g => absurd (show (1 : Nat) = 2 from g) (by decide), fun g => g.elim, fun g => g.elim⟩
    rw [rTo_1, rf_0 (wh := wh) (n := 1) h1 (by decide)]; rfl
  | .leaf (some (_ + 1, _, _, _, _, _)), _, _, c, hw, hc, fr, a, b, h, hb => by
    obtain ⟨rfl, h1, -⟩ := h
    refine ⟨fun _ => ?_, fun g => absurd (show (1 : Nat) = 2 from g) (by decide), fun g => g.elim, fun g => g.elim⟩
    rw [rTo_1, rf_0 (wh := wh) (n := 2) h1 (by decide)]; rfl
  | .branch 0 (.leaf (some (0, _, _, _, _, _))) x, _, ⟨l, y⟩, c, hw, hc, fr, a, b, h, hb => by
    obtain ⟨m, q, rfl, h1, -⟩ := h
    have l0 := rI_le x q
    refine ⟨fun _ => ?_, fun g => absurd (show (1 : Nat) = 2 from g) (by decide), fun g => g.elim, fun g => g.elim⟩
    obtain ⟨Rl, r1, -⟩ := (rI_mk hM x (sy_ok y) q (by omega)).2 l
    have e := (rSh hA hM x y hw hc q (by omega)).2.2.1 l rfl r1 (rB_at hA (by omega) (n := 3) h1 Rl r1)
    rw [rTo_add l0 (Nat.le_succ m), rTo_1, rf_0 (wh := wh) (n := 3) h1 (by decide), e, Nat.add_sub_cancel]; exact Int.add_zero _
  | .branch 0 (.leaf (some (1, _, _, _, _, _))) x, _, ⟨l, y⟩, c, hw, hc, fr, a, b, h, hb => by
    obtain ⟨m, q, rfl, h1, -⟩ := h
    have l0 := rI_le x q
    refine ⟨fun _ => ?_, fun g => absurd (show (1 : Nat) = 2 from g) (by decide), fun g => g.elim, fun g => g.elim⟩
    obtain ⟨Rl, r1, -⟩ := (rI_mk hM x (sy_ok y) q (by omega)).2 l
    have e := (rSh hA hM x y hw.2 hc q (by omega)).2.2.1 l rfl r1 (rB_at hA (by omega) (n := 4) h1 Rl r1)
    rw [rTo_add l0 (Nat.le_succ m), rTo_1, rf_0 (wh := wh) (n := 4) h1 (by decide), e, Nat.add_sub_cancel]; exact Int.add_zero _
  | .branch 1 (.leaf (some (0, _, _, _, _, _))) (.branch _ x y), _, ⟨⟨kx, yx⟩, ⟨ky, yy⟩⟩, c, hw, hc, fr, a, b, h, hb => by
    obtain ⟨m, n, q, q2, rfl, h1, h2, h3, h4, h5⟩ := h
    have l0 := rI_le x q
    have l2 := rI_le y q2
    have p1 := rI_1 (k1_cl kx) q
    have p2 := rI_1 (k1_cl ky) q2
    refine ⟨fun _ => ?_, fun g => absurd (show (1 : Nat) = 2 from g) (by decide), fun g => g.elim, fun g => g.elim⟩
    have ex := (rSh hA hM x yx hw.1 hc q (by omega)).1 kx
    have ey := (rSh hA hM y yy hw.2 hc q2 (by omega)).1 ky
    have ub := (rI_ub (u0 := u) (a0 := 0) (b0 := z) ⟨fun q _ h => (hA q h).1, fun _ _ => rfl⟩ y (sy_ok yy) q2 (Nat.zero_le _) (by omega)).1 (k1_cl ky)
    obtain ⟨b1, b2⟩ := rB_at hA (by omega) (n := 5) h1
    rw [show Int32.toNatClampNeg ((zJS wh ow on tw th be ma fi kz) 2 n) = m - 1 from rN_i h4 (by omega), show Int32.toNatClampNeg ((zJS wh ow on tw th be ma fi kz) 3 n) = n - 1 from rN_i h5 (by omega)] at b1
    rw [show Int32.toNatClampNeg ((zJS wh ow on tw th be ma fi kz) 3 n) = n - 1 from rN_i h5 (by omega)] at b2
    have eb := bfun (x := bh (m - 1)) (y := bh n) (w := tm_ub y) (fun j hj => by rw [b1 j hj, ub j hj]) (fun j g => by have := wf_ub y hw.2 g; omega)
    rw [rTo_add (m := n) (by omega) (Nat.le_succ n), rTo_add l0 l2, ex, ey, rTo_1, rf_0 (wh := wh) (n := 5) h1 (by decide), Nat.add_sub_cancel, b2, eb]
    exact Int.add_zero _
  | .branch 1 (.leaf (some (_ + 1, _, _, s, _, _))) (.branch _ x y), _, ⟨⟨kx, yx⟩, ⟨ky, yy⟩⟩, c, hw, hc, fr, a, b, h, hb => by
    obtain ⟨m, n, q, q2, rfl, h1, h2, h3, h4, h5⟩ := h
    have l0 := rI_le x q
    have l2 := rI_le y q2
    have p1 := rI_1 (k1_cl kx) q
    have p2 := rI_1 (k1_cl ky) q2
    obtain ⟨⟨w1, w1b⟩, w2, w3⟩ := hw
    refine ⟨fun _ => ?_, fun g => absurd (show (1 : Nat) = 2 from g) (by decide), fun g => g.elim, fun g => g.elim⟩
    have ex := (rSh hA hM x yx w2 hc q (by omega)).1 kx
    have ey := (rSh hA hM y yy w3 (by omega) q2 (by omega)).1 ky
    have ub := (rI_ub (u0 := u) (a0 := 0) (b0 := z) ⟨fun q _ h => (hA q h).1, fun _ _ => rfl⟩ y (sy_ok yy) q2 (Nat.zero_le _) (by omega)).1 (k1_cl ky)
    obtain ⟨b1, b2⟩ := rB_at hA (by omega) (n := 6) h1
    rw [show Int32.toNatClampNeg ((zJS wh ow on tw th be ma fi kz) 2 n) = m - 1 from rN_i h4 (by omega), show Int32.toNatClampNeg ((zJS wh ow on tw th be ma fi kz) 3 n) = n - 1 from rN_i h5 (by omega), show Int32.toNatClampNeg ((zJS wh ow on tw th be ma fi kz) 1 n) = s from zn_lit h3] at b1
    rw [show Int32.toNatClampNeg ((zJS wh ow on tw th be ma fi kz) 3 n) = n - 1 from rN_i h5 (by omega)] at b2
    have eb := bfun (x := bh (m - 1)) (y := bh n) (w := fun j => tm_ub y j && !(j == s)) (fun j hj => by rw [b1 j hj, ub j hj]) (fun j g => by have := wf_ub y w3 ((Bool.and_eq_true _ _).mp g).1; omega)
    rw [rTo_add (m := n) (by omega) (Nat.le_succ n), rTo_add l0 l2, ex, ey, rTo_1, rf_0 (wh := wh) (n := 6) h1 (by decide), Nat.add_sub_cancel, b2, eb]
    exact Int.add_zero _
  | .branch 2 (.leaf (some (_, _, _, _, _, _))) (.branch _ x (.branch _ y w)), _, ⟨⟨kx, yx⟩, ⟨ky, yy⟩, ⟨kw, yw⟩⟩, c, hw, hc, fr, a, b, h, hb => by
    obtain ⟨m, n, p, q, q2, q3, rfl, h1, h2, h3, h4, h5⟩ := h
    have l0 := rI_le x q
    have l2 := rI_le y q2
    have l3 := rI_le w q3
    have p1 := rI_1 (k1_cl kx) q
    have p2 := rI_1 (k1_cl ky) q2
    have p3 := rI_1 (k1_cl kw) q3
    refine ⟨fun _ => ?_, fun g => absurd (show (1 : Nat) = 2 from g) (by decide), fun g => g.elim, fun g => g.elim⟩
    have ex := (rSh hA hM x yx hw.1 hc q (by omega)).1 kx
    have ey := (rSh hA hM y yy hw.2.1 hc q2 (by omega)).1 ky
    have ez := (rSh hA hM w yw hw.2.2 hc q3 (by omega)).1 kw
    have ub := (rI_ub (u0 := u) (a0 := 0) (b0 := z) ⟨fun q _ h => (hA q h).1, fun _ _ => rfl⟩ y (sy_ok yy) q2 (Nat.zero_le _) (by omega)).1 (k1_cl ky)
    have uw := (rI_ub (u0 := u) (a0 := 0) (b0 := z) ⟨fun q _ h => (hA q h).1, fun _ _ => rfl⟩ w (sy_ok yw) q3 (Nat.zero_le _) (by omega)).1 (k1_cl kw)
    obtain ⟨b1, b2, b3⟩ := rB_at hA (by omega) (n := 7) h1
    rw [show Int32.toNatClampNeg ((zJS wh ow on tw th be ma fi kz) 2 p) = m - 1 from rN_i h3 (by omega), show Int32.toNatClampNeg ((zJS wh ow on tw th be ma fi kz) 3 p) = n - 1 from rN_i h4 (by omega), show Int32.toNatClampNeg ((zJS wh ow on tw th be ma fi kz) 4 p) = p - 1 from rN_i h5 (by omega)] at b1
    rw [show Int32.toNatClampNeg ((zJS wh ow on tw th be ma fi kz) 3 p) = n - 1 from rN_i h4 (by omega)] at b2
    rw [show Int32.toNatClampNeg ((zJS wh ow on tw th be ma fi kz) 4 p) = p - 1 from rN_i h5 (by omega)] at b3
    have eb := bfun (x := bh (m - 1)) (y := bh p) (w := fun j => tm_ub y j || tm_ub w j) (fun j hj => by rw [b1 j hj, ub j hj, uw j hj, Bool.or_assoc]) (fun j g => by
      rcases (Bool.or_eq_true _ _).mp g with g | g
      · have := wf_ub y hw.2.1 g; omega
      · have := wf_ub w hw.2.2 g; omega)
    rw [rTo_add (m := p) (by omega) (Nat.le_succ p), rTo_add (m := n) (by omega) l3, rTo_add l0 l2, ex, ey, ez, rTo_1, rf_0 (wh := wh) (n := 7) h1 (by decide), Nat.add_sub_cancel, b2, b3, eb]
    show _ = tm_sh x (fun j => zbit (bh p) j || tm_ub y j || tm_ub w j) 32 + _ + _
    rw [show (fun j => zbit (bh p) j || tm_ub y j || tm_ub w j) = (fun j => zbit (bh p) j || (tm_ub y j || tm_ub w j)) from funext fun j => Bool.or_assoc _ _ _]
    exact Int.add_zero _
  | .branch 0 (.leaf (some (2, _, _, s, _, _))) x, _, ⟨l, y⟩, c, hw, hc, fr, a, b, h, hb => by
    obtain ⟨m, q, rfl, h1, h2, h3⟩ := h
    have l0 := rI_le x q
    obtain ⟨⟨w1, w2, w3⟩, w4⟩ := hw
    refine ⟨fun _ => ?_, fun g => absurd (show (1 : Nat) = 2 from g) (by decide), fun g => g.elim, fun g => g.elim⟩
    obtain ⟨Rl, r1, -⟩ := (rI_mk hM x (sy_ok y) q (by omega)).2 l
    have e := (rSh hA hM x y w4 hc q (by omega)).2.2.2 l rfl (s := s) r1 (rB_at hA (by omega) (n := 8) h1 Rl r1) (by omega)
    have hl := rI_len l q r1
    have h3 : (ow m).toInt = (s : Int) := h3
    have er : rf_sh wh ow on be ma u bh mk m = rShL u bh mk on ma s Rl := by
      unfold rf_sh
      rw [if_pos (show (wh m).toInt = 8 from h1), show Int32.toNatClampNeg (ow m) = s from zn_lit h3]
      exact rShA_L r1 (by omega)
    rw [rTo_add l0 (Nat.le_succ m), rTo_1, er, e, Nat.add_sub_cancel]; rfl
  | .branch 0 (.leaf (some (_ + 3, _, kk, hh, mm, _))) x, _, ⟨kx, yx⟩, c, hw, hc, fr, a, b, h, hb => by
    obtain ⟨m, q, rfl, h1, h2, h3, h4, h5, h6⟩ := h
    have l0 := rI_le x q
    have p1 := rI_1 (k1_cl kx) q
    obtain ⟨⟨⟨w1, w1b, w1c⟩, w2⟩, w3⟩ := hw
    refine ⟨fun g => absurd (show (2 : Nat) = 1 from g) (by decide), fun _ s => ?_, fun g => g.elim, fun g => g.elim⟩
    have ex := (rSh hA hM x yx w3 w1b q (by omega)).1 kx
    have ub := (rI_ub (u0 := u) (a0 := 0) (b0 := z) ⟨fun q _ h => (hA q h).1, fun _ _ => rfl⟩ x (sy_ok yx) q (Nat.zero_le _) (by omega)).1 (k1_cl kx)
    have um := (rI_mk hM x (sy_ok yx) q (by omega)).1 (k1_cl kx)
    have b1 : bh (Int32.toNatClampNeg (on m)) = bh m := rB_at hA (by omega) (n := 9) h1
    have eo : Int32.toNatClampNeg (on m) = m - 1 := rN_i h6 (by omega)
    have h5 : (ma m).toInt = (mm : Int) := h5
    rw [eo] at b1
    rw [rTo_add l0 (Nat.le_succ m), rTo_1, rf_0 (wh := wh) (n := 9) h1 (by decide), ex, b1, Nat.add_sub_cancel]
    unfold rInd
    rw [eo, h5, show Int32.toNatClampNeg (ma m) = mm from zn_lit h5, um mm (by omega)]
    show _ + 0 + (if _ then 1 else 0) = (if 0 < mm ∧ (tm_ub x s || zbit (bh m) s) = false ∧ tm_mk x mm = true then 1 else 0) + tm_sh x (fun j => zbit (bh m) j) 32
    have us : zbit (u (m - 1)) s = tm_ub x s := by
      by_cases g : s < 32
      · exact ub s g
      · rw [zbit_ge (by omega)]
        cases e : tm_ub x s with
        | false => rfl
        | true => have := wf_ub x w3 e; omega
    rw [us]
    by_cases g : 0 < mm ∧ (tm_ub x s || zbit (bh m) s) = false ∧ tm_mk x mm = true
    · rw [if_pos g, if_pos ⟨by omega, g.2⟩]; omega
    · rw [if_neg g, if_neg (fun q => g ⟨by omega, q.2⟩)]; omega
  | .branch 0 (.leaf none) _, _, _, _, _, _, _, _, _, h9, _ => h9.elim
  | .branch 0 (.branch _ _ _) _, _, _, _, _, _, _, _, _, h9, _ => h9.elim
  | .branch 1 (.leaf none) _, _, _, _, _, _, _, _, _, h9, _ => h9.elim
  | .branch 1 (.branch _ _ _) _, _, _, _, _, _, _, _, _, h9, _ => h9.elim
  | .branch 1 (.leaf (some (0, _, _, _, _, _))) (.leaf _), _, _, _, _, _, _, _, _, h9, _ => h9.elim
  | .branch 1 (.leaf (some (_ + 1, _, _, _, _, _))) (.leaf _), _, _, _, _, _, _, _, _, h9, _ => h9.elim
  | .branch 2 (.leaf none) _, _, _, _, _, _, _, _, _, h9, _ => h9.elim
  | .branch 2 (.branch _ _ _) _, _, _, _, _, _, _, _, _, h9, _ => h9.elim
  | .branch 2 (.leaf (some (_, _, _, _, _, _))) (.leaf _), _, _, _, _, _, _, _, _, h9, _ => h9.elim
  | .branch 2 (.leaf (some (_, _, _, _, _, _))) (.branch _ _ (.leaf _)), _, _, _, _, _, _, _, _, h9, _ => h9.elim
  | .leaf none, _, _, c, hw, hc, fr, a, b, h, hb => by
    obtain ⟨rfl, h1⟩ := h
    refine ⟨fun g => absurd (show (0 : Nat) = 1 from g) (by decide), fun g => absurd (show (0 : Nat) = 2 from g) (by decide), fun _ _ Rl bk hl _ => rTo_0, fun _ _ Rl bk s hl _ _ => ?_⟩
    cases Rl with
    | nil => rw [rTo_0]; rfl
    | cons r l => have := hl.1; omega
  | .branch (_ + 3) x y, bb, ⟨⟨kx, yx⟩, yy⟩, c, hw, hc, fr, a, b, h, hb => by
    obtain ⟨m, q, ⟨l, l9⟩, e, q2⟩ := h
    have l2 := rI_le y q2
    refine ⟨fun g => absurd (show (0 : Nat) = 1 from g) (by decide), fun g => absurd (show (0 : Nat) = 2 from g) (by decide), fun gl gb Rl bk hl hb9 => ?_, fun gl gb Rl bk s hl hb9 hs => ?_⟩
    · subst gb
      have kx : tm_k x = 1 := kx
      cases Rl with
      | nil => have hl : fr.toInt = -1 := hl; omega
      | cons r R2 =>
        have g1 : fr.toInt = (r : Int) := hl.1
        have er : r = m - 1 := by omega
        subst er
        have ub := (rI_ub (u0 := u) (a0 := 0) (b0 := z) ⟨fun q _ h => (hA q h).1, fun _ _ => rfl⟩ y (sy_ok yy) q2 (Nat.zero_le _) hb).2 gl
        obtain ⟨R3, r31, r32⟩ := ub
        have e3 := zli_uq2 r31 hl.2
        subst e3
        have ex := (rSh hA hM x yx hw.1 hc q (by omega)).1 kx
        have ey := (rSh hA hM y yy hw.2 hc q2 hb).2.2.1 gl rfl (bk := bk) r31 (fun D r E e9 => hb9 ((m - 1) :: D) r E (by rw [e9]; rfl))
        have eb := bfun (x := bh (m - 1)) (y := bk) (w := tm_ub y) (fun j hj => by rw [hb9 [] (m - 1) R3 rfl j hj, r32 j hj]) (fun j g => by have := wf_ub y hw.2 g; omega)
        rw [rTo_add (by omega) l2, ex, ey]
        show _ = tm_sh x (if 32 < 32 then _ else fun j => zbit bk j || tm_ub y j) 32 + tm_sh y _ 32
        rw [if_neg (by decide), eb]
    · subst gb
      have kx : tm_k x = 2 := kx
      cases Rl with
      | nil => have hl : fr.toInt = -1 := hl; omega
      | cons r R2 =>
        have g1 : fr.toInt = (r : Int) := hl.1
        have er : r = m - 1 := by omega
        subst er
        have ex := (rSh hA hM x yx hw.1 hc q (by omega)).2.1 kx s
        have ey := (rSh hA hM y yy hw.2 hc q2 hb).2.2.2 gl rfl (bk := bk) (s := s) hl.2 (fun r hr => hb9 r (List.mem_cons_of_mem _ hr)) hs
        rw [hb9 (m - 1) List.mem_cons_self] at ex
        rw [rTo_add (by omega) l2]
        show _ + _ + (rInd u bh mk on ma s (m - 1) + rShL u bh mk on ma s R2) = tm_sh x (if s < 32 then (fun j => zbit bk j) else _) s + tm_sh y (fun j => zbit bk j) s
        rw [if_pos hs, ← ex, ← ey]
        omega
end

end
section
theorem dX14_functionOf_0 : decode cX14_functionOf 0 = .ok (.iconst 0, 1) := by decide +kernel
theorem dX14_functionOf_1 : decode cX14_functionOf 1 = .ok (.istore_n 3, 1) := by decide +kernel
theorem dX14_functionOf_2 : decode cX14_functionOf 2 = .ok (.iload_n 3, 1) := by decide +kernel
theorem dX14_functionOf_3 : decode cX14_functionOf 3 = .ok (.aload_n 0, 1) := by decide +kernel
theorem dX14_functionOf_4 : decode cX14_functionOf 4 = .ok (.getfield 230, 3) := by decide +kernel
theorem dX14_functionOf_7 : decode cX14_functionOf 7 = .ok (.if_icmp .ge 20, 3) := by decide +kernel
theorem dX14_functionOf_10 : decode cX14_functionOf 10 = .ok (.aload_n 0, 1) := by decide +kernel
theorem dX14_functionOf_11 : decode cX14_functionOf 11 = .ok (.getfield 315, 3) := by decide +kernel
theorem dX14_functionOf_14 : decode cX14_functionOf 14 = .ok (.iload_n 3, 1) := by decide +kernel
theorem dX14_functionOf_15 : decode cX14_functionOf 15 = .ok (.laload, 1) := by decide +kernel
theorem dX14_functionOf_16 : decode cX14_functionOf 16 = .ok (.lload_n 1, 1) := by decide +kernel
theorem dX14_functionOf_17 : decode cX14_functionOf 17 = .ok (.lcmp, 1) := by decide +kernel
theorem dX14_functionOf_18 : decode cX14_functionOf 18 = .ok (.ifCond .eq 9, 3) := by decide +kernel
theorem dX14_functionOf_21 : decode cX14_functionOf 21 = .ok (.iinc 3 1, 3) := by decide +kernel
theorem dX14_functionOf_24 : decode cX14_functionOf 24 = .ok (.goto (-22), 3) := by decide +kernel
theorem dX14_functionOf_27 : decode cX14_functionOf 27 = .ok (.iload_n 3, 1) := by decide +kernel
theorem dX14_functionOf_28 : decode cX14_functionOf 28 = .ok (.aload_n 0, 1) := by decide +kernel
theorem dX14_functionOf_29 : decode cX14_functionOf 29 = .ok (.getfield 230, 3) := by decide +kernel
theorem dX14_functionOf_32 : decode cX14_functionOf 32 = .ok (.if_icmp .ge 7, 3) := by decide +kernel
theorem dX14_functionOf_35 : decode cX14_functionOf 35 = .ok (.iload_n 3, 1) := by decide +kernel
theorem dX14_functionOf_36 : decode cX14_functionOf 36 = .ok (.goto 4, 3) := by decide +kernel
theorem dX14_functionOf_39 : decode cX14_functionOf 39 = .ok (.iconst (-1), 1) := by decide +kernel
theorem dX14_functionOf_40 : decode cX14_functionOf 40 = .ok (.ireturn, 1) := by decide +kernel
theorem dX14_ofArm_0 : decode cX14_ofArm 0 = .ok (.iconst 1, 1) := by decide +kernel
theorem dX14_ofArm_1 : decode cX14_ofArm 1 = .ok (.aload_n 0, 1) := by decide +kernel
theorem dX14_ofArm_2 : decode cX14_ofArm 2 = .ok (.getfield 214, 3) := by decide +kernel
theorem dX14_ofArm_5 : decode cX14_ofArm 5 = .ok (.iload_n 1, 1) := by decide +kernel
theorem dX14_ofArm_6 : decode cX14_ofArm 6 = .ok (.iaload, 1) := by decide +kernel
theorem dX14_ofArm_7 : decode cX14_ofArm 7 = .ok (.ishl, 1) := by decide +kernel
theorem dX14_ofArm_8 : decode cX14_ofArm 8 = .ok (.iconst 1, 1) := by decide +kernel
theorem dX14_ofArm_9 : decode cX14_ofArm 9 = .ok (.isub, 1) := by decide +kernel
theorem dX14_ofArm_10 : decode cX14_ofArm 10 = .ok (.aload_n 0, 1) := by decide +kernel
theorem dX14_ofArm_11 : decode cX14_ofArm 11 = .ok (.getfield 205, 3) := by decide +kernel
theorem dX14_ofArm_14 : decode cX14_ofArm 14 = .ok (.iload_n 1, 1) := by decide +kernel
theorem dX14_ofArm_15 : decode cX14_ofArm 15 = .ok (.iaload, 1) := by decide +kernel
theorem dX14_ofArm_16 : decode cX14_ofArm 16 = .ok (.ishl, 1) := by decide +kernel
theorem dX14_ofArm_17 : decode cX14_ofArm 17 = .ok (.ireturn, 1) := by decide +kernel
/-- the first function of this name -/
def rx_ff (fn : Nat → Int64) (w : Int64) (fz r : Int32) : Prop := (r.toInt = -1 ∧ ∀ j : Nat, (j : Int) < fz.toInt → fn j ≠ w) ∨ (0 ≤ r.toInt ∧ r.toInt < fz.toInt ∧ fn (Int32.toNatClampNeg r) = w ∧ ∀ j : Nat, (j : Int) < r.toInt → fn j ≠ w)

set_option maxHeartbeats 4000000 in
set_option maxRecDepth 100000 in
theorem c_X14_bit_x (l : Launch) (dC : Nat → ClassId) (dI : Nat → Nat → Nat) (aK aV : Nat → Nat) (sl : Int32) (sz : Nat)  : Met l yX14_bit (Cond.code yX14_bit cX14_bit 1 (some .int) :: zw) ({ frames := 8, cells := 0, slots := 0, locals := 200 }) (va_Pc [.int sl] (zP dC dI aK aV sz [] [])) (va_Qi (fun (r : Int32) (u : Unit) => (r = (1 : Int32) <<< (sl &&& 31))) (fun u => zQ dC dI (va_A [] sz) [] []) (va_A [] sz)) 0 0 (va_A [] sz) := by
  refine Met.ofW (cc := cX14_bit) (maxL := 1) (ret := (some .int)) (by decide) rfl ?_
  intro p e s m args below meth c s₁ B hml hv
  obtain ⟨rfl, hsz, hP, hK, hD0, hN, hT⟩ := hv
  have hx := B.exec
  have hb := B.bytes
  have hr := B.returns
  have hts := atoms_spec (ws := Cond.code yX14_bit cX14_bit 1 (some .int) :: zw) B.pre
  have hA : ∀ w ∈ zw, w.before _ s = true := fun w h => hts w (List.mem_cons_of_mem _ h)
  have hown : s.vm.findClass RX14 = some m.cls := findClass_of_methodNamed B.named
  have hlocks := B.notSynchronized
  subst hsz
  have hD := hD0.self (sz := s.heap.size)
  generalize hAe : va_A [] s.heap.size = A at hD hT ⊢
  have hAA : ∀ q : Nat, s.heap.size ≤ q → A q := fun q h => by rw [← hAe]; exact Or.inr h
  have hS : va_S A s.heap s.heap [] := va_S.rf
  have hl := lv_entry ([.int sl]) (n := 1) (Nat.le_of_ble_eq_true rfl)
  rw [lg_entry_eq]
  generalize (lg_sl ([.int sl]) ++ List.replicate (1 - (lg_sl ([.int sl])).length) Slot.unset).toArray = ls at hl ⊢
  have hl : lv_has ls 1 [(0, .int sl)] := hl
  refine lv_iconst (v := 1) hx hb dX14_bit_0 (by decide) ?_
  refine lv_iload_n hx hb dX14_bit_1 rfl (lv_at hl 0 rfl) ?_
  refine lv_ishl hx hb dX14_bit_2 ?_
  refine lv_topi (fun x_1 ex_1 => ?_)
  have hP9 := hP.sub (ws' := []) [] rfl
  have hD9 := hD.sub (ws' := []) [] (by decide) rfl
  have hK9 := hK.sub (tys' := []) [] rfl
  exact W.iret (v := x_1) hx hb hr (fun t ht hW => ⟨⟨x_1, (), rfl, ex_1, by rw [ht]; exact hP9, va_K.moved hW.alike hK9, hD9⟩, hS.F ht⟩) hS.2.2 dX14_bit_3
set_option maxHeartbeats 4000000 in
set_option maxRecDepth 100000 in
theorem c_X14_ofArm_x (l : Launch) (dC : Nat → ClassId) (dI : Nat → Nat → Nat) (aK aV : Nat → Nat) (m_spare : Nat) (pr_what : Nat) (pr_place : Nat) (pr_own : Nat) (pr_one : Nat) (pr_two : Nat) (pr_three : Nat) (pr_beside : Nat) (pr_many : Nat) (pr_uses : Nat) (pr_behind : Nat) (pr_name : Nat) (pr_makes : Nat) (pr_parts : Int32) (pr_functionName : Nat) (pr_kindName : Nat) (pr_told : Nat) (pr_body : Nat) (pr_first : Nat) (pr_widest : Nat) (pr_fields : Nat) (pr_functions : Int32) (pr_kinds : Int32) (rk_two : ClassId) (rk_many : ClassId) (rg_two : Nat → Int32) (rg_many : Nat → Int32) (ar : Int32) (sz : Nat) (har0 : 0 ≤ ar.toInt) (har1 : ar.toInt < 2100) : Met l yX14_ofArm (Cond.code yX14_ofArm cX14_ofArm 2 (some .int) :: zw) ({ frames := 8, cells := 0, slots := 0, locals := 200 }) (va_Pc [.ref m_spare, .int ar] (zP dC dI aK aV sz [(rk_two, .int), (rk_many, .int)] [(m_spare, .inr (12, [.ref pr_what, .ref pr_place, .ref pr_own, .ref pr_one, .ref pr_two, .ref pr_three, .ref pr_beside, .ref pr_many, .ref pr_uses, .ref pr_behind, .ref pr_name, .ref pr_makes, .int pr_parts, .ref pr_functionName, .ref pr_kindName, .ref pr_told, .ref pr_body, .ref pr_first, .ref pr_widest, .ref pr_fields, .int pr_functions, .int pr_kinds])), (pr_two, .inl (rk_two, 2100, .inl rg_two)), (pr_many, .inl (rk_many, 2100, .inl rg_many))])) (va_Qi (fun (r : Int32) (u : Unit) => (r = ((1 : Int32) <<< (rg_many (Int32.toNatClampNeg ar) &&& 31) - 1) <<< (rg_two (Int32.toNatClampNeg ar) &&& 31))) (fun u => zQ dC dI (va_A [(m_spare, .inr (12, [.ref pr_what, .ref pr_place, .ref pr_own, .ref pr_one, .ref pr_two, .ref pr_three, .ref pr_beside, .ref pr_many, .ref pr_uses, .ref pr_behind, .ref pr_name, .ref pr_makes, .int pr_parts, .ref pr_functionName, .ref pr_kindName, .ref pr_told, .ref pr_body, .ref pr_first, .ref pr_widest, .ref pr_fields, .int pr_functions, .int pr_kinds])), (pr_two, .inl (rk_two, 2100, .inl rg_two)), (pr_many, .inl (rk_many, 2100, .inl rg_many))] sz) [(rk_two, .int), (rk_many, .int)] [(m_spare, .inr (12, [.ref pr_what, .ref pr_place, .ref pr_own, .ref pr_one, .ref pr_two, .ref pr_three, .ref pr_beside, .ref pr_many, .ref pr_uses, .ref pr_behind, .ref pr_name, .ref pr_makes, .int pr_parts, .ref pr_functionName, .ref pr_kindName, .ref pr_told, .ref pr_body, .ref pr_first, .ref pr_widest, .ref pr_fields, .int pr_functions, .int pr_kinds])), (pr_two, .inl (rk_two, 2100, .inl rg_two)), (pr_many, .inl (rk_many, 2100, .inl rg_many))]) (va_A [(m_spare, .inr (12, [.ref pr_what, .ref pr_place, .ref pr_own, .ref pr_one, .ref pr_two, .ref pr_three, .ref pr_beside, .ref pr_many, .ref pr_uses, .ref pr_behind, .ref pr_name, .ref pr_makes, .int pr_parts, .ref pr_functionName, .ref pr_kindName, .ref pr_told, .ref pr_body, .ref pr_first, .ref pr_widest, .ref pr_fields, .int pr_functions, .int pr_kinds])), (pr_two, .inl (rk_two, 2100, .inl rg_two)), (pr_many, .inl (rk_many, 2100, .inl rg_many))] sz)) 0 0 (va_A [(m_spare, .inr (12, [.ref pr_what, .ref pr_place, .ref pr_own, .ref pr_one, .ref pr_two, .ref pr_three, .ref pr_beside, .ref pr_many, .ref pr_uses, .ref pr_behind, .ref pr_name, .ref pr_makes, .int pr_parts, .ref pr_functionName, .ref pr_kindName, .ref pr_told, .ref pr_body, .ref pr_first, .ref pr_widest, .ref pr_fields, .int pr_functions, .int pr_kinds])), (pr_two, .inl (rk_two, 2100, .inl rg_two)), (pr_many, .inl (rk_many, 2100, .inl rg_many))] sz) := by
  refine Met.ofW (cc := cX14_ofArm) (maxL := 2) (ret := (some .int)) (by decide) rfl ?_
  intro p e s m args below meth c s₁ B hml hv
  obtain ⟨rfl, hsz, hP, hK, hD0, hN, hT⟩ := hv
  have hx := B.exec
  have hb := B.bytes
  have hr := B.returns
  have hts := atoms_spec (ws := Cond.code yX14_ofArm cX14_ofArm 2 (some .int) :: zw) B.pre
  have hA : ∀ w ∈ zw, w.before _ s = true := fun w h => hts w (List.mem_cons_of_mem _ h)
  have hown : s.vm.findClass RX14 = some m.cls := findClass_of_methodNamed B.named
  have hlocks := B.notSynchronized
  subst hsz
  have hD := hD0.self (sz := s.heap.size)
  generalize hAe : va_A [(m_spare, .inr (12, [.ref pr_what, .ref pr_place, .ref pr_own, .ref pr_one, .ref pr_two, .ref pr_three, .ref pr_beside, .ref pr_many, .ref pr_uses, .ref pr_behind, .ref pr_name, .ref pr_makes, .int pr_parts, .ref pr_functionName, .ref pr_kindName, .ref pr_told, .ref pr_body, .ref pr_first, .ref pr_widest, .ref pr_fields, .int pr_functions, .int pr_kinds])), (pr_two, .inl (rk_two, 2100, .inl rg_two)), (pr_many, .inl (rk_many, 2100, .inl rg_many))] s.heap.size = A at hD hT ⊢
  have hAA : ∀ q : Nat, s.heap.size ≤ q → A q := fun q h => by rw [← hAe]; exact Or.inr h
  have hS : va_S A s.heap s.heap [] := va_S.rf
  have hl := lv_entry ([.ref m_spare, .int ar]) (n := 2) (Nat.le_of_ble_eq_true rfl)
  rw [lg_entry_eq]
  generalize (lg_sl ([.ref m_spare, .int ar]) ++ List.replicate (2 - (lg_sl ([.ref m_spare, .int ar])).length) Slot.unset).toArray = ls at hl ⊢
  have hl : lv_has ls 2 [(0, .ref m_spare), (1, .int ar)] := hl
  refine lv_iconst (v := 1) hx hb dX14_ofArm_0 (by decide) ?_
  refine lv_aload_n hx hb dX14_ofArm_1 rfl (lv_at hl 0 rfl) ?_
  refine va_getN (D := (dC, dI)) (ci := 12) (v := .ref pr_many) (C := RX12) (T := TX12) (N := 22) hx hb hA zin_X12 hown hK hP 0 rfl rfl 7 (by decide) (va_Nw.use rfl (hN.1 ("ReuseHouseModel", 214, "ReuseHouseModel$Program", "many", "[I", "ReuseHouseModel") (by decide +kernel))) (fun _ h9 => h9) rfl dX14_ofArm_2 ?_
  refine lv_iload_n hx hb dX14_ofArm_5 rfl (lv_at hl 1 rfl) ?_
  refine va_iald hx hb hK hP 2 1 rfl rfl (vp_in_iff.mpr ⟨by omega, by omega⟩) dX14_ofArm_6 ?_
  refine lv_topi (fun x_1 ex_1 => ?_)
  refine lv_ishl hx hb dX14_ofArm_7 ?_
  refine lv_topi (fun x_2 ex_2 => ?_)
  refine lv_iconst (v := 1) hx hb dX14_ofArm_8 (by decide) ?_
  refine lv_isub hx hb dX14_ofArm_9 ?_
  refine lv_topi (fun x_3 ex_3 => ?_)
  refine lv_aload_n hx hb dX14_ofArm_10 rfl (lv_at hl 0 rfl) ?_
  refine va_getN (D := (dC, dI)) (ci := 12) (v := .ref pr_two) (C := RX12) (T := TX12) (N := 22) hx hb hA zin_X12 hown hK hP 0 rfl rfl 4 (by decide) (va_Nw.use rfl (hN.1 ("ReuseHouseModel", 205, "ReuseHouseModel$Program", "two", "[I", "ReuseHouseModel") (by decide +kernel))) (fun _ h9 => h9) rfl dX14_ofArm_11 ?_
  refine lv_iload_n hx hb dX14_ofArm_14 rfl (lv_at hl 1 rfl) ?_
  refine va_iald hx hb hK hP 1 0 rfl rfl (vp_in_iff.mpr ⟨by omega, by omega⟩) dX14_ofArm_15 ?_
  refine lv_topi (fun x_4 ex_4 => ?_)
  refine lv_ishl hx hb dX14_ofArm_16 ?_
  refine lv_topi (fun x_5 ex_5 => ?_)
  have hP9 := hP.sub (ws' := [(m_spare, .inr (12, [.ref pr_what, .ref pr_place, .ref pr_own, .ref pr_one, .ref pr_two, .ref pr_three, .ref pr_beside, .ref pr_many, .ref pr_uses, .ref pr_behind, .ref pr_name, .ref pr_makes, .int pr_parts, .ref pr_functionName, .ref pr_kindName, .ref pr_told, .ref pr_body, .ref pr_first, .ref pr_widest, .ref pr_fields, .int pr_functions, .int pr_kinds])), (pr_two, .inl (rk_two, 2100, .inl rg_two)), (pr_many, .inl (rk_many, 2100, .inl rg_many))]) [0, 1, 2] rfl
  have hD9 := hD.sub (ws' := [(m_spare, .inr (12, [.ref pr_what, .ref pr_place, .ref pr_own, .ref pr_one, .ref pr_two, .ref pr_three, .ref pr_beside, .ref pr_many, .ref pr_uses, .ref pr_behind, .ref pr_name, .ref pr_makes, .int pr_parts, .ref pr_functionName, .ref pr_kindName, .ref pr_told, .ref pr_body, .ref pr_first, .ref pr_widest, .ref pr_fields, .int pr_functions, .int pr_kinds])), (pr_two, .inl (rk_two, 2100, .inl rg_two)), (pr_many, .inl (rk_many, 2100, .inl rg_many))]) [0, 1, 2] (by decide) rfl
  have hK9 := hK.sub (tys' := [(rk_two, .int), (rk_many, .int)]) [0, 1] rfl
  exact W.iret (v := x_5) hx hb hr (fun t ht hW => ⟨⟨x_5, (), rfl, (by rw [ex_5, ex_3, ex_2, ex_1, ex_4]), by rw [ht]; exact hP9, va_K.moved hW.alike hK9, hD9⟩, hS.F ht⟩) hS.2.2 dX14_ofArm_17
set_option maxHeartbeats 4000000 in
set_option maxRecDepth 100000 in
theorem c_X14_functionOf_x (l : Launch) (dC : Nat → ClassId) (dI : Nat → Nat → Nat) (aK aV : Nat → Nat) (m_spare : Nat) (pr_what : Nat) (pr_place : Nat) (pr_own : Nat) (pr_one : Nat) (pr_two : Nat) (pr_three : Nat) (pr_beside : Nat) (pr_many : Nat) (pr_uses : Nat) (pr_behind : Nat) (pr_name : Nat) (pr_makes : Nat) (pr_parts : Int32) (pr_functionName : Nat) (pr_kindName : Nat) (pr_told : Nat) (pr_body : Nat) (pr_first : Nat) (pr_widest : Nat) (pr_fields : Nat) (pr_functions : Int32) (pr_kinds : Int32) (rk_functionName : ClassId) (rg_functionName : Nat → Int64) (wo : Int64) (sz : Nat) (hfn0 : 0 ≤ pr_functions.toInt) (hfn1 : pr_functions.toInt ≤ 30) : Met l yX14_functionOf (Cond.code yX14_functionOf cX14_functionOf 4 (some .int) :: zw) ({ frames := 8, cells := 0, slots := 0, locals := 200 }) (va_Pc [.ref m_spare, .long wo] (zP dC dI aK aV sz [(rk_functionName, .long)] [(m_spare, .inr (12, [.ref pr_what, .ref pr_place, .ref pr_own, .ref pr_one, .ref pr_two, .ref pr_three, .ref pr_beside, .ref pr_many, .ref pr_uses, .ref pr_behind, .ref pr_name, .ref pr_makes, .int pr_parts, .ref pr_functionName, .ref pr_kindName, .ref pr_told, .ref pr_body, .ref pr_first, .ref pr_widest, .ref pr_fields, .int pr_functions, .int pr_kinds])), (pr_functionName, .inl (rk_functionName, 30, .inr (.inl rg_functionName)))])) (va_Qi (fun (r : Int32) (u : Unit) => (-1 ≤ r.toInt) ∧ (r.toInt < pr_functions.toInt) ∧ (rx_ff rg_functionName wo pr_functions r)) (fun u => zQ dC dI (va_A [(m_spare, .inr (12, [.ref pr_what, .ref pr_place, .ref pr_own, .ref pr_one, .ref pr_two, .ref pr_three, .ref pr_beside, .ref pr_many, .ref pr_uses, .ref pr_behind, .ref pr_name, .ref pr_makes, .int pr_parts, .ref pr_functionName, .ref pr_kindName, .ref pr_told, .ref pr_body, .ref pr_first, .ref pr_widest, .ref pr_fields, .int pr_functions, .int pr_kinds])), (pr_functionName, .inl (rk_functionName, 30, .inr (.inl rg_functionName)))] sz) [(rk_functionName, .long)] [(m_spare, .inr (12, [.ref pr_what, .ref pr_place, .ref pr_own, .ref pr_one, .ref pr_two, .ref pr_three, .ref pr_beside, .ref pr_many, .ref pr_uses, .ref pr_behind, .ref pr_name, .ref pr_makes, .int pr_parts, .ref pr_functionName, .ref pr_kindName, .ref pr_told, .ref pr_body, .ref pr_first, .ref pr_widest, .ref pr_fields, .int pr_functions, .int pr_kinds])), (pr_functionName, .inl (rk_functionName, 30, .inr (.inl rg_functionName)))]) (va_A [(m_spare, .inr (12, [.ref pr_what, .ref pr_place, .ref pr_own, .ref pr_one, .ref pr_two, .ref pr_three, .ref pr_beside, .ref pr_many, .ref pr_uses, .ref pr_behind, .ref pr_name, .ref pr_makes, .int pr_parts, .ref pr_functionName, .ref pr_kindName, .ref pr_told, .ref pr_body, .ref pr_first, .ref pr_widest, .ref pr_fields, .int pr_functions, .int pr_kinds])), (pr_functionName, .inl (rk_functionName, 30, .inr (.inl rg_functionName)))] sz)) 0 0 (va_A [(m_spare, .inr (12, [.ref pr_what, .ref pr_place, .ref pr_own, .ref pr_one, .ref pr_two, .ref pr_three, .ref pr_beside, .ref pr_many, .ref pr_uses, .ref pr_behind, .ref pr_name, .ref pr_makes, .int pr_parts, .ref pr_functionName, .ref pr_kindName, .ref pr_told, .ref pr_body, .ref pr_first, .ref pr_widest, .ref pr_fields, .int pr_functions, .int pr_kinds])), (pr_functionName, .inl (rk_functionName, 30, .inr (.inl rg_functionName)))] sz) := by
  refine Met.ofW (cc := cX14_functionOf) (maxL := 4) (ret := (some .int)) (by decide) rfl ?_
  intro p e s m args below meth c s₁ B hml hv
  obtain ⟨rfl, hsz, hP, hK, hD0, hN, hT⟩ := hv
  have hx := B.exec
  have hb := B.bytes
  have hr := B.returns
  have hts := atoms_spec (ws := Cond.code yX14_functionOf cX14_functionOf 4 (some .int) :: zw) B.pre
  have hA : ∀ w ∈ zw, w.before _ s = true := fun w h => hts w (List.mem_cons_of_mem _ h)
  have hown : s.vm.findClass RX14 = some m.cls := findClass_of_methodNamed B.named
  have hlocks := B.notSynchronized
  subst hsz
  have hD := hD0.self (sz := s.heap.size)
  generalize hAe : va_A [(m_spare, .inr (12, [.ref pr_what, .ref pr_place, .ref pr_own, .ref pr_one, .ref pr_two, .ref pr_three, .ref pr_beside, .ref pr_many, .ref pr_uses, .ref pr_behind, .ref pr_name, .ref pr_makes, .int pr_parts, .ref pr_functionName, .ref pr_kindName, .ref pr_told, .ref pr_body, .ref pr_first, .ref pr_widest, .ref pr_fields, .int pr_functions, .int pr_kinds])), (pr_functionName, .inl (rk_functionName, 30, .inr (.inl rg_functionName)))] s.heap.size = A at hD hT ⊢
  have hAA : ∀ q : Nat, s.heap.size ≤ q → A q := fun q h => by rw [← hAe]; exact Or.inr h
  have hS : va_S A s.heap s.heap [] := va_S.rf
  have hl := lv_entry ([.ref m_spare, .long wo]) (n := 4) (Nat.le_of_ble_eq_true rfl)
  rw [lg_entry_eq]
  generalize (lg_sl ([.ref m_spare, .long wo]) ++ List.replicate (4 - (lg_sl ([.ref m_spare, .long wo])).length) Slot.unset).toArray = ls at hl ⊢
  have hl : lv_has ls 4 [(0, .ref m_spare), (1, .long wo)] := hl
  refine lv_iconst (v := 0) hx hb dX14_functionOf_0 (by decide) ?_
  refine lv_istore_n (lv' := [(3, .int 0), (0, .ref m_spare), (1, .long wo)]) hx hb dX14_functionOf_1 rfl hl (by decide) rfl (fun ls hl => ?_)
  have loop_2 : ∀ (n9 : Nat) (k : Int32) (H : Heap) (locs : List Loc) (ls : Array Slot), (pr_functions.toInt - k.toInt + 1).toNat ≤ n9 → 0 ≤ k.toInt → k.toInt ≤ pr_functions.toInt → (∀ j : Nat, (j : Int) < Int32.toInt k → rg_functionName j ≠ wo) → va_P (dC, dI) vwCl [(m_spare, .inr (12, [.ref pr_what, .ref pr_place, .ref pr_own, .ref pr_one, .ref pr_two, .ref pr_three, .ref pr_beside, .ref pr_many, .ref pr_uses, .ref pr_behind, .ref pr_name, .ref pr_makes, .int pr_parts, .ref pr_functionName, .ref pr_kindName, .ref pr_told, .ref pr_body, .ref pr_first, .ref pr_widest, .ref pr_fields, .int pr_functions, .int pr_kinds])), (pr_functionName, .inl (rk_functionName, 30, .inr (.inl rg_functionName)))] H → va_D A [(m_spare, .inr (12, [.ref pr_what, .ref pr_place, .ref pr_own, .ref pr_one, .ref pr_two, .ref pr_three, .ref pr_beside, .ref pr_many, .ref pr_uses, .ref pr_behind, .ref pr_name, .ref pr_makes, .int pr_parts, .ref pr_functionName, .ref pr_kindName, .ref pr_told, .ref pr_body, .ref pr_first, .ref pr_widest, .ref pr_fields, .int pr_functions, .int pr_kinds])), (pr_functionName, .inl (rk_functionName, 30, .inr (.inl rg_functionName)))] → va_S A s.heap H locs → lv_has ls 4 [(3, .int k), (0, .ref m_spare), (1, .long wo)] → W p l e (headSpec (Cond.code yX14_functionOf cX14_functionOf 4 (some .int) :: zw) ({ frames := 8, cells := 0, slots := 0, locals := 200 })).room s m #[.ref m_spare, .long wo] below meth c H locs 0 0 (MQ below (va_Qi (fun (r : Int32) (u : Unit) => (-1 ≤ r.toInt) ∧ (r.toInt < pr_functions.toInt) ∧ (rx_ff rg_functionName wo pr_functions r)) (fun u => zQ dC dI A [(rk_functionName, .long)] [(m_spare, .inr (12, [.ref pr_what, .ref pr_place, .ref pr_own, .ref pr_one, .ref pr_two, .ref pr_three, .ref pr_beside, .ref pr_many, .ref pr_uses, .ref pr_behind, .ref pr_name, .ref pr_makes, .int pr_parts, .ref pr_functionName, .ref pr_kindName, .ref pr_told, .ref pr_body, .ref pr_first, .ref pr_widest, .ref pr_fields, .int pr_functions, .int pr_kinds])), (pr_functionName, .inl (rk_functionName, 30, .inr (.inl rg_functionName)))]) A) #[.ref m_spare, .long wo] s 0 0 A) (F0 m 2 ls []) := by
    intro n9
    induction n9 with
    | zero => intro k H locs ls hm hk0 hk1 hno; exfalso; omega
    | succ n9 ih =>
      intro k H locs ls hm hk0 hk1 hno hP hD hS hl
      refine lv_iload_n hx hb dX14_functionOf_2 rfl (lv_at hl 0 rfl) ?_
      refine lv_aload_n hx hb dX14_functionOf_3 rfl (lv_at hl 1 rfl) ?_
      refine va_getN (D := (dC, dI)) (ci := 12) (v := .int pr_functions) (C := RX12) (T := TX12) (N := 22) hx hb hA zin_X12 hown hK hP 0 rfl rfl 20 (by decide) (va_Nw.use rfl (hN.1 ("ReuseHouseModel", 230, "ReuseHouseModel$Program", "functions", "I", "ReuseHouseModel") (by decide +kernel))) (fun _ h9 => h9) rfl dX14_functionOf_4 ?_
      refine lv_icmp_ge (tgt := 27) hx hb dX14_functionOf_7 (by decide) (fun c_1 => ?_) (fun c_1 => ?_)
      · have ic_1 : pr_functions.toInt ≤ k.toInt := zi_le c_1
        refine lv_iload_n hx hb dX14_functionOf_27 rfl (lv_at hl 0 rfl) ?_
        refine lv_aload_n hx hb dX14_functionOf_28 rfl (lv_at hl 1 rfl) ?_
        refine va_getN (D := (dC, dI)) (ci := 12) (v := .int pr_functions) (C := RX12) (T := TX12) (N := 22) hx hb hA zin_X12 hown hK hP 0 rfl rfl 20 (by decide) (va_Nw.use rfl (hN.1 ("ReuseHouseModel", 230, "ReuseHouseModel$Program", "functions", "I", "ReuseHouseModel") (by decide +kernel))) (fun _ h9 => h9) rfl dX14_functionOf_29 ?_
        refine lv_icmp_ge (tgt := 39) hx hb dX14_functionOf_32 (by decide) (fun c_2 => ?_) (fun c_2 => ?_)
        · have ic_2 : pr_functions.toInt ≤ k.toInt := zi_le c_2
          refine lv_iconst (v := (-1)) hx hb dX14_functionOf_39 (by decide) ?_
          have hlit : Int32.toInt (-1) = (-1) := by decide
          have hP9 := hP.sub (ws' := [(m_spare, .inr (12, [.ref pr_what, .ref pr_place, .ref pr_own, .ref pr_one, .ref pr_two, .ref pr_three, .ref pr_beside, .ref pr_many, .ref pr_uses, .ref pr_behind, .ref pr_name, .ref pr_makes, .int pr_parts, .ref pr_functionName, .ref pr_kindName, .ref pr_told, .ref pr_body, .ref pr_first, .ref pr_widest, .ref pr_fields, .int pr_functions, .int pr_kinds])), (pr_functionName, .inl (rk_functionName, 30, .inr (.inl rg_functionName)))]) [0, 1] rfl
          have hD9 := hD.sub (ws' := [(m_spare, .inr (12, [.ref pr_what, .ref pr_place, .ref pr_own, .ref pr_one, .ref pr_two, .ref pr_three, .ref pr_beside, .ref pr_many, .ref pr_uses, .ref pr_behind, .ref pr_name, .ref pr_makes, .int pr_parts, .ref pr_functionName, .ref pr_kindName, .ref pr_told, .ref pr_body, .ref pr_first, .ref pr_widest, .ref pr_fields, .int pr_functions, .int pr_kinds])), (pr_functionName, .inl (rk_functionName, 30, .inr (.inl rg_functionName)))]) [0, 1] (by decide) rfl
          have hK9 := hK.sub (tys' := [(rk_functionName, .long)]) [0] rfl
          exact W.iret (v := (-1)) hx hb hr (fun t ht hW => ⟨⟨(-1), (), rfl, ⟨by omega, by omega, (Or.inl ⟨by decide, fun j hj => hno j (by omega)⟩)⟩, by rw [ht]; exact hP9, va_K.moved hW.alike hK9, hD9⟩, hS.F ht⟩) hS.2.2 dX14_functionOf_40
        · have ic_2 : k.toInt < pr_functions.toInt := zi_nle c_2
          refine lv_iload_n hx hb dX14_functionOf_35 rfl (lv_at hl 0 rfl) ?_
          refine lv_goto (tgt := 40) hx hb dX14_functionOf_36 (by decide) ?_
          have hP9 := hP.sub (ws' := [(m_spare, .inr (12, [.ref pr_what, .ref pr_place, .ref pr_own, .ref pr_one, .ref pr_two, .ref pr_three, .ref pr_beside, .ref pr_many, .ref pr_uses, .ref pr_behind, .ref pr_name, .ref pr_makes, .int pr_parts, .ref pr_functionName, .ref pr_kindName, .ref pr_told, .ref pr_body, .ref pr_first, .ref pr_widest, .ref pr_fields, .int pr_functions, .int pr_kinds])), (pr_functionName, .inl (rk_functionName, 30, .inr (.inl rg_functionName)))]) [0, 1] rfl
          have hD9 := hD.sub (ws' := [(m_spare, .inr (12, [.ref pr_what, .ref pr_place, .ref pr_own, .ref pr_one, .ref pr_two, .ref pr_three, .ref pr_beside, .ref pr_many, .ref pr_uses, .ref pr_behind, .ref pr_name, .ref pr_makes, .int pr_parts, .ref pr_functionName, .ref pr_kindName, .ref pr_told, .ref pr_body, .ref pr_first, .ref pr_widest, .ref pr_fields, .int pr_functions, .int pr_kinds])), (pr_functionName, .inl (rk_functionName, 30, .inr (.inl rg_functionName)))]) [0, 1] (by decide) rfl
          have hK9 := hK.sub (tys' := [(rk_functionName, .long)]) [0] rfl
          exact W.iret (v := k) hx hb hr (fun t ht hW => ⟨⟨k, (), rfl, ⟨by omega, by omega, (by exfalso; omega)⟩, by rw [ht]; exact hP9, va_K.moved hW.alike hK9, hD9⟩, hS.F ht⟩) hS.2.2 dX14_functionOf_40
      · have ic_1 : k.toInt < pr_functions.toInt := zi_nle c_1
        refine lv_aload_n hx hb dX14_functionOf_10 rfl (lv_at hl 1 rfl) ?_
        refine va_getN (D := (dC, dI)) (ci := 12) (v := .ref pr_functionName) (C := RX12) (T := TX12) (N := 22) hx hb hA zin_X12 hown hK hP 0 rfl rfl 13 (by decide) (va_Nw.use rfl (hN.1 ("ReuseHouseModel", 315, "ReuseHouseModel$Program", "functionName", "[J", "ReuseHouseModel") (by decide +kernel))) (fun _ h9 => h9) rfl dX14_functionOf_11 ?_
        refine lv_iload_n hx hb dX14_functionOf_14 rfl (lv_at hl 0 rfl) ?_
        refine va_lald hx hb hK hP 1 0 rfl rfl (vp_in_iff.mpr ⟨by omega, by omega⟩) dX14_functionOf_15 ?_
        refine lv_topl (fun x_3 ex_3 => ?_)
        refine lv_lload_n hx hb dX14_functionOf_16 rfl (lv_at hl 2 rfl) ?_
        refine W.lcmp hx hb dX14_functionOf_17 ?_
        refine lv_topi (fun x_4 ex_4 => ?_)
        refine lv_if_eq (tgt := 27) hx hb dX14_functionOf_18 (by decide) (fun c_5 => ?_) (fun c_5 => ?_)
        · have ic_5 : x_4.toInt = 0 := zi_eq c_5
          refine lv_iload_n hx hb dX14_functionOf_27 rfl (lv_at hl 0 rfl) ?_
          refine lv_aload_n hx hb dX14_functionOf_28 rfl (lv_at hl 1 rfl) ?_
          refine va_getN (D := (dC, dI)) (ci := 12) (v := .int pr_functions) (C := RX12) (T := TX12) (N := 22) hx hb hA zin_X12 hown hK hP 0 rfl rfl 20 (by decide) (va_Nw.use rfl (hN.1 ("ReuseHouseModel", 230, "ReuseHouseModel$Program", "functions", "I", "ReuseHouseModel") (by decide +kernel))) (fun _ h9 => h9) rfl dX14_functionOf_29 ?_
          refine lv_icmp_ge (tgt := 39) hx hb dX14_functionOf_32 (by decide) (fun c_6 => ?_) (fun c_6 => ?_)
          · have ic_6 : pr_functions.toInt ≤ k.toInt := zi_le c_6
            refine lv_iconst (v := (-1)) hx hb dX14_functionOf_39 (by decide) ?_
            have hlit : Int32.toInt (-1) = (-1) := by decide
            have hP9 := hP.sub (ws' := [(m_spare, .inr (12, [.ref pr_what, .ref pr_place, .ref pr_own, .ref pr_one, .ref pr_two, .ref pr_three, .ref pr_beside, .ref pr_many, .ref pr_uses, .ref pr_behind, .ref pr_name, .ref pr_makes, .int pr_parts, .ref pr_functionName, .ref pr_kindName, .ref pr_told, .ref pr_body, .ref pr_first, .ref pr_widest, .ref pr_fields, .int pr_functions, .int pr_kinds])), (pr_functionName, .inl (rk_functionName, 30, .inr (.inl rg_functionName)))]) [0, 1] rfl
            have hD9 := hD.sub (ws' := [(m_spare, .inr (12, [.ref pr_what, .ref pr_place, .ref pr_own, .ref pr_one, .ref pr_two, .ref pr_three, .ref pr_beside, .ref pr_many, .ref pr_uses, .ref pr_behind, .ref pr_name, .ref pr_makes, .int pr_parts, .ref pr_functionName, .ref pr_kindName, .ref pr_told, .ref pr_body, .ref pr_first, .ref pr_widest, .ref pr_fields, .int pr_functions, .int pr_kinds])), (pr_functionName, .inl (rk_functionName, 30, .inr (.inl rg_functionName)))]) [0, 1] (by decide) rfl
            have hK9 := hK.sub (tys' := [(rk_functionName, .long)]) [0] rfl
            exact W.iret (v := (-1)) hx hb hr (fun t ht hW => ⟨⟨(-1), (), rfl, ⟨by omega, by omega, (by exfalso; omega)⟩, by rw [ht]; exact hP9, va_K.moved hW.alike hK9, hD9⟩, hS.F ht⟩) hS.2.2 dX14_functionOf_40
          · have ic_6 : k.toInt < pr_functions.toInt := zi_nle c_6
            refine lv_iload_n hx hb dX14_functionOf_35 rfl (lv_at hl 0 rfl) ?_
            refine lv_goto (tgt := 40) hx hb dX14_functionOf_36 (by decide) ?_
            have hP9 := hP.sub (ws' := [(m_spare, .inr (12, [.ref pr_what, .ref pr_place, .ref pr_own, .ref pr_one, .ref pr_two, .ref pr_three, .ref pr_beside, .ref pr_many, .ref pr_uses, .ref pr_behind, .ref pr_name, .ref pr_makes, .int pr_parts, .ref pr_functionName, .ref pr_kindName, .ref pr_told, .ref pr_body, .ref pr_first, .ref pr_widest, .ref pr_fields, .int pr_functions, .int pr_kinds])), (pr_functionName, .inl (rk_functionName, 30, .inr (.inl rg_functionName)))]) [0, 1] rfl
            have hD9 := hD.sub (ws' := [(m_spare, .inr (12, [.ref pr_what, .ref pr_place, .ref pr_own, .ref pr_one, .ref pr_two, .ref pr_three, .ref pr_beside, .ref pr_many, .ref pr_uses, .ref pr_behind, .ref pr_name, .ref pr_makes, .int pr_parts, .ref pr_functionName, .ref pr_kindName, .ref pr_told, .ref pr_body, .ref pr_first, .ref pr_widest, .ref pr_fields, .int pr_functions, .int pr_kinds])), (pr_functionName, .inl (rk_functionName, 30, .inr (.inl rg_functionName)))]) [0, 1] (by decide) rfl
            have hK9 := hK.sub (tys' := [(rk_functionName, .long)]) [0] rfl
            exact W.iret (v := k) hx hb hr (fun t ht hW => ⟨⟨k, (), rfl, ⟨by omega, by omega, (Or.inr ⟨by omega, by omega, ex_3.symm.trans (lc_eq (by rw [← ex_4]; omega)), hno⟩)⟩, by rw [ht]; exact hP9, va_K.moved hW.alike hK9, hD9⟩, hS.F ht⟩) hS.2.2 dX14_functionOf_40
        · have ic_5 : x_4.toInt ≠ 0 := zi_ne c_5
          obtain ⟨x_7, ex_7⟩ : ∃ y : Int32, y = k + Int32.ofInt 1 := ⟨_, rfl⟩
          refine lv_iinc (v := x_7) (lv' := [(3, .int x_7), (0, .ref m_spare), (1, .long wo)]) hx hb dX14_functionOf_21 hl (k := 0) rfl (by rw [ex_7]) (by decide) rfl (fun ls hl => ?_)
          have ix_7 : x_7.toInt = k.toInt + 1 := by rw [ex_7]; exact zi_addc (by decide) (by omega) (by omega)
          refine lv_goto (tgt := 2) hx hb dX14_functionOf_24 (by decide) ?_
          have hno_8 : ∀ j : Nat, (j : Int) < Int32.toInt x_7 → rg_functionName j ≠ wo := sp_no1 hno (by omega) (by omega) (fun e9 => absurd (show x_4.toInt = 0 by rw [ex_4, ex_3, e9]; exact lc_rf) (by omega))
          exact ih x_7 _ _ _ (by omega) (by omega) (by omega) hno_8 (hP.sub [0, 1] rfl) (hD.sub [0, 1] (by decide) rfl) hS (lv_sub hl [0, 1, 2] rfl)
  have hno_9 : ∀ j : Nat, (j : Int) < Int32.toInt 0 → rg_functionName j ≠ wo := fun j hj => by exfalso; have h9 : Int32.toInt 0 = 0 := (by decide); omega
  exact loop_2 _ 0 _ _ _ (Nat.le_refl _) (by have h9_0 : Int32.toInt 0 = 0 := (by decide); omega) (by have h9_0 : Int32.toInt 0 = 0 := (by decide); omega) hno_9 (hP.sub [0, 1] rfl) (hD.sub [0, 1] (by decide) rfl) hS (lv_sub hl [0, 1, 2] rfl)

end
