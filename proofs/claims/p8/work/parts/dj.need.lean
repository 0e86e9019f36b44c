/-! what a part uses, what is needed behind it -/
def zKf (u : Nat → Int32) (j : Nat) : Nat → Bool := fun r => zbit (u r) j
/-- v is what part k uses -/
def zKq (S : Nat → Nat → Int32) (u : Nat → Int32) (k : Nat) (v : Int32) : Nat → Prop
  | 2 => ∀ j, j < 32 → zbit v j = (j == Int32.toNatClampNeg (S 1 k))
  | 3 => ∀ R, zli (S 5) (S 2 k) R → ∀ j, j < 32 → zbit v j = R.any (zKf u j)
  | 4 => ∀ R, zli (S 5) (S 2 k) R → ∀ j, j < 32 → zbit v j = R.any (zKf u j)
  | 5 => ∀ j, j < 32 → zbit v j = (zbit (u (Int32.toNatClampNeg (S 2 k))) j || zbit (u (Int32.toNatClampNeg (S 3 k))) j)
  | 6 => ∀ j, j < 32 → zbit v j = (zbit (u (Int32.toNatClampNeg (S 2 k))) j || (zbit (u (Int32.toNatClampNeg (S 3 k))) j && !(j == Int32.toNatClampNeg (S 1 k))))
  | 7 => ∀ j, j < 32 → zbit v j = (zbit (u (Int32.toNatClampNeg (S 2 k))) j || zbit (u (Int32.toNatClampNeg (S 3 k))) j || zbit (u (Int32.toNatClampNeg (S 4 k))) j)
  | 8 => ∀ R, zli (S 5) (S 2 k) R → ∀ j, j < 32 → zbit v j = ((j == Int32.toNatClampNeg (S 1 k)) || R.any (zKf u j))
  | 9 => ∀ j, j < 32 → zbit v j = (zbit (u (Int32.toNatClampNeg (S 2 k))) j && !(decide ((S 3 k).toInt ≤ (j : Int)) && decide ((j : Int) < (S 3 k).toInt + (S 6 k).toInt)))
  | _ => ∀ j, j < 32 → zbit v j = false
/-- behind k's children stands what is needed -/
def zKb (S : Nat → Nat → Int32) (u b : Nat → Int32) (k : Nat) : Nat → Prop
  | 3 => ∀ R, zli (S 5) (S 2 k) R → ∀ D r E, R = D ++ r :: E → ∀ j, j < 32 → zbit (b r) j = (zbit (b k) j || E.any (zKf u j))
  | 4 => ∀ R, zli (S 5) (S 2 k) R → ∀ D r E, R = D ++ r :: E → ∀ j, j < 32 → zbit (b r) j = (zbit (b k) j || E.any (zKf u j))
  | 5 => (∀ j, j < 32 → zbit (b (Int32.toNatClampNeg (S 2 k))) j = (zbit (b k) j || zbit (u (Int32.toNatClampNeg (S 3 k))) j)) ∧ b (Int32.toNatClampNeg (S 3 k)) = b k
  | 6 => (∀ j, j < 32 → zbit (b (Int32.toNatClampNeg (S 2 k))) j = (zbit (b k) j || (zbit (u (Int32.toNatClampNeg (S 3 k))) j && !(j == Int32.toNatClampNeg (S 1 k))))) ∧ b (Int32.toNatClampNeg (S 3 k)) = b k
  | 7 => (∀ j, j < 32 → zbit (b (Int32.toNatClampNeg (S 2 k))) j = (zbit (b k) j || zbit (u (Int32.toNatClampNeg (S 3 k))) j || zbit (u (Int32.toNatClampNeg (S 4 k))) j)) ∧ b (Int32.toNatClampNeg (S 3 k)) = b k ∧ b (Int32.toNatClampNeg (S 4 k)) = b k
  | 8 => ∀ R, zli (S 5) (S 2 k) R → ∀ r ∈ R, b r = b k
  | 9 => b (Int32.toNatClampNeg (S 2 k)) = b k
  | _ => True
theorem zli_uq' {nx : Nat → Int32} : ∀ {A B : List Nat} {x : Int32}, zli nx x A → zli nx x B → A = B
  | [], [], _, _, _ => rfl
  | [], y :: l, x, a, b => by have a : x.toInt = -1 := a; have b := b.1; omega
  | y :: l, [], x, a, b => by have b : x.toInt = -1 := b; have a := a.1; omega
  | y :: l, z :: k, x, a, b => by
    have e : y = z := by have a := a.1; have b := b.1; omega
    subst e
    rw [zli_uq' a.2 b.2]
theorem zany_ext {u u2 : Nat → Int32} {j : Nat} : ∀ {R : List Nat}, (∀ r ∈ R, u2 r = u r) → R.any (zKf u2 j) = R.any (zKf u j)
  | [], _ => rfl
  | r :: l, h => by
    rw [List.any_cons, List.any_cons, zany_ext (fun x hx => h x (List.mem_cons_of_mem _ hx))]
    unfold zKf; rw [h r List.mem_cons_self]
/-- children lie between L k and k -/
theorem zJn_ch {S : Nat → Nat → Int32} {L C : Nat → Nat} {k n : Nat} (h : zJn S L C k n) : (n = 3 ∨ n = 4 ∨ n = 8 → ∃ R, zJr L (L k) k R ∧ zli (S 5) (S 2 k) R) ∧ (n = 5 ∨ n = 6 → zJr L (L k) k [Int32.toNatClampNeg (S 2 k), Int32.toNatClampNeg (S 3 k)] ∧ 0 ≤ (S 2 k).toInt ∧ 0 ≤ (S 3 k).toInt) ∧ (n = 7 → zJr L (L k) k [Int32.toNatClampNeg (S 2 k), Int32.toNatClampNeg (S 3 k), Int32.toNatClampNeg (S 4 k)] ∧ 0 ≤ (S 2 k).toInt ∧ 0 ≤ (S 3 k).toInt ∧ 0 ≤ (S 4 k).toInt) ∧ (n = 9 → zJr L (L k) k [Int32.toNatClampNeg (S 2 k)] ∧ 0 ≤ (S 2 k).toInt) := by
  match n, h with
  | 0, h => exact h.elim
  | 1, h => exact ⟨fun g => by omega, fun g => by omega, fun g => by omega, fun g => by omega⟩
  | 2, h => exact ⟨fun g => by omega, fun g => by omega, fun g => by omega, fun g => by omega⟩
  | 3, h => exact ⟨fun _ => let ⟨R, a, b, _⟩ := h; ⟨R, a, b⟩, fun g => by omega, fun g => by omega, fun g => by omega⟩
  | 4, h => exact ⟨fun _ => let ⟨R, a, b, _⟩ := h; ⟨R, a, b⟩, fun g => by omega, fun g => by omega, fun g => by omega⟩
  | 5, h =>
    obtain ⟨a, b, g1, g2, g3, -⟩ := h
    rw [zn_lit g2, zn_lit g3]
    exact ⟨fun g => by omega, fun _ => ⟨g1, by omega, by omega⟩, fun g => by omega, fun g => by omega⟩
  | 6, h =>
    obtain ⟨a, b, g1, g2, g3, -⟩ := h
    rw [zn_lit g2, zn_lit g3]
    exact ⟨fun g => by omega, fun _ => ⟨g1, by omega, by omega⟩, fun g => by omega, fun g => by omega⟩
  | 7, h =>
    obtain ⟨a, b, c, g1, g2, g3, g4, -⟩ := h
    rw [zn_lit g2, zn_lit g3, zn_lit g4]
    exact ⟨fun g => by omega, fun g => by omega, fun _ => ⟨g1, by omega, by omega, by omega⟩, fun g => by omega⟩
  | 8, h => exact ⟨fun _ => let ⟨R, a, b, _⟩ := h; ⟨R, a, b⟩, fun g => by omega, fun g => by omega, fun g => by omega⟩
  | 9, h =>
    obtain ⟨a, g1, g2, -⟩ := h
    rw [zn_lit g2]
    exact ⟨fun g => by omega, fun g => by omega, fun g => by omega, fun _ => ⟨g1, by omega⟩⟩
  | _ + 10, h => exact h.elim
theorem zKq_ext {S : Nat → Nat → Int32} {L C : Nat → Nat} {u u2 : Nat → Int32} {k n : Nat} {v : Int32} (h : zJn S L C k n) (he : ∀ r, L k ≤ r → r < k → u2 r = u r) (q : zKq S u k v n) : zKq S u2 k v n := by
  obtain ⟨h1, h2, h3, h4⟩ := zJn_ch h
  have hR : ∀ {R : List Nat}, zJr L (L k) k R → ∀ r ∈ R, u2 r = u r := fun {R} g r hr => by have := zJr_in g r hr; exact he r this.1 this.2
  have hl : (n = 3 ∨ n = 4 ∨ n = 8) → ∀ R, zli (S 5) (S 2 k) R → ∀ j, R.any (zKf u2 j) = R.any (zKf u j) := fun g R hr j => by
    obtain ⟨R', a, b⟩ := h1 g
    rw [zli_uq' hr b]
    exact zany_ext (hR a)
  match n, q with
  | 0, q => exact q
  | 1, q => exact q
  | 2, q => exact q
  | 3, q => exact fun R hr j hj => by rw [hl (by simp) R hr j]; exact q R hr j hj
  | 4, q => exact fun R hr j hj => by rw [hl (by simp) R hr j]; exact q R hr j hj
  | 5, q =>
    obtain ⟨g, -, -⟩ := h2 (by simp)
    intro j hj
    rw [hR g _ List.mem_cons_self, hR g _ (List.mem_cons_of_mem _ List.mem_cons_self)]; exact q j hj
  | 6, q =>
    obtain ⟨g, -, -⟩ := h2 (by simp)
    intro j hj
    rw [hR g _ List.mem_cons_self, hR g _ (List.mem_cons_of_mem _ List.mem_cons_self)]; exact q j hj
  | 7, q =>
    obtain ⟨g, -, -, -⟩ := h3 rfl
    intro j hj
    rw [hR g _ List.mem_cons_self, hR g _ (List.mem_cons_of_mem _ List.mem_cons_self), hR g _ (List.mem_cons_of_mem _ (List.mem_cons_of_mem _ List.mem_cons_self))]; exact q j hj
  | 8, q => exact fun R hr j hj => by rw [hl (by simp) R hr j]; exact q R hr j hj
  | 9, q =>
    obtain ⟨g, -⟩ := h4 rfl
    intro j hj
    rw [hR g _ List.mem_cons_self]; exact q j hj
  | _ + 10, q => exact q
/-- the parts of one function, from a to e, its body the last -/
def zJw (S : Nat → Nat → Int32) (L C : Nat → Nat) (a e : Nat) : Prop := a < e ∧ L (e - 1) = a ∧ zJs S L C a e
def zKU (S : Nat → Nat → Int32) (u u0 : Nat → Int32) (a k : Nat) : Prop := (∀ q, a ≤ q → q < k → zKq S u q (u q) (Int32.toNatClampNeg (S 0 q))) ∧ ∀ q, q < a ∨ k ≤ q → u q = u0 q
theorem zKU_0 {S : Nat → Nat → Int32} {u : Nat → Int32} {a : Nat} : zKU S u u a a := ⟨fun q h1 h2 => absurd h1 (by omega), fun _ _ => rfl⟩
theorem zKU_st {S : Nat → Nat → Int32} {L C : Nat → Nat} {u u0 u2 : Nat → Int32} {a e k k2 : Nat} {v : Int32} (hw : zJw S L C a e) (h : zKU S u u0 a k) (hk : a ≤ k) (hk2 : k < e) (q : zKq S u k v (Int32.toNatClampNeg (S 0 k))) (eu : u2 = upd u k v) (ek : k2 = k + 1) : zKU S u2 u0 a k2 := by
  subst ek
  have hx : ∀ r, r < k → u2 r = u r := fun r hr => by rw [eu, zu_n (by omega)]
  refine ⟨fun r h1 h2 => ?_, fun r hr => ?_⟩
  · obtain ⟨w1, w2, w3, -⟩ := hw.2.2 r h1 (by omega)
    by_cases g : r = k
    · subst g
      rw [show u2 r = v by rw [eu, zu_s]]
      exact zKq_ext w3 (fun x _ hx' => hx x hx') q
    · rw [hx r (by omega)]
      exact zKq_ext w3 (fun x _ hx' => hx x (by omega)) (h.1 r h1 (by omega))
  · rw [eu, zu_n (by omega)]
    exact h.2 r (by omega)
/-- a chain so far -/
def zKc (u : Nat → Int32) (v : Int32) (A : List Nat) (w : Nat → Bool) (R : List Nat) : Prop := ∀ j, j < 32 → (zbit v j || A.any (zKf u j)) = (w j || R.any (zKf u j))
theorem zKc_st {u : Nat → Int32} {v v2 x : Int32} {y : Nat} {A R : List Nat} {w : Nat → Bool} (h : zKc u v (y :: A) w R) (e : v2 = v ||| x) (ex : x = u y) : zKc u v2 A w R := fun j hj => by
  rw [← h j hj, e, zbit_or, ex, List.any_cons, Bool.or_assoc]; rfl
theorem zKc_end {u : Nat → Int32} {v : Int32} {R : List Nat} {w : Nat → Bool} (h : zKc u v [] w R) : ∀ j, j < 32 → zbit v j = (w j || R.any (zKf u j)) := fun j hj => by
  have := h j hj
  rw [List.any_nil, Bool.or_false] at this
  exact this
/-- a chain's suffix: its head -/
theorem zli_hd {nx : Nat → Int32} {x : Int32} {A : List Nat} (h : zli nx x A) (hx : x.toInt ≠ -1) : ∃ l, A = Int32.toNatClampNeg x :: l ∧ zli nx (nx (Int32.toNatClampNeg x)) l ∧ 0 ≤ x.toInt := by
  cases A with
  | nil => exact (hx h).elim
  | cons y l =>
    have e : x.toInt = (y : Int) := h.1
    rw [zn_lit e]
    exact ⟨l, rfl, h.2, by omega⟩
theorem zli_nl {nx : Nat → Int32} {x : Int32} {A : List Nat} (h : zli nx x A) (hx : x.toInt = -1) : A = [] := by
  cases A with
  | nil => rfl
  | cons y l => have e : x.toInt = (y : Int) := h.1; omega
theorem zJr_lt2 {L : Nat → Nat} {x z : Nat} {Q : List Nat} : ∀ {P : List Nat} {a : Nat}, zJr L a z (P ++ x :: Q) → ∀ r ∈ P, r < x
  | [], _, _, r, hr => nomatch hr
  | p :: P, a, h, r, hr => by
    rcases List.mem_cons.mp hr with e | e
    · subst e
      have := zJr_in h.2.2.2 x (List.mem_append.mpr (Or.inr List.mem_cons_self)); omega
    · exact zJr_lt2 h.2.2.2 r e
/-- which of two places in a list comes first -/
theorem zsp {D D0 E l R : List Nat} {r y : Nat} (h1 : R = D ++ r :: E) (h2 : R = D0 ++ y :: l) : (E.length = l.length → r = y ∧ E = l) ∧ (l.length < E.length → r ∈ D0) := by
  have h : D ++ r :: E = D0 ++ y :: l := h1.symm.trans h2
  rcases List.append_eq_append_iff.mp h with ⟨a', e1, e2⟩ | ⟨c', e1, e2⟩
  · cases a' with
    | nil =>
      rw [List.nil_append] at e2
      injection e2 with e3 e4
      exact ⟨fun _ => ⟨e3, e4⟩, fun g => by rw [e4] at g; omega⟩
    | cons x t =>
      rw [List.cons_append] at e2
      injection e2 with e3 e4
      refine ⟨fun g => ?_, fun _ => ?_⟩
      · rw [e4, List.length_append, List.length_cons] at g; omega
      · rw [e1, e3]; exact List.mem_append.mpr (Or.inr List.mem_cons_self)
  · have hl := congrArg List.length e2
    rw [List.length_append, List.length_cons, List.length_cons] at hl
    refine ⟨fun g => ?_, fun g => by omega⟩
    have : c' = [] := List.eq_nil_of_length_eq_zero (by omega)
    rw [this, List.nil_append] at e2
    injection e2 with e3 e4
    exact ⟨e3.symm, e4.symm⟩
/-- behind the arguments from A on nothing is written yet -/
def zKo (u b b0 : Nat → Int32) (bk : Int32) (R A : List Nat) : Prop := (∃ D, R = D ++ A) ∧ (∀ D r E, R = D ++ r :: E → A.length ≤ E.length → ∀ j, j < 32 → zbit (b r) j = (zbit bk j || E.any (zKf u j))) ∧ ∀ r, r ∉ R → b r = b0 r
theorem zKo_0 {u b : Nat → Int32} {bk : Int32} {R : List Nat} : zKo u b b bk R R := ⟨⟨[], rfl⟩, fun D r E e h => by
  have := congrArg List.length e
  rw [List.length_append, List.length_cons] at this; omega, fun _ _ => rfl⟩
theorem zKo_st {u b b0 b2 : Nat → Int32} {bk : Int32} {R l : List Nat} {y : Nat} {L : Nat → Nat} {a z : Nat} (hr : zJr L a z R) (h : zKo u b b0 bk R (y :: l)) (hy : ∀ j, j < 32 → zbit (b2 y) j = (zbit bk j || l.any (zKf u j))) (hb : ∀ r, r ≠ y → b2 r = b r) : zKo u b2 b0 bk R l := by
  obtain ⟨⟨D0, e0⟩, h1, h2⟩ := h
  have hyR : y ∈ R := by rw [e0]; exact List.mem_append.mpr (Or.inr List.mem_cons_self)
  refine ⟨⟨D0 ++ [y], by rw [e0]; simp⟩, fun D r E e hl j hj => ?_, fun r hr => by rw [hb r (fun g => hr (g ▸ hyR))]; exact h2 r hr⟩
  obtain ⟨z1, z2⟩ := zsp e e0
  by_cases g : E.length = l.length
  · obtain ⟨e1, e2⟩ := z1 g
    rw [e1, e2]; exact hy j hj
  · have hm := z2 (by omega)
    rw [e0] at hr
    have := zJr_lt2 hr r hm
    rw [hb r (by omega)]
    exact h1 D r E e (by rw [List.length_cons]; omega) j hj
theorem zKo_end {u b b0 : Nat → Int32} {bk : Int32} {R : List Nat} (h : zKo u b b0 bk R []) : (∀ D r E, R = D ++ r :: E → ∀ j, j < 32 → zbit (b r) j = (zbit bk j || E.any (zKf u j))) ∧ ∀ r, r ∉ R → b r = b0 r := ⟨fun D r E e => h.2.1 D r E e (Nat.zero_le _), h.2.2⟩
/-- the arms from A on are not written yet -/
def zKm (b b0 : Nat → Int32) (bk : Int32) (R A : List Nat) : Prop := (∃ D, R = D ++ A) ∧ (∀ r ∈ R, b r = bk ∨ r ∈ A) ∧ ∀ r, r ∉ R → b r = b0 r
theorem zKm_0 {b : Nat → Int32} {bk : Int32} {R : List Nat} : zKm b b bk R R := ⟨⟨[], rfl⟩, fun _ hr => Or.inr hr, fun _ _ => rfl⟩
theorem zKm_st {b b0 b2 : Nat → Int32} {bk : Int32} {R l : List Nat} {y : Nat} (h : zKm b b0 bk R (y :: l)) (e : b2 = upd b y bk) : zKm b2 b0 bk R l := by
  obtain ⟨⟨D0, e0⟩, h1, h2⟩ := h
  have hyR : y ∈ R := by rw [e0]; exact List.mem_append.mpr (Or.inr List.mem_cons_self)
  refine ⟨⟨D0 ++ [y], by rw [e0]; simp⟩, fun r hr => ?_, fun r hr => by rw [e, zu_n (show r ≠ y from fun g => hr (by rw [g]; exact hyR))]; exact h2 r hr⟩
  by_cases g : r = y
  · left; rw [e, g, zu_s]
  · rw [e, zu_n g]
    rcases h1 r hr with k | k
    · exact Or.inl k
    · rcases List.mem_cons.mp k with k | k
      · exact (g k).elim
      · exact Or.inr k
/-- behind all parts from t on stands what is needed -/
def zKB (S : Nat → Nat → Int32) (u b b0 : Nat → Int32) (a e t : Nat) : Prop := (∀ q, t ≤ q → q < e → zKb S u b q (Int32.toNatClampNeg (S 0 q))) ∧ b (e - 1) = 0 ∧ ∀ q, q < a ∨ e ≤ q → b q = b0 q
theorem zKb_ext {S : Nat → Nat → Int32} {L C : Nat → Nat} {u u2 b b2 : Nat → Int32} {q n : Nat} (h : zJn S L C q n) (h0 : b2 q = b q) (he : ∀ R, zJr L (L q) q R → ∀ r ∈ R, b2 r = b r ∧ u2 r = u r) (g : zKb S u b q n) : zKb S u2 b2 q n := by
  obtain ⟨h1, h2, h3, h4⟩ := zJn_ch h
  have hl : (n = 3 ∨ n = 4 ∨ n = 8) → ∀ R, zli (S 5) (S 2 q) R → ∀ r ∈ R, b2 r = b r ∧ u2 r = u r := fun k R hr => by
    obtain ⟨R', x, y⟩ := h1 k
    rw [zli_uq' hr y]
    exact he R' x
  have ha : (n = 3 ∨ n = 4 ∨ n = 8) → ∀ R, zli (S 5) (S 2 q) R → ∀ D r E, R = D ++ r :: E → ∀ j, E.any (zKf u2 j) = E.any (zKf u j) := fun k R hr D r E e j => zany_ext (fun x hx => (hl k R hr x (by rw [e]; exact List.mem_append.mpr (Or.inr (List.mem_cons_of_mem _ hx)))).2)
  match n, g with
  | 0, g => trivial
  | 1, g => trivial
  | 2, g => trivial
  | 3, g => exact fun R hr D r E e j hj => by rw [h0, (hl (by simp) R hr r (by rw [e]; exact List.mem_append.mpr (Or.inr List.mem_cons_self))).1, ha (by simp) R hr D r E e j]; exact g R hr D r E e j hj
  | 4, g => exact fun R hr D r E e j hj => by rw [h0, (hl (by simp) R hr r (by rw [e]; exact List.mem_append.mpr (Or.inr List.mem_cons_self))).1, ha (by simp) R hr D r E e j]; exact g R hr D r E e j hj
  | 5, g =>
    obtain ⟨k, -, -⟩ := h2 (by simp)
    have a1 := he _ k _ List.mem_cons_self
    have a2 := he _ k _ (List.mem_cons_of_mem _ List.mem_cons_self)
    exact ⟨fun j hj => by rw [a1.1, h0, a2.2]; exact g.1 j hj, by rw [a2.1, h0]; exact g.2⟩
  | 6, g =>
    obtain ⟨k, -, -⟩ := h2 (by simp)
    have a1 := he _ k _ List.mem_cons_self
    have a2 := he _ k _ (List.mem_cons_of_mem _ List.mem_cons_self)
    exact ⟨fun j hj => by rw [a1.1, h0, a2.2]; exact g.1 j hj, by rw [a2.1, h0]; exact g.2⟩
  | 7, g =>
    obtain ⟨k, -, -, -⟩ := h3 rfl
    have a1 := he _ k _ List.mem_cons_self
    have a2 := he _ k _ (List.mem_cons_of_mem _ List.mem_cons_self)
    have a3 := he _ k _ (List.mem_cons_of_mem _ (List.mem_cons_of_mem _ List.mem_cons_self))
    exact ⟨fun j hj => by rw [a1.1, h0, a2.2, a3.2]; exact g.1 j hj, by rw [a2.1, h0]; exact g.2.1, by rw [a3.1, h0]; exact g.2.2⟩
  | 8, g => exact fun R hr r hm => by rw [h0, (hl (by simp) R hr r hm).1]; exact g R hr r hm
  | 9, g =>
    obtain ⟨k, -⟩ := h4 rfl
    show b2 _ = b2 q
    rw [(he _ k _ List.mem_cons_self).1, h0]; exact g
  | _ + 10, g => trivial
theorem zKB_st {S : Nat → Nat → Int32} {L C : Nat → Nat} {u b b0 b2 : Nat → Int32} {a e k t : Nat} {R : List Nat} (hw : zJw S L C a e) (h : zKB S u b b0 a e t) (et : t = k + 1) (hk : a ≤ k) (hk2 : k < e) (hR : zJr L (L k) k R) (hb : ∀ r, r ∉ R → b2 r = b r) (hz : zKb S u b2 k (Int32.toNatClampNeg (S 0 k))) : zKB S u b2 b0 a e k := by
  subst et
  obtain ⟨h1, h2, h3⟩ := h
  have hlo := (hw.2.2 k hk hk2).1
  have hin : ∀ r, r < L k ∨ k ≤ r → b2 r = b r := fun r hr => hb r (fun g => by have := zJr_in hR r g; omega)
  refine ⟨fun q q1 q2 => ?_, by rw [hin (e - 1) (by omega)]; exact h2, fun q hq => by rw [hin q (by omega)]; exact h3 q hq⟩
  by_cases g : q = k
  · rw [g]; exact hz
  · obtain ⟨w1, w2, w3, -⟩ := hw.2.2 q (by omega) q2
    refine zKb_ext w3 (hin q (by omega)) (fun RQ hRQ x hx => ⟨hb x (fun gx => ?_), rfl⟩) (h1 q (by omega) q2)
    have i1 := zJr_in hRQ x hx
    have i2 := zJr_in hR x gx
    exact zJr_one hRQ hx (k := k) (by omega) (by omega) i2.1 i2.2
/-- the nine ways of it -/
theorem zKb_leaf {S : Nat → Nat → Int32} {L C : Nat → Nat} {u b : Nat → Int32} {k n : Nat} (h : zJn S L C k n) (hn : n ≠ 3 ∧ n ≠ 4 ∧ n ≠ 5 ∧ n ≠ 6 ∧ n ≠ 7 ∧ n ≠ 8 ∧ n ≠ 9) : zJr L (L k) k [] ∧ zKb S u b k n := by
  match n, h with
  | 0, h => exact h.elim
  | 1, h => exact ⟨h, trivial⟩
  | 2, h => exact ⟨h.1, trivial⟩
  | 3, h => exact absurd rfl hn.1
  | 4, h => exact absurd rfl hn.2.1
  | 5, h => exact absurd rfl hn.2.2.1
  | 6, h => exact absurd rfl hn.2.2.2.1
  | 7, h => exact absurd rfl hn.2.2.2.2.1
  | 8, h => exact absurd rfl hn.2.2.2.2.2.1
  | 9, h => exact absurd rfl hn.2.2.2.2.2.2
  | _ + 10, h => exact h.elim
theorem zKb_5 {S : Nat → Nat → Int32} {L C : Nat → Nat} {u b b1 b2 : Nat → Int32} {k n : Nat} {bk v : Int32} (h : zJn S L C k n) (hn : n = 5) (ebk : bk = b k) (e1 : b1 = upd b (Int32.toNatClampNeg (S 2 k)) v) (ev : ∀ j, j < 32 → zbit v j = (zbit bk j || zbit (u (Int32.toNatClampNeg (S 3 k))) j)) (e2 : b2 = upd b1 (Int32.toNatClampNeg (S 3 k)) bk) : ∃ R, zJr L (L k) k R ∧ (∀ r, r ∉ R → b2 r = b r) ∧ zKb S u b2 k n := by
  subst hn
  obtain ⟨g, -, -⟩ := (zJn_ch h).2.1 (Or.inl rfl)
  have i1 := zJr_in g _ List.mem_cons_self
  have i2 := zJr_in g _ (List.mem_cons_of_mem _ List.mem_cons_self)
  have i3 : Int32.toNatClampNeg (S 2 k) < Int32.toNatClampNeg (S 3 k) := zJr_lt2 (P := [Int32.toNatClampNeg (S 2 k)]) (Q := []) g _ List.mem_cons_self
  have hk : b2 k = b k := by rw [e2, zu_n (by omega), e1, zu_n (by omega)]
  refine ⟨_, g, fun r hr => ?_, fun j hj => ?_, ?_⟩
  · rw [e2, zu_n (fun x => hr (by rw [x]; exact List.mem_cons_of_mem _ List.mem_cons_self)), e1, zu_n (fun x => hr (by rw [x]; exact List.mem_cons_self))]
  · rw [hk, e2, zu_n (by omega), e1, zu_s, ev j hj, ebk]
  · rw [hk, e2, zu_s, ebk]
theorem zKb_6 {S : Nat → Nat → Int32} {L C : Nat → Nat} {u b b1 b2 : Nat → Int32} {k n : Nat} {bk v : Int32} (h : zJn S L C k n) (hn : n = 6) (ebk : bk = b k) (e1 : b1 = upd b (Int32.toNatClampNeg (S 2 k)) v) (ev : ∀ j, j < 32 → zbit v j = (zbit bk j || (zbit (u (Int32.toNatClampNeg (S 3 k))) j && !(j == Int32.toNatClampNeg (S 1 k))))) (e2 : b2 = upd b1 (Int32.toNatClampNeg (S 3 k)) bk) : ∃ R, zJr L (L k) k R ∧ (∀ r, r ∉ R → b2 r = b r) ∧ zKb S u b2 k n := by
  subst hn
  obtain ⟨g, -, -⟩ := (zJn_ch h).2.1 (Or.inr rfl)
  have i1 := zJr_in g _ List.mem_cons_self
  have i2 := zJr_in g _ (List.mem_cons_of_mem _ List.mem_cons_self)
  have i3 : Int32.toNatClampNeg (S 2 k) < Int32.toNatClampNeg (S 3 k) := zJr_lt2 (P := [Int32.toNatClampNeg (S 2 k)]) (Q := []) g _ List.mem_cons_self
  have hk : b2 k = b k := by rw [e2, zu_n (by omega), e1, zu_n (by omega)]
  refine ⟨_, g, fun r hr => ?_, fun j hj => ?_, ?_⟩
  · rw [e2, zu_n (fun x => hr (by rw [x]; exact List.mem_cons_of_mem _ List.mem_cons_self)), e1, zu_n (fun x => hr (by rw [x]; exact List.mem_cons_self))]
  · rw [hk, e2, zu_n (by omega), e1, zu_s, ev j hj, ebk]
  · rw [hk, e2, zu_s, ebk]
theorem zKb_7 {S : Nat → Nat → Int32} {L C : Nat → Nat} {u b b1 b2 b3 : Nat → Int32} {k n : Nat} {bk v : Int32} (h : zJn S L C k n) (hn : n = 7) (ebk : bk = b k) (e1 : b1 = upd b (Int32.toNatClampNeg (S 2 k)) v) (ev : ∀ j, j < 32 → zbit v j = (zbit bk j || zbit (u (Int32.toNatClampNeg (S 3 k))) j || zbit (u (Int32.toNatClampNeg (S 4 k))) j)) (e2 : b2 = upd b1 (Int32.toNatClampNeg (S 3 k)) bk) (e3 : b3 = upd b2 (Int32.toNatClampNeg (S 4 k)) bk) : ∃ R, zJr L (L k) k R ∧ (∀ r, r ∉ R → b3 r = b r) ∧ zKb S u b3 k n := by
  subst hn
  obtain ⟨g, -, -, -⟩ := (zJn_ch h).2.2.1 rfl
  have i1 := zJr_in g _ List.mem_cons_self
  have i2 := zJr_in g _ (List.mem_cons_of_mem _ List.mem_cons_self)
  have i4 := zJr_in g _ (List.mem_cons_of_mem _ (List.mem_cons_of_mem _ List.mem_cons_self))
  have i3 : Int32.toNatClampNeg (S 2 k) < Int32.toNatClampNeg (S 3 k) := zJr_lt2 (P := [Int32.toNatClampNeg (S 2 k)]) (Q := [Int32.toNatClampNeg (S 4 k)]) g _ List.mem_cons_self
  have i5 : Int32.toNatClampNeg (S 3 k) < Int32.toNatClampNeg (S 4 k) := zJr_lt2 (P := [Int32.toNatClampNeg (S 2 k), Int32.toNatClampNeg (S 3 k)]) (Q := []) g _ (List.mem_cons_of_mem _ List.mem_cons_self)
  have hk : b3 k = b k := by rw [e3, zu_n (by omega), e2, zu_n (by omega), e1, zu_n (by omega)]
  refine ⟨_, g, fun r hr => ?_, fun j hj => ?_, ?_, ?_⟩
  · rw [e3, zu_n (fun x => hr (by rw [x]; exact List.mem_cons_of_mem _ (List.mem_cons_of_mem _ List.mem_cons_self))), e2, zu_n (fun x => hr (by rw [x]; exact List.mem_cons_of_mem _ List.mem_cons_self)), e1, zu_n (fun x => hr (by rw [x]; exact List.mem_cons_self))]
  · rw [hk, e3, zu_n (by omega), e2, zu_n (by omega), e1, zu_s, ev j hj, ebk]
  · rw [hk, e3, zu_n (by omega), e2, zu_s, ebk]
  · rw [hk, e3, zu_s, ebk]
theorem zKb_9 {S : Nat → Nat → Int32} {L C : Nat → Nat} {u b b1 : Nat → Int32} {k n : Nat} {bk : Int32} (h : zJn S L C k n) (hn : n = 9) (ebk : bk = b k) (e1 : b1 = upd b (Int32.toNatClampNeg (S 2 k)) bk) : ∃ R, zJr L (L k) k R ∧ (∀ r, r ∉ R → b1 r = b r) ∧ zKb S u b1 k n := by
  subst hn
  obtain ⟨g, -⟩ := (zJn_ch h).2.2.2 rfl
  have i1 := zJr_in g _ List.mem_cons_self
  refine ⟨_, g, fun r hr => ?_, ?_⟩
  · rw [e1, zu_n (fun x => hr (by rw [x]; exact List.mem_cons_self))]
  · show b1 _ = b1 k
    rw [e1, zu_s, zu_n (by omega), ebk]
theorem zKb_3 {S : Nat → Nat → Int32} {L : Nat → Nat} {u b b0 : Nat → Int32} {k n : Nat} {bk : Int32} {R : List Nat} (hn : n = 3 ∨ n = 4) (ebk : bk = b0 k) (hR : zJr L (L k) k R) (hl : zli (S 5) (S 2 k) R) (h : zKo u b b0 bk R []) : ∃ R, zJr L (L k) k R ∧ (∀ r, r ∉ R → b r = b0 r) ∧ zKb S u b k n := by
  obtain ⟨h1, h2⟩ := zKo_end h
  have hk : b k = b0 k := h2 k (fun g => by have := zJr_in hR k g; omega)
  refine ⟨R, hR, h2, ?_⟩
  rcases hn with rfl | rfl
  · exact fun R' hr D r E e j hj => by rw [zli_uq' hr hl] at e; rw [hk, ← ebk]; exact h1 D r E e j hj
  · exact fun R' hr D r E e j hj => by rw [zli_uq' hr hl] at e; rw [hk, ← ebk]; exact h1 D r E e j hj
theorem zKb_8 {S : Nat → Nat → Int32} {L : Nat → Nat} {u b b0 : Nat → Int32} {k n : Nat} {bk : Int32} {R : List Nat} (hn : n = 8) (ebk : bk = b0 k) (hR : zJr L (L k) k R) (hl : zli (S 5) (S 2 k) R) (h : zKm b b0 bk R []) : ∃ R, zJr L (L k) k R ∧ (∀ r, r ∉ R → b r = b0 r) ∧ zKb S u b k n := by
  have hk : b k = b0 k := h.2.2 k (fun g => by have := zJr_in hR k g; omega)
  refine ⟨R, hR, h.2.2, ?_⟩
  subst hn
  exact fun R' hr r hm => by
    rw [zli_uq' hr hl] at hm
    rw [hk, ← ebk]
    exact (h.2.1 r hm).resolve_right (fun g => nomatch g)
theorem zKq_1 {S : Nat → Nat → Int32} {L C : Nat → Nat} {u : Nat → Int32} {k n : Nat} (h : zJn S L C k n) (hn : n ≠ 2 ∧ n ≠ 3 ∧ n ≠ 4 ∧ n ≠ 5 ∧ n ≠ 6 ∧ n ≠ 7 ∧ n ≠ 8 ∧ n ≠ 9) : zKq S u k 0 n := by
  match n, h with
  | 0, h => exact h.elim
  | 1, h => exact fun j hj => zbit_z hj
  | 2, h => exact absurd rfl hn.1
  | 3, h => exact absurd rfl hn.2.1
  | 4, h => exact absurd rfl hn.2.2.1
  | 5, h => exact absurd rfl hn.2.2.2.1
  | 6, h => exact absurd rfl hn.2.2.2.2.1
  | 7, h => exact absurd rfl hn.2.2.2.2.2.1
  | 8, h => exact absurd rfl hn.2.2.2.2.2.2.1
  | 9, h => exact absurd rfl hn.2.2.2.2.2.2.2
  | _ + 10, h => exact h.elim
theorem zKq_3 {S : Nat → Nat → Int32} {u : Nat → Int32} {k n : Nat} {v : Int32} {R : List Nat} (hn : n = 3 ∨ n = 4) (hR : zli (S 5) (S 2 k) R) (h : zKc u v [] (fun _ => false) R) : zKq S u k v n := by
  rcases hn with rfl | rfl
  · exact fun R' hr j hj => by rw [zli_uq' hr hR, zKc_end h j hj, Bool.false_or]
  · exact fun R' hr j hj => by rw [zli_uq' hr hR, zKc_end h j hj, Bool.false_or]
theorem zKq_8 {S : Nat → Nat → Int32} {u : Nat → Int32} {k n : Nat} {v : Int32} {R : List Nat} (hn : n = 8) (hR : zli (S 5) (S 2 k) R) (h : zKc u v [] (fun j => j == Int32.toNatClampNeg (S 1 k)) R) : zKq S u k v n := by
  subst hn
  exact fun R' hr j hj => by rw [zli_uq' hr hR, zKc_end h j hj]
theorem zKc_0 {u : Nat → Int32} {R : List Nat} : zKc u 0 R (fun _ => false) R := fun j hj => by rw [zbit_z hj]
theorem zKc_w {u : Nat → Int32} {v : Int32} {R : List Nat} {w : Nat → Bool} (h : ∀ j, j < 32 → zbit v j = w j) : zKc u v R w R := fun j hj => by rw [h j hj]
theorem zKB_0 {S : Nat → Nat → Int32} {u b b0 : Nat → Int32} {a e p t : Nat} (hb : b = upd b0 p 0) (hp : p = e - 1) (hae : a < e) (ht : t = e) : zKB S u b b0 a e t := ⟨fun q h1 h2 => absurd h1 (by omega), by rw [hb, hp, zu_s], fun q hq => by rw [hb, zu_n (by omega)]⟩
theorem zKB_t {S : Nat → Nat → Int32} {u b b0 : Nat → Int32} {a e t t2 : Nat} (h : zKB S u b b0 a e t) (ht : t = t2) : zKB S u b b0 a e t2 := ht ▸ h
theorem zKU_t {S : Nat → Nat → Int32} {u u0 : Nat → Int32} {a t t2 : Nat} (h : zKU S u u0 a t) (ht : t = t2) : zKU S u u0 a t2 := ht ▸ h
/-! what is made in a part, a bit for each number of fields -/
def zMq (S : Nat → Nat → Int32) (u : Nat → Int32) (k : Nat) (v : Int32) : Nat → Prop
  | 3 => ∀ R, zli (S 5) (S 2 k) R → ∀ j, j < 8 → zbit v j = R.any (zKf u j)
  | 4 => ∀ R, zli (S 5) (S 2 k) R → ∀ j, j < 8 → zbit v j = ((decide (0 < (S 6 k).toInt) && (j == Int32.toNatClampNeg (S 6 k))) || R.any (zKf u j))
  | 5 => ∀ j, j < 8 → zbit v j = (zbit (u (Int32.toNatClampNeg (S 2 k))) j || zbit (u (Int32.toNatClampNeg (S 3 k))) j)
  | 6 => ∀ j, j < 8 → zbit v j = (zbit (u (Int32.toNatClampNeg (S 2 k))) j || zbit (u (Int32.toNatClampNeg (S 3 k))) j)
  | 7 => ∀ j, j < 8 → zbit v j = (zbit (u (Int32.toNatClampNeg (S 2 k))) j || zbit (u (Int32.toNatClampNeg (S 3 k))) j || zbit (u (Int32.toNatClampNeg (S 4 k))) j)
  | 8 => ∀ R, zli (S 5) (S 2 k) R → ∀ j, j < 8 → zbit v j = R.any (zKf u j)
  | 9 => ∀ j, j < 8 → zbit v j = zbit (u (Int32.toNatClampNeg (S 2 k))) j
  | _ => ∀ j, j < 8 → zbit v j = false
theorem zMq_v {S : Nat → Nat → Int32} {u : Nat → Int32} {k n : Nat} {v v2 : Int32} (e : ∀ j, j < 8 → zbit v2 j = zbit v j) (q : zMq S u k v n) : zMq S u k v2 n := by
  match n, q with
  | 0, q => exact fun j hj => (e j hj).trans (q j hj)
  | 1, q => exact fun j hj => (e j hj).trans (q j hj)
  | 2, q => exact fun j hj => (e j hj).trans (q j hj)
  | 3, q => exact fun R hr j hj => (e j hj).trans (q R hr j hj)
  | 4, q => exact fun R hr j hj => (e j hj).trans (q R hr j hj)
  | 5, q => exact fun j hj => (e j hj).trans (q j hj)
  | 6, q => exact fun j hj => (e j hj).trans (q j hj)
  | 7, q => exact fun j hj => (e j hj).trans (q j hj)
  | 8, q => exact fun R hr j hj => (e j hj).trans (q R hr j hj)
  | 9, q => exact fun j hj => (e j hj).trans (q j hj)
  | _ + 10, q => exact fun j hj => (e j hj).trans (q j hj)
theorem zMq_cg {S S2 : Nat → Nat → Int32} {u : Nat → Int32} {k n : Nat} {v : Int32} (e2 : S2 2 = S 2) (e3 : S2 3 = S 3) (e4 : S2 4 = S 4) (e5 : S2 5 = S 5) (e6 : S2 6 = S 6) (q : zMq S u k v n) : zMq S2 u k v n := by
  have c2 : S2 2 k = S 2 k := by rw [e2]
  have c3 : S2 3 k = S 3 k := by rw [e3]
  have c4 : S2 4 k = S 4 k := by rw [e4]
  have c6 : S2 6 k = S 6 k := by rw [e6]
  have li : ∀ R, zli (S2 5) (S2 2 k) R → zli (S 5) (S 2 k) R := fun R hr => by rw [e5, c2] at hr; exact hr
  match n, q with
  | 0, q => exact fun j hj => (q j hj : zbit v j = false)
  | 1, q => exact fun j hj => (q j hj : zbit v j = false)
  | 2, q => exact fun j hj => (q j hj : zbit v j = false)
  | 3, q => exact fun R hr j hj => q R (li R hr) j hj
  | 4, q => exact fun R hr j hj => (q R (li R hr) j hj).trans (by rw [c6])
  | 5, q => exact fun j hj => (q j hj).trans (by rw [c2, c3])
  | 6, q => exact fun j hj => (q j hj).trans (by rw [c2, c3])
  | 7, q => exact fun j hj => (q j hj).trans (by rw [c2, c3, c4])
  | 8, q => exact fun R hr j hj => q R (li R hr) j hj
  | 9, q => exact fun j hj => (q j hj).trans (by rw [c2])
  | _ + 10, q => exact fun j hj => (q j hj : zbit v j = false)
theorem zMq_ext {S : Nat → Nat → Int32} {L C : Nat → Nat} {u u2 : Nat → Int32} {k n : Nat} {v : Int32} (h : zJn S L C k n) (he : ∀ r, L k ≤ r → r < k → u2 r = u r) (q : zMq S u k v n) : zMq S u2 k v n := by
  obtain ⟨h1, h2, h3, h4⟩ := zJn_ch h
  have hR : ∀ {R : List Nat}, zJr L (L k) k R → ∀ r ∈ R, u2 r = u r := fun {R} g r hr => by have := zJr_in g r hr; exact he r this.1 this.2
  have hl : (n = 3 ∨ n = 4 ∨ n = 8) → ∀ R, zli (S 5) (S 2 k) R → ∀ j, R.any (zKf u2 j) = R.any (zKf u j) := fun g R hr j => by
    obtain ⟨R', a, b⟩ := h1 g
    rw [zli_uq' hr b]
    exact zany_ext (hR a)
  match n, q with
  | 0, q => exact q
  | 1, q => exact q
  | 2, q => exact q
  | 3, q => exact fun R hr j hj => by rw [hl (by simp) R hr j]; exact q R hr j hj
  | 4, q => exact fun R hr j hj => by rw [hl (by simp) R hr j]; exact q R hr j hj
  | 5, q =>
    obtain ⟨g, -, -⟩ := h2 (by simp)
    intro j hj
    rw [hR g _ List.mem_cons_self, hR g _ (List.mem_cons_of_mem _ List.mem_cons_self)]; exact q j hj
  | 6, q =>
    obtain ⟨g, -, -⟩ := h2 (by simp)
    intro j hj
    rw [hR g _ List.mem_cons_self, hR g _ (List.mem_cons_of_mem _ List.mem_cons_self)]; exact q j hj
  | 7, q =>
    obtain ⟨g, -, -, -⟩ := h3 rfl
    intro j hj
    rw [hR g _ List.mem_cons_self, hR g _ (List.mem_cons_of_mem _ List.mem_cons_self), hR g _ (List.mem_cons_of_mem _ (List.mem_cons_of_mem _ List.mem_cons_self))]; exact q j hj
  | 8, q => exact fun R hr j hj => by rw [hl (by simp) R hr j]; exact q R hr j hj
  | 9, q =>
    obtain ⟨g, -⟩ := h4 rfl
    intro j hj
    rw [hR g _ List.mem_cons_self]; exact q j hj
  | _ + 10, q => exact q
def zMU (S : Nat → Nat → Int32) (u u0 : Nat → Int32) (a k : Nat) : Prop := (∀ q, a ≤ q → q < k → zMq S u q (u q) (Int32.toNatClampNeg (S 0 q))) ∧ ∀ q, q < a ∨ k ≤ q → u q = u0 q
theorem zMU_0 {S : Nat → Nat → Int32} {u : Nat → Int32} {a : Nat} : zMU S u u a a := ⟨fun q h1 h2 => absurd h1 (by omega), fun _ _ => rfl⟩
theorem zMU_t {S : Nat → Nat → Int32} {u u0 : Nat → Int32} {a t t2 : Nat} (h : zMU S u u0 a t) (ht : t = t2) : zMU S u u0 a t2 := ht ▸ h
theorem zMU_st {S : Nat → Nat → Int32} {L C : Nat → Nat} {u u0 u2 : Nat → Int32} {a e k k2 : Nat} {v v2 : Int32} (hw : zJw S L C a e) (h : zMU S u u0 a k) (hk : a ≤ k) (hk2 : k < e) (q : zMq S u k v (Int32.toNatClampNeg (S 0 k))) (ev : ∀ j, j < 8 → zbit v2 j = zbit v j) (eu : u2 = upd u k v2) (ek : k2 = k + 1) : zMU S u2 u0 a k2 := by
  subst ek
  have hx : ∀ r, r < k → u2 r = u r := fun r hr => by rw [eu, zu_n (by omega)]
  refine ⟨fun r h1 h2 => ?_, fun r hr => ?_⟩
  · obtain ⟨w1, w2, w3, -⟩ := hw.2.2 r h1 (by omega)
    by_cases g : r = k
    · subst g
      rw [show u2 r = v2 by rw [eu, zu_s]]
      exact zMq_ext w3 (fun x _ hx' => hx x hx') (zMq_v ev q)
    · rw [hx r (by omega)]
      exact zMq_ext w3 (fun x _ hx' => hx x (by omega)) (h.1 r h1 (by omega))
  · rw [eu, zu_n (by omega)]
    exact h.2 r (by omega)
/-- a chain so far -/
def zMc (u : Nat → Int32) (v : Int32) (A : List Nat) (w : Nat → Bool) (R : List Nat) : Prop := ∀ j, j < 8 → (zbit v j || A.any (zKf u j)) = (w j || R.any (zKf u j))
theorem zMc_w {u : Nat → Int32} {v : Int32} {R : List Nat} {w : Nat → Bool} (h : ∀ j, j < 8 → zbit v j = w j) : zMc u v R w R := fun j hj => by rw [h j hj]
theorem zMc_st {u : Nat → Int32} {v v2 x : Int32} {y : Nat} {A R : List Nat} {w : Nat → Bool} (h : zMc u v (y :: A) w R) (e : v2 = v ||| x) (ex : x = u y) : zMc u v2 A w R := fun j hj => by
  rw [← h j hj, e, zbit_or, ex, List.any_cons, Bool.or_assoc]; rfl
theorem zMc_end {u : Nat → Int32} {v : Int32} {R : List Nat} {w : Nat → Bool} (h : zMc u v [] w R) : ∀ j, j < 8 → zbit v j = (w j || R.any (zKf u j)) := fun j hj => by
  have := h j hj
  rw [List.any_nil, Bool.or_false] at this
  exact this
/-- what a part makes itself -/
def zM7 (S : Nat → Nat → Int32) (k j : Nat) : Bool := decide (Int32.toNatClampNeg (S 0 k) = 4) && (decide (0 < (S 6 k).toInt) && (j == Int32.toNatClampNeg (S 6 k)))
theorem zM7_3 {S : Nat → Nat → Int32} {k j : Nat} (h : Int32.toNatClampNeg (S 0 k) ≠ 4) : zM7 S k j = false := by unfold zM7; rw [decide_eq_false h]; rfl
theorem zM7_0 {S : Nat → Nat → Int32} {k j : Nat} (h : (S 6 k).toInt ≤ 0) : zM7 S k j = false := by unfold zM7; rw [decide_eq_false (show ¬ 0 < (S 6 k).toInt by omega)]; cases decide (Int32.toNatClampNeg (S 0 k) = 4) <;> rfl
theorem zM7_y {S : Nat → Nat → Int32} {k j : Nat} (h1 : Int32.toNatClampNeg (S 0 k) = 4) (h : 0 < (S 6 k).toInt) : zM7 S k j = (j == Int32.toNatClampNeg (S 6 k)) := by unfold zM7; rw [decide_eq_true h1, decide_eq_true h]; rfl
theorem zMq_34 {S : Nat → Nat → Int32} {u : Nat → Int32} {k n : Nat} {v : Int32} {R : List Nat} (hn : n = 3 ∨ n = 4) (h0 : Int32.toNatClampNeg (S 0 k) = n) (hR : zli (S 5) (S 2 k) R) (h : zMc u v [] (zM7 S k) R) : zMq S u k v n := by
  rcases hn with rfl | rfl
  · exact fun R' hr j hj => by rw [zli_uq' hr hR, zMc_end h j hj, zM7_3 (by omega), Bool.false_or]
  · exact fun R' hr j hj => by rw [zli_uq' hr hR, zMc_end h j hj]; unfold zM7; rw [decide_eq_true h0, Bool.true_and]
theorem zMq_8 {S : Nat → Nat → Int32} {u : Nat → Int32} {k n : Nat} {v : Int32} {R : List Nat} (hn : n = 8) (hR : zli (S 5) (S 2 k) R) (h : zMc u v [] (fun _ => false) R) : zMq S u k v n := by
  subst hn
  exact fun R' hr j hj => by rw [zli_uq' hr hR, zMc_end h j hj, Bool.false_or]
theorem zMq_0 {S : Nat → Nat → Int32} {u : Nat → Int32} {k n : Nat} (hn : n ≠ 3 ∧ n ≠ 4 ∧ n ≠ 5 ∧ n ≠ 6 ∧ n ≠ 7 ∧ n ≠ 8 ∧ n ≠ 9) : zMq S u k 0 n := by
  have z : ∀ j, j < 8 → zbit 0 j = false := fun j hj => zbit_z (by omega)
  match n with
  | 0 => exact z
  | 1 => exact z
  | 2 => exact z
  | 3 => exact absurd rfl hn.1
  | 4 => exact absurd rfl hn.2.1
  | 5 => exact absurd rfl hn.2.2.1
  | 6 => exact absurd rfl hn.2.2.2.1
  | 7 => exact absurd rfl hn.2.2.2.2.1
  | 8 => exact absurd rfl hn.2.2.2.2.2.1
  | 9 => exact absurd rfl hn.2.2.2.2.2.2
  | _ + 10 => exact z
/-- all parts below t -/
def zMA (S : Nat → Nat → Int32) (u : Nat → Int32) (t : Nat) : Prop := ∀ k, k < t → zMq S u k (u k) (Int32.toNatClampNeg (S 0 k))
theorem zMA_0 {S : Nat → Nat → Int32} {u : Nat → Int32} {t : Nat} (h : t = 0) : zMA S u t := fun k hk => by omega
theorem zMA_st {S : Nat → Nat → Int32} {L C : Nat → Nat} {u u2 : Nat → Int32} {a e z : Nat} (hs : zJs S L C 0 z) (hez : e ≤ z) (h : zMA S u a) (hU : zMU S u2 u a e) : zMA S u2 e := fun k hk => by
  by_cases c : k < a
  · obtain ⟨v1, v2, v3, v4⟩ := hs k (Nat.zero_le _) (by omega)
    have hu : ∀ r, r < a → u2 r = u r := fun r hr => hU.2 r (Or.inl hr)
    rw [hu k c]; exact zMq_ext v3 (fun r _ hr => hu r (by omega)) (h k c)
  · exact hU.1 k (by omega) hk
def rMa (B : Nat → Nat → Int32) (mk : Nat → Int32) (z : Nat) : Prop := zMA (zJS (B 0) (B 2) (B 3) (B 4) (B 5) (B 6) (B 7) (B 7) 0) mk z
theorem rMa_mk {wh pl ow ow2 on tw th be ma fi mk : Nat → Int32} {kz : Int32} {z z2 : Nat} (h : zMA (zJS wh ow on tw th be ma fi kz) mk z) (ez : z = z2) : rMa (rcs wh pl ow2 on tw th be ma) mk z2 := by
  subst ez
  exact fun k hk => zMq_cg (S := zJS wh ow on tw th be ma fi kz) rfl rfl rfl rfl rfl (h k hk)
theorem zbit_b8 {x : Int32} {j : Nat} (hj : j < 8) : zbit (x.toInt8.toInt32) j = zbit x j := by
  unfold zbit
  have h : j < 32 := by omega
  rw [Int8.toBitVec_toInt32, Int32.toBitVec_toInt8, BitVec.getLsbD_signExtend, BitVec.getLsbD_signExtend]
  simp [hj, h]
theorem zbit_nb {x y : Int32} {j : Nat} (e : y = x.toInt8.toInt32) (hj : j < 8) : zbit (vp_nar .byte y) j = zbit x j := by
  rw [show vp_nar .byte y = y.toInt8.toInt32 from rfl, zbit_b8 hj, e, zbit_b8 hj]
