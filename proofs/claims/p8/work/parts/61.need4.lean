/-- the facts that tell how many names there are stay -/
def zfs (ff ff2 : Nat → Int32) : Prop := ∀ g : Nat, ff2 (5 * g) = ff (5 * g) ∧ ff2 (5 * g + 1) = ff (5 * g + 1)
theorem zfs_rf {ff : Nat → Int32} : zfs ff ff := fun _ => ⟨rfl, rfl⟩
theorem zfs_tr {ff f1 f2 : Nat → Int32} (a : zfs ff f1) (b : zfs f1 f2) : zfs ff f2 := fun g => ⟨(b g).1.trans (a g).1, (b g).2.trans (a g).2⟩
theorem zfs_ge {ff f1 : Nat → Int32} {F w : Nat} {x : Int32} (e : f1 = ff ∨ f1 = upd ff (5 * F + w) x) (h1 : 2 ≤ w) (h2 : w < 5) : zfs ff f1 := fun g => by
  rcases e with e | e
  · rw [e]; exact ⟨rfl, rfl⟩
  · rw [e, zu_n (by omega), zu_n (by omega)]; exact ⟨rfl, rfl⟩
/-- the order so far: the chain's rows one behind another -/
def zod (nx : Nat → Int32) (L : List Nat) (od : Nat → Int32) (row : Int32) (n : Int) : Prop := ∃ D R, L = D ++ R ∧ (D.length : Int) = n ∧ zli nx row R ∧ ∀ j, j < D.length → (od j).toInt = (D.getD j 0 : Nat)
theorem zod_0 {nx : Nat → Int32} {L : List Nat} {od : Nat → Int32} {row : Int32} {n : Int} (h : zli nx row L) (hn : n = 0) : zod nx L od row n := ⟨[], L, rfl, by rw [hn]; rfl, h, fun j hj => absurd hj (by show ¬ j < 0; omega)⟩
theorem zod_in {nx : Nat → Int32} {L : List Nat} {od : Nat → Int32} {row : Int32} {n : Int} (h : zod nx L od row n) (hr : row.toInt ≠ -1) : 0 ≤ row.toInt ∧ Int32.toNatClampNeg row ∈ L ∧ n < (L.length : Int) := by
  obtain ⟨D, R, e, hl, hc, -⟩ := h
  cases R with
  | nil => exact (hr hc).elim
  | cons y R =>
    have h1 : row.toInt = (y : Int) := hc.1
    have := zn_nat (x := row) (by omega)
    refine ⟨by omega, ?_, ?_⟩
    · rw [e, show Int32.toNatClampNeg row = y by omega]; exact List.mem_append.mpr (Or.inr List.mem_cons_self)
    · rw [e, List.length_append, List.length_cons]; omega
theorem zod_st {nx : Nat → Int32} {L : List Nat} {od od2 : Nat → Int32} {row row2 z : Int32} {n2 : Int} (h : zod nx L od row z.toInt) (hr : row.toInt ≠ -1) (e : od2 = upd od (Int32.toNatClampNeg z) row) (e2 : row2 = nx (Int32.toNatClampNeg row)) (en : n2 = z.toInt + 1) : zod nx L od2 row2 n2 := by
  obtain ⟨D, R, eL, hl, hc, ho⟩ := h
  cases R with
  | nil => exact (hr hc).elim
  | cons y R =>
    have h1 : row.toInt = (y : Int) := hc.1
    have hy := zn_nat (x := row) (by omega)
    have hz := zn_nat (x := z) (by omega)
    refine ⟨D ++ [y], R, by rw [eL]; simp, by rw [List.length_append]; show ((D.length + 1 : Nat) : Int) = _; omega, by rw [e2, show Int32.toNatClampNeg row = y by omega]; exact hc.2, fun j hj => ?_⟩
    rw [List.length_append] at hj
    have hj : j < D.length + 1 := hj
    rw [e]
    by_cases u : j = Int32.toNatClampNeg z
    · rw [u, zu_s, h1]
      have : Int32.toNatClampNeg z = D.length := by omega
      rw [this, List.getD_eq_getElem?_getD, List.getElem?_append_right (Nat.le_refl _), Nat.sub_self]; rfl
    · rw [zu_n u, ho j (by omega), List.getD_eq_getElem?_getD, List.getD_eq_getElem?_getD, List.getElem?_append_left (by omega)]
theorem zod_end {nx : Nat → Int32} {L : List Nat} {od : Nat → Int32} {row : Int32} {n : Int} (h : zod nx L od row n) (hx : row.toInt = -1 ∨ (L.length : Int) ≤ n) : (L.length : Int) = n ∧ ∀ j, j < L.length → (od j).toInt = (L.getD j 0 : Nat) := by
  obtain ⟨D, R, e, hl, hc, ho⟩ := h
  cases R with
  | nil => rw [e, List.append_nil]; exact ⟨hl, ho⟩
  | cons y R =>
    exfalso
    have h1 : row.toInt = (y : Int) := hc.1
    rw [e, List.length_append, List.length_cons] at hx
    omega
theorem zli_sf {nx : Nat → Int32} {R : List Nat} : ∀ {D : List Nat} {x : Int32}, zli nx x (D ++ R) → ∃ y, zli nx y R
  | [], x, h => ⟨x, h⟩
  | _ :: _, _, h => zli_sf h.2
theorem zall_sf {S : Nat → Nat → Int32} {G : Nat → Nat → Int} {R : List Nat} : ∀ {D : List Nat}, zall S G (D ++ R) → zall S G R
  | [], h => h
  | _ :: _, h => zall_sf h.2
/-- the rows behind the first n are marked -/
def zmk (S : Nat → Nat → Int32) (nd : Nat → Int32) (L : List Nat) (n : Int) : Prop := ∃ D R, L = D ++ R ∧ (D.length : Int) = n ∧ zeq S nd R
theorem zmk_0 {S : Nat → Nat → Int32} {nd : Nat → Int32} {L : List Nat} {n : Int} (h : (L.length : Int) = n) : zmk S nd L n := ⟨L, [], (List.append_nil L).symm, h, trivial⟩
theorem zmk_end {S : Nat → Nat → Int32} {nd : Nat → Int32} {L : List Nat} {n : Int} (h : zmk S nd L n) (hn : n ≤ 0) : zeq S nd L := by
  obtain ⟨D, R, e, hl, hz⟩ := h
  have : D = [] := List.eq_nil_of_length_eq_zero (by omega)
  rw [e, this]; exact hz
theorem zmk_st {S : Nat → Nat → Int32} {G : Nat → Nat → Int} {nd nd2 : Nat → Int32} {L : List Nat} {n n2 : Int} {x v : Int32} {r : Nat} (h : zmk S nd L n) (hl : zli (S 3) x L) (ha : zall S G L) (h1 : 1 ≤ n) (er : (r : Int) = (L.getD (n - 1).toNat 0 : Nat)) (e : nd2 = upd nd r v) (hv : ∀ k, k < 32 → zbit v k = znb S nd r (zbh S nd r) k (Int32.toNatClampNeg (S 0 r))) (en : n2 = n - 1) : zmk S nd2 L n2 := by
  obtain ⟨D, R, eL, hD, hz⟩ := h
  have hne : D ≠ [] := fun g => by rw [g] at hD; have : ((0 : Nat) : Int) = n := hD; omega
  obtain ⟨D', y, rfl⟩ : ∃ D' y, D = D' ++ [y] := ⟨D.dropLast, D.getLast hne, (List.dropLast_concat_getLast hne).symm⟩
  rw [List.length_append] at hD
  have hD : ((D'.length + 1 : Nat) : Int) = n := hD
  have ey : r = y := by
    have : (n - 1).toNat = D'.length := by omega
    rw [this, eL, List.append_assoc, List.getD_eq_getElem?_getD, List.getElem?_append_right (Nat.le_refl _), Nat.sub_self] at er
    have er : (r : Int) = ((y : Nat) : Int) := er
    omega
  have eL2 : L = D' ++ y :: R := by rw [eL]; simp
  rw [eL2] at hl ha
  obtain ⟨x', hl'⟩ := zli_sf hl
  refine ⟨D', y :: R, eL2, by omega, zeq_st (v := v) hl' (zall_sf ha) hz (by rw [← ey]; exact e) (by rw [← ey]; exact hv)⟩
/-- what Needs asks of a row -/
theorem zq_row {S : Nat → Nat → Int32} {G : Nat → Nat → Int} {L : List Nat} (h24 : ∀ f : Nat, (∃ r ∈ L, G r 4 = (f : Int)) → (S 10 (5 * f + 1)).toInt ≤ 24) (h3 : ∀ r ∈ L, (r : Int) < 3000) (ha4 : (S 13 0).toInt ≤ 400) : ∀ {X : List Nat}, (∀ q ∈ X, q ∈ L) → zall S G X → ∀ r ∈ X, (((S 0 r).toInt = 3 ∨ (S 0 r).toInt = 12 ∨ (S 0 r).toInt = 15) → 0 ≤ (S 1 r).toInt ∧ (S 1 r).toInt < 32) ∧ (((S 0 r).toInt = 13 ∨ (S 0 r).toInt = 14 ∨ (S 0 r).toInt = 16) → -1 ≤ (S 1 r).toInt ∧ (S 1 r).toInt < 3000) ∧ ((S 0 r).toInt = 15 → -1 ≤ (S 2 r).toInt ∧ (S 2 r).toInt < 400) ∧ ((S 0 r).toInt = 15 → zsl (S 5) (S 8) (S 2 r))
  | [], _, _, r, hr => (nomatch hr)
  | y :: X, hX, ⟨⟨f, z⟩, ha⟩, r, hr => by
    rcases List.mem_cons.mp hr with e | e
    · subst e
      have hn := h24 f ⟨r, hX r List.mem_cons_self, z.2.2.2.2.2.2.1⟩
      obtain ⟨z1, z2, z3, z4, z5, z6, z7, z8⟩ := z
      have tgt : ∀ h, ztg S G r X h → -1 ≤ (S 1 r).toInt ∧ (S 1 r).toInt < 3000 := fun h t => by
        rcases t with t | t
        · omega
        · have u := zn_nat t.1
          have v : Int32.toNatClampNeg (S 1 r) ∈ L := by
            rcases List.mem_cons.mp t.2.1 with g | g
            · rw [g]; exact hX r List.mem_cons_self
            · exact hX _ (List.mem_cons_of_mem _ g)
          have := h3 _ v
          omega
      refine ⟨fun g => ?_, fun g => ?_, fun g => ?_, fun g => ?_⟩
      · rcases g with g | g | g
        · rw [zn_lit (n := 3) g] at z8; simp only [zop] at z8; omega
        · rw [zn_lit (n := 12) g] at z8; simp only [zop] at z8; omega
        · rw [zn_lit (n := 15) g] at z8; simp only [zop] at z8; have := z8.1; have := z8.2.1; omega
      · rcases g with g | g | g
        · rw [zn_lit (n := 13) g] at z8; simp only [zop] at z8; exact tgt _ z8.2.2.2
        · rw [zn_lit (n := 14) g] at z8; simp only [zop] at z8; exact tgt _ z8
        · rw [zn_lit (n := 16) g] at z8; simp only [zop] at z8; exact tgt _ z8
      · rw [zn_lit (n := 15) g] at z8; simp only [zop] at z8
        obtain ⟨-, -, AL, -, h4, h5⟩ := z8
        cases AL with
        | nil => have h4 : (S 2 r).toInt = -1 := h4; omega
        | cons a l => have h4 : (S 2 r).toInt = (a : Int) := h4.1; have := (h5 a List.mem_cons_self).1; omega
      · rw [zn_lit (n := 15) g] at z8; simp only [zop] at z8
        obtain ⟨-, -, AL, -, h4, h5⟩ := z8
        exact ⟨AL, h4, fun m hm => by have := (h5 m hm).2.2.2.1; omega⟩
    · exact zq_row h24 h3 ha4 (fun q hq => hX q (List.mem_cons_of_mem _ hq)) ha r e

