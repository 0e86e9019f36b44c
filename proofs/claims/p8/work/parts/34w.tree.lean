/-! the code of a tree -/
/-- is a kind with n fields made in it? -/
def tm_mk : Tm → Nat → Bool
  | .branch 0 (.leaf (some (0, _, _, _, _, _))) a, n => tm_mk a n
  | .branch 0 (.leaf (some (1, _, _, _, _, _))) a, n => (decide (0 < tm_ln a) && decide (tm_ln a = n)) || tm_mk a n
  | .branch 1 (.leaf (some (0, _, _, _, _, _))) (.branch _ a b), n => tm_mk a n || tm_mk b n
  | .branch 1 (.leaf (some (_ + 1, _, _, _, _, _))) (.branch _ a b), n => tm_mk a n || tm_mk b n
  | .branch 2 (.leaf (some (_, _, _, _, _, _))) (.branch _ a (.branch _ b c)), n => tm_mk a n || tm_mk b n || tm_mk c n
  | .branch 0 (.leaf (some (2, _, _, _, _, _))) a, n => tm_mk a n
  | .branch 0 (.leaf (some (_ + 3, _, _, _, _, _))) a, n => tm_mk a n
  | .branch (_ + 3) a b, n => tm_mk a n || tm_mk b n
  | _, _ => false
/-- the rows of the code and of the arms -/
def zcs (op a b pl ak an ab al af bu : Nat → Int32) : Nat → Nat → Int32
  | 0 => op | 1 => a | 2 => b | 3 => pl | 4 => ak | 5 => an | 6 => ab | 7 => al | 8 => af | _ => bu
/-- a sign's operation -/
def cI_op (o : Int) : Int := if o = 43 then 8 else if o = 45 then 9 else if o = 42 then 10 else 11
/-- the rows X, in the order of work, are the code of the tree; H says what a call's row has for its word; arms are alo .. ahi; of a row of arms: it stands behind row pv, its first arm is ar, all its arms go on behind row en -/
def cI (S : Nat → Nat → Int32) (H : Int32 → Int64 → Prop) (alo ahi : Int) : Tm → Bool → Nat → Int32 → Nat → List Nat → Prop
  | .leaf (some (0, p, v, _, _, _)), _, _, _, _, X => ∃ (r : Nat), X = [r] ∧ (S 0 r).toInt = 2 ∧ (S 1 r).toInt = v ∧ (S 3 r).toInt = p
  | .leaf (some (_ + 1, p, _, s, _, _)), _, _, _, _, X => ∃ (r : Nat), X = [r] ∧ (S 0 r).toInt = 3 ∧ (S 1 r).toInt = (s : Int) ∧ (S 3 r).toInt = p
  | .branch 0 (.leaf (some (0, p, _, _, _, w))) a, _, _, _, _, X => (tm_ln a = 0 ∧ a = Tm.nil ∧ ∃ (r : Nat), X = [r] ∧ (S 0 r).toInt = 6 ∧ H (S 1 r) w ∧ (S 2 r).toInt = 0 ∧ (S 3 r).toInt = p) ∨
      (0 < tm_ln a ∧ ∃ (s : Nat) (Y : List Nat) (r : Nat), X = s :: (Y ++ [r]) ∧ (S 0 s).toInt = 1 ∧ (S 3 s).toInt = p ∧ cI S H alo ahi a false 0 0 0 Y ∧ (S 0 r).toInt = 7 ∧ H (S 1 r) w ∧ (S 2 r).toInt = (tm_ln a : Int) ∧ (S 3 r).toInt = p)
  | .branch 0 (.leaf (some (1, p, _, k, _, _))) a, _, _, _, _, X => (tm_ln a = 0 ∧ a = Tm.nil ∧ ∃ (r : Nat), X = [r] ∧ (S 0 r).toInt = 4 ∧ (S 1 r).toInt = (k : Int) ∧ (S 3 r).toInt = p) ∨
      (0 < tm_ln a ∧ ∃ (s : Nat) (Y : List Nat) (r : Nat), X = s :: (Y ++ [r]) ∧ (S 0 s).toInt = 1 ∧ (S 3 s).toInt = p ∧ cI S H alo ahi a false 0 0 0 Y ∧ (S 0 r).toInt = 5 ∧ (S 1 r).toInt = (k : Int) ∧ (S 3 r).toInt = p)
  | .branch 1 (.leaf (some (0, p, o, _, _, _))) (.branch _ a b), _, _, _, _, X => ∃ (s : Nat) (Y : List Nat) (Z : List Nat) (r : Nat), X = s :: (Y ++ Z ++ [r]) ∧ (S 0 s).toInt = 1 ∧ (S 3 s).toInt = p ∧ cI S H alo ahi a false 0 0 0 Y ∧ cI S H alo ahi b false 0 0 0 Z ∧ (S 0 r).toInt = cI_op o ∧ (S 3 r).toInt = p
  | .branch 1 (.leaf (some (_ + 1, p, _, k, _, _))) (.branch _ a b), _, _, _, _, X => ∃ (s : Nat) (Y : List Nat) (r : Nat) (Z : List Nat), X = s :: (Y ++ [r] ++ Z) ∧ (S 0 s).toInt = 1 ∧ (S 3 s).toInt = p ∧ cI S H alo ahi a false 0 0 0 Y ∧ (S 0 r).toInt = 12 ∧ (S 1 r).toInt = (k : Int) ∧ cI S H alo ahi b false 0 0 0 Z
  | .branch 2 (.leaf (some (_, p, _, _, _, _))) (.branch _ a (.branch _ b c)), _, _, _, _, X => ∃ (s : Nat) (Y : List Nat) (i : Nat) (Z : List Nat) (j : Nat) (U : List Nat), X = s :: (Y ++ [i] ++ Z ++ [j] ++ U) ∧ (S 0 s).toInt = 1 ∧ (S 3 s).toInt = p ∧ cI S H alo ahi a false 0 0 0 Y ∧ (S 0 i).toInt = 13 ∧ (S 1 i).toInt = (j : Int) ∧ (S 3 i).toInt = p ∧ cI S H alo ahi b false 0 0 0 Z ∧ (S 0 j).toInt = 14 ∧ (S 1 j).toInt = (zla j U : Int) ∧ cI S H alo ahi c false 0 0 0 U
  | .branch 0 (.leaf (some (2, p, _, k, _, _))) a, _, _, _, _, X => ∃ (s : Nat) (m : Nat) (Y : List Nat), X = s :: m :: Y ∧ (S 0 s).toInt = 1 ∧ (S 3 s).toInt = p ∧ (S 0 m).toInt = 15 ∧ (S 1 m).toInt = (k : Int) ∧ (S 3 m).toInt = p ∧ cI S H alo ahi a true m (S 2 m) (zla m Y) Y
  | .branch 0 (.leaf (some (_ + 3, _, k, h, _, _))) a, _, pv, ar, en, X => ∃ (Y : List Nat) (v : Nat), X = Y ++ [v] ∧ (alo ≤ ar.toInt ∧ ar.toInt < ahi ∧ 0 ≤ ar.toInt) ∧ (S 4 (Int32.toNatClampNeg ar)).toInt = (if k = -1 then -2 else k) ∧ (S 6 (Int32.toNatClampNeg ar)).toInt = (pv : Int) ∧ (S 7 (Int32.toNatClampNeg ar)).toInt = (v : Int) ∧ (S 8 (Int32.toNatClampNeg ar)).toInt = (h : Int) ∧ (∀ n, 1 ≤ n → n ≤ 3 → (S 9 (Int32.toNatClampNeg ar)).toBitVec.getLsbD n = tm_mk a n) ∧ (S 0 v).toInt = 16 ∧ (S 1 v).toInt = (en : Int) ∧ cI S H alo ahi a false 0 0 0 Y
  | .leaf none, mo, _, ar, _, X => X = [] ∧ (mo = true → ar.toInt = -1)
  | .branch (_ + 3) a b, mo, pv, ar, en, X => ∃ (Y : List Nat) (Z : List Nat), X = Y ++ Z ∧ cI S H alo ahi a mo pv ar en Y ∧ cI S H alo ahi b mo (cond mo (zla pv Y) 0) (cond mo (S 5 (Int32.toNatClampNeg ar)) 0) en Z ∧ (mo = true → alo ≤ ar.toInt ∧ ar.toInt < ahi ∧ 0 ≤ ar.toInt)
  | _, _, _, _, _, _ => False
/-- what stays, stays the code of the tree -/
theorem cI_st {S S2 : Nat → Nat → Int32} {H : Int32 → Int64 → Prop} {alo ahi alo2 ahi2 : Int} (ha : ∀ j : Nat, alo ≤ (j : Int) → (j : Int) < ahi → S2 4 j = S 4 j ∧ S2 5 j = S 5 j ∧ S2 6 j = S 6 j ∧ S2 7 j = S 7 j ∧ S2 8 j = S 8 j ∧ S2 9 j = S 9 j) (h1 : alo2 ≤ alo) (h2 : ahi ≤ ahi2) : ∀ (t : Tm) {mo : Bool} {pv : Nat} {ar : Int32} {en : Nat} {X : List Nat}, (∀ r ∈ X, S2 0 r = S 0 r ∧ S2 1 r = S 1 r ∧ S2 2 r = S 2 r ∧ S2 3 r = S 3 r) → cI S H alo ahi t mo pv ar en X → cI S2 H alo2 ahi2 t mo pv ar en X
  | .leaf (some (0, p, v, _, _, _)), mo, pv, ar, en, X, hr, h => by
    obtain ⟨r, rfl, a, b, c⟩ := h
    obtain ⟨e0, e1, e2, e3⟩ := hr r (by simp)
    exact ⟨r, rfl, by rw [e0]; exact a, by rw [e1]; exact b, by rw [e3]; exact c⟩
  | .leaf (some (_ + 1, p, _, s, _, _)), mo, pv, ar, en, X, hr, h => by
    obtain ⟨r, rfl, a, b, c⟩ := h
    obtain ⟨e0, e1, e2, e3⟩ := hr r (by simp)
    exact ⟨r, rfl, by rw [e0]; exact a, by rw [e1]; exact b, by rw [e3]; exact c⟩
  | .branch 0 (.leaf (some (0, p, _, _, _, w))) t, mo, pv, ar, en, X, hr, h => by
    rcases h with ⟨q1, q2, r, rfl, a, b, c, d⟩ | ⟨q1, s, Y, r, rfl, a, b, c, d, e, f, g⟩
    · obtain ⟨e0, e1, e2, e3⟩ := hr r (by simp)
      exact Or.inl ⟨q1, q2, r, rfl, by rw [e0]; exact a, by rw [e1]; exact b, by rw [e2]; exact c, by rw [e3]; exact d⟩
    · obtain ⟨e0, e1, e2, e3⟩ := hr s (by simp)
      obtain ⟨f0, f1, f2, f3⟩ := hr r (by simp)
      exact Or.inr ⟨q1, s, Y, r, rfl, by rw [e0]; exact a, by rw [e3]; exact b, cI_st ha h1 h2 t (fun x hx => hr x (by simp [hx])) c, by rw [f0]; exact d, by rw [f1]; exact e, by rw [f2]; exact f, by rw [f3]; exact g⟩
  | .branch 0 (.leaf (some (1, p, _, k, _, _))) t, mo, pv, ar, en, X, hr, h => by
    rcases h with ⟨q1, q2, r, rfl, a, b, c⟩ | ⟨q1, s, Y, r, rfl, a, b, c, d, e, f⟩
    · obtain ⟨e0, e1, e2, e3⟩ := hr r (by simp)
      exact Or.inl ⟨q1, q2, r, rfl, by rw [e0]; exact a, by rw [e1]; exact b, by rw [e3]; exact c⟩
    · obtain ⟨e0, e1, e2, e3⟩ := hr s (by simp)
      obtain ⟨f0, f1, f2, f3⟩ := hr r (by simp)
      exact Or.inr ⟨q1, s, Y, r, rfl, by rw [e0]; exact a, by rw [e3]; exact b, cI_st ha h1 h2 t (fun x hx => hr x (by simp [hx])) c, by rw [f0]; exact d, by rw [f1]; exact e, by rw [f3]; exact f⟩
  | .branch 1 (.leaf (some (0, p, o, _, _, _))) (.branch _ t u), mo, pv, ar, en, X, hr, h => by
    obtain ⟨s, Y, Z, r, rfl, a, b, c, d, e, f⟩ := h
    obtain ⟨e0, e1, e2, e3⟩ := hr s (by simp)
    obtain ⟨f0, f1, f2, f3⟩ := hr r (by simp)
    exact ⟨s, Y, Z, r, rfl, by rw [e0]; exact a, by rw [e3]; exact b, cI_st ha h1 h2 t (fun x hx => hr x (by simp [hx])) c, cI_st ha h1 h2 u (fun x hx => hr x (by simp [hx])) d, by rw [f0]; exact e, by rw [f3]; exact f⟩
  | .branch 1 (.leaf (some (_ + 1, p, _, k, _, _))) (.branch _ t u), mo, pv, ar, en, X, hr, h => by
    obtain ⟨s, Y, r, Z, rfl, a, b, c, d, e, f⟩ := h
    obtain ⟨e0, e1, e2, e3⟩ := hr s (by simp)
    obtain ⟨f0, f1, f2, f3⟩ := hr r (by simp)
    exact ⟨s, Y, r, Z, rfl, by rw [e0]; exact a, by rw [e3]; exact b, cI_st ha h1 h2 t (fun x hx => hr x (by simp [hx])) c, by rw [f0]; exact d, by rw [f1]; exact e, cI_st ha h1 h2 u (fun x hx => hr x (by simp [hx])) f⟩
  | .branch 2 (.leaf (some (_, p, _, _, _, _))) (.branch _ t (.branch _ u w)), mo, pv, ar, en, X, hr, h => by
    obtain ⟨s, Y, i, Z, j, U, rfl, a, b, c, d, e, f, g, k, l, m⟩ := h
    obtain ⟨e0, e1, e2, e3⟩ := hr s (by simp)
    obtain ⟨f0, f1, f2, f3⟩ := hr i (by simp)
    obtain ⟨g0, g1, g2, g3⟩ := hr j (by simp)
    exact ⟨s, Y, i, Z, j, U, rfl, by rw [e0]; exact a, by rw [e3]; exact b, cI_st ha h1 h2 t (fun x hx => hr x (by simp [hx])) c, by rw [f0]; exact d, by rw [f1]; exact e, by rw [f3]; exact f, cI_st ha h1 h2 u (fun x hx => hr x (by simp [hx])) g, by rw [g0]; exact k, by rw [g1]; exact l, cI_st ha h1 h2 w (fun x hx => hr x (by simp [hx])) m⟩
  | .branch 0 (.leaf (some (2, p, _, k, _, _))) t, mo, pv, ar, en, X, hr, h => by
    obtain ⟨s, m, Y, rfl, a, b, c, d, e, f⟩ := h
    obtain ⟨e0, e1, e2, e3⟩ := hr s (by simp)
    obtain ⟨f0, f1, f2, f3⟩ := hr m (by simp)
    exact ⟨s, m, Y, rfl, by rw [e0]; exact a, by rw [e3]; exact b, by rw [f0]; exact c, by rw [f1]; exact d, by rw [f3]; exact e, by rw [f2]; exact cI_st ha h1 h2 t (fun x hx => hr x (by simp [hx])) f⟩
  | .branch 0 (.leaf (some (_ + 3, p, k, hh, m, _))) t, mo, pv, ar, en, X, hr, h => by
    obtain ⟨Y, v, rfl, ⟨b1, b2, b3⟩, a, b, c, d, e, f, g, i⟩ := h
    have hn := zn_nat b3
    obtain ⟨e4, e5, e6, e7, e8, e9⟩ := ha (Int32.toNatClampNeg ar) (by omega) (by omega)
    obtain ⟨f0, f1, f2, f3⟩ := hr v (by simp)
    exact ⟨Y, v, rfl, ⟨by omega, by omega, b3⟩, by rw [e4]; exact a, by rw [e6]; exact b, by rw [e7]; exact c, by rw [e8]; exact d, by rw [e9]; exact e, by rw [f0]; exact f, by rw [f1]; exact g, cI_st ha h1 h2 t (fun x hx => hr x (by simp [hx])) i⟩
  | .branch 0 (.leaf none) _, _, _, _, _, _, _, h9 => h9.elim
  | .branch 0 (.branch _ _ _) _, _, _, _, _, _, _, h9 => h9.elim
  | .branch 1 (.leaf none) _, _, _, _, _, _, _, h9 => h9.elim
  | .branch 1 (.branch _ _ _) _, _, _, _, _, _, _, h9 => h9.elim
  | .branch 1 (.leaf (some (0, _, _, _, _, _))) (.leaf _), _, _, _, _, _, _, h9 => h9.elim
  | .branch 1 (.leaf (some (_ + 1, _, _, _, _, _))) (.leaf _), _, _, _, _, _, _, h9 => h9.elim
  | .branch 2 (.leaf none) _, _, _, _, _, _, _, h9 => h9.elim
  | .branch 2 (.branch _ _ _) _, _, _, _, _, _, _, h9 => h9.elim
  | .branch 2 (.leaf (some (_, _, _, _, _, _))) (.leaf _), _, _, _, _, _, _, h9 => h9.elim
  | .branch 2 (.leaf (some (_, _, _, _, _, _))) (.branch _ _ (.leaf _)), _, _, _, _, _, _, h9 => h9.elim
  | .leaf none, mo, pv, ar, en, X, hr, h => show X = [] ∧ (mo = true → ar.toInt = -1) from h
  | .branch (_ + 3) t u, mo, pv, ar, en, X, hr, h => by
    obtain ⟨Y, Z, rfl, a, b, c⟩ := h
    refine ⟨Y, Z, rfl, cI_st ha h1 h2 t (fun x hx => hr x (by simp [hx])) a, ?_, fun g => ⟨by have := (c g).1; omega, by have := (c g).2.1; omega, (c g).2.2⟩⟩
    have hb := cI_st ha h1 h2 u (fun x hx => hr x (by simp [hx])) b
    cases mo with
    | false => exact hb
    | true =>
      have b3 := c rfl
      have hn := zn_nat b3.2.2
      show cI S2 H alo2 ahi2 u true (zla pv Y) (S2 5 (Int32.toNatClampNeg ar)) en Z
      rw [(ha (Int32.toNatClampNeg ar) (by omega) (by omega)).2.1]; exact hb
