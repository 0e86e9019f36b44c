/-! the reference's parts of a tree -/
/-- is it a row? -/
def tm_cl : Tm → Prop
  | .leaf none => True
  | .branch (_ + 3) _ _ => True
  | _ => False
/-- the parts a .. b - 1 are the tree, the last one its root; of a row of trees: fi is its first one's root. R: what, place, own, one, two, three, beside, many; J says what a call has for its word -/
def rI (R : Nat → Nat → Int32) (J : Nat → Int64 → Prop) : Tm → Int32 → Nat → Nat → Prop
  | .leaf (some (0, p, v, _, _, _)), _, a, b => b = a + 1 ∧ (R 0 a).toInt = 1 ∧ (R 1 a).toInt = p ∧ (R 2 a).toInt = v
  | .leaf (some (_ + 1, p, _, s, _, _)), _, a, b => b = a + 1 ∧ (R 0 a).toInt = 2 ∧ (R 1 a).toInt = p ∧ (R 2 a).toInt = (s : Int)
  | .branch 0 (.leaf (some (0, p, _, _, _, w))) x, _, a, b => ∃ m : Nat, rI R J x (R 3 m) a m ∧ b = m + 1 ∧ (R 0 m).toInt = 3 ∧ (R 1 m).toInt = p ∧ J m w ∧ (R 7 m).toInt = (tm_ln x : Int)
  | .branch 0 (.leaf (some (1, p, _, k, _, _))) x, _, a, b => ∃ m : Nat, rI R J x (R 3 m) a m ∧ b = m + 1 ∧ (R 0 m).toInt = 4 ∧ (R 1 m).toInt = p ∧ (R 2 m).toInt = (k : Int) ∧ (R 7 m).toInt = (tm_ln x : Int)
  | .branch 1 (.leaf (some (0, p, o, _, _, _))) (.branch _ x y), _, a, b => ∃ m n : Nat, rI R J x 0 a m ∧ rI R J y 0 m n ∧ b = n + 1 ∧ (R 0 n).toInt = 5 ∧ (R 1 n).toInt = p ∧ (R 2 n).toInt = o ∧ (R 3 n).toInt = (m : Int) - 1 ∧ (R 4 n).toInt = (n : Int) - 1
  | .branch 1 (.leaf (some (_ + 1, p, _, s, _, _))) (.branch _ x y), _, a, b => ∃ m n : Nat, rI R J x 0 a m ∧ rI R J y 0 m n ∧ b = n + 1 ∧ (R 0 n).toInt = 6 ∧ (R 1 n).toInt = p ∧ (R 2 n).toInt = (s : Int) ∧ (R 3 n).toInt = (m : Int) - 1 ∧ (R 4 n).toInt = (n : Int) - 1
  | .branch 2 (.leaf (some (_, p, _, _, _, _))) (.branch _ x (.branch _ y z)), _, a, b => ∃ m n q : Nat, rI R J x 0 a m ∧ rI R J y 0 m n ∧ rI R J z 0 n q ∧ b = q + 1 ∧ (R 0 q).toInt = 7 ∧ (R 1 q).toInt = p ∧ (R 3 q).toInt = (m : Int) - 1 ∧ (R 4 q).toInt = (n : Int) - 1 ∧ (R 5 q).toInt = (q : Int) - 1
  | .branch 0 (.leaf (some (2, p, _, s, _, _))) x, _, a, b => ∃ m : Nat, rI R J x (R 3 m) a m ∧ b = m + 1 ∧ (R 0 m).toInt = 8 ∧ (R 1 m).toInt = p ∧ (R 2 m).toInt = (s : Int)
  | .branch 0 (.leaf (some (_ + 3, p, k, h, mm, _))) x, _, a, b => ∃ m : Nat, rI R J x 0 a m ∧ b = m + 1 ∧ (R 0 m).toInt = 9 ∧ (R 1 m).toInt = p ∧ (R 2 m).toInt = k ∧ (R 4 m).toInt = (h : Int) ∧ (R 7 m).toInt = (mm : Int) ∧ (R 3 m).toInt = (m : Int) - 1
  | .leaf none, fi, a, b => a = b ∧ fi.toInt = -1
  | .branch (_ + 3) x y, fi, a, b => ∃ m : Nat, rI R J x 0 a m ∧ (a < m ∧ ¬ tm_cl x) ∧ fi.toInt = (m : Int) - 1 ∧ rI R J y (R 6 (m - 1)) m b
  | _, _, _, _ => False
theorem rI_le {R : Nat → Nat → Int32} {J : Nat → Int64 → Prop} : ∀ (t : Tm) {fi : Int32} {a b : Nat}, rI R J t fi a b → a ≤ b
  | .leaf (some (0, _, _, _, _, _)), _, _, _, h => by have := h.1; omega
  | .leaf (some (_ + 1, _, _, _, _, _)), _, _, _, h => by have := h.1; omega
  | .branch 0 (.leaf (some (0, _, _, _, _, _))) x, _, _, _, h => by obtain ⟨m, h1, h2, -⟩ := h; have := rI_le x h1; omega
  | .branch 0 (.leaf (some (1, _, _, _, _, _))) x, _, _, _, h => by obtain ⟨m, h1, h2, -⟩ := h; have := rI_le x h1; omega
  | .branch 1 (.leaf (some (0, _, _, _, _, _))) (.branch _ x y), _, _, _, h => by obtain ⟨m, n, h1, h2, h3, -⟩ := h; have := rI_le x h1; have := rI_le y h2; omega
  | .branch 1 (.leaf (some (_ + 1, _, _, _, _, _))) (.branch _ x y), _, _, _, h => by obtain ⟨m, n, h1, h2, h3, -⟩ := h; have := rI_le x h1; have := rI_le y h2; omega
  | .branch 2 (.leaf (some (_, _, _, _, _, _))) (.branch _ x (.branch _ y z)), _, _, _, h => by obtain ⟨m, n, q, h1, h2, h3, h4, -⟩ := h; have := rI_le x h1; have := rI_le y h2; have := rI_le z h3; omega
  | .branch 0 (.leaf (some (2, _, _, _, _, _))) x, _, _, _, h => by obtain ⟨m, h1, h2, -⟩ := h; have := rI_le x h1; omega
  | .branch 0 (.leaf (some (_ + 3, _, _, _, _, _))) x, _, _, _, h => by obtain ⟨m, h1, h2, -⟩ := h; have := rI_le x h1; omega
  | .branch 0 (.leaf none) _, _, _, _, h9 => h9.elim
  | .branch 0 (.branch _ _ _) _, _, _, _, h9 => h9.elim
  | .branch 1 (.leaf none) _, _, _, _, h9 => h9.elim
  | .branch 1 (.branch _ _ _) _, _, _, _, h9 => h9.elim
  | .branch 1 (.leaf (some (0, _, _, _, _, _))) (.leaf _), _, _, _, h9 => h9.elim
  | .branch 1 (.leaf (some (_ + 1, _, _, _, _, _))) (.leaf _), _, _, _, h9 => h9.elim
  | .branch 2 (.leaf none) _, _, _, _, h9 => h9.elim
  | .branch 2 (.branch _ _ _) _, _, _, _, h9 => h9.elim
  | .branch 2 (.leaf (some (_, _, _, _, _, _))) (.leaf _), _, _, _, h9 => h9.elim
  | .branch 2 (.leaf (some (_, _, _, _, _, _))) (.branch _ _ (.leaf _)), _, _, _, h9 => h9.elim
  | .leaf none, _, _, _, h => by have := h.1; omega
  | .branch (_ + 3) x y, _, _, _, h => by obtain ⟨m, h1, ⟨h2, -⟩, -, h3⟩ := h; have := rI_le y h3; omega
/-- what stays -/
theorem rI_st {R R2 : Nat → Nat → Int32} {J J2 : Nat → Int64 → Prop} {lo hi c : Nat} (h0 : ∀ k, lo ≤ k → k < hi → ∀ i, i ≠ 6 → R2 i k = R i k) (h6 : ∀ k, lo ≤ k → k < c → R2 6 k = R 6 k) (hJ : ∀ k w, lo ≤ k → k < hi → J k w → J2 k w) : ∀ (t : Tm) {fi : Int32} {a b : Nat}, lo ≤ a → b ≤ hi → b ≤ c + 1 → (tm_cl t → b ≤ c) → rI R J t fi a b → rI R2 J2 t fi a b
  | .leaf (some (0, _, _, _, _, _)), _, a, b, ha, hb, _, _, h => by
    obtain ⟨e, h1, h2, h3⟩ := h
    have r := h0 a ha (by omega)
    exact ⟨e, by rw [r 0 (by decide)]; exact h1, by rw [r 1 (by decide)]; exact h2, by rw [r 2 (by decide)]; exact h3⟩
  | .leaf (some (_ + 1, _, _, _, _, _)), _, a, b, ha, hb, _, _, h => by
    obtain ⟨e, h1, h2, h3⟩ := h
    have r := h0 a ha (by omega)
    exact ⟨e, by rw [r 0 (by decide)]; exact h1, by rw [r 1 (by decide)]; exact h2, by rw [r 2 (by decide)]; exact h3⟩
  | .branch 0 (.leaf (some (0, _, _, _, _, w))) x, _, a, b, ha, hb, hc, _, h => by
    obtain ⟨m, q, e, h1, h2, h3, h4⟩ := h
    have l := rI_le x q
    have r := h0 m (by omega) (by omega)
    exact ⟨m, by rw [r 3 (by decide)]; exact rI_st h0 h6 hJ x ha (by omega) (by omega) (fun _ => by omega) q, e, by rw [r 0 (by decide)]; exact h1, by rw [r 1 (by decide)]; exact h2, hJ m w (by omega) (by omega) h3, by rw [r 7 (by decide)]; exact h4⟩
  | .branch 0 (.leaf (some (1, _, _, _, _, _))) x, _, a, b, ha, hb, hc, _, h => by
    obtain ⟨m, q, e, h1, h2, h3, h4⟩ := h
    have l := rI_le x q
    have r := h0 m (by omega) (by omega)
    exact ⟨m, by rw [r 3 (by decide)]; exact rI_st h0 h6 hJ x ha (by omega) (by omega) (fun _ => by omega) q, e, by rw [r 0 (by decide)]; exact h1, by rw [r 1 (by decide)]; exact h2, by rw [r 2 (by decide)]; exact h3, by rw [r 7 (by decide)]; exact h4⟩
  | .branch 1 (.leaf (some (0, _, _, _, _, _))) (.branch _ x y), _, a, b, ha, hb, hc, _, h => by
    obtain ⟨m, n, q1, q2, e, h1, h2, h3, h4, h5⟩ := h
    have l1 := rI_le x q1
    have l2 := rI_le y q2
    have r := h0 n (by omega) (by omega)
    exact ⟨m, n, rI_st h0 h6 hJ x ha (by omega) (by omega) (fun _ => by omega) q1, rI_st h0 h6 hJ y (by omega) (by omega) (by omega) (fun _ => by omega) q2, e, by rw [r 0 (by decide)]; exact h1, by rw [r 1 (by decide)]; exact h2, by rw [r 2 (by decide)]; exact h3, by rw [r 3 (by decide)]; exact h4, by rw [r 4 (by decide)]; exact h5⟩
  | .branch 1 (.leaf (some (_ + 1, _, _, _, _, _))) (.branch _ x y), _, a, b, ha, hb, hc, _, h => by
    obtain ⟨m, n, q1, q2, e, h1, h2, h3, h4, h5⟩ := h
    have l1 := rI_le x q1
    have l2 := rI_le y q2
    have r := h0 n (by omega) (by omega)
    exact ⟨m, n, rI_st h0 h6 hJ x ha (by omega) (by omega) (fun _ => by omega) q1, rI_st h0 h6 hJ y (by omega) (by omega) (by omega) (fun _ => by omega) q2, e, by rw [r 0 (by decide)]; exact h1, by rw [r 1 (by decide)]; exact h2, by rw [r 2 (by decide)]; exact h3, by rw [r 3 (by decide)]; exact h4, by rw [r 4 (by decide)]; exact h5⟩
  | .branch 2 (.leaf (some (_, _, _, _, _, _))) (.branch _ x (.branch _ y z)), _, a, b, ha, hb, hc, _, h => by
    obtain ⟨m, n, q, q1, q2, q3, e, h1, h2, h3, h4, h5⟩ := h
    have l1 := rI_le x q1
    have l2 := rI_le y q2
    have l3 := rI_le z q3
    have r := h0 q (by omega) (by omega)
    exact ⟨m, n, q, rI_st h0 h6 hJ x ha (by omega) (by omega) (fun _ => by omega) q1, rI_st h0 h6 hJ y (by omega) (by omega) (by omega) (fun _ => by omega) q2, rI_st h0 h6 hJ z (by omega) (by omega) (by omega) (fun _ => by omega) q3, e, by rw [r 0 (by decide)]; exact h1, by rw [r 1 (by decide)]; exact h2, by rw [r 3 (by decide)]; exact h3, by rw [r 4 (by decide)]; exact h4, by rw [r 5 (by decide)]; exact h5⟩
  | .branch 0 (.leaf (some (2, _, _, _, _, _))) x, _, a, b, ha, hb, hc, _, h => by
    obtain ⟨m, q, e, h1, h2, h3⟩ := h
    have l := rI_le x q
    have r := h0 m (by omega) (by omega)
    exact ⟨m, by rw [r 3 (by decide)]; exact rI_st h0 h6 hJ x ha (by omega) (by omega) (fun _ => by omega) q, e, by rw [r 0 (by decide)]; exact h1, by rw [r 1 (by decide)]; exact h2, by rw [r 2 (by decide)]; exact h3⟩
  | .branch 0 (.leaf (some (_ + 3, _, _, _, _, _))) x, _, a, b, ha, hb, hc, _, h => by
    obtain ⟨m, q, e, h1, h2, h3, h4, h5, h6'⟩ := h
    have l := rI_le x q
    have r := h0 m (by omega) (by omega)
    exact ⟨m, rI_st h0 h6 hJ x ha (by omega) (by omega) (fun _ => by omega) q, e, by rw [r 0 (by decide)]; exact h1, by rw [r 1 (by decide)]; exact h2, by rw [r 2 (by decide)]; exact h3, by rw [r 4 (by decide)]; exact h4, by rw [r 7 (by decide)]; exact h5, by rw [r 3 (by decide)]; exact h6'⟩
  | .branch 0 (.leaf none) _, _, _, _, _, _, _, _, h9 => h9.elim
  | .branch 0 (.branch _ _ _) _, _, _, _, _, _, _, _, h9 => h9.elim
  | .branch 1 (.leaf none) _, _, _, _, _, _, _, _, h9 => h9.elim
  | .branch 1 (.branch _ _ _) _, _, _, _, _, _, _, _, h9 => h9.elim
  | .branch 1 (.leaf (some (0, _, _, _, _, _))) (.leaf _), _, _, _, _, _, _, _, h9 => h9.elim
  | .branch 1 (.leaf (some (_ + 1, _, _, _, _, _))) (.leaf _), _, _, _, _, _, _, _, h9 => h9.elim
  | .branch 2 (.leaf none) _, _, _, _, _, _, _, _, h9 => h9.elim
  | .branch 2 (.branch _ _ _) _, _, _, _, _, _, _, _, h9 => h9.elim
  | .branch 2 (.leaf (some (_, _, _, _, _, _))) (.leaf _), _, _, _, _, _, _, _, h9 => h9.elim
  | .branch 2 (.leaf (some (_, _, _, _, _, _))) (.branch _ _ (.leaf _)), _, _, _, _, _, _, _, h9 => h9.elim
  | .leaf none, _, _, _, _, _, _, _, h => h
  | .branch (_ + 3) x y, fi, a, b, ha, hb, hc, hl, h => by
    obtain ⟨m, q1, ⟨l1, l9⟩, e, q2⟩ := h
    have l2 := rI_le y q2
    have u : b ≤ c := hl trivial
    exact ⟨m, rI_st h0 h6 hJ x ha (by omega) (by omega) (fun _ => by omega) q1, ⟨l1, l9⟩, e, by rw [h6 (m - 1) (by omega) (by omega)]; exact rI_st h0 h6 hJ y (by omega) hb hc (fun _ => u) q2⟩
theorem rI_ne {R : Nat → Nat → Int32} {J : Nat → Int64 → Prop} : ∀ (y : Tm) {fi : Int32} {q m : Nat}, tm_li y → y ≠ Tm.nil → rI R J y fi q m → q < m
  | .leaf none, _, _, _, _, u, _ => absurd rfl u
  | .branch (_ + 3) _ _, _, _, _, _, _, h => by obtain ⟨_, _, ⟨w1, _⟩, _, w2⟩ := h; have := rI_le _ w2; omega
  | .leaf (some (0, _, _, _, _, _)), _, _, _, g, _, _ => g.elim
  | .leaf (some (_ + 1, _, _, _, _, _)), _, _, _, g, _, _ => g.elim
  | .branch 0 (.leaf (some (0, _, _, _, _, _))) _, _, _, _, g, _, _ => g.elim
  | .branch 0 (.leaf (some (1, _, _, _, _, _))) _, _, _, _, g, _, _ => g.elim
  | .branch 1 (.leaf (some (0, _, _, _, _, _))) (.branch _ _ _), _, _, _, g, _, _ => g.elim
  | .branch 1 (.leaf (some (_ + 1, _, _, _, _, _))) (.branch _ _ _), _, _, _, g, _, _ => g.elim
  | .branch 2 (.leaf (some (_, _, _, _, _, _))) (.branch _ _ (.branch _ _ _)), _, _, _, g, _, _ => g.elim
  | .branch 0 (.leaf (some (2, _, _, _, _, _))) _, _, _, _, g, _, _ => g.elim
  | .branch 0 (.leaf (some (_ + 3, _, _, _, _, _))) _, _, _, _, g, _, _ => g.elim
  | .branch 0 (.leaf none) _, _, _, _, g, _, _ => g.elim
  | .branch 0 (.branch _ _ _) _, _, _, _, g, _, _ => g.elim
  | .branch 1 (.leaf none) _, _, _, _, g, _, _ => g.elim
  | .branch 1 (.branch _ _ _) _, _, _, _, g, _, _ => g.elim
  | .branch 1 (.leaf (some (0, _, _, _, _, _))) (.leaf _), _, _, _, g, _, _ => g.elim
  | .branch 1 (.leaf (some (_ + 1, _, _, _, _, _))) (.leaf _), _, _, _, g, _, _ => g.elim
  | .branch 2 (.leaf none) _, _, _, _, g, _, _ => g.elim
  | .branch 2 (.branch _ _ _) _, _, _, _, g, _, _ => g.elim
  | .branch 2 (.leaf (some (_, _, _, _, _, _))) (.leaf _), _, _, _, g, _, _ => g.elim
  | .branch 2 (.leaf (some (_, _, _, _, _, _))) (.branch _ _ (.leaf _)), _, _, _, g, _, _ => g.elim
/-- one more behind a row -/
theorem rI_sn {R R2 : Nat → Nat → Int32} {J J2 : Nat → Int64 → Prop} {t : Tm} {m b : Nat} (h0 : ∀ k, k < m → ∀ i, i ≠ 6 → R2 i k = R i k) (h6 : ∀ k, k + 1 < m → R2 6 k = R 6 k) (hJ : ∀ k w, k < m → J k w → J2 k w) (ht : rI R2 J2 t 0 m b) (hmb : m < b) (htl : ¬ tm_cl t) (hb : (R2 6 (b - 1)).toInt = -1) : ∀ {c : Tm} {fi fi2 : Int32} {a : Nat}, tm_li c → rI R J c fi a m → (c = Tm.nil → fi2.toInt = (b : Int) - 1) → (c ≠ Tm.nil → fi2 = fi ∧ (R2 6 (m - 1)).toInt = (b : Int) - 1) → rI R2 J2 (tm_sn c t) fi2 a b
  | .leaf none, fi, fi2, a, _, h, e1, _ => by
    obtain ⟨rfl, -⟩ := h
    exact ⟨b, ht, ⟨hmb, htl⟩, e1 rfl, rfl, hb⟩
  | .branch (_ + 3) x y, fi, fi2, a, hl, h, _, e2 => by
    obtain ⟨q, q1, ⟨l1, l9⟩, e, q2⟩ := h
    have l2 := rI_le y q2
    obtain ⟨e3, e4⟩ := e2 (fun g => by cases g)
    have hx : rI R2 J2 x 0 a q := rI_st (lo := a) (hi := m) (c := m - 1) (fun k _ k2 i hi => h0 k k2 i hi) (fun k _ k2 => h6 k (by omega)) (fun k w _ k2 g => hJ k w k2 g) x (Nat.le_refl _) l2 (by omega) (fun g => absurd g l9) q1
    · refine ⟨q, hx, ⟨l1, l9⟩, by rw [e3]; exact e, ?_⟩
      by_cases u : y = Tm.nil
      · subst u
        have q3 : q = m := q2.1
        subst q3
        exact ⟨b, ht, ⟨hmb, htl⟩, e4, rfl, hb⟩
      · have l3 : q < m := rI_ne y hl u q2
        exact rI_sn h0 h6 hJ ht hmb htl hb (c := y) hl q2 (fun g => absurd g u) (fun _ => ⟨h6 (q - 1) (by omega), e4⟩)
/-- the reference's rows -/
def rcs (wh pl ow on tw th be ma : Nat → Int32) : Nat → Nat → Int32
  | 0 => wh | 1 => pl | 2 => ow | 3 => on | 4 => tw | 5 => th | 6 => be | _ => ma
def rJ (nm : Nat → Int64) (k : Nat) (w : Int64) : Prop := sp_cv w (nm k)
theorem rI_eq {wh pl ow on tw th be ma wh2 pl2 ow2 on2 tw2 th2 be2 ma2 : Nat → Int32} {nm nm2 : Nat → Int64} {t : Tm} {a b p : Nat} (h : rI (rcs wh pl ow on tw th be ma) (rJ nm) t 0 a b) (ht : ¬ tm_cl t) (hb : b ≤ p) (e : ∀ k, k < p → wh2 k = wh k ∧ pl2 k = pl k ∧ ow2 k = ow k ∧ on2 k = on k ∧ tw2 k = tw k ∧ th2 k = th k ∧ ma2 k = ma k ∧ nm2 k = nm k) (e6 : ∀ k, k + 1 < b → be2 k = be k) : rI (rcs wh2 pl2 ow2 on2 tw2 th2 be2 ma2) (rJ nm2) t 0 a b := by
  refine rI_st (R := rcs wh pl ow on tw th be ma) (J := rJ nm) (lo := a) (hi := b) (c := b - 1) (fun k _ k2 i hi => ?_) (fun k _ k2 => e6 k (by omega)) (fun k w _ k2 g => ?_) t (Nat.le_refl _) (Nat.le_refl _) (by omega) (fun g => absurd g ht) h
  · obtain ⟨h0, h1, h2, h3, h4, h5, h7, -⟩ := e k (by omega)
    match i, hi with
    | 0, _ => exact h0
    | 1, _ => exact h1
    | 2, _ => exact h2
    | 3, _ => exact h3
    | 4, _ => exact h4
    | 5, _ => exact h5
    | 6, hi => exact absurd rfl hi
    | _ + 7, _ => exact h7
  · show sp_cv w (nm2 k)
    rw [(e k (by omega)).2.2.2.2.2.2.2]; exact g
/-- a part as it was made -/
theorem zJp_at {S S2 : Nat → Nat → Int32} {z : Nat} {w o a b t m : Int32} (h : zJp S S2 z w o a b t m) : S2 0 z = w ∧ S2 1 z = o ∧ S2 2 z = a ∧ S2 3 z = b ∧ S2 4 z = t ∧ S2 5 z = -1 ∧ S2 6 z = m := by
  obtain ⟨h0, h1, h2, h3, h4, h5, h6, -⟩ := h
  exact ⟨by rw [h0, zu_s], by rw [h1, zu_s], by rw [h2, zu_s], by rw [h3, zu_s], by rw [h4, zu_s], by rw [h5, zu_s], by rw [h6, zu_s]⟩
/-- the rows below p stay -/
def rF (p : Nat) (A B : Nat → Nat → Int32) (n n2 : Nat → Int64) : Prop := ∀ k, k < p → (∀ i, B i k = A i k) ∧ n2 k = n k
theorem rF_rf {p : Nat} {A : Nat → Nat → Int32} {n : Nat → Int64} : rF p A A n n := fun _ _ => ⟨fun _ => rfl, rfl⟩
theorem rF_tr {p q : Nat} {A B C : Nat → Nat → Int32} {n n2 n3 : Nat → Int64} (h : rF p A B n n2) (g : rF q B C n2 n3) (hp : p ≤ q) : rF p A C n n3 := fun k hk => ⟨fun i => ((g k (by omega)).1 i).trans ((h k hk).1 i), (g k (by omega)).2.trans (h k hk).2⟩
theorem rI_mv {p : Nat} {A B : Nat → Nat → Int32} {n n2 : Nat → Int64} {t : Tm} {fi : Int32} {a b : Nat} (hF : rF p A B n n2) (h : rI A (rJ n) t fi a b) (hb : b ≤ p) : rI B (rJ n2) t fi a b :=
  rI_st (R := A) (J := rJ n) (lo := 0) (hi := p) (c := p) (fun k _ k2 i _ => (hF k k2).1 i) (fun k _ k2 => (hF k k2).1 6) (fun k w _ k2 g => by show sp_cv w (n2 k); rw [(hF k k2).2]; exact g) t (Nat.zero_le _) hb (by omega) (fun _ => hb) h
/-- a part more -/
theorem rF_p {wh pl ow on tw th be ma fi wh2 pl2 ow2 on2 tw2 th2 be2 ma2 fi2 : Nat → Int32} {kz kz2 : Int32} {nm nm2 : Nat → Int64} {z : Nat} {w o a b t m p : Int32} {x : Int64} (h : zJp (zJS wh ow on tw th be ma fi kz) (zJS wh2 ow2 on2 tw2 th2 be2 ma2 fi2 kz2) z w o a b t m) (hpl : pl2 = upd pl z p) (hnm : nm2 = vp_updL nm z x) : rF z (rcs wh pl ow on tw th be ma) (rcs wh2 pl2 ow2 on2 tw2 th2 be2 ma2) nm nm2 := fun k hk => by
  have hne : k ≠ z := by omega
  obtain ⟨h0, h1, h2, h3, h4, h5, h6, -⟩ := h
  refine ⟨fun i => ?_, by rw [hnm]; simp [vp_updL, hne]⟩
  match i with
  | 0 => show wh2 k = wh k; rw [show wh2 = upd wh z w from h0, zu_n hne]
  | 1 => show pl2 k = pl k; rw [hpl, zu_n hne]
  | 2 => show ow2 k = ow k; rw [show ow2 = upd ow z o from h1, zu_n hne]
  | 3 => show on2 k = on k; rw [show on2 = upd on z a from h2, zu_n hne]
  | 4 => show tw2 k = tw k; rw [show tw2 = upd tw z b from h3, zu_n hne]
  | 5 => show th2 k = th k; rw [show th2 = upd th z t from h4, zu_n hne]
  | 6 => show be2 k = be k; rw [show be2 = upd be z (-1) from h5, zu_n hne]
  | _ + 7 => show ma2 k = ma k; rw [show ma2 = upd ma z m from h6, zu_n hne]
/-- a part's row -/
def rV (R : Nat → Nat → Int32) (z : Nat) (w p o a b t m : Int32) : Prop := R 0 z = w ∧ R 1 z = p ∧ R 2 z = o ∧ R 3 z = a ∧ R 4 z = b ∧ R 5 z = t ∧ R 6 z = -1 ∧ R 7 z = m
theorem rV_p {S : Nat → Nat → Int32} {pl fi wh2 pl2 ow2 on2 tw2 th2 be2 ma2 : Nat → Int32} {kz2 : Int32} {z : Nat} {w o a b t m p : Int32} (h : zJp S (zJS wh2 ow2 on2 tw2 th2 be2 ma2 fi kz2) z w o a b t m) (hpl : pl2 = upd pl z p) : rV (rcs wh2 pl2 ow2 on2 tw2 th2 be2 ma2) z w p o a b t m := by
  obtain ⟨h0, h1, h2, h3, h4, h5, h6⟩ := zJp_at h
  exact ⟨h0, by show pl2 z = p; rw [hpl, zu_s], h1, h2, h3, h4, h5, h6⟩
section
variable {R : Nat → Nat → Int32} {J : Nat → Int64 → Prop} {x y u : Tm} {a z m n : Nat} {w p o c d t q : Int32} {pp vv : Int} {s : Nat}
theorem rN_num (h : rV R z w p o c d t q) (hw : w.toInt = 1) (hp : p.toInt = pp) (ho : o.toInt = vv) : rI R J (Tm.num pp vv) 0 z (z + 1) := by
  obtain ⟨h0, h1, h2, -⟩ := h
  exact ⟨rfl, by rw [h0]; exact hw, by rw [h1]; exact hp, by rw [h2]; exact ho⟩
theorem rN_use (h : rV R z w p o c d t q) (hw : w.toInt = 2) (hp : p.toInt = pp) (ho : o.toInt = (s : Int)) : rI R J (Tm.use pp s) 0 z (z + 1) := by
  obtain ⟨h0, h1, h2, -⟩ := h
  exact ⟨rfl, by rw [h0]; exact hw, by rw [h1]; exact hp, by rw [h2]; exact ho⟩
theorem rN_call {wd : Int64} (hx : rI R J x c a z) (h : rV R z w p o c d t q) (hw : w.toInt = 3) (hp : p.toInt = pp) (hj : J z wd) (hq : q.toInt = (tm_ln x : Int)) : rI R J (Tm.call pp wd x) 0 a (z + 1) := by
  obtain ⟨h0, h1, h2, h3, h4, h5, h6, h7⟩ := h
  exact ⟨z, by rw [h3]; exact hx, rfl, by rw [h0]; exact hw, by rw [h1]; exact hp, hj, by rw [h7]; exact hq⟩
theorem rN_made (hx : rI R J x c a z) (h : rV R z w p o c d t q) (hw : w.toInt = 4) (hp : p.toInt = pp) (ho : o.toInt = (s : Int)) (hq : q.toInt = (tm_ln x : Int)) : rI R J (Tm.made pp s x) 0 a (z + 1) := by
  obtain ⟨h0, h1, h2, h3, h4, h5, h6, h7⟩ := h
  exact ⟨z, by rw [h3]; exact hx, rfl, by rw [h0]; exact hw, by rw [h1]; exact hp, by rw [h2]; exact ho, by rw [h7]; exact hq⟩
theorem rN_bin (hx : rI R J x 0 a m) (hy : rI R J y 0 m z) (h : rV R z w p o c d t q) (hw : w.toInt = 5) (hp : p.toInt = pp) (ho : o.toInt = vv) (hc : c.toInt = (m : Int) - 1) (hd : d.toInt = (z : Int) - 1) : rI R J (Tm.bin pp vv x y) 0 a (z + 1) := by
  obtain ⟨h0, h1, h2, h3, h4, h5, h6, h7⟩ := h
  exact ⟨m, z, hx, hy, rfl, by rw [h0]; exact hw, by rw [h1]; exact hp, by rw [h2]; exact ho, by rw [h3]; exact hc, by rw [h4]; exact hd⟩
theorem rN_let (hx : rI R J x 0 a m) (hy : rI R J y 0 m z) (h : rV R z w p o c d t q) (hw : w.toInt = 6) (hp : p.toInt = pp) (ho : o.toInt = (s : Int)) (hc : c.toInt = (m : Int) - 1) (hd : d.toInt = (z : Int) - 1) : rI R J (Tm.tlet pp s x y) 0 a (z + 1) := by
  obtain ⟨h0, h1, h2, h3, h4, h5, h6, h7⟩ := h
  exact ⟨m, z, hx, hy, rfl, by rw [h0]; exact hw, by rw [h1]; exact hp, by rw [h2]; exact ho, by rw [h3]; exact hc, by rw [h4]; exact hd⟩
theorem rN_ite (hx : rI R J x 0 a m) (hy : rI R J y 0 m n) (hu : rI R J u 0 n z) (h : rV R z w p o c d t q) (hw : w.toInt = 7) (hp : p.toInt = pp) (hc : c.toInt = (m : Int) - 1) (hd : d.toInt = (n : Int) - 1) (ht : t.toInt = (z : Int) - 1) : rI R J (Tm.ite pp x y u) 0 a (z + 1) := by
  obtain ⟨h0, h1, h2, h3, h4, h5, h6, h7⟩ := h
  exact ⟨m, n, z, hx, hy, hu, rfl, by rw [h0]; exact hw, by rw [h1]; exact hp, by rw [h3]; exact hc, by rw [h4]; exact hd, by rw [h5]; exact ht⟩
theorem rN_mat (hx : rI R J x c a z) (h : rV R z w p o c d t q) (hw : w.toInt = 8) (hp : p.toInt = pp) (ho : o.toInt = (s : Int)) : rI R J (Tm.mat pp s x) 0 a (z + 1) := by
  obtain ⟨h0, h1, h2, h3, h4, h5, h6, h7⟩ := h
  exact ⟨z, by rw [h3]; exact hx, rfl, by rw [h0]; exact hw, by rw [h1]; exact hp, by rw [h2]; exact ho⟩
theorem rN_arm {mm : Nat} (hx : rI R J x 0 a z) (h : rV R z w p o c d t q) (hw : w.toInt = 9) (hp : p.toInt = pp) (ho : o.toInt = vv) (hd : d.toInt = (s : Int)) (hq : q.toInt = (mm : Int)) (hc : c.toInt = (z : Int) - 1) : rI R J (Tm.arm pp vv s mm x) 0 a (z + 1) := by
  obtain ⟨h0, h1, h2, h3, h4, h5, h6, h7⟩ := h
  exact ⟨z, hx, rfl, by rw [h0]; exact hw, by rw [h1]; exact hp, by rw [h2]; exact ho, by rw [h4]; exact hd, by rw [h7]; exact hq, by rw [h3]; exact hc⟩
theorem rN_b {b2 : Nat} {fi : Int32} (h : rI R J x fi a z) (e : z = b2) : rI R J x fi a b2 := e ▸ h
end
