/-! the reference in a plain run: its tasks as the plain machine has them -/
/-- what is needed of a tree that is to be done -/
def tm_dn : Tm → Nat → Bool
  | .branch 1 (.leaf (some (_ + 1, _, _, s, _, _))) (.branch _ _ y), j => tm_ub y j && !(j == s)
  | .branch 2 (.leaf (some (_, _, _, _, _, _))) (.branch _ _ (.branch _ y w)), j => tm_ub y j || tm_ub w j
  | _, _ => false
theorem dn_ub : ∀ (t : Tm) {j : Nat}, tm_dn t j = true → tm_ub t j = true
  | .branch 1 (.leaf (some (_ + 1, _, _, s, _, _))) (.branch _ x y), j, h => by
    show (tm_ub x j || (tm_ub y j && !(j == s))) = true
    rw [show (tm_ub y j && !(j == s)) = true from h, Bool.or_true]
  | .branch 2 (.leaf (some (_, _, _, _, _, _))) (.branch _ x (.branch _ y w)), j, h => by
    show (tm_ub x j || tm_ub y j || tm_ub w j) = true
    rw [Bool.or_assoc, show (tm_ub y j || tm_ub w j) = true from h, Bool.or_true]
  | .leaf (some (0, _, _, _, _, _)), _, h => nomatch (show false = true from h)
  | .leaf (some (_ + 1, _, _, _, _, _)), _, h => nomatch (show false = true from h)
  | .branch 0 (.leaf (some (0, _, _, _, _, _))) _, _, h => nomatch (show false = true from h)
  | .branch 0 (.leaf (some (1, _, _, _, _, _))) _, _, h => nomatch (show false = true from h)
  | .branch 0 (.leaf (some (2, _, _, _, _, _))) _, _, h => nomatch (show false = true from h)
  | .branch 1 (.leaf (some (0, _, _, _, _, _))) (.branch _ _ _), _, h => nomatch (show false = true from h)
  | .branch 0 (.leaf (some (_ + 3, _, _, _, _, _))) _, _, h => nomatch (show false = true from h)
  | .leaf none, _, h => nomatch (show false = true from h)
  | .branch (_ + 3) _ _, _, h => nomatch (show false = true from h)
  | .branch 0 (.leaf none) _, _, h => nomatch (show false = true from h)
  | .branch 0 (.branch _ _ _) _, _, h => nomatch (show false = true from h)
  | .branch 1 (.leaf none) _, _, h => nomatch (show false = true from h)
  | .branch 1 (.branch _ _ _) _, _, h => nomatch (show false = true from h)
  | .branch 1 (.leaf (some (0, _, _, _, _, _))) (.leaf _), _, h => nomatch (show false = true from h)
  | .branch 1 (.leaf (some (_ + 1, _, _, _, _, _))) (.leaf _), _, h => nomatch (show false = true from h)
  | .branch 2 (.leaf none) _, _, h => nomatch (show false = true from h)
  | .branch 2 (.branch _ _ _) _, _, h => nomatch (show false = true from h)
  | .branch 2 (.leaf (some (_, _, _, _, _, _))) (.leaf _), _, h => nomatch (show false = true from h)
  | .branch 2 (.leaf (some (_, _, _, _, _, _))) (.branch _ _ (.leaf _)), _, h => nomatch (show false = true from h)
def pm_nd (j : Nat) (t : Tm) (i : Nat) : Bool := if j = 0 then tm_ub t i else tm_dn t i
theorem nd_ub {j i : Nat} {t : Tm} (h : pm_nd j t i = true) : tm_ub t i = true := by
  unfold pm_nd at h
  split at h
  · exact h
  · exact dn_ub t h
theorem nd_wf {zk : Nat} {fd : Nat → Int32} {j i d : Nat} {t : Tm} (w : tm_wf zk fd t d) (h : pm_nd j t i = true) : i < d := wf_ub t w (nd_ub h)
/-- the names of the calls that are open -/
def rN (zk : Nat) (fd : Nat → Int32) (sl : Nat → Int64) : List (Nat × Tm) → List (Nat → Int64) → Nat → Nat → Prop
  | [], E, o, _ => E = [] ∧ o = 0
  | (j, t) :: K, E, o, c => ∃ (e : Nat → Int64) (E' : List (Nat → Int64)) (o' : Nat), E = e :: E' ∧ o = o' + 1 ∧ ((j = 2 ∧ ∃ d, d ≤ 24 ∧ rN zk fd sl K E' o' d) ∨ (j ≠ 2 ∧ ∃ d, d ≤ c ∧ tm_wf zk fd t d ∧ (∀ i, pm_nd j t i = true → sl (24 * o' + i) = e i) ∧ rN zk fd sl K E o d))
section
variable {zk : Nat} {fd : Nat → Int32} {sl sl2 : Nat → Int64}
theorem rN_mo {c c2 : Nat} (hc : c ≤ c2) : ∀ {K : List (Nat × Tm)} {E : List (Nat → Int64)} {o : Nat}, rN zk fd sl K E o c → rN zk fd sl K E o c2
  | [], _, _, h => h
  | (j, t) :: K, E, o, ⟨e, E', o', h1, h2, h3⟩ => ⟨e, E', o', h1, h2, h3.imp id (fun ⟨a, d, b, r⟩ => ⟨a, d, Nat.le_trans b hc, r⟩)⟩
theorem rN_lo : ∀ {K : List (Nat × Tm)} {E : List (Nat → Int64)} {o c : Nat}, (∀ i, i < 24 * o → sl2 i = sl i) → c ≤ 24 → rN zk fd sl K E o c → rN zk fd sl2 K E o c
  | [], _, _, _, _, _, h => h
  | (j, t) :: K, E, o, c, hs, hc, ⟨e, E', o', h1, h2, h3⟩ => ⟨e, E', o', h1, h2, h3.elim (fun ⟨a, d, b, r⟩ => Or.inl ⟨a, d, b, rN_lo (fun i hi => hs i (by omega)) b r⟩) (fun ⟨a, d, b, w, q, r⟩ => Or.inr ⟨a, d, b, w, fun i hi => (by have := nd_wf w hi; rw [hs _ (by omega)]; exact q i hi), rN_lo hs (by omega) r⟩)⟩
theorem rN_hd {o' : Nat} {e e2 : Nat → Int64} {E' : List (Nat → Int64)} (hl : ∀ i, i < 24 * o' → sl2 i = sl i) : ∀ {K : List (Nat × Tm)} {c : Nat}, c ≤ 24 → (∀ i, i < c → sl2 (24 * o' + i) = sl (24 * o' + i) ∧ e2 i = e i) → rN zk fd sl K (e :: E') (o' + 1) c → rN zk fd sl2 K (e2 :: E') (o' + 1) c
  | [], _, _, _, h => nomatch h.1
  | (j, t) :: K, c, hc, hg, ⟨f, E2, o2, h1, h2, h3⟩ => by
    cases h1
    obtain rfl : o2 = o' := by omega
    refine ⟨e2, E', o2, rfl, rfl, h3.elim (fun ⟨a, d, b, r⟩ => Or.inl ⟨a, d, b, rN_lo hl b r⟩) (fun ⟨a, d, b, w, q, r⟩ => Or.inr ⟨a, d, b, w, fun i hi => ?_, rN_hd hl (by omega) (fun i hi => hg i (by omega)) r⟩)⟩
    have := nd_wf w hi
    rw [(hg i (by omega)).1, (hg i (by omega)).2]; exact q i hi
theorem rN_t {j : Nat} {t : Tm} {K : List (Nat × Tm)} {E : List (Nat → Int64)} {o c : Nat} (h : rN zk fd sl ((j, t) :: K) E o c) (hj : j ≠ 2) : ∃ (e : Nat → Int64) (E' : List (Nat → Int64)) (o' d : Nat), E = e :: E' ∧ o = o' + 1 ∧ d ≤ c ∧ tm_wf zk fd t d ∧ (∀ i, pm_nd j t i = true → sl (24 * o' + i) = e i) ∧ rN zk fd sl K (e :: E') (o' + 1) d := by
  obtain ⟨e, E', o', h1, h2, h3⟩ := h
  obtain ⟨-, d, b, w, q, r⟩ := h3.resolve_left (fun g => hj g.1)
  subst h1
  subst h2
  exact ⟨e, E', o', d, rfl, rfl, b, w, q, r⟩
theorem rN_c {j : Nat} {t : Tm} {K : List (Nat × Tm)} {e : Nat → Int64} {E' : List (Nat → Int64)} {o' d : Nat} (hj : j ≠ 2) (w : tm_wf zk fd t d) (q : ∀ i, pm_nd j t i = true → sl (24 * o' + i) = e i) (r : rN zk fd sl K (e :: E') (o' + 1) d) : rN zk fd sl ((j, t) :: K) (e :: E') (o' + 1) d := ⟨e, E', o', rfl, rfl, Or.inr ⟨hj, d, Nat.le_refl _, w, q, r⟩⟩
theorem rN_as {K : List (Nat × Tm)} {e : Nat → Int64} {E' : List (Nat → Int64)} {o' d : Nat} (r : rN zk fd sl K (e :: E') (o' + 1) d) : ∀ (x : Tm), tm_li x → tm_wf zk fd x d → (∀ i, tm_ub x i = true → sl (24 * o' + i) = e i) → rN zk fd sl (pm_as x ++ K) (e :: E') (o' + 1) d
  | .leaf none, _, _, _ => r
  | .branch (_ + 3) x y, hl, hw, hu => rN_c (j := 0) (t := x) (K := pm_as y ++ K) (by decide) hw.1 (fun i hi => hu i (by show (tm_ub x i || tm_ub y i) = true; rw [show tm_ub x i = true from hi]; rfl)) (rN_as r y hl hw.2 (fun i hi => hu i (by show (tm_ub x i || tm_ub y i) = true; rw [hi, Bool.or_true])))
  | .leaf (some (0, _, _, _, _, _)), g, _, _ => g.elim
  | .leaf (some (_ + 1, _, _, _, _, _)), g, _, _ => g.elim
  | .branch 0 (.leaf (some (0, _, _, _, _, _))) _, g, _, _ => g.elim
  | .branch 0 (.leaf (some (1, _, _, _, _, _))) _, g, _, _ => g.elim
  | .branch 1 (.leaf (some (0, _, _, _, _, _))) (.branch _ _ _), g, _, _ => g.elim
  | .branch 1 (.leaf (some (_ + 1, _, _, _, _, _))) (.branch _ _ _), g, _, _ => g.elim
  | .branch 2 (.leaf (some (_, _, _, _, _, _))) (.branch _ _ (.branch _ _ _)), g, _, _ => g.elim
  | .branch 0 (.leaf (some (2, _, _, _, _, _))) _, g, _, _ => g.elim
  | .branch 0 (.leaf (some (_ + 3, _, _, _, _, _))) _, g, _, _ => g.elim
  | .branch 0 (.leaf none) _, g, _, _ => g.elim
  | .branch 0 (.branch _ _ _) _, g, _, _ => g.elim
  | .branch 1 (.leaf none) _, g, _, _ => g.elim
  | .branch 1 (.branch _ _ _) _, g, _, _ => g.elim
  | .branch 1 (.leaf (some (0, _, _, _, _, _))) (.leaf _), g, _, _ => g.elim
  | .branch 1 (.leaf (some (_ + 1, _, _, _, _, _))) (.leaf _), g, _, _ => g.elim
  | .branch 2 (.leaf none) _, g, _, _ => g.elim
  | .branch 2 (.branch _ _ _) _, g, _, _ => g.elim
  | .branch 2 (.leaf (some (_, _, _, _, _, _))) (.leaf _), g, _, _ => g.elim
  | .branch 2 (.leaf (some (_, _, _, _, _, _))) (.branch _ _ (.leaf _)), g, _, _ => g.elim
end
section
variable {B : Nat → Nat → Int32} {J : Nat → Int64 → Prop} {z zk : Nat} {fd : Nat → Int32}
/-- what is worked at a part -/
theorem rA_x {k : Int32} {n d : Nat} : ∀ (t : Tm), sy_x t → rAt B J z t k → n = Int32.toNatClampNeg k → tm_wf zk fd t d → 0 ≤ k.toInt ∧ n < z ∧ pm_pl t = (B 1 n).toInt ∧
    (((B 0 n).toInt = 1 ∧ ∀ (K : List (Nat × Tm)) (V : List Int64) (E : List (Nat → Int64)) (m c : Nat) (ck : Nat → Int32) (cf : Nat → Int64), pm_w t K V E m c ck cf = .ok (K, pv0 (B 2 n) :: V, E, m, c, ck, cf)) ∨
    ((B 0 n).toInt = 2 ∧ 0 ≤ (B 2 n).toInt ∧ tm_ub t (Int32.toNatClampNeg (B 2 n)) = true ∧ ∀ (K : List (Nat × Tm)) (V : List Int64) (E : List (Nat → Int64)) (m c : Nat) (ck : Nat → Int32) (cf : Nat → Int64), pm_w t K V E m c ck cf = .ok (K, E.headD (fun _ => 0) (Int32.toNatClampNeg (B 2 n)) :: V, E, m, c, ck, cf)) ∨
    (((B 0 n).toInt = 3 ∨ (B 0 n).toInt = 4) ∧ ∃ (x t2 : Tm) (a : Nat), tm_li x ∧ tm_sy x false ∧ rI B J x (B 3 n) a n ∧ (rAt B J z t2 k ∧ sy_x t2 ∧ tm_wf zk fd t2 d ∧ ∀ i, tm_dn t2 i = true → tm_ub t i = true) ∧ tm_wf zk fd x d ∧ (∀ i, tm_ub x i = true → tm_ub t i = true) ∧ ∀ (K : List (Nat × Tm)) (V : List Int64) (E : List (Nat → Int64)) (m c : Nat) (ck : Nat → Int32) (cf : Nat → Int64), pm_w t K V E m c ck cf = .ok (pm_as x ++ (1, t2) :: K, V, E, m, c, ck, cf)) ∨
    ((B 0 n).toInt = 5 ∧ ∃ (x y t2 : Tm), (rAt B J z x (B 3 n) ∧ sy_x x ∧ tm_wf zk fd x d ∧ ∀ i, tm_ub x i = true → tm_ub t i = true) ∧ (rAt B J z y (B 4 n) ∧ sy_x y ∧ tm_wf zk fd y d ∧ ∀ i, tm_ub y i = true → tm_ub t i = true) ∧ (rAt B J z t2 k ∧ sy_x t2 ∧ tm_wf zk fd t2 d ∧ ∀ i, tm_dn t2 i = true → tm_ub t i = true) ∧ ∀ (K : List (Nat × Tm)) (V : List Int64) (E : List (Nat → Int64)) (m c : Nat) (ck : Nat → Int32) (cf : Nat → Int64), pm_w t K V E m c ck cf = .ok ((0, x) :: (0, y) :: (1, t2) :: K, V, E, m, c, ck, cf)) ∨
    (((B 0 n).toInt = 6 ∨ (B 0 n).toInt = 7) ∧ ∃ (x t2 : Tm), (rAt B J z x (B 3 n) ∧ sy_x x ∧ tm_wf zk fd x d ∧ ∀ i, tm_ub x i = true → tm_ub t i = true) ∧ (rAt B J z t2 k ∧ sy_x t2 ∧ tm_wf zk fd t2 d ∧ ∀ i, tm_dn t2 i = true → tm_ub t i = true) ∧ ∀ (K : List (Nat × Tm)) (V : List Int64) (E : List (Nat → Int64)) (m c : Nat) (ck : Nat → Int32) (cf : Nat → Int64), pm_w t K V E m c ck cf = .ok ((0, x) :: (1, t2) :: K, V, E, m, c, ck, cf)) ∨
    ((B 0 n).toInt = 8 ∧ 0 ≤ (B 2 n).toInt ∧ tm_ub t (Int32.toNatClampNeg (B 2 n)) = true ∧ ∃ (x t2 : Tm) (a : Nat), tm_li x ∧ tm_sy x true ∧ rI B J x (B 3 n) a n ∧ tm_wf zk fd x d ∧ (∀ i, tm_ub x i = true → tm_ub t i = true) ∧ (∀ (K : List (Nat × Tm)) (V : List Int64) (E : List (Nat → Int64)) (m c : Nat) (ck : Nat → Int32) (cf : Nat → Int64), pm_w t K V E m c ck cf = .ok ((1, t2) :: K, V, E, m, c, ck, cf)) ∧ ∀ (F : sp_F) (K : List (Nat × Tm)) (V : List Int64) (E : List (Nat → Int64)) (m c : Nat) (ck : Nat → Int32) (cf : Nat → Int64), pm_d F t2 K V E m c ck cf = pm_mt (B 1 n).toInt (Int32.toNatClampNeg (B 2 n)) x K V E m c ck cf))
  | .leaf (some (0, p, v, _, _, _)), _, ⟨a, b, h1, h2, h3, ⟨g1, g2, g3, g4⟩, h5⟩, e, _ => by
    have hn : n = a := by have := zn_nat (x := k) (by omega); omega
    subst hn
    exact ⟨by omega, by omega, g3.symm, Or.inl ⟨g2, fun _ _ _ _ _ _ _ => by rw [← pi_of g4]; rfl⟩⟩
  | .leaf (some (_ + 1, p, _, s, _, _)), _, ⟨a, b, h1, h2, h3, ⟨g1, g2, g3, g4⟩, h5⟩, e, _ => by
    have hn : n = a := by have := zn_nat (x := k) (by omega); omega
    subst hn
    have es : Int32.toNatClampNeg (B 2 n) = s := by have := zn_nat (x := B 2 n) (by omega); omega
    exact ⟨by omega, by omega, g3.symm, Or.inr (Or.inl ⟨g2, by omega, by rw [es]; exact beq_self_eq_true s, fun _ _ _ _ _ _ _ => by rw [es]; rfl⟩)⟩
  | .branch 0 (.leaf (some (0, p, _, _, _, w))) x, hs, ⟨a, b, h1, h2, h3, ⟨m, g1, g2, g3, g4, g5, g6⟩, h5⟩, e, hw => by
    have hn : n = m := by have := zn_nat (x := k) (by omega); omega
    subst hn
    exact ⟨by omega, by omega, g4.symm, Or.inr (Or.inr (Or.inl ⟨Or.inl g3, x, Tm.call p w x, a, hs.2.1, hs.2.2, g1, ⟨⟨a, b, h1, h2, h3, ⟨n, g1, g2, g3, g4, g5, g6⟩, fun g => g⟩, ⟨rfl, hs.2⟩, hw, fun _ g => nomatch (show false = true from g)⟩, hw, fun _ g => g, fun _ _ _ _ _ _ _ => rfl⟩))⟩
  | .branch 0 (.leaf (some (1, p, _, c, _, _))) x, hs, ⟨a, b, h1, h2, h3, ⟨m, g1, g2, g3, g4, g5, g6⟩, h5⟩, e, hw => by
    have hn : n = m := by have := zn_nat (x := k) (by omega); omega
    subst hn
    exact ⟨by omega, by omega, g4.symm, Or.inr (Or.inr (Or.inl ⟨Or.inr g3, x, Tm.made p c x, a, hs.2.1, hs.2.2, g1, ⟨⟨a, b, h1, h2, h3, ⟨n, g1, g2, g3, g4, g5, g6⟩, fun g => g⟩, ⟨rfl, hs.2⟩, hw, fun _ g => nomatch (show false = true from g)⟩, hw.2, fun _ g => g, fun _ _ _ _ _ _ _ => rfl⟩))⟩
  | .branch 1 (.leaf (some (0, p, o, _, _, _))) (.branch _ x y), hs, ⟨a, b, h1, h2, h3, ⟨m, q, g1, g2, g3, g4, g5, g6, g7, g8⟩, h5⟩, e, hw => by
    have hn : n = q := by have := zn_nat (x := k) (by omega); omega
    subst hn
    have l1 := rI_1s hs.2.1.1 g1
    have l2 := rI_1s hs.2.2.1 g2
    refine ⟨by omega, by omega, g5.symm, Or.inr (Or.inr (Or.inr (Or.inl ⟨g4, x, y, Tm.bin p o x y, ⟨⟨a, m, g7, by omega, by omega, g1, l1.2⟩, hs.2.1, hw.1, fun i g => ?_⟩, ⟨⟨m, n, g8, by omega, by omega, g2, l2.2⟩, hs.2.2, hw.2, fun i g => ?_⟩, ⟨⟨a, b, h1, h2, h3, ⟨m, n, g1, g2, g3, g4, g5, g6, g7, g8⟩, fun g => g⟩, ⟨rfl, hs.2⟩, hw, fun _ g => nomatch (show false = true from g)⟩, fun _ _ _ _ _ _ _ => rfl⟩)))⟩
    · show (tm_ub x i || tm_ub y i) = true
      rw [g]; rfl
    · show (tm_ub x i || tm_ub y i) = true
      rw [g, Bool.or_true]
  | .branch 1 (.leaf (some (_ + 1, p, _, s, _, _))) (.branch _ x y), hs, ⟨a, b, h1, h2, h3, ⟨m, q, g1, g2, g3, g4, g5, g6, g7, g8⟩, h5⟩, e, hw => by
    have hn : n = q := by have := zn_nat (x := k) (by omega); omega
    subst hn
    have l1 := rI_1s hs.2.1.1 g1
    have l2 := rI_1s hs.2.2.1 g2
    refine ⟨by omega, by omega, g5.symm, Or.inr (Or.inr (Or.inr (Or.inr (Or.inl ⟨Or.inl g4, x, Tm.tlet p s x y, ⟨⟨a, m, g7, by omega, by omega, g1, l1.2⟩, hs.2.1, hw.2.1, fun i g => ?_⟩, ⟨⟨a, b, h1, h2, h3, ⟨m, n, g1, g2, g3, g4, g5, g6, g7, g8⟩, fun g => g⟩, ⟨rfl, hs.2⟩, hw, fun i g => ?_⟩, fun _ _ _ _ _ _ _ => rfl⟩))))⟩
    · show (tm_ub x i || (tm_ub y i && !(i == s))) = true
      rw [g]; rfl
    · show (tm_ub x i || (tm_ub y i && !(i == s))) = true
      rw [show (tm_ub y i && !(i == s)) = true from g, Bool.or_true]
  | .branch 2 (.leaf (some (_, p, _, _, _, _))) (.branch _ x (.branch _ y w)), hs, ⟨a, b, h1, h2, h3, ⟨m, o, q, g1, g2, g9, g3, g4, g5, g6, g7, g8⟩, h5⟩, e, hw => by
    have hn : n = q := by have := zn_nat (x := k) (by omega); omega
    subst hn
    have l1 := rI_1s hs.2.1.1 g1
    have l2 := rI_1s hs.2.2.1.1 g2
    have l3 := rI_1s hs.2.2.2.1 g9
    refine ⟨by omega, by omega, g5.symm, Or.inr (Or.inr (Or.inr (Or.inr (Or.inl ⟨Or.inr g4, x, Tm.ite p x y w, ⟨⟨a, m, g6, by omega, by omega, g1, l1.2⟩, hs.2.1, hw.1, fun i g => ?_⟩, ⟨⟨a, b, h1, h2, h3, ⟨m, o, n, g1, g2, g9, g3, g4, g5, g6, g7, g8⟩, fun g => g⟩, ⟨rfl, hs.2⟩, hw, fun i g => ?_⟩, fun _ _ _ _ _ _ _ => rfl⟩))))⟩
    · show (tm_ub x i || tm_ub y i || tm_ub w i) = true
      rw [g]; rfl
    · show (tm_ub x i || tm_ub y i || tm_ub w i) = true
      rw [Bool.or_assoc, show (tm_ub y i || tm_ub w i) = true from g, Bool.or_true]
  | .branch 0 (.leaf (some (2, p, _, s, _, _))) x, hs, ⟨a, b, h1, h2, h3, ⟨m, g1, g2, g3, g4, g5⟩, h5⟩, e, hw => by
    have hn : n = m := by have := zn_nat (x := k) (by omega); omega
    subst hn
    have es : Int32.toNatClampNeg (B 2 n) = s := by have := zn_nat (x := B 2 n) (by omega); omega
    refine ⟨by omega, by omega, g4.symm, Or.inr (Or.inr (Or.inr (Or.inr (Or.inr ⟨g3, by omega, ?_, x, Tm.mat p s x, a, hs.2.1, hs.2.2, g1, hw.2, fun i g => ?_, fun _ _ _ _ _ _ _ => rfl, fun _ _ _ _ _ _ _ _ => by rw [es, g4]; rfl⟩))))⟩
    · show ((Int32.toNatClampNeg (B 2 n) == s) || tm_ub x (Int32.toNatClampNeg (B 2 n))) = true
      rw [es, beq_self_eq_true]; rfl
    · show ((i == s) || tm_ub x i) = true
      rw [g, Bool.or_true]
  | .leaf none, hs, _, _, _ => absurd hs.1 (by decide)
  | .branch (_ + 3) _ _, hs, _, _, _ => absurd hs.1 (fun g => nomatch (show (0 : Nat) = 1 from g))
  | .branch 0 (.leaf (some (_ + 3, _, _, _, _, _))) _, hs, _, _, _ => absurd hs.1 (fun g => nomatch (show (2 : Nat) = 1 from g))
  | .branch 0 (.leaf none) _, hs, _, _, _ => absurd hs.1 (fun g => nomatch (show (0 : Nat) = 1 from g))
  | .branch 0 (.branch _ _ _) _, hs, _, _, _ => absurd hs.1 (fun g => nomatch (show (0 : Nat) = 1 from g))
  | .branch 1 (.leaf none) _, hs, _, _, _ => absurd hs.1 (fun g => nomatch (show (0 : Nat) = 1 from g))
  | .branch 1 (.branch _ _ _) _, hs, _, _, _ => absurd hs.1 (fun g => nomatch (show (0 : Nat) = 1 from g))
  | .branch 1 (.leaf (some (0, _, _, _, _, _))) (.leaf _), hs, _, _, _ => absurd hs.1 (fun g => nomatch (show (0 : Nat) = 1 from g))
  | .branch 1 (.leaf (some (_ + 1, _, _, _, _, _))) (.leaf _), hs, _, _, _ => absurd hs.1 (fun g => nomatch (show (0 : Nat) = 1 from g))
  | .branch 2 (.leaf none) _, hs, _, _, _ => absurd hs.1 (fun g => nomatch (show (0 : Nat) = 1 from g))
  | .branch 2 (.branch _ _ _) _, hs, _, _, _ => absurd hs.1 (fun g => nomatch (show (0 : Nat) = 1 from g))
  | .branch 2 (.leaf (some (_, _, _, _, _, _))) (.leaf _), hs, _, _, _ => absurd hs.1 (fun g => nomatch (show (0 : Nat) = 1 from g))
  | .branch 2 (.leaf (some (_, _, _, _, _, _))) (.branch _ _ (.leaf _)), hs, _, _, _ => absurd hs.1 (fun g => nomatch (show (0 : Nat) = 1 from g))
/-- what is done at a part -/
theorem rA_d {k : Int32} {n d : Nat} : ∀ (t : Tm), sy_x t → rAt B J z t k → n = Int32.toNatClampNeg k → tm_wf zk fd t d → 0 ≤ k.toInt ∧ n < z ∧
    (((B 0 n).toInt = 1 ∨ (B 0 n).toInt = 2 ∨ (B 0 n).toInt = 8) ∨
    ((B 0 n).toInt = 3 ∧ ∃ wd, J n wd ∧ pm_cl t wd (B 1 n).toInt) ∨
    ((B 0 n).toInt = 4 ∧ ∃ (m q : Nat), (B 2 n).toInt = (q : Int) ∧ (B 7 n).toInt = (m : Int) ∧ q < zk ∧ (fd q).toInt = (m : Int) ∧ ∀ (F : sp_F) (K : List (Nat × Tm)) (V : List Int64) (E : List (Nat → Int64)) (u c : Nat) (ck : Nat → Int32) (cf : Nat → Int64), pm_d F t K V E u c ck cf = if m = 0 then .ok (K, pv1 (B 2 n) :: V, E, u, c, ck, cf) else if 4000 ≤ c then .error (3, (B 1 n).toInt) else .ok (K, pv2 (Int32.ofInt (c : Int)) :: V.drop m, E, u, c + 1, upd ck c (B 2 n), pm_cf cf V c m)) ∨
    ((B 0 n).toInt = 5 ∧ ∀ (F : sp_F) (K : List (Nat × Tm)) (V : List Int64) (E : List (Nat → Int64)) (u c : Nat) (ck : Nat → Int32) (cf : Nat → Int64), pm_d F t K V E u c ck cf = if zhs (V.getD 1 0) = 0 ∧ zhs (V.getD 0 0) = 0 then .ok (K, pv0 (pm_op (B 2 n).toInt (V.getD 1 0).toInt32 (V.getD 0 0).toInt32) :: V.drop 2, E, u, c, ck, cf) else .error (2, (B 1 n).toInt)) ∨
    ((B 0 n).toInt = 6 ∧ (B 2 n).toInt = (d : Int) ∧ d < 24 ∧ ∃ y : Tm, rAt B J z y (B 4 n) ∧ sy_x y ∧ tm_wf zk fd y (d + 1) ∧ (∀ i, tm_ub y i = true → i ≠ d → tm_dn t i = true) ∧ ∀ (F : sp_F) (K : List (Nat × Tm)) (V : List Int64) (E : List (Nat → Int64)) (u c : Nat) (ck : Nat → Int32) (cf : Nat → Int64), pm_d F t K V E u c ck cf = .ok ((0, y) :: K, V.drop 1, vp_updL (E.headD (fun _ => 0)) d (V.getD 0 0) :: E.tail, u, c, ck, cf)) ∨
    ((B 0 n).toInt = 7 ∧ ∃ y w : Tm, (rAt B J z y (B 4 n) ∧ sy_x y ∧ tm_wf zk fd y d ∧ ∀ i, tm_ub y i = true → tm_dn t i = true) ∧ (rAt B J z w (B 5 n) ∧ sy_x w ∧ tm_wf zk fd w d ∧ ∀ i, tm_ub w i = true → tm_dn t i = true) ∧ ∀ (F : sp_F) (K : List (Nat × Tm)) (V : List Int64) (E : List (Nat → Int64)) (u c : Nat) (ck : Nat → Int32) (cf : Nat → Int64), pm_d F t K V E u c ck cf = if zhs (V.getD 0 0) = 0 then .ok ((0, if (V.getD 0 0).toInt32 = 0 then w else y) :: K, V.drop 1, E, u, c, ck, cf) else .error (2, (B 1 n).toInt)))
  | .leaf (some (0, p, v, _, _, _)), _, ⟨a, b, h1, h2, h3, ⟨g1, g2, g3, g4⟩, h5⟩, e, _ => by
    have hn : n = a := by have := zn_nat (x := k) (by omega); omega
    subst hn
    exact ⟨by omega, by omega, Or.inl (Or.inl g2)⟩
  | .leaf (some (_ + 1, p, _, s, _, _)), _, ⟨a, b, h1, h2, h3, ⟨g1, g2, g3, g4⟩, h5⟩, e, _ => by
    have hn : n = a := by have := zn_nat (x := k) (by omega); omega
    subst hn
    exact ⟨by omega, by omega, Or.inl (Or.inr (Or.inl g2))⟩
  | .branch 0 (.leaf (some (0, p, _, _, _, w))) x, hs, ⟨a, b, h1, h2, h3, ⟨m, g1, g2, g3, g4, g5, g6⟩, h5⟩, e, hw => by
    have hn : n = m := by have := zn_nat (x := k) (by omega); omega
    subst hn
    exact ⟨by omega, by omega, Or.inr (Or.inl ⟨g3, w, g5, fun _ _ _ _ _ _ _ _ => by rw [g4]; rfl⟩)⟩
  | .branch 0 (.leaf (some (1, p, _, c, _, _))) x, hs, ⟨a, b, h1, h2, h3, ⟨m, g1, g2, g3, g4, g5, g6⟩, h5⟩, e, hw => by
    have hn : n = m := by have := zn_nat (x := k) (by omega); omega
    subst hn
    exact ⟨by omega, by omega, Or.inr (Or.inr (Or.inl ⟨g3, tm_ln x, c, g5, g6, hw.1.1, hw.1.2, fun _ _ _ _ _ _ _ _ => by rw [← pi_of g5, g4]; rfl⟩))⟩
  | .branch 1 (.leaf (some (0, p, o, _, _, _))) (.branch _ x y), hs, ⟨a, b, h1, h2, h3, ⟨m, q, g1, g2, g3, g4, g5, g6, g7, g8⟩, h5⟩, e, hw => by
    have hn : n = q := by have := zn_nat (x := k) (by omega); omega
    subst hn
    exact ⟨by omega, by omega, Or.inr (Or.inr (Or.inr (Or.inl ⟨g4, fun _ _ _ _ _ _ _ _ => by rw [g6, g5]; rfl⟩)))⟩
  | .branch 1 (.leaf (some (_ + 1, p, _, s, _, _))) (.branch _ x y), hs, ⟨a, b, h1, h2, h3, ⟨m, q, g1, g2, g3, g4, g5, g6, g7, g8⟩, h5⟩, e, hw => by
    have hn : n = q := by have := zn_nat (x := k) (by omega); omega
    subst hn
    have l2 := rI_1s hs.2.2.1 g2
    obtain ⟨⟨rfl, w1⟩, w2, w3⟩ := hw
    refine ⟨by omega, by omega, Or.inr (Or.inr (Or.inr (Or.inr (Or.inl ⟨g4, g6, w1, y, ⟨m, n, g8, by omega, by omega, g2, l2.2⟩, hs.2.2, w3, fun i g gn => ?_, fun _ _ _ _ _ _ _ _ => rfl⟩))))⟩
    show (tm_ub y i && !(i == s)) = true
    rw [g, beq_false_of_ne gn]; rfl
  | .branch 2 (.leaf (some (_, p, _, _, _, _))) (.branch _ x (.branch _ y w)), hs, ⟨a, b, h1, h2, h3, ⟨m, o, q, g1, g2, g9, g3, g4, g5, g6, g7, g8⟩, h5⟩, e, hw => by
    have hn : n = q := by have := zn_nat (x := k) (by omega); omega
    subst hn
    have l2 := rI_1s hs.2.2.1.1 g2
    have l3 := rI_1s hs.2.2.2.1 g9
    refine ⟨by omega, by omega, Or.inr (Or.inr (Or.inr (Or.inr (Or.inr ⟨g4, y, w, ⟨⟨m, o, g7, by omega, by omega, g2, l2.2⟩, hs.2.2.1, hw.2.1, fun i g => ?_⟩, ⟨⟨o, n, g8, by omega, by omega, g9, l3.2⟩, hs.2.2.2, hw.2.2, fun i g => ?_⟩, fun _ _ _ _ _ _ _ _ => by rw [g5]; rfl⟩))))⟩
    · show (tm_ub y i || tm_ub w i) = true
      rw [g]; rfl
    · show (tm_ub y i || tm_ub w i) = true
      rw [g, Bool.or_true]
  | .branch 0 (.leaf (some (2, p, _, s, _, _))) x, hs, ⟨a, b, h1, h2, h3, ⟨m, g1, g2, g3, g4, g5⟩, h5⟩, e, hw => by
    have hn : n = m := by have := zn_nat (x := k) (by omega); omega
    subst hn
    exact ⟨by omega, by omega, Or.inl (Or.inr (Or.inr g3))⟩
  | .leaf none, hs, _, _, _ => absurd hs.1 (by decide)
  | .branch (_ + 3) _ _, hs, _, _, _ => absurd hs.1 (fun g => nomatch (show (0 : Nat) = 1 from g))
  | .branch 0 (.leaf (some (_ + 3, _, _, _, _, _))) _, hs, _, _, _ => absurd hs.1 (fun g => nomatch (show (2 : Nat) = 1 from g))
  | .branch 0 (.leaf none) _, hs, _, _, _ => absurd hs.1 (fun g => nomatch (show (0 : Nat) = 1 from g))
  | .branch 0 (.branch _ _ _) _, hs, _, _, _ => absurd hs.1 (fun g => nomatch (show (0 : Nat) = 1 from g))
  | .branch 1 (.leaf none) _, hs, _, _, _ => absurd hs.1 (fun g => nomatch (show (0 : Nat) = 1 from g))
  | .branch 1 (.branch _ _ _) _, hs, _, _, _ => absurd hs.1 (fun g => nomatch (show (0 : Nat) = 1 from g))
  | .branch 1 (.leaf (some (0, _, _, _, _, _))) (.leaf _), hs, _, _, _ => absurd hs.1 (fun g => nomatch (show (0 : Nat) = 1 from g))
  | .branch 1 (.leaf (some (_ + 1, _, _, _, _, _))) (.leaf _), hs, _, _, _ => absurd hs.1 (fun g => nomatch (show (0 : Nat) = 1 from g))
  | .branch 2 (.leaf none) _, hs, _, _, _ => absurd hs.1 (fun g => nomatch (show (0 : Nat) = 1 from g))
  | .branch 2 (.branch _ _ _) _, hs, _, _, _ => absurd hs.1 (fun g => nomatch (show (0 : Nat) = 1 from g))
  | .branch 2 (.leaf (some (_, _, _, _, _, _))) (.leaf _), hs, _, _, _ => absurd hs.1 (fun g => nomatch (show (0 : Nat) = 1 from g))
  | .branch 2 (.leaf (some (_, _, _, _, _, _))) (.branch _ _ (.leaf _)), hs, _, _, _ => absurd hs.1 (fun g => nomatch (show (0 : Nat) = 1 from g))
end
