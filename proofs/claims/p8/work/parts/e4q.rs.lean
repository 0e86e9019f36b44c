/-! one task of the reference, one or two steps of the plain machine -/
def zfa (ow : Nat → Int32) (kd : Int) : List Nat → Option Nat
  | [] => none
  | a :: R => if (ow a).toInt = -1 ∨ (ow a).toInt = kd then some a else zfa ow kd R
/-- the fields that are bound -/
def zMs (sl sl2 : Nat → Int64) (b m : Nat) (u : Int32) (h : Nat) (cf : Nat → Int64) (q : Nat) : Prop := (∀ j, (∀ i, i < m → j ≠ b + i) → sl2 j = sl j) ∧ ∀ i, i < m → zbit u (h + i) = true → sl2 (b + i) = cf (q + i)
/-- a match, plainly -/
def rMx (be ow on tw ma us : Nat → Int32) (fst : Int32) (kd : Int) (v : Int64) (cf : Nat → Int64) (o' : Nat) (sl sl2 : Nat → Int64) (w w2 p p2 : Nat → Int32) (t t2 : Nat) : Prop := ∃ r : Nat, (∀ R, zli be fst R → zfa ow kd R = some r) ∧ t2 = t + 1 ∧ (∃ x : Int32, x.toInt = 0 ∧ zTa w w2 t x) ∧ zTa p p2 t (on r) ∧ ((zhs v = 2 ∧ (ow r).toInt ≠ -1) → zMs sl sl2 (24 * o' + Int32.toNatClampNeg (tw r)) (Int32.toNatClampNeg (ma r)) (us (Int32.toNatClampNeg (on r))) (Int32.toNatClampNeg (tw r)) cf (3 * Int32.toNatClampNeg v.toInt32)) ∧ (¬ (zhs v = 2 ∧ (ow r).toInt ≠ -1) → sl2 = sl)
/-- what the run knows of the program's trees -/
def rQ (B : Nat → Nat → Int32) (J : Nat → Int64 → Prop) (z zk : Nat) (fd us bo to : Nat → Int32) (F : sp_F) : Prop :=
  (∀ (t : Tm) (k : Int32), sy_x t → rAt B J z t k → ∀ j, j < 32 → zbit (us (Int32.toNatClampNeg k)) j = tm_ub t j) ∧
  (∀ f, f < F.1 → rAt B J z (F.2.2.2 f) (bo f) ∧ sy_x (F.2.2.2 f) ∧ ∃ c : Nat, F.2.2.1 f = (c : Int) ∧ c ≤ 24 ∧ (to f).toInt = (c : Int) ∧ tm_wf zk fd (F.2.2.2 f) c) ∧
  (∀ k w, k < z → (B 0 k).toInt = 3 → J k w → (B 2 k).toInt = (sp_fi F.2.1 w F.1 : Int) ∧ sp_fi F.2.1 w F.1 < F.1)
/-- the reference's state is the plain machine's -/
def rS (B : Nat → Nat → Int32) (J : Nat → Int64 → Prop) (z zk : Nat) (fd : Nat → Int32) (F : sp_F) (al : Nat) (s0 : pm_S) (tw tp : Nat → Int32) (ts : Nat) (va : Nat → Int64) (vd : Nat) (sl : Nat → Int64) (o n np : Nat) (ck : Nat → Int32) (cf : Nat → Int64) : Prop :=
  ∃ (K : List (Nat × Tm)) (V : List Int64) (E : List (Nat → Int64)) (ck' : Nat → Int32) (cf' : Nat → Int64), pm_re F al s0 (K, V, E, n, np, ck', cf') ∧ rTk B J z tw tp K ts ∧ rVa vd va V ∧ (∃ c, c ≤ 24 ∧ rN zk fd sl K E o c) ∧ rCe fd ck cf np ck' cf'
/-- .. with one task taken -/
def rH (B : Nat → Nat → Int32) (J : Nat → Int64 → Prop) (z zk : Nat) (fd : Nat → Int32) (F : sp_F) (al : Nat) (s0 : pm_S) (tw tp : Nat → Int32) (ts : Nat) (va : Nat → Int64) (vd : Nat) (sl : Nat → Int64) (o n np : Nat) (ck : Nat → Int32) (cf : Nat → Int64) (j : Nat) (k : Int32) : Prop :=
  ∃ (t : Tm) (K : List (Nat × Tm)) (V : List Int64) (e : Nat → Int64) (E' : List (Nat → Int64)) (ck' : Nat → Int32) (cf' : Nat → Int64) (o' d : Nat), pm_re F al s0 ((j, t) :: K, V, e :: E', n, np, ck', cf') ∧ (rAt B J z t k ∧ sy_x t) ∧ rTk B J z tw tp K ts ∧ rVa vd va V ∧ (o = o' + 1 ∧ d ≤ 24 ∧ tm_wf zk fd t d ∧ (∀ i, pm_nd j t i = true → sl (24 * o' + i) = e i) ∧ rN zk fd sl K (e :: E') (o' + 1) d) ∧ rCe fd ck cf np ck' cf'
section
variable {B : Nat → Nat → Int32} {J : Nat → Int64 → Prop} {z zk : Nat} {fd us bo to : Nat → Int32} {F : sp_F} {al : Nat} {s0 : pm_S} {tw tp w1 p1 w2 p2 w3 p3 : Nat → Int32} {ts vd o n np : Nat} {va va2 : Nat → Int64} {sl sl2 : Nat → Int64} {ck ck2 : Nat → Int32} {cf cf2 : Nat → Int64} {k : Int32}
theorem rS_pop {m : Nat} (h : rS B J z zk fd F al s0 tw tp (m + 1) va vd sl o n np ck cf) : ((tw m).toInt = 0 ∧ rH B J z zk fd F al s0 tw tp m va vd sl o n np ck cf 0 (tp m)) ∨ ((tw m).toInt = 1 ∧ rH B J z zk fd F al s0 tw tp m va vd sl o n np ck cf 1 (tp m)) ∨ ((tw m).toInt = 3 ∧ ∃ o', o = o' + 1 ∧ rS B J z zk fd F al s0 tw tp m va vd sl o' n np ck cf) := by
  obtain ⟨K, V, E, ck', cf', h1, h2, h3, ⟨c, h4, h5⟩, h6⟩ := h
  match K, h1, h2, h5 with
  | [], _, h2, _ => exact absurd h2 (Nat.succ_ne_zero _)
  | (j, t) :: K, h1, h2, h5 =>
    obtain ⟨m', e, r, g⟩ := h2
    obtain rfl : m' = m := by omega
    rcases g with ⟨rfl, g1, g2, g3⟩ | ⟨rfl, g1, g2, g3⟩ | ⟨rfl, g1⟩
    · obtain ⟨e, E', o', d, rfl, rfl, b1, b2, b3, b4⟩ := rN_t h5 (by decide)
      exact Or.inl ⟨g1, t, K, V, e, E', ck', cf', o', d, h1, ⟨g2, g3⟩, r, h3, ⟨rfl, by omega, b2, b3, b4⟩, h6⟩
    · obtain ⟨e, E', o', d, rfl, rfl, b1, b2, b3, b4⟩ := rN_t h5 (by decide)
      exact Or.inr (Or.inl ⟨g1, t, K, V, e, E', ck', cf', o', d, h1, ⟨g2, g3⟩, r, h3, ⟨rfl, by omega, b2, b3, b4⟩, h6⟩)
    · obtain ⟨e, E', o', q1, q2, q3⟩ := h5
      obtain ⟨-, d, q4, q5⟩ := q3.resolve_right (fun g => g.1 rfl)
      subst q1
      exact Or.inr (Or.inr ⟨g1, o', q2, K, V, E', ck', cf', pm_re_s h1 pm_st_l, r, h3, ⟨d, q4, q5⟩, h6⟩)
theorem rS_end (h : rS B J z zk fd F al s0 tw tp 0 va vd sl o n np ck cf) : pm_ou F al s0 (1, -1) := by
  obtain ⟨K, V, E, ck', cf', h1, h2, h3, -, h6⟩ := h
  match K, h1, h2 with
  | [], h1, _ => exact pm_ou_s h1 rfl
  | (j, t) :: K, h1, h2 => obtain ⟨m', e, -⟩ := h2; exact absurd e (by omega)
theorem rTk_a {K : List (Nat × Tm)} {j : Nat} {t : Tm} {x y : Int32} (h : rTk B J z tw tp K ts) (a : zTa tw w2 ts x) (b : zTa tp p2 ts y) (hj : j = 0 ∧ x.toInt = 0 ∧ rAt B J z t y ∧ sy_x t ∨ j = 1 ∧ x.toInt = 1 ∧ rAt B J z t y ∧ sy_x t ∨ j = 2 ∧ x.toInt = 3) : rTk B J z w2 p2 ((j, t) :: K) (ts + 1) :=
  ⟨ts, rfl, rTk_cg (fun i hi => ⟨a.2 i hi, b.2 i hi⟩) h, by rw [a.1, b.1]; exact hj⟩
theorem rw_cut (h : rH B J z zk fd F al s0 tw tp ts va vd sl o n np ck cf 0 k) (e : n = al) : pm_ou F al s0 (5, (B 1 (Int32.toNatClampNeg k)).toInt) := by
  obtain ⟨t, K, V, e', E', ck', cf', o', d, h1, ⟨h2, h3⟩, h4, h5, ⟨h6, h7, h8, h9, h10⟩, h11⟩ := h
  obtain ⟨k0, kz, kp, -⟩ := rA_x t h3 h2 rfl h8
  subst e
  rw [← kp]
  exact pm_ou_s h1 pm_st_c
theorem rw_1 (h : rH B J z zk fd F al s0 tw tp ts va vd sl o n np ck cf 0 k) (hn : n ≠ al) (hw : (B 0 (Int32.toNatClampNeg k)).toInt = 1) (hp : zTl va va2 vd (pv0 (B 2 (Int32.toNatClampNeg k)))) : rS B J z zk fd F al s0 tw tp ts va2 (vd + 1) sl o (n + 1) np ck cf := by
  obtain ⟨t, K, V, e', E', ck', cf', o', d, h1, ⟨h2, h3⟩, h4, h5, ⟨h6, h7, h8, h9, h10⟩, h11⟩ := h
  obtain ⟨k0, kz, kp, kc⟩ := rA_x t h3 h2 rfl h8
  rcases kc with q | q | q | q | q | q
  · refine ⟨K, _, _, _, _, pm_re_s h1 ((pm_st_w hn).trans (q.2 _ _ _ _ _ _ _)), h4, rVa_pu h5 hp.2 hp.1, ⟨d, h7, by rw [h6]; exact h10⟩, h11⟩
  · exact absurd q.1 (by omega)
  · exact absurd q.1 (by omega)
  · exact absurd q.1 (by omega)
  · exact absurd q.1 (by omega)
  · exact absurd q.1 (by omega)
theorem rw_2 (h : rH B J z zk fd F al s0 tw tp ts va vd sl o n np ck cf 0 k) (hn : n ≠ al) (hw : (B 0 (Int32.toNatClampNeg k)).toInt = 2) (hp : zTl va va2 vd (sl (24 * (o - 1) + Int32.toNatClampNeg (B 2 (Int32.toNatClampNeg k))))) : rS B J z zk fd F al s0 tw tp ts va2 (vd + 1) sl o (n + 1) np ck cf := by
  obtain ⟨t, K, V, e', E', ck', cf', o', d, h1, ⟨h2, h3⟩, h4, h5, ⟨h6, h7, h8, h9, h10⟩, h11⟩ := h
  obtain ⟨k0, kz, kp, kc⟩ := rA_x t h3 h2 rfl h8
  rcases kc with q | q | q | q | q | q
  · exact absurd q.1 (by omega)
  · refine ⟨K, _, _, _, _, pm_re_s h1 ((pm_st_w hn).trans (q.2.2.2 _ _ _ _ _ _ _)), h4, rVa_pu h5 hp.2 ?_, ⟨d, h7, by rw [h6]; exact h10⟩, h11⟩
    rw [hp.1, h6, Nat.add_sub_cancel]
    exact h9 _ q.2.2.1
  · exact absurd q.1 (by omega)
  · exact absurd q.1 (by omega)
  · exact absurd q.1 (by omega)
  · exact absurd q.1 (by omega)
theorem rTk_as {K : List (Nat × Tm)} {t : Nat} (hK : rTk B J z tw tp K t) : ∀ (x : Tm) {R : List Nat} {fr : Int32} {a b : Nat}, tm_li x → tm_sy x false → rI B J x fr a b → b ≤ z → zli (B 6) fr R → (∀ i, i < R.length → (tw (t + i)).toInt = 0 ∧ (tp (t + i)).toInt = ((R.getD (R.length - 1 - i) 0 : Nat) : Int)) → rTk B J z tw tp (pm_as x ++ K) (t + R.length)
  | .leaf none, [], _, _, _, _, _, _, _, _, _ => hK
  | .leaf none, r :: R, fr, a, b, _, _, h, _, g, _ => absurd g.1 (by have := h.2; omega)
  | .branch (_ + 3) x y, [], fr, a, b, _, _, ⟨m, h1, h2, h3, h4⟩, _, g, _ => absurd (show fr.toInt = -1 from g) (by omega)
  | .branch (_ + 3) x y, r :: R, fr, a, b, hl, hs, ⟨m, h1, h2, h3, h4⟩, hb, g, hg => by
    have er : r = m - 1 := by have := g.1; omega
    have l := rI_le y h4
    have ih := rTk_as hK y (R := R) hl hs.2 h4 hb (by rw [← er]; exact g.2) (fun i hi => by
      have u := hg i (by rw [List.length_cons]; omega)
      rw [List.length_cons, show R.length + 1 - 1 - i = (R.length - 1 - i) + 1 from by omega] at u
      exact u)
    have u := hg R.length (by rw [List.length_cons]; omega)
    rw [List.length_cons, show R.length + 1 - 1 - R.length = 0 from by omega] at u
    have u2 : (tp (t + R.length)).toInt = ((r : Nat) : Int) := u.2
    exact ⟨t + R.length, rfl, ih, Or.inl ⟨rfl, u.1, ⟨a, m, by omega, by omega, by omega, h1, h2.2⟩, hs.1⟩⟩
  | .leaf (some (0, _, _, _, _, _)), _, _, _, _, g, _, _, _, _, _ => g.elim
  | .leaf (some (_ + 1, _, _, _, _, _)), _, _, _, _, g, _, _, _, _, _ => g.elim
  | .branch 0 (.leaf (some (0, _, _, _, _, _))) _, _, _, _, _, g, _, _, _, _, _ => g.elim
  | .branch 0 (.leaf (some (1, _, _, _, _, _))) _, _, _, _, _, g, _, _, _, _, _ => g.elim
  | .branch 1 (.leaf (some (0, _, _, _, _, _))) (.branch _ _ _), _, _, _, _, g, _, _, _, _, _ => g.elim
  | .branch 1 (.leaf (some (_ + 1, _, _, _, _, _))) (.branch _ _ _), _, _, _, _, g, _, _, _, _, _ => g.elim
  | .branch 2 (.leaf (some (_, _, _, _, _, _))) (.branch _ _ (.branch _ _ _)), _, _, _, _, g, _, _, _, _, _ => g.elim
  | .branch 0 (.leaf (some (2, _, _, _, _, _))) _, _, _, _, _, g, _, _, _, _, _ => g.elim
  | .branch 0 (.leaf (some (_ + 3, _, _, _, _, _))) _, _, _, _, _, g, _, _, _, _, _ => g.elim
  | .branch 0 (.leaf none) _, _, _, _, _, g, _, _, _, _, _ => g.elim
  | .branch 0 (.branch _ _ _) _, _, _, _, _, g, _, _, _, _, _ => g.elim
  | .branch 1 (.leaf none) _, _, _, _, _, g, _, _, _, _, _ => g.elim
  | .branch 1 (.branch _ _ _) _, _, _, _, _, g, _, _, _, _, _ => g.elim
  | .branch 1 (.leaf (some (0, _, _, _, _, _))) (.leaf _), _, _, _, _, g, _, _, _, _, _ => g.elim
  | .branch 1 (.leaf (some (_ + 1, _, _, _, _, _))) (.leaf _), _, _, _, _, g, _, _, _, _, _ => g.elim
  | .branch 2 (.leaf none) _, _, _, _, _, g, _, _, _, _, _ => g.elim
  | .branch 2 (.branch _ _ _) _, _, _, _, _, g, _, _, _, _, _ => g.elim
  | .branch 2 (.leaf (some (_, _, _, _, _, _))) (.leaf _), _, _, _, _, g, _, _, _, _, _ => g.elim
  | .branch 2 (.leaf (some (_, _, _, _, _, _))) (.branch _ _ (.leaf _)), _, _, _, _, g, _, _, _, _, _ => g.elim
theorem rw_34 {R : List Nat} {x : Int32} (h : rH B J z zk fd F al s0 tw tp ts va vd sl o n np ck cf 0 k) (hn : n ≠ al) (hw : (B 0 (Int32.toNatClampNeg k)).toInt = 3 ∨ (B 0 (Int32.toNatClampNeg k)).toInt = 4) (hx : x.toInt = 1) (a1 : zTa tw w1 ts x) (b1 : zTa tp p1 ts k) (hR : zli (B 6) (B 3 (Int32.toNatClampNeg k)) R) (hpu : (∀ i, i < ts + 1 → w2 i = w1 i ∧ p2 i = p1 i) ∧ ∀ i, i < R.length → (w2 (ts + 1 + i)).toInt = 0 ∧ (p2 (ts + 1 + i)).toInt = ((R.getD (R.length - 1 - i) 0 : Nat) : Int)) : rS B J z zk fd F al s0 w2 p2 (ts + 1 + R.length) va vd sl o (n + 1) np ck cf := by
  obtain ⟨t, K, V, e', E', ck', cf', o', d, h1, ⟨h2, h3⟩, h4, h5, ⟨h6, h7, h8, h9, h10⟩, h11⟩ := h
  obtain ⟨k0, kz, kp, kc⟩ := rA_x t h3 h2 rfl h8
  rcases kc with q | q | q | q | q | q
  · exact absurd q.1 (by omega)
  · exact absurd q.1 (by omega)
  · obtain ⟨-, y, t2, a, q1, q2, q3, ⟨q4, q5, q6, q7⟩, q8, q9, q10⟩ := q
    have hT : rTk B J z w2 p2 ((1, t2) :: K) (ts + 1) := rTk_cg (fun i hi => hpu.1 i hi) (rTk_a h4 a1 b1 (Or.inr (Or.inl ⟨rfl, hx, q4, q5⟩)))
    refine ⟨pm_as y ++ (1, t2) :: K, _, _, _, _, pm_re_s h1 ((pm_st_w hn).trans (q10 _ _ _ _ _ _ _)), rTk_as hT y q1 q2 q3 (by omega) hR hpu.2, h5, ⟨d, h7, ?_⟩, h11⟩
    rw [h6]
    exact rN_as (rN_c (j := 1) (by decide) q6 (fun i g => h9 i (q7 i g)) h10) y q1 q8 (fun i g => h9 i (q9 i g))
  · exact absurd q.1 (by omega)
  · exact absurd q.1 (by omega)
  · exact absurd q.1 (by omega)
theorem rw_5 {x1 x2 x3 : Int32} (h : rH B J z zk fd F al s0 tw tp ts va vd sl o n np ck cf 0 k) (hn : n ≠ al) (hw : (B 0 (Int32.toNatClampNeg k)).toInt = 5) (hx1 : x1.toInt = 1) (hx2 : x2.toInt = 0) (hx3 : x3.toInt = 0) (a1 : zTa tw w1 ts x1) (b1 : zTa tp p1 ts k) (a2 : zTa w1 w2 (ts + 1) x2) (b2 : zTa p1 p2 (ts + 1) (B 4 (Int32.toNatClampNeg k))) (a3 : zTa w2 w3 (ts + 2) x3) (b3 : zTa p2 p3 (ts + 2) (B 3 (Int32.toNatClampNeg k))) : rS B J z zk fd F al s0 w3 p3 (ts + 3) va vd sl o (n + 1) np ck cf := by
  obtain ⟨t, K, V, e', E', ck', cf', o', d, h1, ⟨h2, h3⟩, h4, h5, ⟨h6, h7, h8, h9, h10⟩, h11⟩ := h
  obtain ⟨k0, kz, kp, kc⟩ := rA_x t h3 h2 rfl h8
  rcases kc with q | q | q | q | q | q
  · exact absurd q.1 (by omega)
  · exact absurd q.1 (by omega)
  · exact absurd q.1 (by omega)
  · obtain ⟨-, x, y, t2, ⟨c1, c2, c3, c4⟩, ⟨d1, d2, d3, d4⟩, ⟨q4, q5, q6, q7⟩, q10⟩ := q
    refine ⟨_, _, _, _, _, pm_re_s h1 ((pm_st_w hn).trans (q10 _ _ _ _ _ _ _)), rTk_a (rTk_a (rTk_a h4 a1 b1 (Or.inr (Or.inl ⟨rfl, hx1, q4, q5⟩))) a2 b2 (Or.inl ⟨rfl, hx2, d1, d2⟩)) a3 b3 (Or.inl ⟨rfl, hx3, c1, c2⟩), h5, ⟨d, h7, ?_⟩, h11⟩
    rw [h6]
    exact rN_c (by decide) c3 (fun i g => h9 i (c4 i g)) (rN_c (by decide) d3 (fun i g => h9 i (d4 i g)) (rN_c (by decide) q6 (fun i g => h9 i (q7 i g)) h10))
  · exact absurd q.1 (by omega)
  · exact absurd q.1 (by omega)
theorem rw_67 {x1 x2 : Int32} (h : rH B J z zk fd F al s0 tw tp ts va vd sl o n np ck cf 0 k) (hn : n ≠ al) (hw : (B 0 (Int32.toNatClampNeg k)).toInt = 6 ∨ (B 0 (Int32.toNatClampNeg k)).toInt = 7) (hx1 : x1.toInt = 1) (hx2 : x2.toInt = 0) (a1 : zTa tw w1 ts x1) (b1 : zTa tp p1 ts k) (a2 : zTa w1 w2 (ts + 1) x2) (b2 : zTa p1 p2 (ts + 1) (B 3 (Int32.toNatClampNeg k))) : rS B J z zk fd F al s0 w2 p2 (ts + 2) va vd sl o (n + 1) np ck cf := by
  obtain ⟨t, K, V, e', E', ck', cf', o', d, h1, ⟨h2, h3⟩, h4, h5, ⟨h6, h7, h8, h9, h10⟩, h11⟩ := h
  obtain ⟨k0, kz, kp, kc⟩ := rA_x t h3 h2 rfl h8
  rcases kc with q | q | q | q | q | q
  · exact absurd q.1 (by omega)
  · exact absurd q.1 (by omega)
  · exact absurd q.1 (by omega)
  · exact absurd q.1 (by omega)
  · obtain ⟨-, x, t2, ⟨c1, c2, c3, c4⟩, ⟨q4, q5, q6, q7⟩, q10⟩ := q
    refine ⟨_, _, _, _, _, pm_re_s h1 ((pm_st_w hn).trans (q10 _ _ _ _ _ _ _)), rTk_a (rTk_a h4 a1 b1 (Or.inr (Or.inl ⟨rfl, hx1, q4, q5⟩))) a2 b2 (Or.inl ⟨rfl, hx2, c1, c2⟩), h5, ⟨d, h7, ?_⟩, h11⟩
    rw [h6]
    exact rN_c (by decide) c3 (fun i g => h9 i (c4 i g)) (rN_c (by decide) q6 (fun i g => h9 i (q7 i g)) h10)
  · exact absurd q.1 (by omega)
/-- an arm -/
theorem rar : ∀ (x : Tm) {a m d : Nat}, tm_k x = 2 → tm_sy x false → tm_wf zk fd x d → rI B J x 0 a m → m ≤ z → (rAt B J z (am_x x) (B 3 (m - 1)) ∧ sy_x (am_x x)) ∧ ((B 4 (m - 1)).toInt = (d : Int) ∧ am_h x = d ∧ (B 7 (m - 1)).toInt = (am_m x : Int) ∧ (B 2 (m - 1)).toInt = am_k x ∧ d + am_m x ≤ 24) ∧ (am_k x = -1 ∧ am_m x = 0 ∨ ∃ j : Nat, am_k x = (j : Int) ∧ j < zk ∧ (fd j).toInt = (am_m x : Int)) ∧ tm_wf zk fd (am_x x) (d + am_m x) ∧ ∀ i, tm_ub (am_x x) i = true → i < d → tm_ub x i = true
  | .branch 0 (.leaf (some (_ + 3, p, kd, h, mm, _))) x, a, b, d, _, hs, ⟨⟨⟨w1, w2, w3⟩, w4⟩, w5⟩, ⟨m, g1, g2, g3, g4, g5, g6, g7, g8⟩, hz => by
    subst g2
    subst w1
    rw [Nat.add_sub_cancel]
    have l := rI_1s hs.1 g1
    refine ⟨⟨⟨a, m, g8, by omega, by omega, g1, l.2⟩, hs⟩, ⟨g6, rfl, g7, g5, w2⟩, w4, w5, fun i hi hd => ?_⟩
    show (tm_ub x i && !(decide ((h : Int) ≤ (i : Int)) && decide ((i : Int) < (h : Int) + (mm : Int)))) = true
    rw [show tm_ub x i = true from hi, decide_eq_false (show ¬ (h : Int) ≤ (i : Int) by omega)]; rfl
  | .leaf (some (0, _, _, _, _, _)), _, _, _, g, _, _, _, _ => nomatch (show (1 : Nat) = 2 from g)
  | .leaf (some (_ + 1, _, _, _, _, _)), _, _, _, g, _, _, _, _ => nomatch (show (1 : Nat) = 2 from g)
  | .branch 0 (.leaf (some (0, _, _, _, _, _))) _, _, _, _, g, _, _, _, _ => nomatch (show (1 : Nat) = 2 from g)
  | .branch 0 (.leaf (some (1, _, _, _, _, _))) _, _, _, _, g, _, _, _, _ => nomatch (show (1 : Nat) = 2 from g)
  | .branch 1 (.leaf (some (0, _, _, _, _, _))) (.branch _ _ _), _, _, _, g, _, _, _, _ => nomatch (show (1 : Nat) = 2 from g)
  | .branch 1 (.leaf (some (_ + 1, _, _, _, _, _))) (.branch _ _ _), _, _, _, g, _, _, _, _ => nomatch (show (1 : Nat) = 2 from g)
  | .branch 2 (.leaf (some (_, _, _, _, _, _))) (.branch _ _ (.branch _ _ _)), _, _, _, g, _, _, _, _ => nomatch (show (1 : Nat) = 2 from g)
  | .branch 0 (.leaf (some (2, _, _, _, _, _))) _, _, _, _, g, _, _, _, _ => nomatch (show (1 : Nat) = 2 from g)
  | .leaf none, _, _, _, g, _, _, _, _ => nomatch (show (0 : Nat) = 2 from g)
  | .branch (_ + 3) _ _, _, _, _, g, _, _, _, _ => nomatch (show (0 : Nat) = 2 from g)
  | .branch 0 (.leaf none) _, _, _, _, g, _, _, _, _ => nomatch (show (0 : Nat) = 2 from g)
  | .branch 0 (.branch _ _ _) _, _, _, _, g, _, _, _, _ => nomatch (show (0 : Nat) = 2 from g)
  | .branch 1 (.leaf none) _, _, _, _, g, _, _, _, _ => nomatch (show (0 : Nat) = 2 from g)
  | .branch 1 (.branch _ _ _) _, _, _, _, g, _, _, _, _ => nomatch (show (0 : Nat) = 2 from g)
  | .branch 1 (.leaf (some (0, _, _, _, _, _))) (.leaf _), _, _, _, g, _, _, _, _ => nomatch (show (0 : Nat) = 2 from g)
  | .branch 1 (.leaf (some (_ + 1, _, _, _, _, _))) (.leaf _), _, _, _, g, _, _, _, _ => nomatch (show (0 : Nat) = 2 from g)
  | .branch 2 (.leaf none) _, _, _, _, g, _, _, _, _ => nomatch (show (0 : Nat) = 2 from g)
  | .branch 2 (.branch _ _ _) _, _, _, _, g, _, _, _, _ => nomatch (show (0 : Nat) = 2 from g)
  | .branch 2 (.leaf (some (_, _, _, _, _, _))) (.leaf _), _, _, _, g, _, _, _, _ => nomatch (show (0 : Nat) = 2 from g)
  | .branch 2 (.leaf (some (_, _, _, _, _, _))) (.branch _ _ (.leaf _)), _, _, _, g, _, _, _, _ => nomatch (show (0 : Nat) = 2 from g)
/-- the first arm that fits, on both sides -/
theorem rfi {kd : Int} {d : Nat} : ∀ (x : Tm) {R : List Nat} {fr : Int32} {a b : Nat}, tm_li x → tm_sy x true → tm_wf zk fd x d → rI B J x fr a b → b ≤ z → zli (B 6) fr R → (pm_fi kd x = none ∧ zfa (B 2) kd R = none) ∨ ∃ (y : Tm) (r : Nat), pm_fi kd x = some y ∧ zfa (B 2) kd R = some r ∧ (am_k y = -1 ∨ am_k y = kd) ∧ (rAt B J z (am_x y) (B 3 r) ∧ sy_x (am_x y)) ∧ ((B 4 r).toInt = (d : Int) ∧ am_h y = d ∧ (B 7 r).toInt = (am_m y : Int) ∧ (B 2 r).toInt = am_k y ∧ d + am_m y ≤ 24) ∧ (am_k y = -1 ∧ am_m y = 0 ∨ ∃ j : Nat, am_k y = (j : Int) ∧ j < zk ∧ (fd j).toInt = (am_m y : Int)) ∧ tm_wf zk fd (am_x y) (d + am_m y) ∧ ∀ i, tm_ub (am_x y) i = true → i < d → tm_ub x i = true
  | .leaf none, [], _, _, _, _, _, _, _, _, _ => Or.inl ⟨rfl, rfl⟩
  | .leaf none, r :: R, fr, a, b, _, _, _, h, _, g => absurd g.1 (by have := h.2; omega)
  | .branch (_ + 3) x y, [], fr, a, b, _, _, _, ⟨m, h1, h2, h3, h4⟩, _, g => absurd (show fr.toInt = -1 from g) (by omega)
  | .branch (_ + 3) x y, r :: R, fr, a, b, hl, hs, hw, ⟨m, h1, h2, h3, h4⟩, hb, g => by
    have er : r = m - 1 := by have := g.1; omega
    have l := rI_le y h4
    have q := rar (z := z) x hs.1.1 hs.1.2 hw.1 h1 (by omega)
    show ((if am_k x = -1 ∨ am_k x = kd then some x else pm_fi kd y) = none ∧ (if (B 2 r).toInt = -1 ∨ (B 2 r).toInt = kd then some r else zfa (B 2) kd R) = none) ∨ ∃ (y1 : Tm) (r1 : Nat), (if am_k x = -1 ∨ am_k x = kd then some x else pm_fi kd y) = some y1 ∧ (if (B 2 r).toInt = -1 ∨ (B 2 r).toInt = kd then some r else zfa (B 2) kd R) = some r1 ∧ _
    rw [← er] at q
    rw [q.2.1.2.2.2.1]
    by_cases u : am_k x = -1 ∨ am_k x = kd
    · rw [if_pos u, if_pos u]
      exact Or.inr ⟨x, r, rfl, rfl, u, q.1, q.2.1, q.2.2.1, q.2.2.2.1, fun i hi hd => by show (tm_ub x i || tm_ub y i) = true; rw [q.2.2.2.2 i hi hd]; rfl⟩
    · rw [if_neg u, if_neg u]
      refine (rfi y (R := R) hl hs.2 hw.2 h4 hb (by rw [← er]; exact g.2)).imp id ?_
      rintro ⟨y1, r1, k1, k2, k3, k4, k5, k6, k7, k8⟩
      exact ⟨y1, r1, k1, k2, k3, k4, k5, k6, k7, fun i hi hd => by show (tm_ub x i || tm_ub y i) = true; rw [k8 i hi hd, Bool.or_true]⟩
  | .leaf (some (0, _, _, _, _, _)), _, _, _, _, g, _, _, _, _, _ => g.elim
  | .leaf (some (_ + 1, _, _, _, _, _)), _, _, _, _, g, _, _, _, _, _ => g.elim
  | .branch 0 (.leaf (some (0, _, _, _, _, _))) _, _, _, _, _, g, _, _, _, _, _ => g.elim
  | .branch 0 (.leaf (some (1, _, _, _, _, _))) _, _, _, _, _, g, _, _, _, _, _ => g.elim
  | .branch 1 (.leaf (some (0, _, _, _, _, _))) (.branch _ _ _), _, _, _, _, g, _, _, _, _, _ => g.elim
  | .branch 1 (.leaf (some (_ + 1, _, _, _, _, _))) (.branch _ _ _), _, _, _, _, g, _, _, _, _, _ => g.elim
  | .branch 2 (.leaf (some (_, _, _, _, _, _))) (.branch _ _ (.branch _ _ _)), _, _, _, _, g, _, _, _, _, _ => g.elim
  | .branch 0 (.leaf (some (2, _, _, _, _, _))) _, _, _, _, _, g, _, _, _, _, _ => g.elim
  | .branch 0 (.leaf (some (_ + 3, _, _, _, _, _))) _, _, _, _, _, g, _, _, _, _, _ => g.elim
  | .branch 0 (.leaf none) _, _, _, _, _, g, _, _, _, _, _ => g.elim
  | .branch 0 (.branch _ _ _) _, _, _, _, _, g, _, _, _, _, _ => g.elim
  | .branch 1 (.leaf none) _, _, _, _, _, g, _, _, _, _, _ => g.elim
  | .branch 1 (.branch _ _ _) _, _, _, _, _, g, _, _, _, _, _ => g.elim
  | .branch 1 (.leaf (some (0, _, _, _, _, _))) (.leaf _), _, _, _, _, g, _, _, _, _, _ => g.elim
  | .branch 1 (.leaf (some (_ + 1, _, _, _, _, _))) (.leaf _), _, _, _, _, g, _, _, _, _, _ => g.elim
  | .branch 2 (.leaf none) _, _, _, _, _, g, _, _, _, _, _ => g.elim
  | .branch 2 (.branch _ _ _) _, _, _, _, _, g, _, _, _, _, _ => g.elim
  | .branch 2 (.leaf (some (_, _, _, _, _, _))) (.leaf _), _, _, _, _, g, _, _, _, _, _ => g.elim
  | .branch 2 (.leaf (some (_, _, _, _, _, _))) (.branch _ _ (.leaf _)), _, _, _, _, g, _, _, _, _, _ => g.elim
theorem rfi_k {v : Int64} {ck' : Nat → Int32} (hc : rCe fd ck cf np ck' cf2) (hv : zhs v = 2 → Int32.toNatClampNeg v.toInt32 < np) : pm_kd ck' v = pm_kd ck v := by
  unfold pm_kd
  by_cases u : zhs v = 2
  · rw [(hc _ (hv u)).1]
  · rw [if_neg u, if_neg u]
theorem rw_8x {v : Int64} (h : rH B J z zk fd F al s0 tw tp ts va vd sl o n np ck cf 0 k) (hn : n ≠ al) (hw : (B 0 (Int32.toNatClampNeg k)).toInt = 8) (ev : v = sl (24 * (o - 1) + Int32.toNatClampNeg (B 2 (Int32.toNatClampNeg k)))) (hv : zhs v = 2 → Int32.toNatClampNeg v.toInt32 < np) {R : List Nat} (hR : zli (B 6) (B 3 (Int32.toNatClampNeg k)) R) (hf : zfa (B 2) (pm_kd ck v) R = none) : pm_ou F al s0 (2, (B 1 (Int32.toNatClampNeg k)).toInt) := by
  obtain ⟨t, K, V, e', E', ck', cf', o', d, h1, ⟨h2, h3⟩, h4, h5, ⟨h6, h7, h8, h9, h10⟩, h11⟩ := h
  obtain ⟨k0, kz, kp, kc⟩ := rA_x t h3 h2 rfl h8
  rcases kc with q | q | q | q | q | q
  · exact absurd q.1 (by omega)
  · exact absurd q.1 (by omega)
  · exact absurd q.1 (by omega)
  · exact absurd q.1 (by omega)
  · exact absurd q.1 (by omega)
  · obtain ⟨-, q0, qs, x, t2, a, q1, q2, q3, q4, q5, q6, q7⟩ := q
    have ee : e' (Int32.toNatClampNeg (B 2 (Int32.toNatClampNeg k))) = v := by rw [ev, h6, Nat.add_sub_cancel]; exact (h9 _ qs).symm
    refine pm_ou_s (pm_re_s h1 ((pm_st_w hn).trans (q6 _ _ _ _ _ _ _))) (pm_st_d.trans ((q7 _ _ _ _ _ _ _ _).trans ?_))
    unfold pm_mt
    rw [show (e' :: E').headD (fun _ => 0) = e' from rfl, ee, rfi_k h11 hv]
    rcases rfi (z := z) (kd := pm_kd ck v) x q1 q2 q4 q3 (by omega) hR with g | ⟨y, r, g1, g2, -⟩
    · rw [g.1]
    · rw [hf] at g2; cases g2
theorem rw_8 {v : Int64} {kz : Int32} {t2 : Nat} (h : rH B J z zk fd F al s0 tw tp ts va vd sl o n np ck cf 0 k) (hn : n ≠ al) (hw : (B 0 (Int32.toNatClampNeg k)).toInt = 8) (ev : v = sl (24 * (o - 1) + Int32.toNatClampNeg (B 2 (Int32.toNatClampNeg k)))) (hv : zhs v = 2 → Int32.toNatClampNeg v.toInt32 < np) (hvv : zHv kz fd v) (hQ : rQ B J z zk fd us bo to F) {R : List Nat} (hR : zli (B 6) (B 3 (Int32.toNatClampNeg k)) R) (hM : rMx (B 6) (B 2) (B 3) (B 4) (B 7) us (B 3 (Int32.toNatClampNeg k)) (pm_kd ck v) v cf (o - 1) sl sl2 tw w2 tp p2 ts t2) : rS B J z zk fd F al s0 w2 p2 t2 va vd sl2 o (n + 1) np ck cf := by
  obtain ⟨t, K, V, e', E', ck', cf', o', d, h1, ⟨h2, h3⟩, h4, h5, ⟨h6, h7, h8, h9, h10⟩, h11⟩ := h
  obtain ⟨k0, kz', kp, kc⟩ := rA_x t h3 h2 rfl h8
  rcases kc with q | q | q | q | q | q
  · exact absurd q.1 (by omega)
  · exact absurd q.1 (by omega)
  · exact absurd q.1 (by omega)
  · exact absurd q.1 (by omega)
  · exact absurd q.1 (by omega)
  · obtain ⟨-, q0, qs, x, u2, a, q1, q2, q3, q4, q5, q6, q7⟩ := q
    subst h6
    rw [Nat.add_sub_cancel] at ev hM
    obtain ⟨r, m1, m2, ⟨x0, m3, m4⟩, m5, m6, m7⟩ := hM
    subst m2
    have ee : e' (Int32.toNatClampNeg (B 2 (Int32.toNatClampNeg k))) = v := by rw [ev]; exact (h9 _ qs).symm
    have hz := m1 R hR
    rcases rfi (z := z) (kd := pm_kd ck v) x q1 q2 q4 q3 (by omega) hR with g | ⟨y, r2, g1, g2, g3, ⟨g4, g5⟩, ⟨g6, g7, g8, g9, g10⟩, g11, g12, g13⟩
    · rw [g.2] at hz; cases hz
    · obtain rfl : r2 = r := Option.some.inj (g2.symm.trans hz)
      have hst : pm_mt (B 1 (Int32.toNatClampNeg k)).toInt (Int32.toNatClampNeg (B 2 (Int32.toNatClampNeg k))) x K V (e' :: E') (n + 1) np ck' cf' = .ok ((0, am_x y) :: K, V, (if zhs v = 2 then pm_bd e' cf' (Int32.toNatClampNeg v.toInt32) (am_h y) (am_m y) else e') :: E', n + 1, np, ck', cf') := by
        unfold pm_mt
        rw [show (e' :: E').headD (fun _ => 0) = e' from rfl, ee, rfi_k h11 hv, g1]; rfl
      have eh : Int32.toNatClampNeg (B 4 r2) = d := zn_lit g6
      have em : Int32.toNatClampNeg (B 7 r2) = am_m y := zn_lit g8
      refine ⟨_, _, _, _, _, pm_re_s (pm_re_s h1 ((pm_st_w hn).trans (q6 _ _ _ _ _ _ _))) (pm_st_d.trans ((q7 _ _ _ _ _ _ _ _).trans hst)), rTk_a h4 m4 m5 (Or.inl ⟨rfl, m3, g4, g5⟩), h5, ⟨d + am_m y, g10, ?_⟩, h11⟩
      rw [g9] at m6 m7
      rw [eh, em] at m6
      have hu : ∀ j, j < 32 → zbit (us (Int32.toNatClampNeg (B 3 r2))) j = tm_ub (am_x y) j := hQ.1 _ _ g5 g4
      by_cases c2 : zhs v = 2 ∧ am_k y ≠ -1
      · obtain ⟨s1, s2⟩ := m6 c2
        rw [if_pos c2.1]
        have hlow : ∀ i, i < d → sl2 (24 * o' + i) = sl (24 * o' + i) := fun i hi => s1 _ (fun j hj => by omega)
        refine rN_c (by decide) g12 (fun i hi => ?_) (rN_mo (Nat.le_add_right _ _) (rN_hd (fun i hi => s1 _ (fun j hj => by omega)) h7 (fun i hi => ⟨hlow i hi, by unfold pm_bd; rw [if_neg (by omega)]⟩) h10))
        have hi2 : tm_ub (am_x y) i = true := hi
        have il := wf_ub _ g12 hi2
        unfold pm_bd
        by_cases w : i < d
        · rw [if_neg (by omega), hlow i w]; exact h9 i (q5 i (g13 i hi2 w))
        · rw [if_pos (by omega), g7]
          have b1 := s2 (i - d) (by omega) (by rw [show d + (i - d) = i from by omega, hu i (by omega)]; exact hi2)
          rw [show 24 * o' + d + (i - d) = 24 * o' + i from by omega] at b1
          rw [b1]
          obtain ⟨j, j1, j2, j3⟩ := g11.resolve_left (fun g => c2.2 g.1)
          have hcc := h11 _ (hv c2.1)
          refine hcc.2 (i - d) ?_
          have ek : (ck (Int32.toNatClampNeg v.toInt32)).toInt = (j : Int) := by
            have := g3.resolve_left c2.2
            rw [← j1, this]; unfold pm_kd
            rw [if_neg (by rw [c2.1]; decide), if_pos c2.1]
          rw [← hcc.1, zn_lit ek, j3]
          omega
      · have es := m7 c2
        have m0 : am_m y = 0 := by
          rcases g11 with g | ⟨j, j1, j2, j3⟩
          · exact g.2
          · have hk := g3.resolve_left (by omega)
            unfold pm_kd at hk
            rcases hvv with v1 | ⟨v1, v2, v3, v4⟩ | ⟨v1, v2⟩
            · rw [if_pos v1] at hk; omega
            · rw [if_neg (by rw [v1]; decide), if_neg (by rw [v1]; decide)] at hk
              have : Int32.toNatClampNeg v.toInt32 = j := zn_lit (by omega)
              rw [this] at v4
              omega
            · exact absurd ⟨v1, by omega⟩ c2
        subst es
        have he : (if zhs v = 2 then pm_bd e' cf' (Int32.toNatClampNeg v.toInt32) (am_h y) (am_m y) else e') = e' := by
          split
          · funext i; unfold pm_bd; rw [if_neg (by omega)]
          · rfl
        rw [he]
        rw [m0] at g12 ⊢
        exact rN_c (by decide) g12 (fun i hi => h9 i (q5 i (g13 i hi (wf_ub _ g12 hi)))) h10
end
