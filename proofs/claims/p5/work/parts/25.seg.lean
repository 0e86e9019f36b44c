section
/-! the code that the parser writes: rows, their heights and scopes -/
theorem zn_nat {x : Int32} (h : 0 ≤ x.toInt) : ((Int32.toNatClampNeg x : Nat) : Int) = x.toInt := by
  show ((x.toInt.toNat : Nat) : Int) = x.toInt
  omega
/-- a chain: -1 at its end, else the number of its first row -/
def zli (nx : Nat → Int32) : Int32 → List Nat → Prop
  | x, [] => x.toInt = -1
  | x, y :: l => x.toInt = (y : Int) ∧ zli nx (nx y) l
/-- the parser's rows, by number -/
def zst (op a b nx ak an ab al af kf ff : Nat → Int32) (cz ct az kz : Int32) : Nat → Nat → Int32
  | 0 => op | 1 => a | 2 => b | 3 => nx | 4 => ak | 5 => an | 6 => ab | 7 => al | 8 => af | 9 => kf | 10 => ff
  | 11 => fun _ => cz | 12 => fun _ => ct | 13 => fun _ => az | 14 => fun _ => kz | _ => fun _ => 0
/-- how many fields a kind has -/
def zfl (S : Nat → Nat → Int32) (k : Int32) : Int := if 0 ≤ k.toInt ∧ k.toInt < (S 14 0).toInt ∧ 0 < (S 9 (Int32.toNatClampNeg k)).toInt then (S 9 (Int32.toNatClampNeg k)).toInt else 0
def zkd (S : Nat → Nat → Int32) (k : Int32) : Prop := k.toInt = -2 ∨ 0 ≤ k.toInt ∧ k.toInt < (S 14 0).toInt ∧ (S 9 (Int32.toNatClampNeg k)).toInt ≠ -1
/-- where a row leads: behind a row of its own stretch -/
def ztg (S : Nat → Nat → Int32) (G : Nat → Nat → Int) (r : Nat) (po : List Nat) (h : Int) : Prop := (S 1 r).toInt = -1 ∨ 0 ≤ (S 1 r).toInt ∧ Int32.toNatClampNeg (S 1 r) ∈ r :: po ∧ G (Int32.toNatClampNeg (S 1 r)) 1 = h ∧ G (Int32.toNatClampNeg (S 1 r)) 3 ≤ G r 2 ∧ G (Int32.toNatClampNeg (S 1 r)) 4 = G r 4
def zarm (S : Nat → Nat → Int32) (G : Nat → Nat → Int) (f r : Nat) (po : List Nat) (m : Nat) : Prop := (m : Int) < (S 13 0).toInt ∧ G m 5 = (r : Int) ∧ zkd S (S 4 m) ∧ (S 8 m).toInt = G r 2 ∧ G r 2 + zfl S (S 4 m) ≤ (S 10 (5 * f + 1)).toInt ∧ 0 ≤ (S 6 m).toInt ∧ Int32.toNatClampNeg (S 6 m) ∈ r :: po ∧ G (Int32.toNatClampNeg (S 6 m)) 1 = G r 0 ∧ G (Int32.toNatClampNeg (S 6 m)) 3 ≤ G r 2 + zfl S (S 4 m) ∧ G (Int32.toNatClampNeg (S 6 m)) 4 = G r 4
/-- what a row of the code keeps: G r: its height, the height behind it, its scope, the scope behind it, its function; G m 5: the match of arm m -/
def zop (S : Nat → Nat → Int32) (G : Nat → Nat → Int) (f r : Nat) (po : List Nat) : Nat → Prop
  | 0 => G r 0 = 100000 ∧ G r 1 = 0 ∧ (S 1 r).toInt = (f : Int) ∧ G r 3 ≤ G r 2 ∧ G r 3 ≤ (S 10 (5 * f)).toInt ∧ (S 0 r).toInt = 0
  | 1 => G r 1 = G r 0 ∧ G r 3 ≤ G r 2
  | 2 => G r 1 = G r 0 + 1 ∧ G r 3 ≤ G r 2
  | 3 => 0 ≤ (S 1 r).toInt ∧ (S 1 r).toInt < G r 2 ∧ G r 1 = G r 0 + 1 ∧ G r 3 ≤ G r 2
  | 4 => 0 ≤ (S 1 r).toInt ∧ (S 1 r).toInt < (S 14 0).toInt ∧ (S 9 (Int32.toNatClampNeg (S 1 r))).toInt = 0 ∧ G r 1 = G r 0 + 1 ∧ G r 3 ≤ G r 2
  | 5 => 0 ≤ (S 1 r).toInt ∧ (S 1 r).toInt < (S 14 0).toInt ∧ 1 ≤ (S 9 (Int32.toNatClampNeg (S 1 r))).toInt ∧ (S 9 (Int32.toNatClampNeg (S 1 r))).toInt ≤ G r 0 ∧ G r 1 = G r 0 - (S 9 (Int32.toNatClampNeg (S 1 r))).toInt + 1 ∧ G r 3 ≤ G r 2
  | 6 => 0 ≤ (S 2 r).toInt ∧ (S 2 r).toInt ≤ G r 0 ∧ G r 1 = G r 0 - (S 2 r).toInt + 1 ∧ G r 3 ≤ G r 2
  | 7 => 1 ≤ (S 2 r).toInt ∧ (S 2 r).toInt ≤ G r 0 ∧ G r 1 = G r 0 - (S 2 r).toInt + 1 ∧ G r 3 ≤ G r 2
  | 8 => 2 ≤ G r 0 ∧ G r 1 = G r 0 - 1 ∧ G r 3 ≤ G r 2
  | 9 => 2 ≤ G r 0 ∧ G r 1 = G r 0 - 1 ∧ G r 3 ≤ G r 2
  | 10 => 2 ≤ G r 0 ∧ G r 1 = G r 0 - 1 ∧ G r 3 ≤ G r 2
  | 11 => 2 ≤ G r 0 ∧ G r 1 = G r 0 - 1 ∧ G r 3 ≤ G r 2
  | 12 => 1 ≤ G r 0 ∧ G r 1 = G r 0 - 1 ∧ (S 1 r).toInt = G r 2 ∧ G r 3 ≤ G r 2 + 1 ∧ G r 2 + 1 ≤ (S 10 (5 * f + 1)).toInt
  | 13 => 1 ≤ G r 0 ∧ G r 1 = G r 0 - 1 ∧ G r 3 ≤ G r 2 ∧ ztg S G r po (G r 0 - 1)
  | 14 => ztg S G r po (G r 0)
  | 15 => 0 ≤ (S 1 r).toInt ∧ (S 1 r).toInt < G r 2 ∧ ∃ AL : List Nat, AL.length ≤ 8 ∧ zli (S 5) (S 2 r) AL ∧ ∀ m ∈ AL, zarm S G f r po m
  | 16 => ztg S G r po (G r 0)
  | 17 => 1 ≤ G r 0
  | _ => False
def zrow (S : Nat → Nat → Int32) (G : Nat → Nat → Int) (f r : Nat) (po : List Nat) : Prop := r ∉ po ∧ 0 ≤ G r 0 ∧ 0 ≤ G r 1 ∧ 0 ≤ G r 2 ∧ 0 ≤ G r 3 ∧ G r 2 ≤ (S 10 (5 * f + 1)).toInt ∧ G r 4 = (f : Int) ∧ zop S G f r po (Int32.toNatClampNeg (S 0 r))
def zseg (S : Nat → Nat → Int32) (G : Nat → Nat → Int) (f : Nat) : List Nat → Prop
  | [] => True
  | r :: po => zrow S G f r po ∧ zseg S G f po
/-- the heights and scopes along a stretch, from (h, c) to (h2, c2) -/
def zco (G : Nat → Nat → Int) : Int → Int → List Nat → Int → Int → Prop
  | h, c, [], h2, c2 => h = h2 ∧ c = c2
  | h, c, r :: l, h2, c2 => G r 0 = h ∧ G r 2 ≤ c ∧ zco G (G r 1) (G r 3) l h2 c2
/-- what stays of the elder rows -/
def zfr (S S2 : Nat → Nat → Int32) (G G2 : Nat → Nat → Int) : Prop :=
  (S 11 0).toInt ≤ (S2 11 0).toInt ∧ (S 13 0).toInt ≤ (S2 13 0).toInt ∧ (S 14 0).toInt ≤ (S2 14 0).toInt ∧
  (∀ r : Nat, (r : Int) < (S 11 0).toInt → S2 0 r = S 0 r ∧ S2 1 r = S 1 r ∧ S2 2 r = S 2 r ∧ ∀ k, k < 5 → G2 r k = G r k) ∧
  (∀ m : Nat, (m : Int) < (S 13 0).toInt → S2 4 m = S 4 m ∧ S2 5 m = S 5 m ∧ S2 6 m = S 6 m ∧ S2 7 m = S 7 m ∧ S2 8 m = S 8 m ∧ G2 m 5 = G m 5) ∧
  (∀ k : Nat, (k : Int) < (S 14 0).toInt → (S 9 k).toInt ≠ -1 → S2 9 k = S 9 k) ∧
  (∀ g : Nat, (S 10 (5 * g + 1)).toInt ≤ (S2 10 (5 * g + 1)).toInt ∧ S2 10 (5 * g) = S 10 (5 * g) ∧ (S2 10 (5 * g + 1) = S 10 (5 * g + 1) ∨ (S2 10 (5 * g + 1)).toInt ≤ 24))
theorem zfr_rf {S : Nat → Nat → Int32} {G : Nat → Nat → Int} : zfr S S G G := ⟨Int.le_refl _, Int.le_refl _, Int.le_refl _, fun _ _ => ⟨rfl, rfl, rfl, fun _ _ => rfl⟩, fun _ _ => ⟨rfl, rfl, rfl, rfl, rfl, rfl⟩, fun _ _ _ => rfl, fun _ => ⟨Int.le_refl _, rfl, Or.inl rfl⟩⟩
theorem zfr_tr {S S1 S2 : Nat → Nat → Int32} {G G1 G2 : Nat → Nat → Int} (a : zfr S S1 G G1) (b : zfr S1 S2 G1 G2) : zfr S S2 G G2 := by
  obtain ⟨a1, a2, a3, a4, a5, a6, a7⟩ := a
  obtain ⟨b1, b2, b3, b4, b5, b6, b7⟩ := b
  refine ⟨by omega, by omega, by omega, fun r hr => ?_, fun m hm => ?_, fun k hk hn => ?_, fun g => ?_⟩
  · obtain ⟨p0, p1, p2, p3⟩ := a4 r hr
    obtain ⟨q0, q1, q2, q3⟩ := b4 r (by omega)
    exact ⟨q0.trans p0, q1.trans p1, q2.trans p2, fun k hk => (q3 k hk).trans (p3 k hk)⟩
  · obtain ⟨p0, p1, p2, p3, p4, p5⟩ := a5 m hm
    obtain ⟨q0, q1, q2, q3, q4, q5⟩ := b5 m (by omega)
    exact ⟨q0.trans p0, q1.trans p1, q2.trans p2, q3.trans p3, q4.trans p4, q5.trans p5⟩
  · have e := a6 k hk hn
    exact (b6 k (by omega) (by rw [e]; exact hn)).trans e
  · obtain ⟨p1, p2, p3⟩ := a7 g
    obtain ⟨q1, q2, q3⟩ := b7 g
    refine ⟨Int.le_trans p1 q1, q2.trans p2, ?_⟩
    rcases q3 with q3 | q3
    · rw [q3]; exact p3
    · exact Or.inr q3
theorem zli_ext {nx nx2 : Nat → Int32} : ∀ {l : List Nat} {x : Int32}, zli nx x l → (∀ r ∈ l, nx2 r = nx r) → zli nx2 x l
  | [], _, h, _ => h
  | y :: l, x, h, he => ⟨h.1, by rw [he y List.mem_cons_self]; exact zli_ext h.2 (fun r hr => he r (List.mem_cons_of_mem _ hr))⟩
theorem zfl_fr {S S2 : Nat → Nat → Int32} {G G2 : Nat → Nat → Int} (hF : zfr S S2 G G2) {k : Int32} (h : zkd S k) : zfl S2 k = zfl S k ∧ zkd S2 k := by
  obtain ⟨a1, a2, a3, a4, a5, a6, a7⟩ := hF
  rcases h with h | ⟨h1, h2, h3⟩
  · refine ⟨?_, Or.inl h⟩
    unfold zfl
    rw [if_neg (by omega), if_neg (by omega)]
  · have hn := zn_nat h1
    have e := a6 (Int32.toNatClampNeg k) (by omega) h3
    refine ⟨?_, Or.inr ⟨h1, by omega, by rw [e]; exact h3⟩⟩
    unfold zfl
    rw [e]
    by_cases g : 0 < (S 9 (Int32.toNatClampNeg k)).toInt
    · rw [if_pos ⟨h1, by omega, g⟩, if_pos ⟨h1, h2, g⟩]
    · rw [if_neg (fun q => g q.2.2), if_neg (fun q => g q.2.2)]
theorem ztg_fr {S S2 : Nat → Nat → Int32} {G G2 : Nat → Nat → Int} {r : Nat} {po po2 : List Nat} {h : Int} (e1 : S2 1 r = S 1 r) (hG : ∀ q ∈ r :: po, ∀ k, k < 5 → G2 q k = G q k) (hs : ∀ q ∈ po, q ∈ po2) (t : ztg S G r po h) : ztg S2 G2 r po2 h := by
  unfold ztg
  rw [e1]
  rcases t with t | ⟨t1, t2, t3, t4⟩
  · exact Or.inl t
  · refine Or.inr ⟨t1, ?_, by rw [hG _ t2 1 (by decide)]; exact t3, by rw [hG _ t2 3 (by decide), hG r List.mem_cons_self 2 (by decide)]; exact t4.1, by rw [hG _ t2 4 (by decide), hG r List.mem_cons_self 4 (by decide)]; exact t4.2⟩
    rcases List.mem_cons.mp t2 with q | q
    · exact List.mem_cons.mpr (Or.inl q)
    · exact List.mem_cons.mpr (Or.inr (hs _ q))
/-- a row keeps what it keeps while the elder rows stay; more rows may come behind -/
theorem zrow_fr {S S2 : Nat → Nat → Int32} {G G2 : Nat → Nat → Int} {f r : Nat} {po po2 : List Nat} (hF : zfr S S2 G G2) (hr : ∀ q ∈ r :: po, (q : Int) < (S 11 0).toInt) (hs : ∀ q ∈ po, q ∈ po2) (hn : r ∉ po2) (h : zrow S G f r po) : zrow S2 G2 f r po2 := by
  have hF0 := hF
  obtain ⟨a1, a2, a3, a4, a5, a6, a7⟩ := hF
  obtain ⟨h1, h2, h3, h4, h5, h6, h7, h8⟩ := h
  have r4 := a4 r (hr r List.mem_cons_self)
  have hG : ∀ q ∈ r :: po, ∀ k, k < 5 → G2 q k = G q k := fun q hq => (a4 q (hr q hq)).2.2.2
  have g0 := r4.2.2.2 0 (by decide)
  have g1 := r4.2.2.2 1 (by decide)
  have g2 := r4.2.2.2 2 (by decide)
  have g3 := r4.2.2.2 3 (by decide)
  have g4 := r4.2.2.2 4 (by decide)
  have e0 := r4.1
  have e1 := r4.2.1
  have e2 := r4.2.2.1
  have a7f : _ ∧ _ := ⟨(a7 f).1, (a7 f).2.1⟩
  refine ⟨hn, by omega, by omega, by omega, by omega, by omega, by omega, ?_⟩
  rw [e0]
  generalize Int32.toNatClampNeg (S 0 r) = n at h8 ⊢
  match n, h8 with
  | 0, h => simp only [zop] at h ⊢; rw [e0, e1, g0, g1, g2, g3, a7f.2]; exact h
  | 1, h => simp only [zop] at h ⊢; rw [g0, g1, g2, g3]; exact h
  | 2, h => simp only [zop] at h ⊢; rw [g0, g1, g2, g3]; exact h
  | 3, h => simp only [zop] at h ⊢; rw [e1, g0, g1, g2, g3]; exact h
  | 4, h =>
    simp only [zop] at h ⊢
    obtain ⟨k1, k2, k3, k4, k5⟩ := h
    have hn := zn_nat k1
    have e9 := a6 (Int32.toNatClampNeg (S 1 r)) (by omega) (by omega)
    rw [e1, g0, g1, g2, g3, e9]
    exact ⟨k1, by omega, k3, k4, k5⟩
  | 5, h =>
    simp only [zop] at h ⊢
    obtain ⟨k1, k2, k3, k4, k5, k6⟩ := h
    have hn := zn_nat k1
    have e9 := a6 (Int32.toNatClampNeg (S 1 r)) (by omega) (by omega)
    rw [e1, g0, g1, g2, g3, e9]
    exact ⟨k1, by omega, k3, k4, k5, k6⟩
  | 6, h => simp only [zop] at h ⊢; rw [e2, g0, g1, g2, g3]; exact h
  | 7, h => simp only [zop] at h ⊢; rw [e2, g0, g1, g2, g3]; exact h
  | 8, h => simp only [zop] at h ⊢; rw [g0, g1, g2, g3]; exact h
  | 9, h => simp only [zop] at h ⊢; rw [g0, g1, g2, g3]; exact h
  | 10, h => simp only [zop] at h ⊢; rw [g0, g1, g2, g3]; exact h
  | 11, h => simp only [zop] at h ⊢; rw [g0, g1, g2, g3]; exact h
  | 12, h => simp only [zop] at h ⊢; rw [e1, g0, g1, g2, g3]; exact ⟨h.1, h.2.1, h.2.2.1, h.2.2.2.1, by omega⟩
  | 13, h => simp only [zop] at h ⊢; rw [g0, g1, g2, g3]; exact ⟨h.1, h.2.1, h.2.2.1, ztg_fr e1 hG hs h.2.2.2⟩
  | 14, h => simp only [zop] at h ⊢; rw [g0]; exact ztg_fr e1 hG hs h
  | 15, h =>
    simp only [zop] at h ⊢
    rw [e1, e2, g2]
    obtain ⟨k1, k2, AL, k3, k4, k5⟩ := h
    refine ⟨k1, k2, AL, k3, zli_ext k4 (fun m hm => (a5 m (k5 m hm).1).2.1), fun m hm => ?_⟩
    obtain ⟨m1, m2, m3, m4, m5, m6, m7, m8, m9⟩ := k5 m hm
    obtain ⟨c4, c5, c6, c7, c8, c9⟩ := a5 m m1
    obtain ⟨d1, d2⟩ := zfl_fr hF0 m3
    unfold zarm
    rw [c4, c6, c8, c9, g0, g2, d1, hG _ m7 1 (by decide), hG _ m7 3 (by decide), hG _ m7 4 (by decide), g4]
    refine ⟨by omega, m2, d2, m4, by omega, m6, ?_, m8, m9⟩
    rcases List.mem_cons.mp m7 with q | q
    · exact List.mem_cons.mpr (Or.inl q)
    · exact List.mem_cons.mpr (Or.inr (hs _ q))
  | 16, h => simp only [zop] at h ⊢; rw [g0]; exact ztg_fr e1 hG hs h
  | 17, h => simp only [zop] at h ⊢; rw [g0]; exact h
  | n + 18, h => exact h.elim
theorem zseg_fr {S S2 : Nat → Nat → Int32} {G G2 : Nat → Nat → Int} {f : Nat} (hF : zfr S S2 G G2) {Y : List Nat} : ∀ {X : List Nat}, (∀ q ∈ X, (q : Int) < (S 11 0).toInt) → (∀ q ∈ X, q ∉ Y) → zseg S G f X → zseg S2 G2 f Y → zseg S2 G2 f (X ++ Y)
  | [], _, _, _, h => h
  | r :: po, hr, hd, h, hy => ⟨zrow_fr hF hr (fun q hq => List.mem_append.mpr (Or.inl hq)) (fun g => (List.mem_append.mp g).elim h.1.1 (hd r List.mem_cons_self)) h.1, zseg_fr hF (fun q hq => hr q (List.mem_cons_of_mem _ hq)) (fun q hq => hd q (List.mem_cons_of_mem _ hq)) h.2 hy⟩
theorem zco_ext {G G2 : Nat → Nat → Int} : ∀ {X : List Nat} {h c h2 c2 : Int}, zco G h c X h2 c2 → (∀ q ∈ X, ∀ k, k < 5 → G2 q k = G q k) → zco G2 h c X h2 c2
  | [], _, _, _, _, k, _ => k
  | r :: l, h, c, h2, c2, k, e => by
    have er := e r List.mem_cons_self
    refine ⟨by rw [er 0 (by decide)]; exact k.1, by rw [er 2 (by decide)]; exact k.2.1, ?_⟩
    rw [er 1 (by decide), er 3 (by decide)]
    exact zco_ext k.2.2 (fun q hq => e q (List.mem_cons_of_mem _ hq))
theorem zco_app {G : Nat → Nat → Int} {Y : List Nat} {h1 c1 h2 c2 : Int} (hy : zco G h1 c1 Y h2 c2) : ∀ {X : List Nat} {h c : Int}, zco G h c X h1 c1 → zco G h c (X ++ Y) h2 c2
  | [], _, _, k => by rw [k.1, k.2]; exact hy
  | _ :: _, _, _, k => ⟨k.1, k.2.1, zco_app hy k.2.2⟩
/-- the last row of a stretch, or d -/
def zla : Nat → List Nat → Nat
  | d, [] => d
  | _, r :: l => zla r l
theorem zla_app : ∀ (X : List Nat) (d : Nat) (Y : List Nat), zla d (X ++ Y) = zla (zla d X) Y
  | [], _, _ => rfl
  | r :: l, _, Y => zla_app l r Y
theorem zla_in : ∀ (X : List Nat) (d : Nat), zla d X = d ∨ zla d X ∈ X
  | [], _ => Or.inl rfl
  | r :: l, _ => Or.inr (by
    show zla r l ∈ r :: l
    rcases zla_in l r with h | h
    · rw [h]; exact List.mem_cons_self
    · exact List.mem_cons_of_mem _ h)
theorem zla_mem {X : List Nat} (h : X ≠ []) (d : Nat) : zla d X ∈ X := by
  cases X with
  | nil => exact (h rfl).elim
  | cons r l =>
    show zla r l ∈ r :: l
    rcases zla_in l r with h | h
    · rw [h]; exact List.mem_cons_self
    · exact List.mem_cons_of_mem _ h
theorem zli_app {nx nx2 : Nat → Int32} {Y : List Nat} : ∀ {X : List Nat} {x : Int32} {d : Nat}, X ≠ [] → X.Nodup → zli nx x X → (∀ r ∈ X, r ≠ zla d X → nx2 r = nx r) → zli nx2 (nx2 (zla d X)) Y → zli nx2 x (X ++ Y)
  | [], _, _, hn, _, _, _, _ => (hn rfl).elim
  | [y], x, d, _, _, h, _, hy => ⟨h.1, hy⟩
  | y :: z :: l, x, d, _, hnd, h, he, hy => by
    have hin : zla y (z :: l) ∈ z :: l := zla_mem (List.cons_ne_nil _ _) y
    have hyl : y ≠ zla d (y :: z :: l) := fun g => (List.nodup_cons.mp hnd).1 (by rw [g]; exact hin)
    refine ⟨h.1, ?_⟩
    rw [he y List.mem_cons_self hyl]
    exact zli_app (d := y) (List.cons_ne_nil _ _) (List.nodup_cons.mp hnd).2 h.2 (fun r hr hne => he r (List.mem_cons_of_mem _ hr) hne) hy
/-- a stretch of code that came behind the tail: X is judged, T (no row, or one) not yet -/
def zE (S S2 : Nat → Nat → Int32) (G G2 : Nat → Nat → Int) (f : Nat) (h c : Int) (X T : List Nat) (h2 c2 : Int) : Prop :=
  zfr S S2 G G2 ∧ (∀ r : Nat, (r : Int) < (S 11 0).toInt → (r : Int) ≠ (S 12 0).toInt → S2 3 r = S 3 r) ∧
  zli (S2 3) (S2 3 (Int32.toNatClampNeg (S 12 0))) (X ++ T) ∧ 0 ≤ (S2 12 0).toInt ∧ zla (Int32.toNatClampNeg (S 12 0)) (X ++ T) = Int32.toNatClampNeg (S2 12 0) ∧
  (∀ r ∈ X ++ T, (S 11 0).toInt ≤ (r : Int) ∧ (r : Int) < (S2 11 0).toInt) ∧ (((X ++ T).length : Nat) : Int) = (S2 11 0).toInt - (S 11 0).toInt ∧ (X ++ T).Nodup ∧
  zseg S2 G2 f X ∧ zco G2 h c X h2 c2
/-- the parser's code as it stands between two rows -/
def zS0 (S : Nat → Nat → Int32) : Prop := 0 ≤ (S 12 0).toInt ∧ (S 12 0).toInt < (S 11 0).toInt ∧ (S 3 (Int32.toNatClampNeg (S 12 0))).toInt = -1
theorem zE_end {S S2 : Nat → Nat → Int32} {G G2 : Nat → Nat → Int} {f : Nat} {h c : Int} {X T : List Nat} {h2 c2 : Int} (h0 : zS0 S) (k : zE S S2 G G2 f h c X T h2 c2) : zS0 S2 := by
  obtain ⟨a, b, d, e, g, i, j, n, m, o⟩ := k
  obtain ⟨p, q, r⟩ := h0
  have hn := zn_nat p
  have hn2 := zn_nat e
  have a1 := a.1
  refine ⟨e, ?_, ?_⟩
  · rcases zla_in (X ++ T) (Int32.toNatClampNeg (S 12 0)) with u | u
    · rw [g] at u; omega
    · rw [g] at u; have := i _ u; omega
  · rw [← g]
    generalize Int32.toNatClampNeg (S 12 0) = d0 at d ⊢
    clear g i j n m o b
    generalize X ++ T = Z at d ⊢
    induction Z generalizing d0 with
    | nil => exact d
    | cons y l ih => exact ih y d.2
theorem zE_tr {S S1 S2 : Nat → Nat → Int32} {G G1 G2 : Nat → Nat → Int} {f : Nat} {h c h1 c1 h2 c2 : Int} {X Y T : List Nat} (h0 : zS0 S) (a : zE S S1 G G1 f h c X [] h1 c1) (b : zE S1 S2 G1 G2 f h1 c1 Y T h2 c2) : zE S S2 G G2 f h c (X ++ Y) T h2 c2 := by
  have hS1 := zE_end h0 a
  obtain ⟨a1, a2, a3, a4, a5, a6, a7, a8, a9, aa⟩ := a
  obtain ⟨b1, b2, b3, b4, b5, b6, b7, b8, b9, ba⟩ := b
  rw [List.append_nil] at a3 a5 a6 a7 a8
  obtain ⟨p0, p1, p2⟩ := h0
  obtain ⟨q0, q1, q2⟩ := hS1
  have hn := zn_nat p0
  have hn1 := zn_nat q0
  have l1 := a1.1
  have l2 := b1.1
  have hdis : ∀ r ∈ X, ∀ q ∈ Y ++ T, r ≠ q := fun r hr q hq e => by
    have u := a6 r hr
    have v := b6 q hq
    subst e; omega
  unfold zE
  rw [List.append_assoc]
  refine ⟨zfr_tr a1 b1, fun r hr hne => ?_, ?_, b4, ?_, fun r hr => ?_, ?_, ?_, ?_, ?_⟩
  · rw [b2 r (by omega) ?_, a2 r hr hne]
    intro e
    rcases zla_in X (Int32.toNatClampNeg (S 12 0)) with u | u
    · rw [a5] at u; rw [u] at hn1; omega
    · rw [a5] at u; have := a6 _ u; omega
  · rcases X with _ | ⟨x, X⟩
    · have e : Int32.toNatClampNeg (S 12 0) = Int32.toNatClampNeg (S1 12 0) := a5
      show zli (S2 3) (S2 3 (Int32.toNatClampNeg (S 12 0))) (Y ++ T)
      rw [e]; exact b3
    · have hne : Int32.toNatClampNeg (S 12 0) ≠ Int32.toNatClampNeg (S1 12 0) := fun e => by
        have u := zla_mem (List.cons_ne_nil x X) (Int32.toNatClampNeg (S 12 0))
        rw [a5] at u; have := a6 _ u; omega
      rw [b2 (Int32.toNatClampNeg (S 12 0)) (by omega) (by omega)]
      refine zli_app (d := Int32.toNatClampNeg (S 12 0)) (List.cons_ne_nil _ _) a8 a3 (fun r hr hne2 => ?_) (by rw [a5]; exact b3)
      have u := a6 r hr
      exact b2 r u.2 (by rw [a5] at hne2; omega)
  · rw [zla_app, a5]; exact b5
  · rcases List.mem_append.mp hr with u | u
    · have := a6 r u; omega
    · have := b6 r u; omega
  · rw [List.length_append]; omega
  · exact List.nodup_append.mpr ⟨a8, b8, hdis⟩
  · exact zseg_fr b1 (fun q hq => (a6 q hq).2) (fun q hq g => hdis q hq q (List.mem_append.mpr (Or.inl g)) rfl) a9 b9
  · exact zco_app ba (zco_ext aa (fun q hq => (b1.2.2.2.1 q (a6 q hq).2).2.2.2))
theorem zE_nil {S : Nat → Nat → Int32} {G : Nat → Nat → Int} {f : Nat} {h c : Int} (h0 : zS0 S) : zE S S G G f h c [] [] h c :=
  ⟨zfr_rf, fun _ _ _ => rfl, h0.2.2, h0.1, rfl, fun _ h => (nomatch h), by show (0 : Int) = _; omega, List.nodup_nil, trivial, rfl, rfl⟩
/-- a row comes behind the tail -/
def zap (S S2 : Nat → Nat → Int32) (o x : Int32) : Prop := (S2 11 0).toInt = (S 11 0).toInt + 1 ∧ S2 12 0 = S 11 0 ∧ S2 0 = upd (S 0) (Int32.toNatClampNeg (S 11 0)) o ∧ S2 1 = upd (S 1) (Int32.toNatClampNeg (S 11 0)) x ∧ S2 2 = upd (S 2) (Int32.toNatClampNeg (S 11 0)) (-1) ∧ S2 3 = upd (upd (S 3) (Int32.toNatClampNeg (S 11 0)) (S 3 (Int32.toNatClampNeg (S 12 0)))) (Int32.toNatClampNeg (S 12 0)) (S 11 0) ∧ ∀ k, 4 ≤ k → k ≠ 11 → k ≠ 12 → S2 k = S k
theorem zu_s {f : Nat → Int32} {k : Nat} {x : Int32} : upd f k x k = x := pk_us
theorem zu_n {f : Nat → Int32} {k j : Nat} {x : Int32} (h : j ≠ k) : upd f k x j = f j := by unfold upd; rw [if_neg h]
theorem zap_fr {S S2 : Nat → Nat → Int32} {G : Nat → Nat → Int} {o x : Int32} (h0 : zS0 S) (h : zap S S2 o x) : zfr S S2 G G := by
  obtain ⟨h1, h2, h3, h4, h5, h6, h7⟩ := h
  obtain ⟨p0, p1, p2⟩ := h0
  have hn := zn_nat (x := S 11 0) (by omega)
  refine ⟨by omega, by rw [h7 13 (by decide) (by decide) (by decide)]; exact Int.le_refl _, by rw [h7 14 (by decide) (by decide) (by decide)]; exact Int.le_refl _, fun r hr => ?_, fun m _ => ?_, fun k _ _ => ?_, fun g => ?_⟩
  · have hne : r ≠ Int32.toNatClampNeg (S 11 0) := by omega
    rw [h3, h4, h5, zu_n hne, zu_n hne, zu_n hne]
    exact ⟨rfl, rfl, rfl, fun _ _ => rfl⟩
  · rw [h7 4 (by decide) (by decide) (by decide), h7 5 (by decide) (by decide) (by decide), h7 6 (by decide) (by decide) (by decide), h7 7 (by decide) (by decide) (by decide), h7 8 (by decide) (by decide) (by decide)]
    exact ⟨rfl, rfl, rfl, rfl, rfl, rfl⟩
  · rw [h7 9 (by decide) (by decide) (by decide)]
  · rw [h7 10 (by decide) (by decide) (by decide)]
    exact ⟨Int.le_refl _, rfl, Or.inl rfl⟩
theorem zE_ap {S S2 : Nat → Nat → Int32} {G : Nat → Nat → Int} {f : Nat} {h c : Int} {o x : Int32} (h0 : zS0 S) (k : zap S S2 o x) : zE S S2 G G f h c [] [Int32.toNatClampNeg (S 11 0)] h c := by
  have hF := zap_fr (G := G) h0 k
  obtain ⟨h1, h2, h3, h4, h5, h6, h7⟩ := k
  obtain ⟨p0, p1, p2⟩ := h0
  have hn := zn_nat (x := S 11 0) (by omega)
  have hn2 := zn_nat p0
  have hne : Int32.toNatClampNeg (S 11 0) ≠ Int32.toNatClampNeg (S 12 0) := by omega
  refine ⟨hF, fun r hr hr2 => ?_, ⟨?_, ?_⟩, by rw [h2]; omega, by rw [h2]; rfl, fun r hr => ?_, by show (1 : Int) = _; omega, List.nodup_cons.mpr ⟨by intro g; exact (nomatch g), List.nodup_nil⟩, trivial, rfl, rfl⟩
  · rw [h6, zu_n (by omega), zu_n (by omega)]
  · rw [h6, zu_s]; omega
  · show (S2 3 (Int32.toNatClampNeg (S 11 0))).toInt = -1
    rw [h6, zu_n hne, zu_s]; exact p2
  · rcases List.mem_cons.mp hr with e | e
    · rw [e]; omega
    · exact nomatch e
/-- G with another row t -/
def zgu (G : Nat → Nat → Int) (t : Nat) (a b c d e : Int) : Nat → Nat → Int := fun r k => if r = t ∧ k < 5 then (match k with | 0 => a | 1 => b | 2 => c | 3 => d | _ => e) else G r k
theorem zgu_n {G : Nat → Nat → Int} {t : Nat} {a b c d e : Int} {r k : Nat} (h : r ≠ t) : zgu G t a b c d e r k = G r k := by unfold zgu; rw [if_neg (fun g => h g.1)]
theorem zgu_5 {G : Nat → Nat → Int} {t : Nat} {a b c d e : Int} {r : Nat} : zgu G t a b c d e r 5 = G r 5 := by unfold zgu; rw [if_neg (fun g => absurd g.2 (by decide))]
theorem zgu_s {G : Nat → Nat → Int} {t : Nat} {a b c d e : Int} : zgu G t a b c d e t 0 = a ∧ zgu G t a b c d e t 1 = b ∧ zgu G t a b c d e t 2 = c ∧ zgu G t a b c d e t 3 = d ∧ zgu G t a b c d e t 4 = e := by
  refine ⟨?_, ?_, ?_, ?_, ?_⟩ <;> (unfold zgu; rw [if_pos ⟨rfl, by decide⟩]; rfl)
theorem zfr_gu {S S2 : Nat → Nat → Int32} {G G2 : Nat → Nat → Int} {t : Nat} {a b c d e : Int} (hF : zfr S S2 G G2) (ht : (S 11 0).toInt ≤ (t : Int)) : zfr S S2 G (zgu G2 t a b c d e) := by
  obtain ⟨a1, a2, a3, a4, a5, a6, a7⟩ := hF
  refine ⟨a1, a2, a3, fun r hr => ?_, fun m hm => ?_, a6, a7⟩
  · obtain ⟨p, q, w, u⟩ := a4 r hr
    exact ⟨p, q, w, fun k hk => by rw [zgu_n (by omega)]; exact u k hk⟩
  · rw [zgu_5]; exact a5 m hm
/-- rows that do not lead to t don't ask for it -/
theorem zseg_gu {S : Nat → Nat → Int32} {G : Nat → Nat → Int} {f t : Nat} {a b c d e : Int} : ∀ {X : List Nat}, t ∉ X → zseg S G f X → zseg S (zgu G t a b c d e) f X
  | [], _, _ => trivial
  | r :: po, ht, h => by
    refine ⟨?_, zseg_gu (fun g => ht (List.mem_cons_of_mem _ g)) h.2⟩
    have hne : ∀ q ∈ r :: po, q ≠ t := fun q hq e => ht (e ▸ hq)
    have hG : ∀ q ∈ r :: po, ∀ k, k < 5 → zgu G t a b c d e q k = G q k := fun q hq k _ => zgu_n (hne q hq)
    have hr := hG r List.mem_cons_self
    have g0 := hr 0 (by decide)
    have g1 := hr 1 (by decide)
    have g2 := hr 2 (by decide)
    have g3 := hr 3 (by decide)
    have g4 := hr 4 (by decide)
    obtain ⟨h1, h2, h3, h4, h5, h6, h7, h8⟩ := h.1
    refine ⟨h1, by omega, by omega, by omega, by omega, by omega, by omega, ?_⟩
    generalize Int32.toNatClampNeg (S 0 r) = n at h8 ⊢
    match n, h8 with
    | 0, h => simp only [zop] at h ⊢; rw [g0, g1, g2, g3]; exact h
    | 1, h => simp only [zop] at h ⊢; rw [g0, g1, g2, g3]; exact h
    | 2, h => simp only [zop] at h ⊢; rw [g0, g1, g2, g3]; exact h
    | 3, h => simp only [zop] at h ⊢; rw [g0, g1, g2, g3]; exact h
    | 4, h => simp only [zop] at h ⊢; rw [g0, g1, g2, g3]; exact h
    | 5, h => simp only [zop] at h ⊢; rw [g0, g1, g2, g3]; exact h
    | 6, h => simp only [zop] at h ⊢; rw [g0, g1, g2, g3]; exact h
    | 7, h => simp only [zop] at h ⊢; rw [g0, g1, g2, g3]; exact h
    | 8, h => simp only [zop] at h ⊢; rw [g0, g1, g2, g3]; exact h
    | 9, h => simp only [zop] at h ⊢; rw [g0, g1, g2, g3]; exact h
    | 10, h => simp only [zop] at h ⊢; rw [g0, g1, g2, g3]; exact h
    | 11, h => simp only [zop] at h ⊢; rw [g0, g1, g2, g3]; exact h
    | 12, h => simp only [zop] at h ⊢; rw [g0, g1, g2, g3]; exact h
    | 13, h => simp only [zop] at h ⊢; rw [g0, g1, g2, g3]; exact ⟨h.1, h.2.1, h.2.2.1, ztg_fr rfl hG (fun _ g => g) h.2.2.2⟩
    | 14, h => simp only [zop] at h ⊢; rw [g0]; exact ztg_fr rfl hG (fun _ g => g) h
    | 15, h =>
      simp only [zop] at h ⊢
      rw [g2]
      obtain ⟨k1, k2, AL, k3, k4, k5⟩ := h
      refine ⟨k1, k2, AL, k3, k4, fun m hm => ?_⟩
      obtain ⟨m1, m2, m3, m4, m5, m6, m7, m8, m9⟩ := k5 m hm
      unfold zarm
      rw [zgu_5, g0, g2, hG _ m7 1 (by decide), hG _ m7 3 (by decide), hG _ m7 4 (by decide), g4]
      exact ⟨m1, m2, m3, m4, m5, m6, m7, m8, m9⟩
    | 16, h => simp only [zop] at h ⊢; rw [g0]; exact ztg_fr rfl hG (fun _ g => g) h
    | 17, h => simp only [zop] at h ⊢; rw [g0]; exact h
    | n + 18, h => exact h.elim
/-- the row that was not judged yet -/
theorem zE_judge {S S2 : Nat → Nat → Int32} {G G2 : Nat → Nat → Int} {f t : Nat} {h c h1 c1 : Int} {X : List Nat} {b c2 d : Int} (k : zE S S2 G G2 f h c X [t] h1 c1) (hc : c2 ≤ c1) (hz : zrow S2 (zgu G2 t h1 b c2 d (f : Int)) f t []) : zE S S2 G (zgu G2 t h1 b c2 d (f : Int)) f h c (X ++ [t]) [] b d := by
  obtain ⟨a1, a2, a3, a4, a5, a6, a7, a8, a9, aa⟩ := k
  have htX : t ∉ X := fun g => (List.nodup_append.mp a8).2.2 t g t List.mem_cons_self rfl
  have hs := zgu_s (G := G2) (t := t) (a := h1) (b := b) (c := c2) (d := d) (e := (f : Int))
  unfold zE
  rw [List.append_nil]
  refine ⟨zfr_gu a1 (a6 t (List.mem_append.mpr (Or.inr List.mem_cons_self))).1, a2, a3, a4, a5, a6, a7, a8, ?_, ?_⟩
  · exact zseg_fr zfr_rf (fun q hq => (a6 q (List.mem_append.mpr (Or.inl hq))).2) (fun q hq g => by
      rcases List.mem_cons.mp g with e | e
      · exact htX (e ▸ hq)
      · exact nomatch e) (zseg_gu htX a9) ⟨hz, trivial⟩
  · refine zco_app (G := zgu G2 t h1 b c2 d (f : Int)) (Y := [t]) (h1 := h1) (c1 := c1) ⟨hs.1, by rw [hs.2.2.1]; exact hc, hs.2.1, hs.2.2.2.1⟩ (zco_ext aa (fun q hq k _ => zgu_n (fun e => htX (e ▸ hq))))
/-- a row is put ahead of a stretch -/
def zins (S S1 S2 : Nat → Nat → Int32) : Prop := (S2 11 0).toInt = (S1 11 0).toInt + 1 ∧ S2 12 0 = S1 12 0 ∧ S2 0 = upd (S1 0) (Int32.toNatClampNeg (S1 11 0)) 1 ∧ S2 1 = upd (S1 1) (Int32.toNatClampNeg (S1 11 0)) (-1) ∧ S2 2 = upd (S1 2) (Int32.toNatClampNeg (S1 11 0)) (-1) ∧ S2 3 = upd (upd (S1 3) (Int32.toNatClampNeg (S1 11 0)) (S1 3 (Int32.toNatClampNeg (S 12 0)))) (Int32.toNatClampNeg (S 12 0)) (S1 11 0) ∧ ∀ k, 4 ≤ k → k ≠ 11 → k ≠ 12 → S2 k = S1 k
theorem zE_ins {S S1 S2 : Nat → Nat → Int32} {G G1 : Nat → Nat → Int} {f : Nat} {h c h2 c2 : Int} {X : List Nat} (h0 : zS0 S) (hh : 0 ≤ h) (hc : 0 ≤ c) (hm : c ≤ (S 10 (5 * f + 1)).toInt) (hX : X ≠ []) (k : zE S S1 G G1 f h c X [] h2 c2) (i : zins S S1 S2) : ∃ r G2, zE S S2 G G2 f h c (r :: X) [] h2 c2 := by
  have hS1 := zE_end h0 k
  obtain ⟨a1, a2, a3, a4, a5, a6, a7, a8, a9, aa⟩ := k
  obtain ⟨i1, i2, i3, i4, i5, i6, i7⟩ := i
  obtain ⟨p0, p1, p2⟩ := h0
  rw [List.append_nil] at a3 a5 a6 a7 a8
  have n0 := zn_nat p0
  have n1 := zn_nat (x := S1 11 0) (by have := a1.1; omega)
  have l1 := a1.1
  generalize hr0 : Int32.toNatClampNeg (S1 11 0) = r at *
  have hrX : r ∉ X := fun g => by have := a6 r g; omega
  have hF2 : zfr S1 S2 G1 (zgu G1 r h h c c (f : Int)) := by
    refine zfr_gu (G2 := G1) ⟨by omega, by rw [i7 13 (by decide) (by decide) (by decide)]; exact Int.le_refl _, by rw [i7 14 (by decide) (by decide) (by decide)]; exact Int.le_refl _, fun q hq => ?_, fun m _ => ?_, fun k _ _ => ?_, fun g => ?_⟩ (by omega)
    · have hne : q ≠ r := by omega
      rw [i3, i4, i5, zu_n hne, zu_n hne, zu_n hne]
      exact ⟨rfl, rfl, rfl, fun _ _ => rfl⟩
    · rw [i7 4 (by decide) (by decide) (by decide), i7 5 (by decide) (by decide) (by decide), i7 6 (by decide) (by decide) (by decide), i7 7 (by decide) (by decide) (by decide), i7 8 (by decide) (by decide) (by decide)]
      exact ⟨rfl, rfl, rfl, rfl, rfl, rfl⟩
    · rw [i7 9 (by decide) (by decide) (by decide)]
    · rw [i7 10 (by decide) (by decide) (by decide)]
      exact ⟨Int.le_refl _, rfl, Or.inl rfl⟩
  have hs := zgu_s (G := G1) (t := r) (a := h) (b := h) (c := c) (d := c) (e := (f : Int))
  have hd0 : Int32.toNatClampNeg (S 12 0) ≠ r := by omega
  have hdX : Int32.toNatClampNeg (S 12 0) ∉ X := fun g => by have := a6 _ g; omega
  refine ⟨r, zgu G1 r h h c c (f : Int), ?_⟩
  unfold zE
  rw [List.append_nil]
  refine ⟨zfr_tr a1 hF2, fun q hq hne => ?_, ⟨?_, ?_⟩, by rw [i2]; exact a4, ?_, fun q hq => ?_, ?_, List.nodup_cons.mpr ⟨hrX, a8⟩, ⟨?_, ?_⟩, ⟨hs.1, by rw [hs.2.2.1]; exact Int.le_refl _, ?_⟩⟩
  · rw [i6, zu_n (by omega), zu_n (by omega), a2 q hq hne]
  · rw [i6, zu_s]; omega
  · show zli (S2 3) (S2 3 r) X
    have e1 : S2 3 r = S1 3 (Int32.toNatClampNeg (S 12 0)) := by rw [i6, zu_n (Ne.symm hd0), zu_s]
    rw [e1]
    exact zli_ext a3 (fun q hq => by rw [i6, zu_n (show q ≠ Int32.toNatClampNeg (S 12 0) from fun e => hdX (e ▸ hq)), zu_n (show q ≠ r from fun e => hrX (e ▸ hq))])
  · rw [i2, ← a5]
    cases X with
    | nil => exact (hX rfl).elim
    | cons x X => simp only [zla]
  · rcases List.mem_cons.mp hq with e | e
    · rw [e]; omega
    · have := a6 q e; omega
  · show ((X.length + 1 : Nat) : Int) = _
    omega
  · refine ⟨hrX, by rw [hs.1]; exact hh, by rw [hs.2.1]; exact hh, by rw [hs.2.2.1]; exact hc, by rw [hs.2.2.2.1]; exact hc, ?_, hs.2.2.2.2, ?_⟩
    · rw [hs.2.2.1]
      have u := (a1.2.2.2.2.2.2 f).1
      have v := (hF2.2.2.2.2.2.2 f).1
      omega
    · have e : Int32.toNatClampNeg (S2 0 r) = 1 := by rw [i3, zu_s]; rfl
      rw [e]
      simp only [zop]
      exact ⟨by rw [hs.1, hs.2.1], by rw [hs.2.2.1, hs.2.2.2.1]; exact Int.le_refl _⟩
  · have := zseg_fr (Y := []) hF2 (fun q hq => (a6 q hq).2) (fun q _ g => nomatch g) a9 trivial
    rw [List.append_nil] at this
    exact this
  · rw [hs.2.1, hs.2.2.2.1]
    exact zco_ext aa (fun q hq k _ => zgu_n (fun e => hrX (e ▸ hq)))

end
section
theorem zco_last {G : Nat → Nat → Int} : ∀ {X : List Nat} {h c h2 c2 : Int} (d : Nat), X ≠ [] → zco G h c X h2 c2 → G (zla d X) 1 = h2 ∧ G (zla d X) 3 = c2
  | [], _, _, _, _, _, hn, _ => (hn rfl).elim
  | [r], _, _, _, _, _, _, k => ⟨k.2.2.1, k.2.2.2⟩
  | r :: s :: l, _, _, _, _, _, _, k => zco_last r (List.cons_ne_nil s l) k.2.2
theorem zop_low {S : Nat → Nat → Int32} {G G3 : Nat → Nat → Int} {f r : Nat} {po : List Nat} (he : ∀ q k, k ≠ 3 → G3 q k = G q k) (hl : ∀ q, G3 q 3 ≤ G q 3) : ∀ n, zop S G f r po n → zop S G3 f r po n := by
  have g0 := he r 0 (by decide)
  have g1 := he r 1 (by decide)
  have g2 := he r 2 (by decide)
  have g3 := hl r
  have tg : ∀ h, ztg S G r po h → ztg S G3 r po h := fun h t => by
    unfold ztg
    rcases t with t | ⟨t1, t2, t3, t4⟩
    · exact Or.inl t
    · have := hl (Int32.toNatClampNeg (S 1 r))
      exact Or.inr ⟨t1, t2, by rw [he _ 1 (by decide)]; exact t3, by omega, by rw [he _ 4 (by decide), he _ 4 (by decide)]; exact t4.2⟩
  intro n h
  match n, h with
  | 0, h => simp only [zop] at h ⊢; rw [g0, g1, g2]; exact ⟨h.1, h.2.1, h.2.2.1, by omega, by omega, h.2.2.2.2.2⟩
  | 1, h => simp only [zop] at h ⊢; rw [g0, g1, g2]; exact ⟨h.1, by omega⟩
  | 2, h => simp only [zop] at h ⊢; rw [g0, g1, g2]; exact ⟨h.1, by omega⟩
  | 3, h => simp only [zop] at h ⊢; rw [g0, g1, g2]; exact ⟨h.1, h.2.1, h.2.2.1, by omega⟩
  | 4, h => simp only [zop] at h ⊢; rw [g0, g1, g2]; exact ⟨h.1, h.2.1, h.2.2.1, h.2.2.2.1, by omega⟩
  | 5, h => simp only [zop] at h ⊢; rw [g0, g1, g2]; exact ⟨h.1, h.2.1, h.2.2.1, h.2.2.2.1, h.2.2.2.2.1, by omega⟩
  | 6, h => simp only [zop] at h ⊢; rw [g0, g1, g2]; exact ⟨h.1, h.2.1, h.2.2.1, by omega⟩
  | 7, h => simp only [zop] at h ⊢; rw [g0, g1, g2]; exact ⟨h.1, h.2.1, h.2.2.1, by omega⟩
  | 8, h => simp only [zop] at h ⊢; rw [g0, g1, g2]; exact ⟨h.1, h.2.1, by omega⟩
  | 9, h => simp only [zop] at h ⊢; rw [g0, g1, g2]; exact ⟨h.1, h.2.1, by omega⟩
  | 10, h => simp only [zop] at h ⊢; rw [g0, g1, g2]; exact ⟨h.1, h.2.1, by omega⟩
  | 11, h => simp only [zop] at h ⊢; rw [g0, g1, g2]; exact ⟨h.1, h.2.1, by omega⟩
  | 12, h => simp only [zop] at h ⊢; rw [g0, g1, g2]; exact ⟨h.1, h.2.1, h.2.2.1, by omega, h.2.2.2.2⟩
  | 13, h => simp only [zop] at h ⊢; rw [g0, g1, g2]; exact ⟨h.1, h.2.1, by omega, tg _ h.2.2.2⟩
  | 14, h => simp only [zop] at h ⊢; rw [g0]; exact tg _ h
  | 15, h =>
    simp only [zop] at h ⊢
    rw [g2]
    obtain ⟨k1, k2, AL, k3, k4, k5⟩ := h
    refine ⟨k1, k2, AL, k3, k4, fun m hm => ?_⟩
    obtain ⟨m1, m2, m3, m4, m5, m6, m7, m8, m9⟩ := k5 m hm
    have := hl (Int32.toNatClampNeg (S 6 m))
    unfold zarm
    rw [he m 5 (by decide), g0, g2, he _ 1 (by decide)]
    exact ⟨m1, m2, m3, m4, m5, m6, m7, m8, by omega, by rw [he _ 4 (by decide), he _ 4 (by decide)]; exact m9.2⟩
  | 16, h => simp only [zop] at h ⊢; rw [g0]; exact tg _ h
  | 17, h => simp only [zop] at h ⊢; rw [g0]; exact h
  | n + 18, h => exact h.elim
theorem zseg_low {S : Nat → Nat → Int32} {G G3 : Nat → Nat → Int} {f : Nat} (he : ∀ q k, k ≠ 3 → G3 q k = G q k) (hl : ∀ q, G3 q 3 ≤ G q 3) : ∀ {X : List Nat}, (∀ q ∈ X, 0 ≤ G3 q 3) → zseg S G f X → zseg S G3 f X
  | [], _, _ => trivial
  | r :: po, h0, h => by
    obtain ⟨h1, h2, h3, h4, h5, h6, h7, h8⟩ := h.1
    refine ⟨⟨h1, by rw [he r 0 (by decide)]; exact h2, by rw [he r 1 (by decide)]; exact h3, by rw [he r 2 (by decide)]; exact h4, h0 r List.mem_cons_self, by rw [he r 2 (by decide)]; exact h6, by rw [he r 4 (by decide)]; exact h7, zop_low he hl _ h8⟩, zseg_low he hl (fun q hq => h0 q (List.mem_cons_of_mem _ hq)) h.2⟩
theorem zco_low {G G3 : Nat → Nat → Int} {t : Nat} {c3 : Int} (he : ∀ q k, ¬ (q = t ∧ k = 3) → G3 q k = G q k) (ht : G3 t 3 = c3) : ∀ {X : List Nat} {h c h2 c2 : Int} (d : Nat), X ≠ [] → X.Nodup → zla d X = t → zco G h c X h2 c2 → zco G3 h c X h2 c3
  | [], _, _, _, _, _, hn, _, _, _ => (hn rfl).elim
  | [r], h, c, h2, c2, d, _, _, e, k => by
    have e : r = t := e
    subst e
    refine ⟨by rw [he r 0 (fun g => absurd g.2 (by decide))]; exact k.1, by rw [he r 2 (fun g => absurd g.2 (by decide))]; exact k.2.1, by rw [he r 1 (fun g => absurd g.2 (by decide))]; exact k.2.2.1, ht⟩
  | r :: s :: l, h, c, h2, c2, d, _, hn, e, k => by
    have hrt : r ≠ t := fun g => (List.nodup_cons.mp hn).1 (by rw [g, ← e]; exact zla_mem (List.cons_ne_nil s l) r)
    have hq : ∀ k, G3 r k = G r k := fun k => he r k (fun g => hrt g.1)
    refine ⟨by rw [hq]; exact k.1, by rw [hq]; exact k.2.1, ?_⟩
    rw [hq, hq]
    exact zco_low he ht r (List.cons_ne_nil s l) (List.nodup_cons.mp hn).2 e k.2.2
theorem zE_low {S S2 : Nat → Nat → Int32} {G G2 : Nat → Nat → Int} {f : Nat} {h c h2 c2 c3 : Int} {X : List Nat} (k : zE S S2 G G2 f h c X [] h2 c2) (hX : X ≠ []) (hc : c3 ≤ c2) (h3 : 0 ≤ c3) : ∃ G3, zE S S2 G G3 f h c X [] h2 c3 := by
  obtain ⟨a1, a2, a3, a4, a5, a6, a7, a8, a9, aa⟩ := k
  rw [List.append_nil] at a3 a5 a6 a7 a8
  have hl := zco_last (Int32.toNatClampNeg (S 12 0)) hX aa
  have hm := zla_mem hX (Int32.toNatClampNeg (S 12 0))
  generalize ht : zla (Int32.toNatClampNeg (S 12 0)) X = t at hl hm
  have htc := (a6 t hm).1
  have he : ∀ q k, ¬ (q = t ∧ k = 3) → (fun q k => if q = t ∧ k = 3 then c3 else G2 q k : Nat → Nat → Int) q k = G2 q k := fun q k g => if_neg g
  have hs : (fun q k => if q = t ∧ k = 3 then c3 else G2 q k : Nat → Nat → Int) t 3 = c3 := if_pos ⟨rfl, rfl⟩
  generalize (fun q k => if q = t ∧ k = 3 then c3 else G2 q k : Nat → Nat → Int) = G3 at he hs
  have hall : ∀ r ∈ X, 0 ≤ G2 r 3 := by
    clear a3 a5 a6 a7 a8 aa hl hm ht hX
    induction X with
    | nil => intro r hr; exact nomatch hr
    | cons x X ih =>
      intro r hr
      rcases List.mem_cons.mp hr with e | e
      · rw [e]; exact a9.1.2.2.2.2.1
      · exact ih a9.2 r e
  refine ⟨G3, ?_⟩
  unfold zE
  rw [List.append_nil]
  obtain ⟨b1, b2, b3, b4, b5, b6, b7⟩ := a1
  refine ⟨⟨b1, b2, b3, fun r hr => ?_, fun m hm => ?_, b6, b7⟩, a2, a3, a4, by rw [ht]; exact ht ▸ a5, a6, a7, a8, ?_, zco_low he hs _ hX a8 ht aa⟩
  · obtain ⟨p, q, w, u⟩ := b4 r hr
    exact ⟨p, q, w, fun k hk => by rw [he r k (fun g => by omega)]; exact u k hk⟩
  · rw [he m 5 (fun g => absurd g.2 (by decide))]; exact b5 m hm
  · refine zseg_low (fun q k hk => he q k (fun g => hk g.2)) (fun q => ?_) (fun q hq => ?_) a9
    · by_cases g : q = t
      · rw [g, hs]; omega
      · rw [he q 3 (fun u => g u.1)]; exact Int.le_refl _
    · by_cases g : q = t
      · rw [g, hs]; exact h3
      · rw [he q 3 (fun u => g u.1)]; exact hall q hq
/-- a row asks for its own numbers alone -/
theorem zrow_cg {S S2 : Nat → Nat → Int32} {G : Nat → Nat → Int} {f q : Nat} {po : List Nat} (e0 : S2 0 q = S 0 q) (e1 : S2 1 q = S 1 q) (e2 : S2 2 q = S 2 q) (hk : ∀ k, 4 ≤ k → k ≠ 7 → k ≠ 11 → k ≠ 12 → S2 k = S k) (h : zrow S G f q po) : zrow S2 G f q po := by
  have h4 := hk 4 (by decide) (by decide) (by decide) (by decide)
  have h5 := hk 5 (by decide) (by decide) (by decide) (by decide)
  have h6 := hk 6 (by decide) (by decide) (by decide) (by decide)
  have h8 := hk 8 (by decide) (by decide) (by decide) (by decide)
  have h9 := hk 9 (by decide) (by decide) (by decide) (by decide)
  have h10 := hk 10 (by decide) (by decide) (by decide) (by decide)
  have h13 := hk 13 (by decide) (by decide) (by decide) (by decide)
  have h14 := hk 14 (by decide) (by decide) (by decide) (by decide)
  obtain ⟨a1, a2, a3, a4, a5, a6, a7, a8⟩ := h
  refine ⟨a1, a2, a3, a4, a5, by rw [h10]; exact a6, a7, ?_⟩
  rw [e0]
  generalize Int32.toNatClampNeg (S 0 q) = n at a8 ⊢
  have tg : ∀ h, ztg S G q po h → ztg S2 G q po h := fun h t => by unfold ztg; rw [e1]; exact t
  match n, a8 with
  | 0, h => simp only [zop] at h ⊢; rw [e0, e1, h10]; exact h
  | 1, h => simp only [zop] at h ⊢; exact h
  | 2, h => simp only [zop] at h ⊢; exact h
  | 3, h => simp only [zop] at h ⊢; rw [e1]; exact h
  | 4, h => simp only [zop] at h ⊢; rw [e1, h9, h14]; exact h
  | 5, h => simp only [zop] at h ⊢; rw [e1, h9, h14]; exact h
  | 6, h => simp only [zop] at h ⊢; rw [e2]; exact h
  | 7, h => simp only [zop] at h ⊢; rw [e2]; exact h
  | 8, h => simp only [zop] at h ⊢; exact h
  | 9, h => simp only [zop] at h ⊢; exact h
  | 10, h => simp only [zop] at h ⊢; exact h
  | 11, h => simp only [zop] at h ⊢; exact h
  | 12, h => simp only [zop] at h ⊢; rw [e1, h10]; exact h
  | 13, h => simp only [zop] at h ⊢; exact ⟨h.1, h.2.1, h.2.2.1, tg _ h.2.2.2⟩
  | 14, h => simp only [zop] at h ⊢; exact tg _ h
  | 15, h =>
    simp only [zop] at h ⊢
    rw [e1, e2, h5]
    obtain ⟨k1, k2, AL, k3, k4, k5⟩ := h
    refine ⟨k1, k2, AL, k3, k4, fun m hm => ?_⟩
    have u := k5 m hm
    unfold zarm zkd zfl at u ⊢
    rw [h13, h4, h8, h10, h6, h14, h9]
    exact u
  | 16, h => simp only [zop] at h ⊢; exact tg _ h
  | 17, h => simp only [zop] at h ⊢; exact h
  | n + 18, h => exact h.elim
theorem zseg_cg {S S2 : Nat → Nat → Int32} {G : Nat → Nat → Int} {f : Nat} (hk : ∀ k, 4 ≤ k → k ≠ 7 → k ≠ 11 → k ≠ 12 → S2 k = S k) : ∀ {X : List Nat}, (∀ q ∈ X, S2 0 q = S 0 q ∧ S2 1 q = S 1 q ∧ S2 2 q = S 2 q) → zseg S G f X → zseg S2 G f X
  | [], _, _ => trivial
  | r :: po, he, h => ⟨zrow_cg (he r List.mem_cons_self).1 (he r List.mem_cons_self).2.1 (he r List.mem_cons_self).2.2 hk h.1, zseg_cg hk (fun q hq => he q (List.mem_cons_of_mem _ hq)) h.2⟩
theorem zseg_at {S S2 : Nat → Nat → Int32} {G : Nat → Nat → Int} {f r : Nat} {Q : List Nat} (hk : ∀ k, 4 ≤ k → k ≠ 7 → k ≠ 11 → k ≠ 12 → S2 k = S k) (he : ∀ q, q ≠ r → S2 0 q = S 0 q ∧ S2 1 q = S 1 q ∧ S2 2 q = S 2 q) (hz : zrow S2 G f r Q) : ∀ {P : List Nat}, (P ++ r :: Q).Nodup → zseg S G f (P ++ r :: Q) → zseg S2 G f (P ++ r :: Q)
  | [], hn, h => ⟨hz, zseg_cg hk (fun q hq => he q (fun e => (List.nodup_cons.mp hn).1 (e ▸ hq))) h.2⟩
  | p :: P, hn, h => by
    have hp : p ≠ r := fun e => (List.nodup_cons.mp hn).1 (by rw [e]; exact List.mem_append.mpr (Or.inr List.mem_cons_self))
    exact ⟨zrow_cg (he p hp).1 (he p hp).2.1 (he p hp).2.2 hk h.1, zseg_at hk he hz (List.nodup_cons.mp hn).2 h.2⟩
/-- one row's numbers are written anew -/
theorem zE_patch {S S1 S2 : Nat → Nat → Int32} {G G1 : Nat → Nat → Int} {f r : Nat} {h c h2 c2 : Int} {P Q : List Nat} (k : zE S S1 G G1 f h c (P ++ r :: Q) [] h2 c2) (h3 : S2 3 = S1 3) (h11 : S2 11 = S1 11) (h12 : S2 12 = S1 12) (hk : ∀ k, 4 ≤ k → k ≠ 11 → k ≠ 12 → S2 k = S1 k) (he : ∀ q, q ≠ r → S2 0 q = S1 0 q ∧ S2 1 q = S1 1 q ∧ S2 2 q = S1 2 q) (hz : zrow S2 G1 f r Q) : zE S S2 G G1 f h c (P ++ r :: Q) [] h2 c2 := by
  obtain ⟨a1, a2, a3, a4, a5, a6, a7, a8, a9, aa⟩ := k
  have hr := (a6 r (by rw [List.append_nil]; exact List.mem_append.mpr (Or.inr List.mem_cons_self))).1
  obtain ⟨b1, b2, b3, b4, b5, b6, b7⟩ := a1
  unfold zE
  rw [h3, h11, h12]
  refine ⟨⟨by rw [h11]; exact b1, by rw [hk 13 (by decide) (by decide) (by decide)]; exact b2, by rw [hk 14 (by decide) (by decide) (by decide)]; exact b3, fun q hq => ?_, fun m hm => ?_, ?_, ?_⟩, a2, a3, a4, a5, a6, a7, a8, zseg_at (fun k k1 _ k2 k3 => hk k k1 k2 k3) he hz (by rw [List.append_nil] at a8; exact a8) a9, aa⟩
  · obtain ⟨e0, e1, e2⟩ := he q (by omega)
    rw [e0, e1, e2]; exact b4 q hq
  · rw [hk 4 (by decide) (by decide) (by decide), hk 5 (by decide) (by decide) (by decide), hk 6 (by decide) (by decide) (by decide), hk 7 (by decide) (by decide) (by decide), hk 8 (by decide) (by decide) (by decide)]; exact b5 m hm
  · rw [hk 9 (by decide) (by decide) (by decide)]; exact b6
  · rw [hk 10 (by decide) (by decide) (by decide)]; exact b7
/-- what else changes while no row does -/
theorem zE_idT {S0 S S2 : Nat → Nat → Int32} {G0 G G2 : Nat → Nat → Int} {f : Nat} {h c h2 c2 : Int} {X T : List Nat} (k : zE S0 S G0 G f h c X T h2 c2) (hF : zfr S S2 G G2) (e3 : S2 3 = S 3) (e11 : S2 11 0 = S 11 0) (e12 : S2 12 0 = S 12 0) : zE S0 S2 G0 G2 f h c X T h2 c2 := by
  obtain ⟨a1, a2, a3, a4, a5, a6, a7, a8, a9, aa⟩ := k
  have hX : ∀ q ∈ X, (q : Int) < (S 11 0).toInt := fun q hq => (a6 q (List.mem_append.mpr (Or.inl hq))).2
  unfold zE
  rw [e3, e11, e12]
  refine ⟨zfr_tr a1 hF, a2, a3, a4, a5, a6, a7, a8, ?_, zco_ext aa (fun q hq => (hF.2.2.2.1 q (hX q hq)).2.2.2)⟩
  have := zseg_fr (Y := []) hF hX (fun q _ g => nomatch g) a9 trivial
  rw [List.append_nil] at this
  exact this
/-- another owner of arm A -/
def zow (G : Nat → Nat → Int) (A m : Nat) : Nat → Nat → Int := fun r k => if r = A ∧ k = 5 then (m : Int) else G r k
theorem zow_n {G : Nat → Nat → Int} {A m r k : Nat} (h : k < 5) : zow G A m r k = G r k := by unfold zow; rw [if_neg (fun g => absurd g.2 (by omega))]
theorem zow_5 {G : Nat → Nat → Int} {A m r : Nat} (h : r ≠ A) : zow G A m r 5 = G r 5 := by unfold zow; rw [if_neg (fun g => h g.1)]
theorem zow_s {G : Nat → Nat → Int} {A m : Nat} : zow G A m A 5 = (m : Int) := by unfold zow; rw [if_pos ⟨rfl, rfl⟩]
/-- an arm's chain grows at its end -/
theorem zli_snoc {nx nx2 : Nat → Int32} {A : Nat} {v : Int32} (hv : v.toInt = (A : Int)) (hA : (nx2 A).toInt = -1) : ∀ {L : List Nat} {x : Int32} {d : Nat}, L ≠ [] → L.Nodup → zli nx x L → (∀ r ∈ L, r ≠ zla d L → nx2 r = nx r) → nx2 (zla d L) = v → zli nx2 x (L ++ [A])
  | [], _, _, hn, _, _, _, _ => (hn rfl).elim
  | [y], x, d, _, _, h, _, hy => ⟨h.1, by have hy : nx2 y = v := hy; rw [hy]; exact ⟨hv, hA⟩⟩
  | y :: z :: l, x, d, _, hnd, h, he, hy => by
    have hin : zla y (z :: l) ∈ z :: l := zla_mem (List.cons_ne_nil _ _) y
    have hyl : y ≠ zla d (y :: z :: l) := fun g => (List.nodup_cons.mp hnd).1 (by rw [g]; exact hin)
    refine ⟨h.1, ?_⟩
    rw [he y List.mem_cons_self hyl]
    exact zli_snoc hv hA (d := y) (List.cons_ne_nil _ _) (List.nodup_cons.mp hnd).2 h.2 (fun r hr hne => he r (List.mem_cons_of_mem _ hr) hne) hy
/-- where a match stands between two of its arms -/
def zM (S0 S : Nat → Nat → Int32) (G0 G : Nat → Nat → Int) (f : Nat) (h c : Int) (m : Nat) (fo : Int32) (n : Nat) : Prop :=
  (fo.toInt = -1 ∧ n = 0 ∧ ∃ s, zE S0 S G0 G f h c [s] [m] h c ∧ Int32.toNatClampNeg (S 0 m) = 15 ∧ (S 2 m).toInt = -1 ∧ 0 ≤ (S 1 m).toInt ∧ (S 1 m).toInt < c) ∨
  (0 ≤ fo.toInt ∧ ∃ (s : Nat) (Y : List Nat) (t : Nat) (AL : List Nat) (cx : Int), zE S0 S G0 G f h c (s :: m :: Y) [t] (h + 1) cx ∧ c ≤ cx ∧ Int32.toNatClampNeg (S 0 t) = 16 ∧ (S 1 t).toInt = -1 ∧ G m 0 = h ∧ G m 2 = c ∧ Int32.toNatClampNeg (S 0 m) = 15 ∧ 0 ≤ (S 1 m).toInt ∧ (S 1 m).toInt < c ∧ AL ≠ [] ∧ AL.length = n ∧ AL.Nodup ∧ zli (S 5) (S 2 m) AL ∧ zla 0 AL = Int32.toNatClampNeg fo ∧ (∀ am ∈ AL, zarm S G f m Y am ∧ (S0 13 0).toInt ≤ (am : Int)) ∧ ∀ am ∈ AL, 0 ≤ (S 7 am).toInt ∧ (Int32.toNatClampNeg (S 7 am) = t ∨ Int32.toNatClampNeg (S 7 am) ∈ s :: m :: Y ∧ Int32.toNatClampNeg (S 0 (Int32.toNatClampNeg (S 7 am))) = 16 ∧ G (Int32.toNatClampNeg (S 7 am)) 0 = h + 1 ∧ c ≤ G (Int32.toNatClampNeg (S 7 am)) 2))
/-- behind an arm's pattern: the match has arm A, whose EXPR comes -/
def zMr (S0 S : Nat → Nat → Int32) (G0 G : Nat → Nat → Int) (f : Nat) (h c : Int) (m A n : Nat) : Prop :=
  ∃ (s : Nat) (Y : List Nat) (AL : List Nat), zE S0 S G0 G f h c (s :: m :: Y) [] h (c + zfl S (S 4 A)) ∧ G m 0 = h ∧ G m 2 = c ∧ Int32.toNatClampNeg (S 0 m) = 15 ∧ 0 ≤ (S 1 m).toInt ∧ (S 1 m).toInt < c ∧ AL ≠ [] ∧ AL.length = n + 1 ∧ AL.Nodup ∧ zli (S 5) (S 2 m) AL ∧ zla 0 AL = A ∧ (∀ am ∈ AL, zarm S G f m Y am ∧ (S0 13 0).toInt ≤ (am : Int)) ∧ ∀ am ∈ AL, am ≠ A → 0 ≤ (S 7 am).toInt ∧ Int32.toNatClampNeg (S 7 am) ∈ s :: m :: Y ∧ Int32.toNatClampNeg (S 0 (Int32.toNatClampNeg (S 7 am))) = 16 ∧ G (Int32.toNatClampNeg (S 7 am)) 0 = h + 1 ∧ c ≤ G (Int32.toNatClampNeg (S 7 am)) 2
/-- arm A comes to match m, behind arm fo -/
def zR (S S5 : Nat → Nat → Int32) (f : Nat) (c : Int) (m : Nat) (fo : Int32) (A : Nat) : Prop :=
  S5 0 = S 0 ∧ S5 1 = S 1 ∧ S5 3 = S 3 ∧ S5 11 = S 11 ∧ S5 12 = S 12 ∧
  (fo.toInt = -1 → (S5 2 m).toInt = (A : Int) ∧ ∀ r, r ≠ m → S5 2 r = S 2 r) ∧ (0 ≤ fo.toInt → S5 2 = S 2) ∧
  (A : Int) = (S 13 0).toInt ∧ (S5 13 0).toInt = (S 13 0).toInt + 1 ∧
  (∀ a : Nat, (a : Int) < (S 13 0).toInt → S5 4 a = S 4 a ∧ (fo.toInt = -1 ∨ a ≠ Int32.toNatClampNeg fo → S5 5 a = S 5 a) ∧ S5 6 a = S 6 a ∧ S5 7 a = S 7 a ∧ S5 8 a = S 8 a) ∧
  (0 ≤ fo.toInt → (S5 5 (Int32.toNatClampNeg fo)).toInt = (A : Int)) ∧ (S5 5 A).toInt = -1 ∧ S5 6 A = S 12 0 ∧ (S5 8 A).toInt = c ∧ zkd S5 (S5 4 A) ∧
  (S 14 0).toInt ≤ (S5 14 0).toInt ∧ (∀ k : Nat, (k : Int) < (S 14 0).toInt → (S 9 k).toInt ≠ -1 → S5 9 k = S 9 k) ∧
  (∀ g : Nat, (S 10 (5 * g + 1)).toInt ≤ (S5 10 (5 * g + 1)).toInt ∧ S5 10 (5 * g) = S 10 (5 * g) ∧ (S5 10 (5 * g + 1) = S 10 (5 * g + 1) ∨ (S5 10 (5 * g + 1)).toInt ≤ 24)) ∧ c + zfl S5 (S5 4 A) ≤ (S5 10 (5 * f + 1)).toInt

end
section
theorem zfl_0 (S : Nat → Nat → Int32) (k : Int32) : 0 ≤ zfl S k := by
  unfold zfl
  split
  · omega
  · exact Int.le_refl _
theorem zarm_fr {S S2 : Nat → Nat → Int32} {G G2 : Nat → Nat → Int} {f r : Nat} {po po2 : List Nat} {m : Nat} (hF : zfr S S2 G G2) (hr : ∀ q ∈ r :: po, (q : Int) < (S 11 0).toInt) (hs : ∀ q ∈ po, q ∈ po2) (h : zarm S G f r po m) : zarm S2 G2 f r po2 m := by
  have hF0 := hF
  obtain ⟨a1, a2, a3, a4, a5, a6, a7⟩ := hF
  obtain ⟨m1, m2, m3, m4, m5, m6, m7, m8, m9⟩ := h
  obtain ⟨c4, c5, c6, c7, c8, c9⟩ := a5 m m1
  obtain ⟨d1, d2⟩ := zfl_fr hF0 m3
  have hG : ∀ q ∈ r :: po, ∀ k, k < 5 → G2 q k = G q k := fun q hq => (a4 q (hr q hq)).2.2.2
  have a7f : _ ∧ _ := ⟨(a7 f).1, (a7 f).2.1⟩
  unfold zarm
  rw [c4, c6, c8, c9, hG r List.mem_cons_self 0 (by decide), hG r List.mem_cons_self 2 (by decide), d1, hG _ m7 1 (by decide), hG _ m7 3 (by decide), hG _ m7 4 (by decide), hG r List.mem_cons_self 4 (by decide)]
  refine ⟨by omega, m2, d2, m4, by omega, m6, ?_, m8, m9⟩
  rcases List.mem_cons.mp m7 with q | q
  · exact List.mem_cons.mpr (Or.inl q)
  · exact List.mem_cons.mpr (Or.inr (hs _ q))
theorem zE_patchT {S S1 S2 : Nat → Nat → Int32} {G G1 : Nat → Nat → Int} {f t : Nat} {h c h2 c2 : Int} {X : List Nat} (k : zE S S1 G G1 f h c X [t] h2 c2) (h3 : S2 3 = S1 3) (h11 : S2 11 = S1 11) (h12 : S2 12 = S1 12) (hk : ∀ k, 4 ≤ k → k ≠ 11 → k ≠ 12 → S2 k = S1 k) (he : ∀ q, q ≠ t → S2 0 q = S1 0 q ∧ S2 1 q = S1 1 q ∧ S2 2 q = S1 2 q) : zE S S2 G G1 f h c X [t] h2 c2 := by
  obtain ⟨a1, a2, a3, a4, a5, a6, a7, a8, a9, aa⟩ := k
  have hr := (a6 t (List.mem_append.mpr (Or.inr List.mem_cons_self))).1
  have htX : ∀ q ∈ X, q ≠ t := fun q hq e => (List.nodup_append.mp a8).2.2 q hq t List.mem_cons_self e
  obtain ⟨b1, b2, b3, b4, b5, b6, b7⟩ := a1
  unfold zE
  rw [h3, h11, h12]
  refine ⟨⟨by rw [h11]; exact b1, by rw [hk 13 (by decide) (by decide) (by decide)]; exact b2, by rw [hk 14 (by decide) (by decide) (by decide)]; exact b3, fun q hq => ?_, fun m hm => ?_, ?_, ?_⟩, a2, a3, a4, a5, a6, a7, a8, zseg_cg (fun k k1 _ k2 k3 => hk k k1 k2 k3) (fun q hq => he q (htX q hq)) a9, aa⟩
  · obtain ⟨e0, e1, e2⟩ := he q (by omega)
    rw [e0, e1, e2]; exact b4 q hq
  · rw [hk 4 (by decide) (by decide) (by decide), hk 5 (by decide) (by decide) (by decide), hk 6 (by decide) (by decide) (by decide), hk 7 (by decide) (by decide) (by decide), hk 8 (by decide) (by decide) (by decide)]; exact b5 m hm
  · rw [hk 9 (by decide) (by decide) (by decide)]; exact b6
  · rw [hk 10 (by decide) (by decide) (by decide)]; exact b7
/-- rows of other matches don't see that an arm gets a next one -/
theorem zrow_p5 {S S2 : Nat → Nat → Int32} {G : Nat → Nat → Int} {f q : Nat} {po : List Nat} (hk : ∀ k, k ≠ 5 → S2 k = S k) (h5 : ∀ a, G a 5 = (q : Int) → S2 5 a = S 5 a) (h : zrow S G f q po) : zrow S2 G f q po := by
  have e0 := hk 0 (by decide)
  have e1 := hk 1 (by decide)
  have e2 := hk 2 (by decide)
  have e4 := hk 4 (by decide)
  have e6 := hk 6 (by decide)
  have e8 := hk 8 (by decide)
  have e9 := hk 9 (by decide)
  have e10 := hk 10 (by decide)
  have e13 := hk 13 (by decide)
  have e14 := hk 14 (by decide)
  obtain ⟨a1, a2, a3, a4, a5, a6, a7, a8⟩ := h
  refine ⟨a1, a2, a3, a4, a5, by rw [e10]; exact a6, a7, ?_⟩
  rw [e0]
  generalize Int32.toNatClampNeg (S 0 q) = n at a8 ⊢
  have tg : ∀ h, ztg S G q po h → ztg S2 G q po h := fun h t => by unfold ztg; rw [e1]; exact t
  match n, a8 with
  | 0, h => simp only [zop] at h ⊢; rw [e0, e1, e10]; exact h
  | 1, h => simp only [zop] at h ⊢; exact h
  | 2, h => simp only [zop] at h ⊢; exact h
  | 3, h => simp only [zop] at h ⊢; rw [e1]; exact h
  | 4, h => simp only [zop] at h ⊢; rw [e1, e9, e14]; exact h
  | 5, h => simp only [zop] at h ⊢; rw [e1, e9, e14]; exact h
  | 6, h => simp only [zop] at h ⊢; rw [e2]; exact h
  | 7, h => simp only [zop] at h ⊢; rw [e2]; exact h
  | 8, h => simp only [zop] at h ⊢; exact h
  | 9, h => simp only [zop] at h ⊢; exact h
  | 10, h => simp only [zop] at h ⊢; exact h
  | 11, h => simp only [zop] at h ⊢; exact h
  | 12, h => simp only [zop] at h ⊢; rw [e1, e10]; exact h
  | 13, h => simp only [zop] at h ⊢; exact ⟨h.1, h.2.1, h.2.2.1, tg _ h.2.2.2⟩
  | 14, h => simp only [zop] at h ⊢; exact tg _ h
  | 15, h =>
    simp only [zop] at h ⊢
    rw [e1, e2]
    obtain ⟨k1, k2, AL, k3, k4, k5⟩ := h
    refine ⟨k1, k2, AL, k3, zli_ext k4 (fun a ha => h5 a (k5 a ha).2.1), fun m hm => ?_⟩
    have u := k5 m hm
    unfold zarm zkd zfl at u ⊢
    rw [e13, e4, e8, e10, e6, e14, e9]
    exact u
  | 16, h => simp only [zop] at h ⊢; exact tg _ h
  | 17, h => simp only [zop] at h ⊢; exact h
  | n + 18, h => exact h.elim
theorem zseg_p5 {S S2 : Nat → Nat → Int32} {G : Nat → Nat → Int} {f : Nat} (hk : ∀ k, k ≠ 5 → S2 k = S k) : ∀ {X : List Nat}, (∀ q ∈ X, ∀ a, G a 5 = (q : Int) → S2 5 a = S 5 a) → zseg S G f X → zseg S2 G f X
  | [], _, _ => trivial
  | r :: po, h5, h => ⟨zrow_p5 hk (h5 r List.mem_cons_self) h.1, zseg_p5 hk (fun q hq => h5 q (List.mem_cons_of_mem _ hq)) h.2⟩
theorem zM_arm0 {S0 S S5 : Nat → Nat → Int32} {G0 G : Nat → Nat → Int} {f : Nat} {h c : Int} {m s : Nat} {fo : Int32} {A : Nat} (hh : 0 ≤ h) (hc0 : 0 ≤ c) (hfo : fo.toInt = -1) (hM : zE S0 S G0 G f h c [s] [m] h c ∧ Int32.toNatClampNeg (S 0 m) = 15 ∧ (S 2 m).toInt = -1 ∧ 0 ≤ (S 1 m).toInt ∧ (S 1 m).toInt < c) (hR : zR S S5 f c m fo A) : ∃ G5, zMr S0 S5 G0 G5 f h c m A 0 := by
  obtain ⟨k, k15, k2, ka, kb⟩ := hM
  obtain ⟨r0, r1, r3, r11, r12, rl, -, rA, rz, ra, -, rn, rb, rs, rk, rkz, rkf, rnm, rfl_⟩ := hR
  obtain ⟨rl1, rl2⟩ := rl hfo
  have kf := zfl_0 S5 (S5 4 A)
  have hF : zfr S (fun k => if k = 2 then S 2 else S5 k) G (zow G A m) := by
    refine ⟨?_, ?_, rkz, fun r _ => ⟨?_, ?_, rfl, fun k hk => zow_n hk⟩, fun a ha => ?_, rkf, rnm⟩
    · show (S 11 0).toInt ≤ (S5 11 0).toInt; rw [r11]; exact Int.le_refl _
    · show (S 13 0).toInt ≤ (S5 13 0).toInt; omega
    · show S5 0 r = S 0 r; rw [r0]
    · show S5 1 r = S 1 r; rw [r1]
    · obtain ⟨c1, c2, c3, c4, c5⟩ := ra a ha
      exact ⟨c1, c2 (Or.inl hfo), c3, c4, c5, zow_5 (by omega)⟩
  have k1 := zE_idT k hF r3 (by show S5 11 0 = S 11 0; rw [r11]) (by show S5 12 0 = S 12 0; rw [r12])
  have k2 : zE S0 S5 G0 (zow G A m) f h c [s] [m] h c := zE_patchT k1 rfl rfl rfl (fun k hk _ _ => by show S5 k = if k = 2 then S 2 else S5 k; rw [if_neg (by omega)]) (fun q hq => ⟨rfl, rfl, rl2 q hq⟩)
  have ht : Int32.toNatClampNeg (S 12 0) = m := by rw [← k.2.2.2.2.1]; rfl
  have h12 : 0 ≤ (S 12 0).toInt := k.2.2.2.1
  have hs := zgu_s (G := zow G A m) (t := m) (a := h) (b := h) (c := c) (d := c + zfl S5 (S5 4 A)) (e := (f : Int))
  obtain ⟨s0, s1, s2, s3, s4⟩ := hs
  have hA : zarm S5 (zgu (zow G A m) m h h c (c + zfl S5 (S5 4 A)) (f : Int)) f m [] A := by
    unfold zarm
    rw [zgu_5, zow_s, rb, ht, s0, s1, s2, s3]
    exact ⟨by omega, rfl, rk, rs, rfl_, h12, List.mem_cons_self, rfl, Int.le_refl _, rfl⟩
  have hli : zli (S5 5) (S5 2 m) [A] := ⟨rl1, rn⟩
  have hz : zrow S5 (zgu (zow G A m) m h h c (c + zfl S5 (S5 4 A)) (f : Int)) f m [] := by
    refine ⟨fun g => (nomatch g), by rw [s0]; exact hh, by rw [s1]; exact hh, by rw [s2]; exact hc0, by rw [s3]; omega, by rw [s2]; omega, s4, ?_⟩
    rw [r0, k15]
    simp only [zop]
    rw [s2, r1]
    refine ⟨ka, kb, [A], by show 1 ≤ 8; decide, hli, fun a ha => ?_⟩
    rcases List.mem_cons.mp ha with e | e
    · rw [e]; exact hA
    · exact nomatch e
  have k3 := zE_judge k2 (Int.le_refl c) hz
  refine ⟨_, s, [], [A], k3, s0, s2, by rw [r0]; exact k15, by rw [r1]; exact ka, by rw [r1]; exact kb, List.cons_ne_nil _ _, rfl, List.nodup_cons.mpr ⟨fun g => (nomatch g), List.nodup_nil⟩, hli, rfl, fun a ha => ?_, fun a ha hne => ?_⟩
  · rcases List.mem_cons.mp ha with e | e
    · rw [e]; exact ⟨hA, by have := k.1.2.1; omega⟩
    · exact nomatch e
  · rcases List.mem_cons.mp ha with e | e
    · exact (hne e).elim
    · exact nomatch e

end
section
theorem zM_arm1 {S0 S S5 : Nat → Nat → Int32} {G0 G : Nat → Nat → Int} {f : Nat} {h c : Int} {m s t : Nat} {Y AL : List Nat} {cx : Int} {fo : Int32} {A : Nat} (hh : 0 ≤ h) (hc0 : 0 ≤ c) (hfo : 0 ≤ fo.toInt)
    (k : zE S0 S G0 G f h c (s :: m :: Y) [t] (h + 1) cx) (kc : c ≤ cx) (k16 : Int32.toNatClampNeg (S 0 t) = 16) (kt : (S 1 t).toInt = -1) (g0 : G m 0 = h) (g2 : G m 2 = c) (k15 : Int32.toNatClampNeg (S 0 m) = 15) (ka : 0 ≤ (S 1 m).toInt) (kb : (S 1 m).toInt < c) (kn : AL ≠ []) (k8 : AL.length < 8) (knd : AL.Nodup) (kli : zli (S 5) (S 2 m) AL) (kla : zla 0 AL = Int32.toNatClampNeg fo) (kar : ∀ am ∈ AL, zarm S G f m Y am ∧ (S0 13 0).toInt ≤ (am : Int))
    (kle : ∀ am ∈ AL, 0 ≤ (S 7 am).toInt ∧ (Int32.toNatClampNeg (S 7 am) = t ∨ Int32.toNatClampNeg (S 7 am) ∈ s :: m :: Y ∧ Int32.toNatClampNeg (S 0 (Int32.toNatClampNeg (S 7 am))) = 16 ∧ G (Int32.toNatClampNeg (S 7 am)) 0 = h + 1 ∧ c ≤ G (Int32.toNatClampNeg (S 7 am)) 2))
    (hR : zR S S5 f c m fo A) : ∃ G5, zMr S0 S5 G0 G5 f h c m A AL.length := by
  obtain ⟨r0, r1, r3, r11, r12, -, r2, rA, rz, ra, rfo, rn, rb, rs, rk, rkz, rkf, rnm, rfl_⟩ := hR
  have r2 := r2 hfo
  have rfo := rfo hfo
  have kf := zfl_0 S5 (S5 4 A)
  have hfoA : Int32.toNatClampNeg fo ∈ AL := by rw [← kla]; exact zla_mem kn 0
  have hfoz := (kar _ hfoA).1.1
  have hF : zfr S (fun k => if k = 5 then upd (S5 5) (Int32.toNatClampNeg fo) (S 5 (Int32.toNatClampNeg fo)) else S5 k) G (zow G A m) := by
    refine ⟨?_, ?_, rkz, fun r _ => ⟨?_, ?_, ?_, fun k hk => zow_n hk⟩, fun a ha => ?_, rkf, rnm⟩
    · show (S 11 0).toInt ≤ (S5 11 0).toInt; rw [r11]; exact Int.le_refl _
    · show (S 13 0).toInt ≤ (S5 13 0).toInt; omega
    · show S5 0 r = S 0 r; rw [r0]
    · show S5 1 r = S 1 r; rw [r1]
    · show S5 2 r = S 2 r; rw [r2]
    · obtain ⟨c1, c2, c3, c4, c5⟩ := ra a ha
      refine ⟨c1, ?_, c3, c4, c5, zow_5 (by omega)⟩
      show upd (S5 5) (Int32.toNatClampNeg fo) (S 5 (Int32.toNatClampNeg fo)) a = S 5 a
      by_cases e : a = Int32.toNatClampNeg fo
      · rw [e, zu_s]
      · rw [zu_n e]; exact c2 (Or.inr e)
  have ht : Int32.toNatClampNeg (S 12 0) = t := by rw [← k.2.2.2.2.1]; exact zla_app (s :: m :: Y) _ [t]
  have h12 : 0 ≤ (S 12 0).toInt := k.2.2.2.1
  have hnd : ((s :: m :: Y) ++ [t]).Nodup := k.2.2.2.2.2.2.2.1
  have hrg : ∀ r ∈ (s :: m :: Y) ++ [t], (S0 11 0).toInt ≤ (r : Int) ∧ (r : Int) < (S 11 0).toInt := k.2.2.2.2.2.1
  have htX : ∀ q ∈ s :: m :: Y, q ≠ t := fun q hq e => (List.nodup_append.mp hnd).2.2 q hq t List.mem_cons_self e
  have hm_in : m ∈ s :: m :: Y := List.mem_cons_of_mem _ List.mem_cons_self
  generalize hS' : (fun k => if k = 5 then upd (S5 5) (Int32.toNatClampNeg fo) (S 5 (Int32.toNatClampNeg fo)) else S5 k : Nat → Nat → Int32) = S' at hF
  have e' : ∀ k, k ≠ 5 → S5 k = S' k := fun k hk => by rw [← hS']; show S5 k = if k = 5 then _ else S5 k; rw [if_neg hk]
  have e5 : S' 5 = upd (S5 5) (Int32.toNatClampNeg fo) (S 5 (Int32.toNatClampNeg fo)) := by rw [← hS']; rfl
  have k1 := zE_idT k hF (by rw [← e' 3 (by decide)]; exact r3) (by rw [← e' 11 (by decide), r11]) (by rw [← e' 12 (by decide), r12])
  obtain ⟨s0, s1, s2, s3, s4⟩ := zgu_s (G := zow G A m) (t := t) (a := h + 1) (b := h) (c := c) (d := c + zfl S5 (S5 4 A)) (e := (f : Int))
  have hz : zrow S' (zgu (zow G A m) t (h + 1) h c (c + zfl S5 (S5 4 A)) (f : Int)) f t [] := by
    refine ⟨fun g => (nomatch g), by rw [s0]; omega, by rw [s1]; exact hh, by rw [s2]; exact hc0, by rw [s3]; omega, by rw [s2, ← e' 10 (by decide)]; omega, s4, ?_⟩
    rw [← e' 0 (by decide), r0, k16]
    simp only [zop]
    exact Or.inl (by rw [← e' 1 (by decide), r1]; exact kt)
  have k3 := zE_judge k1 kc hz
  generalize hG5 : zgu (zow G A m) t (h + 1) h c (c + zfl S5 (S5 4 A)) (f : Int) = G5 at s0 s1 s2 s3 s4 k3
  have q5 : ∀ a, a ≠ A → G5 a 5 = G a 5 := fun a ha => by rw [← hG5, zgu_5, zow_5 ha]
  have q5A : G5 A 5 = (m : Int) := by rw [← hG5, zgu_5, zow_s]
  have qn : ∀ r k, r ≠ t → k < 5 → G5 r k = G r k := fun r k hr hk => by rw [← hG5, zgu_n hr, zow_n hk]
  have hfoo : G5 (Int32.toNatClampNeg fo) 5 = (m : Int) := by rw [q5 _ (by omega)]; exact (kar _ hfoA).1.2.1
  have hmt : m ≠ t := htX m hm_in
  have harm : ∀ am ∈ AL ++ [A], zarm S5 G5 f m (Y ++ [t]) am := fun am ham => by
    rcases List.mem_append.mp ham with ha | ha
    · obtain ⟨m1, m2, m3, m4, m5, m6, m7, m8, m9⟩ := (kar am ha).1
      obtain ⟨c1, -, c3, -, c5⟩ := ra am m1
      obtain ⟨d1, d2⟩ := zfl_fr hF m3
      have d1 : zfl S5 (S 4 am) = zfl S (S 4 am) := by
        rw [← d1]; unfold zfl; rw [e' 14 (by decide), e' 9 (by decide)]
      have d2 : zkd S5 (S 4 am) := by unfold zkd at d2 ⊢; rw [e' 14 (by decide), e' 9 (by decide)]; exact d2
      have hb : Int32.toNatClampNeg (S 6 am) ≠ t := htX _ (List.mem_cons_of_mem _ m7)
      have nm := (rnm f).1
      unfold zarm
      rw [c1, c3, c5, q5 am (by omega), qn m 0 hmt (by decide), qn m 2 hmt (by decide), d1, qn _ 1 hb (by decide), qn _ 3 hb (by decide), qn _ 4 hb (by decide), qn m 4 hmt (by decide)]
      refine ⟨by omega, m2, d2, m4, by omega, m6, ?_, m8, m9⟩
      rcases List.mem_cons.mp m7 with q | q
      · exact List.mem_cons.mpr (Or.inl q)
      · exact List.mem_cons.mpr (Or.inr (List.mem_append.mpr (Or.inl q)))
    · have e : am = A := (List.mem_cons.mp ha).elim id (fun g => (nomatch g))
      rw [e]
      unfold zarm
      rw [q5A, rb, ht, qn m 0 hmt (by decide), qn m 2 hmt (by decide), g0, g2, s1, s3, s4, qn m 4 hmt (by decide), show G m 4 = (f : Int) from k.2.2.2.2.2.2.2.2.1.2.1.2.2.2.2.2.2.1]
      exact ⟨by omega, rfl, rk, rs, rfl_, h12, List.mem_cons_of_mem _ (List.mem_append.mpr (Or.inr List.mem_cons_self)), rfl, Int.le_refl _, rfl⟩
  have hli : zli (S5 5) (S5 2 m) (AL ++ [A]) := by
    rw [r2]
    exact zli_snoc (d := 0) rfo rn kn knd kli (fun r hr hne => (ra r (kar r hr).1.1).2.1 (Or.inr (by rw [kla] at hne; exact hne))) (by rw [kla])
  have hAL : A ∉ AL := fun g => by have := (kar A g).1.1; omega
  have hnd2 : (AL ++ [A]).Nodup := List.nodup_append.mpr ⟨knd, List.nodup_cons.mpr ⟨fun g => (nomatch g), List.nodup_nil⟩, fun a ha b hb e => by
    rcases List.mem_cons.mp hb with g | g
    · exact hAL (by rw [← g, ← e]; exact ha)
    · exact nomatch g⟩
  obtain ⟨b1, b2, b3, b4, b5, b6, b7, b8, b9, ba⟩ := k3
  have h5 : ∀ q, q ≠ m → ∀ a, G5 a 5 = (q : Int) → S5 5 a = S' 5 a := fun q hq a hqa => by
    rw [e5, zu_n (fun e => hq (by rw [e, hfoo] at hqa; omega))]
  have hseg : zseg S5 G5 f (s :: m :: (Y ++ [t])) := by
    obtain ⟨z1, z2, z3⟩ := b9
    have hnds : (s :: m :: (Y ++ [t])).Nodup := hnd
    have hsm : s ≠ m := fun e => (List.nodup_cons.mp hnds).1 (by rw [e]; exact List.mem_cons_self)
    have hmY : ∀ q ∈ Y ++ [t], q ≠ m := fun q hq e => (List.nodup_cons.mp (List.nodup_cons.mp hnds).2).1 (e ▸ hq)
    refine ⟨zrow_p5 e' (h5 s hsm) z1, ?_, zseg_p5 e' (fun q hq => h5 q (hmY q hq)) z3⟩
    obtain ⟨y1, y2, y3, y4, y5, y6, y7, y8⟩ := z2
    refine ⟨y1, y2, y3, y4, y5, by rw [e' 10 (by decide)]; exact y6, y7, ?_⟩
    rw [r0, k15]
    simp only [zop]
    rw [qn m 2 hmt (by decide), g2, r1]
    exact ⟨ka, kb, AL ++ [A], by rw [List.length_append]; show AL.length + 1 ≤ 8; omega, hli, harm⟩
  refine ⟨G5, s, Y ++ [t], AL ++ [A], ?_, by rw [qn m 0 hmt (by decide)]; exact g0, by rw [qn m 2 hmt (by decide)]; exact g2, by rw [r0]; exact k15, by rw [r1]; exact ka, by rw [r1]; exact kb, by simp, by rw [List.length_append]; rfl, hnd2, hli, zla_app AL 0 [A], fun a ha => ⟨harm a ha, ?_⟩, fun a ha hne => ?_⟩
  · unfold zE
    rw [e' 3 (by decide), e' 12 (by decide), e' 11 (by decide)]
    obtain ⟨w1, w2, w3, w4, w5, w6, w7⟩ := b1
    refine ⟨⟨by rw [e' 11 (by decide)]; exact w1, by rw [e' 13 (by decide)]; exact w2, by rw [e' 14 (by decide)]; exact w3, fun r hr => ?_, fun a ha => ?_, by rw [e' 9 (by decide)]; exact w6, by rw [e' 10 (by decide)]; exact w7⟩, b2, b3, b4, b5, b6, b7, b8, hseg, ba⟩
    · rw [e' 0 (by decide), e' 1 (by decide), e' 2 (by decide)]; exact w4 r hr
    · rw [e' 4 (by decide), e' 6 (by decide), e' 7 (by decide), e' 8 (by decide)]
      have := (kar _ hfoA).2
      have e : S5 5 a = S' 5 a := by rw [e5, zu_n (by omega)]
      rw [e]; exact w5 a ha
  · rcases List.mem_append.mp ha with g | g
    · exact (kar a g).2
    · have e : a = A := (List.mem_cons.mp g).elim id (fun g => (nomatch g))
      rw [e]
      have := (kar _ hfoA).2
      omega
  · have g : a ∈ AL := (List.mem_append.mp ha).elim id (fun g => (hne ((List.mem_cons.mp g).elim id (fun g => (nomatch g)))).elim)
    obtain ⟨u1, u2⟩ := kle a g
    rw [(ra a (kar a g).1.1).2.2.2.1]
    refine ⟨u1, ?_⟩
    rcases u2 with u2 | ⟨u2, u3, u4, u5⟩
    · rw [u2, r0]
      exact ⟨List.mem_cons_of_mem _ (List.mem_cons_of_mem _ (List.mem_append.mpr (Or.inr List.mem_cons_self))), k16, s0, by rw [s2]; exact Int.le_refl _⟩
    · rw [r0, qn _ 0 (htX _ u2) (by decide), qn _ 2 (htX _ u2) (by decide)]
      exact ⟨by
        have : s :: m :: (Y ++ [t]) = (s :: m :: Y) ++ [t] := rfl
        rw [this]
        exact List.mem_append.mpr (Or.inl u2), u3, u4, u5⟩
theorem zM_arm {S0 S S5 : Nat → Nat → Int32} {G0 G : Nat → Nat → Int} {f : Nat} {h c : Int} {m : Nat} {fo : Int32} {A n : Nat} (hh : 0 ≤ h) (hc0 : 0 ≤ c) (hn : n < 8) (hM : zM S0 S G0 G f h c m fo n) (hR : zR S S5 f c m fo A) : ∃ G5, zMr S0 S5 G0 G5 f h c m A n := by
  rcases hM with ⟨h1, rfl, s, h2⟩ | ⟨h1, s, Y, t, AL, cx, k1, k2, k3, k4, k5, k6, k7, k8, k9, ka, kb, kc, kd, ke, kf, kg⟩
  · exact zM_arm0 hh hc0 h1 h2 hR
  · rw [← kb]
    exact zM_arm1 hh hc0 h1 k1 k2 k3 k4 k5 k6 k7 k8 k9 ka (by omega) kc kd ke kf kg hR
/-- behind an arm's EXPR and its last row -/
theorem zM_fin {S0 S5 S6 S7 : Nat → Nat → Int32} {G0 G5 G6 : Nat → Nat → Int} {f : Nat} {h c c' : Int} {m A n t : Nat} {Y' : List Nat} {v w : Int32} (h0 : zS0 S0) (hc : c' = c + zfl S5 (S5 4 A)) (hM : zMr S0 S5 G0 G5 f h c m A n) (k : zE S5 S6 G5 G6 f h c' Y' [t] (h + 1) c') (k16 : Int32.toNatClampNeg (S6 0 t) = 16) (kt : (S6 1 t).toInt = -1) (e7 : ∀ k, k ≠ 7 → S7 k = S6 k) (e7a : S7 7 = upd (S6 7) A v) (hv : v.toInt = (t : Int)) (hw : w.toInt = (A : Int)) : zM S0 S7 G0 G6 f h c m w (n + 1) := by
  subst hc
  obtain ⟨s, Y, AL, q, q0, q2, q15, qa, qb, qn, ql, qnd, qli, qla, qar, qle⟩ := hM
  have kk := zE_tr h0 q k
  have hF := k.1
  have hX : ∀ r ∈ s :: m :: Y, (r : Int) < (S5 11 0).toInt := fun r hr => (q.2.2.2.2.2.1 r (by rw [List.append_nil]; exact hr)).2
  have hm_in : m ∈ s :: m :: Y := List.mem_cons_of_mem _ List.mem_cons_self
  have hmr := hF.2.2.2.1 m (hX m hm_in)
  have hAin : A ∈ AL := by rw [← qla]; exact zla_mem qn 0
  have hAz := (qar A hAin).2
  have hz := zfl_0 S5 (S5 4 A)
  have hAt : Int32.toNatClampNeg v = t := by have := zn_nat (x := v) (by omega); omega
  have hwA : Int32.toNatClampNeg w = A := by have := zn_nat (x := w) (by omega); omega
  refine Or.inr ⟨by omega, s, Y ++ Y', t, AL, c + zfl S5 (S5 4 A), ?_, by omega, by rw [e7 0 (by decide)]; exact k16, by rw [e7 1 (by decide)]; exact kt, by rw [hmr.2.2.2 0 (by decide)]; exact q0, by rw [hmr.2.2.2 2 (by decide)]; exact q2, by rw [e7 0 (by decide), hmr.1]; exact q15, by rw [e7 1 (by decide), hmr.2.1]; exact qa, by rw [e7 1 (by decide), hmr.2.1]; exact qb, qn, ql, qnd, ?_, by rw [qla, hwA], fun a ha => ⟨?_, (qar a ha).2⟩, fun a ha => ?_⟩
  · have kk2 : zE S0 S6 G0 G6 f h c (s :: m :: (Y ++ Y')) [t] (h + 1) (c + zfl S5 (S5 4 A)) := kk
    obtain ⟨a1, a2, a3, a4, a5, a6, a7, a8, a9, aa⟩ := kk2
    obtain ⟨b1, b2, b3, b4, b5, b6, b7⟩ := a1
    unfold zE
    rw [e7 3 (by decide), e7 11 (by decide), e7 12 (by decide)]
    refine ⟨⟨by rw [e7 11 (by decide)]; exact b1, by rw [e7 13 (by decide)]; exact b2, by rw [e7 14 (by decide)]; exact b3, fun r hr => ?_, fun a ha => ?_, by rw [e7 9 (by decide)]; exact b6, by rw [e7 10 (by decide)]; exact b7⟩, a2, a3, a4, a5, a6, a7, a8, zseg_cg (fun k _ h7 _ _ => e7 k h7) (fun r _ => by rw [e7 0 (by decide), e7 1 (by decide), e7 2 (by decide)]; exact ⟨rfl, rfl, rfl⟩) a9, aa⟩
    · rw [e7 0 (by decide), e7 1 (by decide), e7 2 (by decide)]; exact b4 r hr
    · rw [e7 4 (by decide), e7 5 (by decide), e7 6 (by decide), e7 8 (by decide), e7a, zu_n (by omega)]; exact b5 a ha
  · rw [e7 5 (by decide), e7 2 (by decide), hmr.2.2.1]
    exact zli_ext qli (fun a ha => (hF.2.2.2.2.1 a (qar a ha).1.1).2.1)
  · have u := zarm_fr (po2 := Y ++ Y') hF (fun r hr => hX r (List.mem_cons_of_mem _ hr)) (fun r hr => List.mem_append.mpr (Or.inl hr)) (qar a ha).1
    unfold zarm zkd zfl at u ⊢
    rw [e7 13 (by decide), e7 4 (by decide), e7 14 (by decide), e7 9 (by decide), e7 8 (by decide), e7 10 (by decide), e7 6 (by decide)]
    exact u
  · by_cases hA : a = A
    · rw [hA, e7a, zu_s, hAt]
      exact ⟨by omega, Or.inl rfl⟩
    · obtain ⟨u1, u2, u3, u4, u5⟩ := qle a ha hA
      have ea : S7 7 a = S5 7 a := by rw [e7a, zu_n hA]; exact (hF.2.2.2.2.1 a (qar a ha).1.1).2.2.2.1
      have hl := hF.2.2.2.1 _ (hX _ u2)
      rw [ea, e7 0 (by decide)]
      refine ⟨u1, Or.inr ⟨?_, by rw [hl.1]; exact u3, by rw [hl.2.2.2 0 (by decide)]; exact u4, by rw [hl.2.2.2 2 (by decide)]; exact u5⟩⟩
      have : s :: m :: (Y ++ Y') = (s :: m :: Y) ++ Y' := rfl
      rw [this]
      exact List.mem_append.mpr (Or.inl u2)
theorem zseg_pt {S S2 : Nat → Nat → Int32} {G : Nat → Nat → Int} {f : Nat} : ∀ {X : List Nat}, (∀ P q Q, X = P ++ q :: Q → zrow S G f q Q → zrow S2 G f q Q) → zseg S G f X → zseg S2 G f X
  | [], _, _ => trivial
  | r :: po, he, h => ⟨he [] r po rfl h.1, zseg_pt (fun P q Q e => he (r :: P) q Q (by rw [e]; rfl)) h.2⟩
/-- a match is whole: its arms lead behind its last row -/
theorem zM_done {S0 S S8 : Nat → Nat → Int32} {G0 G : Nat → Nat → Int} {f : Nat} {h c : Int} {m n : Nat} {fo : Int32} (h0 : zS0 S0) (hh : 0 ≤ h) (hc0 : 0 ≤ c) (hfo : 0 ≤ fo.toInt) (hM : zM S0 S G0 G f h c m fo n) (ek : ∀ k, k ≠ 1 → S8 k = S k) (ej : ∀ AL : List Nat, AL.length = n → zli (S 5) (S 2 m) AL → ∀ r, S8 1 r = if r ∈ AL.map (fun a => Int32.toNatClampNeg (S 7 a)) then S 12 0 else S 1 r) : ∃ G8 X, X ≠ [] ∧ zE S0 S8 G0 G8 f h c X [] (h + 1) c := by
  rcases hM with ⟨h1, -⟩ | ⟨-, s, Y, t, AL, cx, k, k2, k16, kt, k5, k6, k7, k8, k9, ka, kb, kc, kd, ke, kf, kg⟩
  · omega
  have hej := ej AL kb kd
  have ht : Int32.toNatClampNeg (S 12 0) = t := by rw [← k.2.2.2.2.1]; exact zla_app (s :: m :: Y) _ [t]
  have h12 : 0 ≤ (S 12 0).toInt := k.2.2.2.1
  have hnd : ((s :: m :: Y) ++ [t]).Nodup := k.2.2.2.2.2.2.2.1
  have htX : ∀ q ∈ s :: m :: Y, q ≠ t := fun q hq e => (List.nodup_append.mp hnd).2.2 q hq t List.mem_cons_self e
  have hcn : c ≤ (S 10 (5 * f + 1)).toInt := by
    have := (k.2.2.2.2.2.2.2.2.1).2.1.2.2.2.2.2.1
    omega
  obtain ⟨s0, s1, s2, s3, s4⟩ := zgu_s (G := G) (t := t) (a := h + 1) (b := h + 1) (c := c) (d := c) (e := (f : Int))
  have hz : zrow S (zgu G t (h + 1) (h + 1) c c (f : Int)) f t [] := by
    refine ⟨fun g => (nomatch g), by rw [s0]; omega, by rw [s1]; omega, by rw [s2]; exact hc0, by rw [s3]; exact hc0, by rw [s2]; exact hcn, s4, ?_⟩
    rw [k16]
    simp only [zop]
    exact Or.inl kt
  have k3 := zE_judge k k2 hz
  have qn : ∀ r k, r ≠ t → zgu G t (h + 1) (h + 1) c c (f : Int) r k = G r k := fun r k hr => zgu_n hr
  generalize zgu G t (h + 1) (h + 1) c c (f : Int) = G8 at s0 s1 s2 s3 s4 k3 qn
  refine ⟨G8, s :: m :: Y ++ [t], by simp, ?_⟩
  obtain ⟨a1, a2, a3, a4, a5, a6, a7, a8, a9, aa⟩ := k3
  have hrg := a6
  rw [List.append_nil] at a5 hrg
  obtain ⟨b1, b2, b3, b4, b5, b6, b7⟩ := a1
  unfold zE
  rw [ek 3 (by decide), ek 11 (by decide), ek 12 (by decide)]
  have hleaf : ∀ r ∈ AL.map (fun a => Int32.toNatClampNeg (S 7 a)), r ∈ s :: m :: Y ++ [t] ∧ Int32.toNatClampNeg (S 0 r) = 16 ∧ G8 r 0 = h + 1 ∧ c ≤ G8 r 2 := fun r hr => by
    obtain ⟨a, ha, e⟩ := List.mem_map.mp hr
    have e : Int32.toNatClampNeg (S 7 a) = r := e
    obtain ⟨-, u⟩ := kg a ha
    rw [e] at u
    rcases u with u | ⟨u1, u2, u3, u4⟩
    · rw [u]
      exact ⟨List.mem_append.mpr (Or.inr List.mem_cons_self), k16, s0, by rw [s2]; exact Int.le_refl _⟩
    · rw [qn r 0 (htX r u1), qn r 2 (htX r u1)]
      exact ⟨List.mem_append.mpr (Or.inl u1), u2, u3, u4⟩
  refine ⟨⟨by rw [ek 11 (by decide)]; exact b1, by rw [ek 13 (by decide)]; exact b2, by rw [ek 14 (by decide)]; exact b3, fun r hr => ?_, fun a ha => ?_, by rw [ek 9 (by decide)]; exact b6, by rw [ek 10 (by decide)]; exact b7⟩, a2, a3, a4, by rw [List.append_nil]; exact a5, a6, a7, a8, ?_, aa⟩
  · have e : S8 1 r = S 1 r := by
      rw [hej r, if_neg]
      intro g
      have := hrg r (hleaf r g).1
      omega
    rw [ek 0 (by decide), ek 2 (by decide), e]; exact b4 r hr
  · rw [ek 4 (by decide), ek 5 (by decide), ek 6 (by decide), ek 7 (by decide), ek 8 (by decide)]; exact b5 a ha
  · refine zseg_pt (fun P q Q e z => ?_) a9
    by_cases g : q ∈ AL.map (fun a => Int32.toNatClampNeg (S 7 a))
    · obtain ⟨g1, g2, g3, g4⟩ := hleaf q g
      obtain ⟨y1, y2, y3, y4, y5, y6, y7, y8⟩ := z
      refine ⟨y1, y2, y3, y4, y5, by rw [ek 10 (by decide)]; exact y6, y7, ?_⟩
      rw [ek 0 (by decide), g2]
      simp only [zop]
      refine Or.inr ?_
      have eq : S8 1 q = S 12 0 := by rw [hej q, if_pos g]
      rw [eq, ht, s1, s3, s4, y7]
      refine ⟨h12, ?_, g3.symm, g4, rfl⟩
      have u : zla 0 (P ++ q :: Q) = t := by rw [← e]; exact zla_app (s :: m :: Y) 0 [t]
      rw [zla_app] at u
      rw [← u]
      exact zla_mem (List.cons_ne_nil q Q) _
    · exact zrow_cg (by rw [ek 0 (by decide)]) (by rw [hej q, if_neg g]) (by rw [ek 2 (by decide)]) (fun k k1 _ _ _ => ek k (by omega)) z

end
section
/-- a row comes, and is judged -/
theorem zx_row {S0 S S2 : Nat → Nat → Int32} {G0 G : Nat → Nat → Int} {f : Nat} {h c h2 c2 b c3 d : Int} {X : List Nat} {o x : Int32} (h0 : zS0 S0) (k : zE S0 S G0 G f h c X [] h2 c2) (ha : zap S S2 o x) (hc : c3 ≤ c2) (hz : zrow S2 (zgu G (Int32.toNatClampNeg (S 11 0)) h2 b c3 d (f : Int)) f (Int32.toNatClampNeg (S 11 0)) []) : zE S0 S2 G0 (zgu G (Int32.toNatClampNeg (S 11 0)) h2 b c3 d (f : Int)) f h c (X ++ [Int32.toNatClampNeg (S 11 0)]) [] b d :=
  zE_tr h0 k (zE_judge (zE_ap (zE_end h0 k) ha) hc hz)
theorem zx_op {S0 S S2 : Nat → Nat → Int32} {G0 G : Nat → Nat → Int} {f : Nat} {h c h2 c2 b c3 d : Int} {X : List Nat} {o x : Int32} (n : Nat) (h0 : zS0 S0) (k : zE S0 S G0 G f h c X [] h2 c2) (ha : zap S S2 o x) (hn : Int32.toNatClampNeg o = n) (hc : c3 ≤ c2) (h1 : 0 ≤ h2) (h3 : 0 ≤ b) (h4 : 0 ≤ c3) (h5 : 0 ≤ d) (hm : c3 ≤ (S2 10 (5 * f + 1)).toInt) (hz : ∀ G' : Nat → Nat → Int, ∀ t, G' t 0 = h2 → G' t 1 = b → G' t 2 = c3 → G' t 3 = d → S2 1 t = x → (S2 2 t).toInt = -1 → zop S2 G' f t [] n) : zE S0 S2 G0 (zgu G (Int32.toNatClampNeg (S 11 0)) h2 b c3 d (f : Int)) f h c (X ++ [Int32.toNatClampNeg (S 11 0)]) [] b d := by
  obtain ⟨s0, s1, s2, s3, s4⟩ := zgu_s (G := G) (t := Int32.toNatClampNeg (S 11 0)) (a := h2) (b := b) (c := c3) (d := d) (e := (f : Int))
  refine zx_row h0 k ha hc ⟨fun g => (nomatch g), by rw [s0]; exact h1, by rw [s1]; exact h3, by rw [s2]; exact h4, by rw [s3]; exact h5, by rw [s2]; exact hm, s4, ?_⟩
  have e0 : S2 0 (Int32.toNatClampNeg (S 11 0)) = o := by rw [ha.2.2.1, zu_s]
  have e1 : S2 1 (Int32.toNatClampNeg (S 11 0)) = x := by rw [ha.2.2.2.1, zu_s]
  have e2 : (S2 2 (Int32.toNatClampNeg (S 11 0))).toInt = -1 := by rw [ha.2.2.2.2.1, zu_s]; decide
  rw [e0, hn]
  exact hz _ _ s0 s1 s2 s3 e1 e2
theorem zx_step {S0 S S2 : Nat → Nat → Int32} {G0 G : Nat → Nat → Int} {f : Nat} {h c h2 c2 : Int} {X : List Nat} {x : Int32} (h0 : zS0 S0) (k : zE S0 S G0 G f h c X [] h2 c2) (ha : zap S S2 1 x) (h1 : 0 ≤ h2) (h4 : 0 ≤ c2) (hm : c2 ≤ (S2 10 (5 * f + 1)).toInt) : ∃ G2, zE S0 S2 G0 G2 f h c (X ++ [Int32.toNatClampNeg (S 11 0)]) [] h2 c2 :=
  ⟨_, zx_op 1 h0 k ha rfl (Int.le_refl _) h1 h1 h4 h4 hm (fun G' t s0 s1 s2 s3 _ _ => by simp only [zop]; rw [s0, s1, s2, s3]; exact ⟨rfl, Int.le_refl _⟩)⟩
theorem zx_push {S0 S S2 : Nat → Nat → Int32} {G0 G : Nat → Nat → Int} {f : Nat} {h c h2 c2 : Int} {X : List Nat} {x : Int32} (h0 : zS0 S0) (k : zE S0 S G0 G f h c X [] h2 c2) (ha : zap S S2 2 x) (h1 : 0 ≤ h2) (h4 : 0 ≤ c2) (hm : c2 ≤ (S2 10 (5 * f + 1)).toInt) : ∃ G2, zE S0 S2 G0 G2 f h c (X ++ [Int32.toNatClampNeg (S 11 0)]) [] (h2 + 1) c2 :=
  ⟨_, zx_op 2 h0 k ha rfl (Int.le_refl _) h1 (by omega) h4 h4 hm (fun G' t s0 s1 s2 s3 _ _ => by simp only [zop]; rw [s0, s1, s2, s3]; exact ⟨rfl, Int.le_refl _⟩)⟩
theorem zx_kal {S0 S S2 : Nat → Nat → Int32} {G0 G : Nat → Nat → Int} {f : Nat} {h c h2 c2 : Int} {X : List Nat} {x : Int32} (h0 : zS0 S0) (k : zE S0 S G0 G f h c X [] h2 c2) (ha : zap S S2 4 x) (hx : 0 ≤ x.toInt) (hx2 : x.toInt < (S2 14 0).toInt) (hk : (S2 9 (Int32.toNatClampNeg x)).toInt = 0) (h1 : 0 ≤ h2) (h4 : 0 ≤ c2) (hm : c2 ≤ (S2 10 (5 * f + 1)).toInt) : ∃ G2, zE S0 S2 G0 G2 f h c (X ++ [Int32.toNatClampNeg (S 11 0)]) [] (h2 + 1) c2 :=
  ⟨_, zx_op 4 h0 k ha rfl (Int.le_refl _) h1 (by omega) h4 h4 hm (fun G' t s0 s1 s2 s3 e1 _ => by simp only [zop]; rw [s0, s1, s2, s3, e1]; exact ⟨hx, hx2, hk, rfl, Int.le_refl _⟩)⟩
theorem zx_name {S0 S S2 : Nat → Nat → Int32} {G0 G : Nat → Nat → Int} {f : Nat} {h c h2 c2 : Int} {X : List Nat} {x : Int32} (h0 : zS0 S0) (k : zE S0 S G0 G f h c X [] h2 c2) (ha : zap S S2 3 x) (hx : 0 ≤ x.toInt) (hx2 : x.toInt < c2) (h1 : 0 ≤ h2) (h4 : 0 ≤ c2) (hm : c2 ≤ (S2 10 (5 * f + 1)).toInt) : ∃ G2, zE S0 S2 G0 G2 f h c (X ++ [Int32.toNatClampNeg (S 11 0)]) [] (h2 + 1) c2 :=
  ⟨_, zx_op 3 h0 k ha rfl (Int.le_refl _) h1 (by omega) h4 h4 hm (fun G' t s0 s1 s2 s3 e1 _ => by simp only [zop]; rw [s0, s1, s2, s3, e1]; exact ⟨hx, hx2, rfl, Int.le_refl _⟩)⟩
theorem zx_bin {S0 S S2 : Nat → Nat → Int32} {G0 G : Nat → Nat → Int} {f : Nat} {h c h2 c2 : Int} {X : List Nat} {o x : Int32} (h0 : zS0 S0) (k : zE S0 S G0 G f h c X [] h2 c2) (ha : zap S S2 o x) (ho : o = 8 ∨ o = 9 ∨ o = 10 ∨ o = 11) (h1 : 2 ≤ h2) (h4 : 0 ≤ c2) (hm : c2 ≤ (S2 10 (5 * f + 1)).toInt) : ∃ G2, zE S0 S2 G0 G2 f h c (X ++ [Int32.toNatClampNeg (S 11 0)]) [] (h2 - 1) c2 := by
  rcases ho with rfl | rfl | rfl | rfl
  · exact ⟨_, zx_op 8 h0 k ha rfl (Int.le_refl _) (by omega) (by omega) h4 h4 hm (fun G' t s0 s1 s2 s3 _ _ => by simp only [zop]; rw [s0, s1, s2, s3]; exact ⟨h1, rfl, Int.le_refl _⟩)⟩
  · exact ⟨_, zx_op 9 h0 k ha rfl (Int.le_refl _) (by omega) (by omega) h4 h4 hm (fun G' t s0 s1 s2 s3 _ _ => by simp only [zop]; rw [s0, s1, s2, s3]; exact ⟨h1, rfl, Int.le_refl _⟩)⟩
  · exact ⟨_, zx_op 10 h0 k ha rfl (Int.le_refl _) (by omega) (by omega) h4 h4 hm (fun G' t s0 s1 s2 s3 _ _ => by simp only [zop]; rw [s0, s1, s2, s3]; exact ⟨h1, rfl, Int.le_refl _⟩)⟩
  · exact ⟨_, zx_op 11 h0 k ha rfl (Int.le_refl _) (by omega) (by omega) h4 h4 hm (fun G' t s0 s1 s2 s3 _ _ => by simp only [zop]; rw [s0, s1, s2, s3]; exact ⟨h1, rfl, Int.le_refl _⟩)⟩
theorem zx_kind {S0 S S2 : Nat → Nat → Int32} {G0 G : Nat → Nat → Int} {f : Nat} {h c h2 c2 n : Int} {X : List Nat} {x : Int32} (h0 : zS0 S0) (k : zE S0 S G0 G f h c X [] h2 c2) (ha : zap S S2 5 x) (hx : 0 ≤ x.toInt) (hx2 : x.toInt < (S2 14 0).toInt) (hk : (S2 9 (Int32.toNatClampNeg x)).toInt = n) (hn : 1 ≤ n) (h1 : n ≤ h2) (h4 : 0 ≤ c2) (hm : c2 ≤ (S2 10 (5 * f + 1)).toInt) : ∃ G2, zE S0 S2 G0 G2 f h c (X ++ [Int32.toNatClampNeg (S 11 0)]) [] (h2 - n + 1) c2 :=
  ⟨_, zx_op 5 h0 k ha rfl (Int.le_refl _) (by omega) (by omega) h4 h4 hm (fun G' t s0 s1 s2 s3 e1 _ => by simp only [zop]; rw [s0, s1, s2, s3, e1, hk]; exact ⟨hx, hx2, hn, h1, rfl, Int.le_refl _⟩)⟩
theorem zx_let {S0 S S2 : Nat → Nat → Int32} {G0 G : Nat → Nat → Int} {f : Nat} {h c h2 c2 : Int} {X : List Nat} {x : Int32} (h0 : zS0 S0) (k : zE S0 S G0 G f h c X [] h2 c2) (ha : zap S S2 12 x) (hx : x.toInt = c2) (h1 : 1 ≤ h2) (h4 : 0 ≤ c2) (hm : c2 + 1 ≤ (S2 10 (5 * f + 1)).toInt) : ∃ G2, zE S0 S2 G0 G2 f h c (X ++ [Int32.toNatClampNeg (S 11 0)]) [] (h2 - 1) (c2 + 1) :=
  ⟨_, zx_op 12 h0 k ha rfl (Int.le_refl _) (by omega) (by omega) h4 (by omega) (by omega) (fun G' t s0 s1 s2 s3 e1 _ => by simp only [zop]; rw [s0, s1, s2, s3, e1]; exact ⟨h1, rfl, hx, Int.le_refl _, hm⟩)⟩
theorem zseg_4 {S : Nat → Nat → Int32} {G : Nat → Nat → Int} {f : Nat} : ∀ {X : List Nat}, zseg S G f X → ∀ r ∈ X, G r 4 = (f : Int)
  | [], _, r, hr => nomatch hr
  | x :: X, h, r, hr => by
    rcases List.mem_cons.mp hr with g | g
    · rw [g]; exact h.1.2.2.2.2.2.2.1
    · exact zseg_4 h.2 r g
/-- where an if, or a jump, leads is written: behind row j of the stretch -/
theorem zx_lead {S0 S S2 : Nat → Nat → Int32} {G0 G : Nat → Nat → Int} {f r j : Nat} {h c h2 c2 : Int} {X P Q : List Nat} {v : Int32} (k : zE S0 S G0 G f h c X [] h2 c2) (eX : X = P ++ r :: Q) (ek : ∀ k, k ≠ 1 → S2 k = S k) (e1 : S2 1 = upd (S 1) r v) (hv : v.toInt = (j : Int)) (hj : j ∈ r :: Q) (ho : Int32.toNatClampNeg (S 0 r) = 13 ∧ G j 1 = G r 0 - 1 ∨ Int32.toNatClampNeg (S 0 r) = 14 ∧ G j 1 = G r 0) (h3 : G j 3 ≤ G r 2) : zE S0 S2 G0 G f h c X [] h2 c2 := by
  subst eX
  have hjv : Int32.toNatClampNeg v = j := by have := zn_nat (x := v) (by omega); omega
  have hzr : zrow S G f r Q := by
    have := k.2.2.2.2.2.2.2.2.1
    clear k
    induction P with
    | nil => exact this.1
    | cons p P ih => exact ih this.2
  have hj4 : G j 4 = G r 4 := by
    have hsg := k.2.2.2.2.2.2.2.2.1
    rw [zseg_4 hsg j (List.mem_append.mpr (Or.inr hj)), zseg_4 hsg r (List.mem_append.mpr (Or.inr List.mem_cons_self))]
  have er : S2 1 r = v := by rw [e1, zu_s]
  refine zE_patch k (ek 3 (by decide)) (ek 11 (by decide)) (ek 12 (by decide)) (fun k k1 _ _ => ek k (by omega)) (fun q hq => by rw [ek 0 (by decide), ek 2 (by decide), e1, zu_n hq]; exact ⟨rfl, rfl, rfl⟩) ?_
  obtain ⟨y1, y2, y3, y4, y5, y6, y7, y8⟩ := hzr
  refine ⟨y1, y2, y3, y4, y5, by rw [ek 10 (by decide)]; exact y6, y7, ?_⟩
  rw [ek 0 (by decide)]
  rcases ho with ⟨o1, o2⟩ | ⟨o1, o2⟩
  · rw [o1] at y8 ⊢
    simp only [zop] at y8 ⊢
    exact ⟨y8.1, y8.2.1, y8.2.2.1, Or.inr (by rw [er, hjv]; exact ⟨by omega, hj, o2, h3, hj4⟩)⟩
  · rw [o1] at y8 ⊢
    simp only [zop] at y8 ⊢
    exact Or.inr (by rw [er, hjv]; exact ⟨by omega, hj, o2, h3, hj4⟩)
/-- a call's row: its number of arguments is written behind it -/
theorem zx_call {S0 S S1 S2 : Nat → Nat → Int32} {G0 G : Nat → Nat → Int} {f : Nat} {h c h2 c2 : Int} {X : List Nat} {o x n : Int32} (h0 : zS0 S0) (k : zE S0 S G0 G f h c X [] h2 c2) (ha : zap S S1 o x) (ek : ∀ k, k ≠ 2 → S2 k = S1 k) (e2 : S2 2 = upd (S1 2) (Int32.toNatClampNeg (S 11 0)) n) (ho : o = 6 ∨ o = 7 ∧ 1 ≤ n.toInt) (hn : 0 ≤ n.toInt) (h1 : n.toInt ≤ h2) (h4 : 0 ≤ c2) (hm : c2 ≤ (S2 10 (5 * f + 1)).toInt) : ∃ G2, zE S0 S2 G0 G2 f h c (X ++ [Int32.toNatClampNeg (S 11 0)]) [] (h2 - n.toInt + 1) c2 := by
  have k1 := zE_ap (G := G) (f := f) (h := h2) (c := c2) (zE_end h0 k) ha
  have k2 : zE S S2 G G f h2 c2 [] [Int32.toNatClampNeg (S 11 0)] h2 c2 := zE_patchT k1 (ek 3 (by decide)) (ek 11 (by decide)) (ek 12 (by decide)) (fun k k1 _ _ => ek k (by omega)) (fun q hq => by rw [ek 0 (by decide), ek 1 (by decide), e2, zu_n hq]; exact ⟨rfl, rfl, rfl⟩)
  obtain ⟨s0, s1, s2, s3, s4⟩ := zgu_s (G := G) (t := Int32.toNatClampNeg (S 11 0)) (a := h2) (b := h2 - n.toInt + 1) (c := c2) (d := c2) (e := (f : Int))
  refine ⟨_, zE_tr h0 k (zE_judge (b := h2 - n.toInt + 1) (c2 := c2) (d := c2) k2 (Int.le_refl _) ⟨fun g => (nomatch g), by rw [s0]; omega, by rw [s1]; omega, by rw [s2]; exact h4, by rw [s3]; exact h4, by rw [s2]; exact hm, s4, ?_⟩)⟩
  have e0 : S2 0 (Int32.toNatClampNeg (S 11 0)) = o := by rw [ek 0 (by decide), ha.2.2.1, zu_s]
  have eb : S2 2 (Int32.toNatClampNeg (S 11 0)) = n := by rw [e2, zu_s]
  rw [e0]
  rcases ho with rfl | ⟨rfl, hn1⟩
  · show zop S2 _ f _ [] 6
    simp only [zop]
    rw [eb, s0, s1, s2, s3]
    exact ⟨hn, h1, rfl, Int.le_refl _⟩
  · show zop S2 _ f _ [] 7
    simp only [zop]
    rw [eb, s0, s1, s2, s3]
    exact ⟨hn1, h1, rfl, Int.le_refl _⟩
/-- the match's own row, not judged yet -/
theorem zx_match {S0 S S2 : Nat → Nat → Int32} {G0 G : Nat → Nat → Int} {f s : Nat} {h c : Int} {x fo : Int32} (h0 : zS0 S0) (k : zE S0 S G0 G f h c [s] [] h c) (ha : zap S S2 15 x) (hx : 0 ≤ x.toInt) (hx2 : x.toInt < c) (hfo : fo.toInt = -1) : zM S0 S2 G0 G f h c (Int32.toNatClampNeg (S 11 0)) fo 0 := by
  have k1 := zE_tr h0 k (zE_ap (G := G) (f := f) (h := h) (c := c) (zE_end h0 k) ha)
  refine Or.inl ⟨hfo, rfl, s, k1, by rw [ha.2.2.1, zu_s]; rfl, by rw [ha.2.2.2.2.1, zu_s]; decide, by rw [ha.2.2.2.1, zu_s]; exact hx, by rw [ha.2.2.2.1, zu_s]; exact hx2⟩
/-- the last row of an arm, not judged yet -/
theorem zx_leave {S0 S S2 : Nat → Nat → Int32} {G0 G : Nat → Nat → Int} {f : Nat} {h c h2 c2 : Int} {X : List Nat} (h0 : zS0 S0) (k : zE S0 S G0 G f h c X [] h2 c2) (ha : zap S S2 16 (-1)) : zE S0 S2 G0 G f h c X [Int32.toNatClampNeg (S 11 0)] h2 c2 ∧ Int32.toNatClampNeg (S2 0 (Int32.toNatClampNeg (S 11 0))) = 16 ∧ (S2 1 (Int32.toNatClampNeg (S 11 0))).toInt = -1 := by
  have k1 := zE_tr h0 k (zE_ap (G := G) (f := f) (h := h2) (c := c2) (zE_end h0 k) ha)
  rw [List.append_nil] at k1
  exact ⟨k1, by rw [ha.2.2.1, zu_s]; rfl, by rw [ha.2.2.2.1, zu_s]; decide⟩
/-- a match between its arms, while other tables change -/
theorem zM_idT {S0 S S2 : Nat → Nat → Int32} {G0 G : Nat → Nat → Int} {f : Nat} {h c : Int} {m n : Nat} {fo : Int32} (hF : zfr S S2 G G) (e3 : S2 3 = S 3) (e11 : S2 11 0 = S 11 0) (e12 : S2 12 0 = S 12 0) (hM : zM S0 S G0 G f h c m fo n) : zM S0 S2 G0 G f h c m fo n := by
  rcases hM with ⟨h1, h2, s, k, k15, k2, ka, kb⟩ | ⟨h1, s, Y, t, AL, cx, k, k2, k16, kt, k5, k6, k7, k8, k9, ka, kb, kc, kd, ke, kf, kg⟩
  · have hm := hF.2.2.2.1 m (k.2.2.2.2.2.1 m (List.mem_append.mpr (Or.inr List.mem_cons_self))).2
    exact Or.inl ⟨h1, h2, s, zE_idT k hF e3 e11 e12, by rw [hm.1]; exact k15, by rw [hm.2.2.1]; exact k2, by rw [hm.2.1]; exact ka, by rw [hm.2.1]; exact kb⟩
  · have hr := k.2.2.2.2.2.1
    have hX : ∀ r ∈ s :: m :: Y, (r : Int) < (S 11 0).toInt := fun r hr2 => (hr r (List.mem_append.mpr (Or.inl hr2))).2
    have hm := hF.2.2.2.1 m (hX m (List.mem_cons_of_mem _ List.mem_cons_self))
    have ht := hF.2.2.2.1 t (hr t (List.mem_append.mpr (Or.inr List.mem_cons_self))).2
    refine Or.inr ⟨h1, s, Y, t, AL, cx, zE_idT k hF e3 e11 e12, k2, by rw [ht.1]; exact k16, by rw [ht.2.1]; exact kt, k5, k6, by rw [hm.1]; exact k7, by rw [hm.2.1]; exact k8, by rw [hm.2.1]; exact k9, ka, kb, kc, ?_, ke, fun a ha => ⟨zarm_fr hF (fun r hr2 => hX r (List.mem_cons_of_mem _ hr2)) (fun _ g => g) (kf a ha).1, (kf a ha).2⟩, fun a ha => ?_⟩
    · rw [hm.2.2.1]; exact zli_ext kd (fun a ha => (hF.2.2.2.2.1 a (kf a ha).1.1).2.1)
    · obtain ⟨u1, u2⟩ := kg a ha
      rw [(hF.2.2.2.2.1 a (kf a ha).1.1).2.2.2.1]
      refine ⟨u1, ?_⟩
      rcases u2 with u2 | ⟨u2, u3, u4, u5⟩
      · exact Or.inl u2
      · exact Or.inr ⟨u2, by rw [(hF.2.2.2.1 _ (hX _ u2)).1]; exact u3, u4, u5⟩

end
section
theorem zu_uu {f : Nat → Int32} {k : Nat} {x y : Int32} : upd (upd f k x) k y = upd f k y := by
  funext j; unfold upd; split <;> rfl
theorem zn_5 {i w y : Int32} (h : y.toInt = i.toInt * 5 + w.toInt) (hi : 0 ≤ i.toInt) (hw : 0 ≤ w.toInt) : Int32.toNatClampNeg y = 5 * Int32.toNatClampNeg i + Int32.toNatClampNeg w := by
  have := zn_nat hi
  have := zn_nat hw
  have := zn_nat (x := y) (by omega)
  omega
/-- kinds come behind the elder ones -/
def zkk (kz kz2 : Int32) (kf kf2 : Nat → Int32) : Prop := kz.toInt ≤ kz2.toInt ∧ ∀ k : Nat, (k : Int) < kz.toInt → kf2 k = kf k
theorem zkk_rf {kz : Int32} {kf : Nat → Int32} : zkk kz kz kf kf := ⟨Int.le_refl _, fun _ _ => rfl⟩
theorem zkk_add {kz kz2 : Int32} {kf kf2 : Nat → Int32} {x : Int32} (h0 : 0 ≤ kz.toInt) (h : kf2 = upd kf (Int32.toNatClampNeg kz) x) (hz : kz2.toInt = kz.toInt + 1) : zkk kz kz2 kf kf2 := ⟨by omega, fun k hk => by
  have := zn_nat h0
  rw [h, zu_n (by omega)]⟩
/-- a kind that is told to its end stays so -/
def zkt (kf kf2 : Nat → Int32) : Prop := ∀ k : Nat, (kf k).toInt ≠ -1 → kf2 k = kf k
theorem zkt_rf {kf : Nat → Int32} : zkt kf kf := fun _ _ => rfl
theorem zkt_up {kf kf2 : Nat → Int32} {j : Nat} {x : Int32} (h : kf2 = upd kf j x) (hj : (kf j).toInt = -1) : zkt kf kf2 := fun k hk => by
  rw [h, zu_n (show k ≠ j from fun e => hk (by rw [e]; exact hj))]
/-- names told stay, as many as there were at most grow -/
def zff (ff ff2 : Nat → Int32) : Prop := ∀ g : Nat, (ff (5 * g + 1)).toInt ≤ (ff2 (5 * g + 1)).toInt ∧ ff2 (5 * g) = ff (5 * g) ∧ (ff2 (5 * g + 1) = ff (5 * g + 1) ∨ (ff2 (5 * g + 1)).toInt ≤ 24)
theorem zff_rf {ff : Nat → Int32} : zff ff ff := fun _ => ⟨Int.le_refl _, rfl, Or.inl rfl⟩
theorem zff_tr {ff ff1 ff2 : Nat → Int32} (a : zff ff ff1) (b : zff ff1 ff2) : zff ff ff2 := fun g => ⟨Int.le_trans (a g).1 (b g).1, (b g).2.1.trans (a g).2.1, by
  rcases (b g).2.2 with q | q
  · rw [q]; exact (a g).2.2
  · exact Or.inr q⟩
theorem zff_ge {ff ff2 : Nat → Int32} {g w : Nat} {x : Int32} (h : ff2 = upd ff (5 * g + w) x) (hw : 2 ≤ w) (hw5 : w < 5) : zff ff ff2 := fun j => by
  rw [h, zu_n (by omega), zu_n (by omega)]; exact ⟨Int.le_refl _, rfl, Or.inl rfl⟩
theorem zff_1 {ff ff2 : Nat → Int32} {g : Nat} {x : Int32} (h : ff2 = upd ff (5 * g + 1) x) (hx : (ff (5 * g + 1)).toInt ≤ x.toInt) (h24 : x.toInt ≤ 24) : zff ff ff2 := fun j => by
  rw [h, zu_n (j := 5 * j) (by omega)]
  by_cases e : j = g
  · rw [e, zu_s]; exact ⟨hx, rfl, Or.inr h24⟩
  · rw [zu_n (by omega)]; exact ⟨Int.le_refl _, rfl, Or.inl rfl⟩
theorem zst_r {op a b nx op' a' b' nx' ak an ab al af kf ff : Nat → Int32} {cz ct cz' ct' az kz : Int32} : ∀ k, 4 ≤ k → k ≠ 11 → k ≠ 12 → zst op' a' b' nx' ak an ab al af kf ff cz' ct' az kz k = zst op a b nx ak an ab al af kf ff cz ct az kz k
  | 0, h, _, _ => absurd h (by decide)
  | 1, h, _, _ => absurd h (by decide)
  | 2, h, _, _ => absurd h (by decide)
  | 3, h, _, _ => absurd h (by decide)
  | 4, _, _, _ => rfl
  | 5, _, _, _ => rfl
  | 6, _, _, _ => rfl
  | 7, _, _, _ => rfl
  | 8, _, _, _ => rfl
  | 9, _, _, _ => rfl
  | 10, _, _, _ => rfl
  | 11, _, h, _ => absurd rfl h
  | 12, _, _, h => absurd rfl h
  | 13, _, _, _ => rfl
  | 14, _, _, _ => rfl
  | _ + 15, _, _, _ => rfl
theorem zap_mk {op a b nx op2 a2 b2 nx2 ak an ab al af kf ff : Nat → Int32} {cz ct cz2 ct2 az kz o x : Int32} (h1 : cz2.toInt = cz.toInt + 1) (h2 : ct2 = cz) (h3 : op2 = upd op (Int32.toNatClampNeg cz) o) (h4 : a2 = upd a (Int32.toNatClampNeg cz) x) (h5 : b2 = upd b (Int32.toNatClampNeg cz) (-1)) (h6 : nx2 = upd (upd nx (Int32.toNatClampNeg cz) (nx (Int32.toNatClampNeg ct))) (Int32.toNatClampNeg ct) cz) : zap (zst op a b nx ak an ab al af kf ff cz ct az kz) (zst op2 a2 b2 nx2 ak an ab al af kf ff cz2 ct2 az kz) o x := ⟨h1, h2, h3, h4, h5, h6, zst_r⟩
theorem zins_mk {S : Nat → Nat → Int32} {op a b nx op2 a2 b2 nx2 ak an ab al af kf ff : Nat → Int32} {cz ct cz2 ct2 az kz be : Int32} (hb : S 12 0 = be) (h1 : cz2.toInt = cz.toInt + 1) (h2 : ct2 = ct) (h3 : op2 = upd op (Int32.toNatClampNeg cz) 1) (h4 : a2 = upd a (Int32.toNatClampNeg cz) (-1)) (h5 : b2 = upd b (Int32.toNatClampNeg cz) (-1)) (h6 : nx2 = upd (upd nx (Int32.toNatClampNeg cz) (nx (Int32.toNatClampNeg be))) (Int32.toNatClampNeg be) cz) : zins S (zst op a b nx ak an ab al af kf ff cz ct az kz) (zst op2 a2 b2 nx2 ak an ab al af kf ff cz2 ct2 az kz) := ⟨h1, h2, h3, h4, h5, by rw [hb]; exact h6, zst_r⟩
theorem zfr_kn {op a b nx ak an ab al af kf ff kf2 ff2 : Nat → Int32} {cz ct az kz kz2 : Int32} {G : Nat → Nat → Int} (hz : kz.toInt ≤ kz2.toInt) (hk : ∀ k : Nat, (k : Int) < kz.toInt → (kf k).toInt ≠ -1 → kf2 k = kf k) (hf : zff ff ff2) : zfr (zst op a b nx ak an ab al af kf ff cz ct az kz) (zst op a b nx ak an ab al af kf2 ff2 cz ct az kz2) G G := ⟨Int.le_refl _, Int.le_refl _, hz, fun _ _ => ⟨rfl, rfl, rfl, fun _ _ => rfl⟩, fun _ _ => ⟨rfl, rfl, rfl, rfl, rfl, rfl⟩, hk, hf⟩
/-- calls stand within the tape -/
def zcp (op pl : Nat → Int32) (cz : Int32) : Prop := ∀ r : Nat, (r : Int) < cz.toInt → Int32.toNatClampNeg (op r) = 6 ∨ Int32.toNatClampNeg (op r) = 7 → (pl r).toInt < 2000
theorem zcp_ap {op pl op2 pl2 : Nat → Int32} {cz cz2 o wh : Int32} (h : zcp op pl cz) (e1 : op2 = upd op (Int32.toNatClampNeg cz) o) (e2 : pl2 = upd pl (Int32.toNatClampNeg cz) wh) (ez : cz2.toInt = cz.toInt + 1) (h0 : 0 ≤ cz.toInt) (ho : Int32.toNatClampNeg o = 6 ∨ Int32.toNatClampNeg o = 7 → wh.toInt < 2000) : zcp op2 pl2 cz2 := fun r hr g => by
  have hn := zn_nat h0
  rw [e2]
  rw [e1] at g
  by_cases u : r = Int32.toNatClampNeg cz
  · rw [u, zu_s] at g ⊢; exact ho g
  · rw [zu_n u] at g ⊢; exact h r (by omega) g
theorem zE_eq {S S2 : Nat → Nat → Int32} {G G2 : Nat → Nat → Int} {f : Nat} {h c h2 c2 h3 c3 : Int} {X T : List Nat} (k : zE S S2 G G2 f h c X T h2 c2) (e : h2 = h3) (e2 : c2 = c3) : zE S S2 G G2 f h c X T h3 c3 := e ▸ e2 ▸ k
/-- the tokens' places rise; what is at hand -/
def zpl (gs gp : Nat → Int32) (z : Int32) : Prop := (∀ i : Nat, (i : Int) < z.toInt → (gp i).toInt + 1 ≤ (gp (i + 1)).toInt ∧ (gs i = 261 → (gp i).toInt + 2 ≤ (gp (i + 1)).toInt)) ∧ 0 ≤ (gp 0).toInt ∧ (gp (Int32.toNatClampNeg z)).toInt ≤ 2000 ∧ gs (Int32.toNatClampNeg z) = 256
def zpt (gs gp : Nat → Int32) (z pa pl so : Int32) : Prop := zpl gs gp z ∧ pl = gp (Int32.toNatClampNeg pa) ∧ so = gs (Int32.toNatClampNeg pa)
theorem zpl_up {gs gp : Nat → Int32} {z : Int32} (h : zpl gs gp z) : ∀ (d i : Nat), (i : Int) + d ≤ z.toInt → (gp i).toInt + d ≤ (gp (i + d)).toInt
  | 0, i, _ => by simp
  | d + 1, i, hd => by
    have u := zpl_up h d i (by omega)
    have v := (h.1 (i + d) (by omega)).1
    show (gp i).toInt + ((d + 1 : Nat) : Int) ≤ (gp (i + d + 1)).toInt
    omega
/-- what is at hand lies within the tape -/
theorem zpt_rg {gs gp : Nat → Int32} {z pa pl so : Int32} (h : zpt gs gp z pa pl so) (h0 : 0 ≤ pa.toInt) (h1 : pa.toInt ≤ z.toInt) : 0 ≤ pl.toInt ∧ pl.toInt ≤ 2000 ∧ (pa.toInt < z.toInt → pl.toInt < 2000) ∧ (pa.toInt = z.toInt → so = 256) := by
  obtain ⟨hp, e1, e2⟩ := h
  have n1 := zn_nat h0
  have n2 := zn_nat (x := z) (by omega)
  have u := zpl_up hp (Int32.toNatClampNeg pa) 0 (by omega)
  have v := zpl_up hp (Int32.toNatClampNeg z - Int32.toNatClampNeg pa) (Int32.toNatClampNeg pa) (by omega)
  have e : Int32.toNatClampNeg pa + (Int32.toNatClampNeg z - Int32.toNatClampNeg pa) = Int32.toNatClampNeg z := by omega
  rw [e] at v
  rw [Nat.zero_add] at u
  have p0 := hp.2.1
  have p1 := hp.2.2.1
  rw [← e1] at u v
  refine ⟨by omega, by omega, fun g => by omega, fun g => ?_⟩
  rw [e2, show Int32.toNatClampNeg pa = Int32.toNatClampNeg z by omega]
  exact hp.2.2.2
/-- a token further -/
theorem zpt_ad {gs gp : Nat → Int32} {z pa pl so pa2 pl2 so2 : Int32} (h : zpt gs gp z pa pl so) (h0 : 0 ≤ pa.toInt) (h1 : pa.toInt ≤ z.toInt) (h2 : pa2.toInt = pa.toInt + 1 ∨ pa2.toInt = z.toInt ∧ pa.toInt = z.toInt) (e1 : pl2 = gp (Int32.toNatClampNeg pa2)) (e2 : so2 = gs (Int32.toNatClampNeg pa2)) (hz : pa2.toInt ≤ z.toInt) : zpt gs gp z pa2 pl2 so2 ∧ pl.toInt ≤ pl2.toInt ∧ (pa.toInt = z.toInt ∨ pl.toInt + 1 ≤ pl2.toInt) ∧ (so.toInt ≠ 261 ∨ pl.toInt + 2 ≤ pl2.toInt) := by
  have r := zpt_rg h h0 h1
  obtain ⟨hp, f1, f2⟩ := h
  have n1 := zn_nat h0
  have n2 := zn_nat (x := pa2) (by omega)
  refine ⟨⟨hp, e1, e2⟩, ?_⟩
  rcases Int.lt_or_eq_of_le h1 with g | g
  · have e : Int32.toNatClampNeg pa2 = Int32.toNatClampNeg pa + 1 := by omega
    have u := hp.1 (Int32.toNatClampNeg pa) (by omega)
    rw [← e, ← e1, ← f1, ← f2] at u
    refine ⟨by omega, Or.inr u.1, ?_⟩
    by_cases q : so = 261
    · exact Or.inr (u.2 q)
    · exact Or.inl (fun w => q (Int32.toInt_inj.mp w))
  · have e : pa2 = pa := Int32.toInt_inj.mp (by omega)
    rw [e] at e1
    refine ⟨by rw [e1, f1]; exact Int.le_refl _, Or.inl g, Or.inl ?_⟩
    rw [r.2.2.2 g]; decide

set_option maxHeartbeats 4000000 in
set_option maxRecDepth 100000 in
theorem c_X2_insertBehind_x (l : Launch) (dC : Nat → ClassId) (dI : Nat → Nat → Nat) (aK aV : Nat → Nat) (h0 : Nat) (cop : Nat) (ca : Nat) (cb : Nat) (cplace : Nat) (cnext : Nat) (cneeded : Nat) (ckop : ClassId) (cka : ClassId) (ckb : ClassId) (ckplace : ClassId) (cknext : ClassId) (ckneeded : ClassId) (z : Int32) (ta : Int32) (gop : Nat → Int32) (ga : Nat → Int32) (gb : Nat → Int32) (gplace : Nat → Int32) (gnext : Nat → Int32) (gneeded : Nat → Int32) (be : Int32) (o : Int32) (wh : Int32) (sz : Nat) (hz0 : 0 ≤ z.toInt) (hz1 : z.toInt < 3000) (ht0 : 0 ≤ ta.toInt) (ht1 : ta.toInt < 3000) (hgn : zx 3000 gnext) (hb0 : 0 ≤ be.toInt) (hb1 : be.toInt < 3000) : Met l yX2_insertBehind (Cond.code yX2_insertBehind cX2_insertBehind 5 (some .int) :: zw) ({ frames := 8, cells := 0, slots := 0, locals := 200 }) (va_Pc [.ref h0, .int be, .int o, .int wh] (zP dC dI aK aV sz [(ckop, .int), (cka, .int), (ckb, .int), (ckplace, .int), (cknext, .int), (ckneeded, .int)] [(h0, .inr (2, [.ref cop, .ref ca, .ref cb, .ref cplace, .ref cnext, .ref cneeded, .int z, .int ta])), (cop, .inl (ckop, 3000, .inl gop)), (ca, .inl (cka, 3000, .inl ga)), (cb, .inl (ckb, 3000, .inl gb)), (cplace, .inl (ckplace, 3000, .inl gplace)), (cnext, .inl (cknext, 3000, .inl gnext)), (cneeded, .inl (ckneeded, 3000, .inl gneeded))])) (va_Qi (fun (r : Int32) (u : Int32 × Int32 × (Nat → Int32) × (Nat → Int32) × (Nat → Int32) × (Nat → Int32) × (Nat → Int32) × (Nat → Int32)) => match u with | (z2, t2, nop, na, nb, nplace, nnext, nneeded) => (r = z) ∧ (z2.toInt = z.toInt + 1) ∧ (be.toInt = ta.toInt ∧ t2.toInt = z.toInt ∨ be.toInt ≠ ta.toInt ∧ t2.toInt = ta.toInt) ∧ (zx 3000 nnext) ∧ (nop = upd gop (Int32.toNatClampNeg z) o) ∧ (na = upd ga (Int32.toNatClampNeg z) (-1)) ∧ (nb = upd gb (Int32.toNatClampNeg z) (-1)) ∧ (nnext = upd (upd gnext (Int32.toNatClampNeg z) (gnext (Int32.toNatClampNeg be))) (Int32.toNatClampNeg be) z) ∧ (nplace = upd gplace (Int32.toNatClampNeg z) wh)) (fun u => match u with | (z2, t2, nop, na, nb, nplace, nnext, nneeded) => zQ dC dI (va_A [(h0, .inr (2, [.ref cop, .ref ca, .ref cb, .ref cplace, .ref cnext, .ref cneeded, .int z, .int ta])), (cop, .inl (ckop, 3000, .inl gop)), (ca, .inl (cka, 3000, .inl ga)), (cb, .inl (ckb, 3000, .inl gb)), (cplace, .inl (ckplace, 3000, .inl gplace)), (cnext, .inl (cknext, 3000, .inl gnext)), (cneeded, .inl (ckneeded, 3000, .inl gneeded))] sz) [(ckop, .int), (cka, .int), (ckb, .int), (ckplace, .int), (cknext, .int), (ckneeded, .int)] [(h0, .inr (2, [.ref cop, .ref ca, .ref cb, .ref cplace, .ref cnext, .ref cneeded, .int z2, .int t2])), (cop, .inl (ckop, 3000, .inl nop)), (ca, .inl (cka, 3000, .inl na)), (cb, .inl (ckb, 3000, .inl nb)), (cplace, .inl (ckplace, 3000, .inl nplace)), (cnext, .inl (cknext, 3000, .inl nnext)), (cneeded, .inl (ckneeded, 3000, .inl nneeded))]) (va_A [(h0, .inr (2, [.ref cop, .ref ca, .ref cb, .ref cplace, .ref cnext, .ref cneeded, .int z, .int ta])), (cop, .inl (ckop, 3000, .inl gop)), (ca, .inl (cka, 3000, .inl ga)), (cb, .inl (ckb, 3000, .inl gb)), (cplace, .inl (ckplace, 3000, .inl gplace)), (cnext, .inl (cknext, 3000, .inl gnext)), (cneeded, .inl (ckneeded, 3000, .inl gneeded))] sz)) 0 0 (va_A [(h0, .inr (2, [.ref cop, .ref ca, .ref cb, .ref cplace, .ref cnext, .ref cneeded, .int z, .int ta])), (cop, .inl (ckop, 3000, .inl gop)), (ca, .inl (cka, 3000, .inl ga)), (cb, .inl (ckb, 3000, .inl gb)), (cplace, .inl (ckplace, 3000, .inl gplace)), (cnext, .inl (cknext, 3000, .inl gnext)), (cneeded, .inl (ckneeded, 3000, .inl gneeded))] sz) := by
  refine Met.ofW (cc := cX2_insertBehind) (maxL := 5) (ret := (some .int)) (by decide) rfl ?_
  intro p e s m args below meth c s₁ B hml hv
  obtain ⟨rfl, hsz, hP, hK, hD0, hN, hT⟩ := hv
  have hx := B.exec
  have hb := B.bytes
  have hr := B.returns
  have hts := atoms_spec (ws := Cond.code yX2_insertBehind cX2_insertBehind 5 (some .int) :: zw) B.pre
  have hA : ∀ w ∈ zw, w.before _ s = true := fun w h => hts w (List.mem_cons_of_mem _ h)
  have hown : s.vm.findClass RX2 = some m.cls := findClass_of_methodNamed B.named
  have hlocks := B.notSynchronized
  subst hsz
  have hD := hD0.self (sz := s.heap.size)
  generalize hAe : va_A [(h0, .inr (2, [.ref cop, .ref ca, .ref cb, .ref cplace, .ref cnext, .ref cneeded, .int z, .int ta])), (cop, .inl (ckop, 3000, .inl gop)), (ca, .inl (cka, 3000, .inl ga)), (cb, .inl (ckb, 3000, .inl gb)), (cplace, .inl (ckplace, 3000, .inl gplace)), (cnext, .inl (cknext, 3000, .inl gnext)), (cneeded, .inl (ckneeded, 3000, .inl gneeded))] s.heap.size = A at hD hT ⊢
  have hAA : ∀ q : Nat, s.heap.size ≤ q → A q := fun q h => by rw [← hAe]; exact Or.inr h
  have hS : va_S A s.heap s.heap [] := va_S.rf
  have hl := lv_entry ([.ref h0, .int be, .int o, .int wh]) (n := 5) (Nat.le_of_ble_eq_true rfl)
  rw [lg_entry_eq]
  generalize (lg_sl ([.ref h0, .int be, .int o, .int wh]) ++ List.replicate (5 - (lg_sl ([.ref h0, .int be, .int o, .int wh])).length) Slot.unset).toArray = ls at hl ⊢
  have hl : lv_has ls 5 [(0, .ref h0), (1, .int be), (2, .int o), (3, .int wh)] := hl
  refine lv_aload_n hx hb dX2_insertBehind_0 rfl (lv_at hl 0 rfl) ?_
  refine va_get (D := (dC, dI)) (ci := 2) (v := .int z) (C := RX2) (T := TX2) (N := 8) hx hb hA zin_X2 hown hK hP 0 rfl rfl 6 (by decide) (hA _ wi_197) (fun _ h9 => h9) rfl dX2_insertBehind_1 ?_
  refine lv_sipush (v := 3000) hx hb dX2_insertBehind_4 (by decide) ?_
  refine lv_icmp_lt (tgt := 14) hx hb dX2_insertBehind_7 (by decide) (fun c_1 => ?_) (fun c_1 => ?_)
  · have ic_1 : z.toInt < 3000 := zi_lt c_1
    refine lv_aload_n hx hb dX2_insertBehind_14 rfl (lv_at hl 0 rfl) ?_
    refine va_get (D := (dC, dI)) (ci := 2) (v := .int z) (C := RX2) (T := TX2) (N := 8) hx hb hA zin_X2 hown hK hP 0 rfl rfl 6 (by decide) (hA _ wi_197) (fun _ h9 => h9) rfl dX2_insertBehind_15 ?_
    refine lv_istore (lv' := [(4, .int z), (0, .ref h0), (1, .int be), (2, .int o), (3, .int wh)]) hx hb dX2_insertBehind_18 hl (by decide) rfl (fun ls hl => ?_)
    refine lv_aload_n hx hb dX2_insertBehind_20 rfl (lv_at hl 1 rfl) ?_
    refine lv_dup hx hb dX2_insertBehind_21 rfl ?_
    refine va_get (D := (dC, dI)) (ci := 2) (v := .int z) (C := RX2) (T := TX2) (N := 8) hx hb hA zin_X2 hown hK hP 0 rfl rfl 6 (by decide) (hA _ wi_197) (fun _ h9 => h9) rfl dX2_insertBehind_22 ?_
    refine lv_iconst (v := 1) hx hb dX2_insertBehind_25 (by decide) ?_
    refine lv_iadd hx hb dX2_insertBehind_26 ?_
    refine lv_topi (fun x_2 ex_2 => ?_)
    have ix_2 : x_2.toInt = z.toInt + 1 := by rw [ex_2]; exact zi_addc (by decide) (by omega) (by omega)
    refine va_put (D := (dC, dI)) (ci := 2) (v := .int x_2) (ty := .int) (C := RX2) (T := TX2) (N := 8) hx hb hA zin_X2 tyX2 tyX2_ok nmX2 hown hK hP hD hS 0 rfl rfl 6 (by decide) (hA _ wi_197) (fun _ h9 => h9) rfl (by decide +kernel) rfl rfl (Nat.le_of_ble_eq_true rfl) dX2_insertBehind_27 (fun H locs hP hD hS => ?_)
    have hP : va_P (dC, dI) vwCl [(h0, .inr (2, [.ref cop, .ref ca, .ref cb, .ref cplace, .ref cnext, .ref cneeded, .int x_2, .int ta])), (cop, .inl (ckop, 3000, .inl gop)), (ca, .inl (cka, 3000, .inl ga)), (cb, .inl (ckb, 3000, .inl gb)), (cplace, .inl (ckplace, 3000, .inl gplace)), (cnext, .inl (cknext, 3000, .inl gnext)), (cneeded, .inl (ckneeded, 3000, .inl gneeded))] H := hP
    have hD : va_D A [(h0, .inr (2, [.ref cop, .ref ca, .ref cb, .ref cplace, .ref cnext, .ref cneeded, .int x_2, .int ta])), (cop, .inl (ckop, 3000, .inl gop)), (ca, .inl (cka, 3000, .inl ga)), (cb, .inl (ckb, 3000, .inl gb)), (cplace, .inl (ckplace, 3000, .inl gplace)), (cnext, .inl (cknext, 3000, .inl gnext)), (cneeded, .inl (ckneeded, 3000, .inl gneeded))] := hD
    refine lv_aload_n hx hb dX2_insertBehind_30 rfl (lv_at hl 1 rfl) ?_
    refine va_get (D := (dC, dI)) (ci := 2) (v := .ref cop) (C := RX2) (T := TX2) (N := 8) hx hb hA zin_X2 hown hK hP 0 rfl rfl 0 (by decide) (hA _ wi_176) (fun _ h9 => h9) rfl dX2_insertBehind_31 ?_
    refine lv_iload hx hb dX2_insertBehind_34 (lv_at hl 0 rfl) ?_
    refine lv_iload_n hx hb dX2_insertBehind_36 rfl (lv_at hl 3 rfl) ?_
    refine va_iast hx hb hK hP hD hS 1 0 rfl rfl (vp_in_iff.mpr ⟨by omega, by omega⟩) dX2_insertBehind_37 (fun H locs hP hD hS => ?_)
    obtain ⟨f_3, ef_3⟩ : ∃ gz9 : Nat → Int32, gz9 = upd gop (Int32.toNatClampNeg z) o := ⟨_, rfl⟩
    rw [← ef_3] at hP hD
    have hP : va_P (dC, dI) vwCl [(h0, .inr (2, [.ref cop, .ref ca, .ref cb, .ref cplace, .ref cnext, .ref cneeded, .int x_2, .int ta])), (cop, .inl (ckop, 3000, .inl f_3)), (ca, .inl (cka, 3000, .inl ga)), (cb, .inl (ckb, 3000, .inl gb)), (cplace, .inl (ckplace, 3000, .inl gplace)), (cnext, .inl (cknext, 3000, .inl gnext)), (cneeded, .inl (ckneeded, 3000, .inl gneeded))] H := hP
    have hD : va_D A [(h0, .inr (2, [.ref cop, .ref ca, .ref cb, .ref cplace, .ref cnext, .ref cneeded, .int x_2, .int ta])), (cop, .inl (ckop, 3000, .inl f_3)), (ca, .inl (cka, 3000, .inl ga)), (cb, .inl (ckb, 3000, .inl gb)), (cplace, .inl (ckplace, 3000, .inl gplace)), (cnext, .inl (cknext, 3000, .inl gnext)), (cneeded, .inl (ckneeded, 3000, .inl gneeded))] := hD
    refine lv_aload_n hx hb dX2_insertBehind_38 rfl (lv_at hl 1 rfl) ?_
    refine va_get (D := (dC, dI)) (ci := 2) (v := .ref ca) (C := RX2) (T := TX2) (N := 8) hx hb hA zin_X2 hown hK hP 0 rfl rfl 1 (by decide) (hA _ wi_180) (fun _ h9 => h9) rfl dX2_insertBehind_39 ?_
    refine lv_iload hx hb dX2_insertBehind_42 (lv_at hl 0 rfl) ?_
    refine lv_iconst (v := (-1)) hx hb dX2_insertBehind_44 (by decide) ?_
    refine va_iast hx hb hK hP hD hS 2 1 rfl rfl (vp_in_iff.mpr ⟨by omega, by omega⟩) dX2_insertBehind_45 (fun H locs hP hD hS => ?_)
    obtain ⟨f_4, ef_4⟩ : ∃ gz9 : Nat → Int32, gz9 = upd ga (Int32.toNatClampNeg z) (-1) := ⟨_, rfl⟩
    rw [← ef_4] at hP hD
    have hP : va_P (dC, dI) vwCl [(h0, .inr (2, [.ref cop, .ref ca, .ref cb, .ref cplace, .ref cnext, .ref cneeded, .int x_2, .int ta])), (cop, .inl (ckop, 3000, .inl f_3)), (ca, .inl (cka, 3000, .inl f_4)), (cb, .inl (ckb, 3000, .inl gb)), (cplace, .inl (ckplace, 3000, .inl gplace)), (cnext, .inl (cknext, 3000, .inl gnext)), (cneeded, .inl (ckneeded, 3000, .inl gneeded))] H := hP
    have hD : va_D A [(h0, .inr (2, [.ref cop, .ref ca, .ref cb, .ref cplace, .ref cnext, .ref cneeded, .int x_2, .int ta])), (cop, .inl (ckop, 3000, .inl f_3)), (ca, .inl (cka, 3000, .inl f_4)), (cb, .inl (ckb, 3000, .inl gb)), (cplace, .inl (ckplace, 3000, .inl gplace)), (cnext, .inl (cknext, 3000, .inl gnext)), (cneeded, .inl (ckneeded, 3000, .inl gneeded))] := hD
    refine lv_aload_n hx hb dX2_insertBehind_46 rfl (lv_at hl 1 rfl) ?_
    refine va_get (D := (dC, dI)) (ci := 2) (v := .ref cb) (C := RX2) (T := TX2) (N := 8) hx hb hA zin_X2 hown hK hP 0 rfl rfl 2 (by decide) (hA _ wi_184) (fun _ h9 => h9) rfl dX2_insertBehind_47 ?_
    refine lv_iload hx hb dX2_insertBehind_50 (lv_at hl 0 rfl) ?_
    refine lv_iconst (v := (-1)) hx hb dX2_insertBehind_52 (by decide) ?_
    refine va_iast hx hb hK hP hD hS 3 2 rfl rfl (vp_in_iff.mpr ⟨by omega, by omega⟩) dX2_insertBehind_53 (fun H locs hP hD hS => ?_)
    obtain ⟨f_5, ef_5⟩ : ∃ gz9 : Nat → Int32, gz9 = upd gb (Int32.toNatClampNeg z) (-1) := ⟨_, rfl⟩
    rw [← ef_5] at hP hD
    have hP : va_P (dC, dI) vwCl [(h0, .inr (2, [.ref cop, .ref ca, .ref cb, .ref cplace, .ref cnext, .ref cneeded, .int x_2, .int ta])), (cop, .inl (ckop, 3000, .inl f_3)), (ca, .inl (cka, 3000, .inl f_4)), (cb, .inl (ckb, 3000, .inl f_5)), (cplace, .inl (ckplace, 3000, .inl gplace)), (cnext, .inl (cknext, 3000, .inl gnext)), (cneeded, .inl (ckneeded, 3000, .inl gneeded))] H := hP
    have hD : va_D A [(h0, .inr (2, [.ref cop, .ref ca, .ref cb, .ref cplace, .ref cnext, .ref cneeded, .int x_2, .int ta])), (cop, .inl (ckop, 3000, .inl f_3)), (ca, .inl (cka, 3000, .inl f_4)), (cb, .inl (ckb, 3000, .inl f_5)), (cplace, .inl (ckplace, 3000, .inl gplace)), (cnext, .inl (cknext, 3000, .inl gnext)), (cneeded, .inl (ckneeded, 3000, .inl gneeded))] := hD
    refine lv_aload_n hx hb dX2_insertBehind_54 rfl (lv_at hl 1 rfl) ?_
    refine va_get (D := (dC, dI)) (ci := 2) (v := .ref cplace) (C := RX2) (T := TX2) (N := 8) hx hb hA zin_X2 hown hK hP 0 rfl rfl 3 (by decide) (hA _ wi_188) (fun _ h9 => h9) rfl dX2_insertBehind_55 ?_
    refine lv_iload hx hb dX2_insertBehind_58 (lv_at hl 0 rfl) ?_
    refine lv_iload_n hx hb dX2_insertBehind_60 rfl (lv_at hl 4 rfl) ?_
    refine va_iast hx hb hK hP hD hS 4 3 rfl rfl (vp_in_iff.mpr ⟨by omega, by omega⟩) dX2_insertBehind_61 (fun H locs hP hD hS => ?_)
    obtain ⟨f_6, ef_6⟩ : ∃ gz9 : Nat → Int32, gz9 = upd gplace (Int32.toNatClampNeg z) wh := ⟨_, rfl⟩
    rw [← ef_6] at hP hD
    have hP : va_P (dC, dI) vwCl [(h0, .inr (2, [.ref cop, .ref ca, .ref cb, .ref cplace, .ref cnext, .ref cneeded, .int x_2, .int ta])), (cop, .inl (ckop, 3000, .inl f_3)), (ca, .inl (cka, 3000, .inl f_4)), (cb, .inl (ckb, 3000, .inl f_5)), (cplace, .inl (ckplace, 3000, .inl f_6)), (cnext, .inl (cknext, 3000, .inl gnext)), (cneeded, .inl (ckneeded, 3000, .inl gneeded))] H := hP
    have hD : va_D A [(h0, .inr (2, [.ref cop, .ref ca, .ref cb, .ref cplace, .ref cnext, .ref cneeded, .int x_2, .int ta])), (cop, .inl (ckop, 3000, .inl f_3)), (ca, .inl (cka, 3000, .inl f_4)), (cb, .inl (ckb, 3000, .inl f_5)), (cplace, .inl (ckplace, 3000, .inl f_6)), (cnext, .inl (cknext, 3000, .inl gnext)), (cneeded, .inl (ckneeded, 3000, .inl gneeded))] := hD
    refine lv_aload_n hx hb dX2_insertBehind_62 rfl (lv_at hl 1 rfl) ?_
    refine va_get (D := (dC, dI)) (ci := 2) (v := .ref cneeded) (C := RX2) (T := TX2) (N := 8) hx hb hA zin_X2 hown hK hP 0 rfl rfl 5 (by decide) (hA _ wi_194) (fun _ h9 => h9) rfl dX2_insertBehind_63 ?_
    refine lv_iload hx hb dX2_insertBehind_66 (lv_at hl 0 rfl) ?_
    refine lv_iconst (v := 0) hx hb dX2_insertBehind_68 (by decide) ?_
    refine va_iast hx hb hK hP hD hS 6 5 rfl rfl (vp_in_iff.mpr ⟨by omega, by omega⟩) dX2_insertBehind_69 (fun H locs hP hD hS => ?_)
    obtain ⟨f_7, ef_7⟩ : ∃ gz9 : Nat → Int32, gz9 = upd gneeded (Int32.toNatClampNeg z) 0 := ⟨_, rfl⟩
    rw [← ef_7] at hP hD
    have hP : va_P (dC, dI) vwCl [(h0, .inr (2, [.ref cop, .ref ca, .ref cb, .ref cplace, .ref cnext, .ref cneeded, .int x_2, .int ta])), (cop, .inl (ckop, 3000, .inl f_3)), (ca, .inl (cka, 3000, .inl f_4)), (cb, .inl (ckb, 3000, .inl f_5)), (cplace, .inl (ckplace, 3000, .inl f_6)), (cnext, .inl (cknext, 3000, .inl gnext)), (cneeded, .inl (ckneeded, 3000, .inl f_7))] H := hP
    have hD : va_D A [(h0, .inr (2, [.ref cop, .ref ca, .ref cb, .ref cplace, .ref cnext, .ref cneeded, .int x_2, .int ta])), (cop, .inl (ckop, 3000, .inl f_3)), (ca, .inl (cka, 3000, .inl f_4)), (cb, .inl (ckb, 3000, .inl f_5)), (cplace, .inl (ckplace, 3000, .inl f_6)), (cnext, .inl (cknext, 3000, .inl gnext)), (cneeded, .inl (ckneeded, 3000, .inl f_7))] := hD
    refine lv_aload_n hx hb dX2_insertBehind_70 rfl (lv_at hl 1 rfl) ?_
    refine va_get (D := (dC, dI)) (ci := 2) (v := .ref cnext) (C := RX2) (T := TX2) (N := 8) hx hb hA zin_X2 hown hK hP 0 rfl rfl 4 (by decide) (hA _ wi_191) (fun _ h9 => h9) rfl dX2_insertBehind_71 ?_
    refine lv_iload hx hb dX2_insertBehind_74 (lv_at hl 0 rfl) ?_
    refine lv_iload_n hx hb dX2_insertBehind_76 rfl (lv_at hl 2 rfl) ?_
    refine lv_iconst (v := (-1)) hx hb dX2_insertBehind_77 (by decide) ?_
    refine lv_icmp_ne (tgt := 85) hx hb dX2_insertBehind_78 (by decide) (fun c_8 => ?_) (fun c_8 => ?_)
    · have ic_8 : be.toInt ≠ (-1) := zi_ne c_8
      refine lv_aload_n hx hb dX2_insertBehind_85 rfl (lv_at hl 1 rfl) ?_
      refine va_get (D := (dC, dI)) (ci := 2) (v := .ref cnext) (C := RX2) (T := TX2) (N := 8) hx hb hA zin_X2 hown hK hP 0 rfl rfl 4 (by decide) (hA _ wi_191) (fun _ h9 => h9) rfl dX2_insertBehind_86 ?_
      refine lv_iload_n hx hb dX2_insertBehind_89 rfl (lv_at hl 2 rfl) ?_
      refine va_iald hx hb hK hP 5 4 rfl rfl (vp_in_iff.mpr ⟨by omega, by omega⟩) dX2_insertBehind_90 ?_
      refine lv_topi (fun x_9 ex_9 => ?_)
      have ix_9 : -1 ≤ x_9.toInt ∧ x_9.toInt < 3000 := by rw [ex_9]; exact hgn _
      refine va_iast hx hb hK hP hD hS 5 4 rfl rfl (vp_in_iff.mpr ⟨by omega, by omega⟩) dX2_insertBehind_91 (fun H locs hP hD hS => ?_)
      obtain ⟨f_10, ef_10⟩ : ∃ gz9 : Nat → Int32, gz9 = upd gnext (Int32.toNatClampNeg z) x_9 := ⟨_, rfl⟩
      rw [← ef_10] at hP hD
      have hp_f_10 : zx 3000 f_10 := by rw [ef_10]; exact zx_upd hgn (by omega) (by omega)
      have hP : va_P (dC, dI) vwCl [(h0, .inr (2, [.ref cop, .ref ca, .ref cb, .ref cplace, .ref cnext, .ref cneeded, .int x_2, .int ta])), (cop, .inl (ckop, 3000, .inl f_3)), (ca, .inl (cka, 3000, .inl f_4)), (cb, .inl (ckb, 3000, .inl f_5)), (cplace, .inl (ckplace, 3000, .inl f_6)), (cnext, .inl (cknext, 3000, .inl f_10)), (cneeded, .inl (ckneeded, 3000, .inl f_7))] H := hP
      have hD : va_D A [(h0, .inr (2, [.ref cop, .ref ca, .ref cb, .ref cplace, .ref cnext, .ref cneeded, .int x_2, .int ta])), (cop, .inl (ckop, 3000, .inl f_3)), (ca, .inl (cka, 3000, .inl f_4)), (cb, .inl (ckb, 3000, .inl f_5)), (cplace, .inl (ckplace, 3000, .inl f_6)), (cnext, .inl (cknext, 3000, .inl f_10)), (cneeded, .inl (ckneeded, 3000, .inl f_7))] := hD
      refine lv_iload_n hx hb dX2_insertBehind_92 rfl (lv_at hl 2 rfl) ?_
      refine lv_iconst (v := (-1)) hx hb dX2_insertBehind_93 (by decide) ?_
      refine lv_icmp_eq (tgt := 105) hx hb dX2_insertBehind_94 (by decide) (fun c_11 => ?_) (fun c_11 => ?_)
      · have ic_11 : be.toInt = (-1) := zi_eq c_11
        exfalso
        omega
      · have ic_11 : be.toInt ≠ (-1) := zi_ne c_11
        refine lv_aload_n hx hb dX2_insertBehind_97 rfl (lv_at hl 1 rfl) ?_
        refine va_get (D := (dC, dI)) (ci := 2) (v := .ref cnext) (C := RX2) (T := TX2) (N := 8) hx hb hA zin_X2 hown hK hP 0 rfl rfl 4 (by decide) (hA _ wi_191) (fun _ h9 => h9) rfl dX2_insertBehind_98 ?_
        refine lv_iload_n hx hb dX2_insertBehind_101 rfl (lv_at hl 2 rfl) ?_
        refine lv_iload hx hb dX2_insertBehind_102 (lv_at hl 0 rfl) ?_
        refine va_iast hx hb hK hP hD hS 5 4 rfl rfl (vp_in_iff.mpr ⟨by omega, by omega⟩) dX2_insertBehind_104 (fun H locs hP hD hS => ?_)
        obtain ⟨f_12, ef_12⟩ : ∃ gz9 : Nat → Int32, gz9 = upd f_10 (Int32.toNatClampNeg be) z := ⟨_, rfl⟩
        rw [← ef_12] at hP hD
        have hp_f_12 : zx 3000 f_12 := by rw [ef_12]; exact zx_upd hp_f_10 (by omega) (by omega)
        have hP : va_P (dC, dI) vwCl [(h0, .inr (2, [.ref cop, .ref ca, .ref cb, .ref cplace, .ref cnext, .ref cneeded, .int x_2, .int ta])), (cop, .inl (ckop, 3000, .inl f_3)), (ca, .inl (cka, 3000, .inl f_4)), (cb, .inl (ckb, 3000, .inl f_5)), (cplace, .inl (ckplace, 3000, .inl f_6)), (cnext, .inl (cknext, 3000, .inl f_12)), (cneeded, .inl (ckneeded, 3000, .inl f_7))] H := hP
        have hD : va_D A [(h0, .inr (2, [.ref cop, .ref ca, .ref cb, .ref cplace, .ref cnext, .ref cneeded, .int x_2, .int ta])), (cop, .inl (ckop, 3000, .inl f_3)), (ca, .inl (cka, 3000, .inl f_4)), (cb, .inl (ckb, 3000, .inl f_5)), (cplace, .inl (ckplace, 3000, .inl f_6)), (cnext, .inl (cknext, 3000, .inl f_12)), (cneeded, .inl (ckneeded, 3000, .inl f_7))] := hD
        refine lv_iload_n hx hb dX2_insertBehind_105 rfl (lv_at hl 2 rfl) ?_
        refine lv_aload_n hx hb dX2_insertBehind_106 rfl (lv_at hl 1 rfl) ?_
        refine va_get (D := (dC, dI)) (ci := 2) (v := .int ta) (C := RX2) (T := TX2) (N := 8) hx hb hA zin_X2 hown hK hP 0 rfl rfl 7 (by decide) (hA _ wi_200) (fun _ h9 => h9) rfl dX2_insertBehind_107 ?_
        refine lv_icmp_ne (tgt := 119) hx hb dX2_insertBehind_110 (by decide) (fun c_13 => ?_) (fun c_13 => ?_)
        · have ic_13 : be.toInt ≠ ta.toInt := zi_ne c_13
          refine lv_iload hx hb dX2_insertBehind_119 (lv_at hl 0 rfl) ?_
          have hP9 := hP.sub (ws' := [(h0, .inr (2, [.ref cop, .ref ca, .ref cb, .ref cplace, .ref cnext, .ref cneeded, .int x_2, .int ta])), (cop, .inl (ckop, 3000, .inl f_3)), (ca, .inl (cka, 3000, .inl f_4)), (cb, .inl (ckb, 3000, .inl f_5)), (cplace, .inl (ckplace, 3000, .inl f_6)), (cnext, .inl (cknext, 3000, .inl f_12)), (cneeded, .inl (ckneeded, 3000, .inl f_7))]) [0, 1, 2, 3, 4, 5, 6] rfl
          have hD9 := hD.sub (ws' := [(h0, .inr (2, [.ref cop, .ref ca, .ref cb, .ref cplace, .ref cnext, .ref cneeded, .int x_2, .int ta])), (cop, .inl (ckop, 3000, .inl f_3)), (ca, .inl (cka, 3000, .inl f_4)), (cb, .inl (ckb, 3000, .inl f_5)), (cplace, .inl (ckplace, 3000, .inl f_6)), (cnext, .inl (cknext, 3000, .inl f_12)), (cneeded, .inl (ckneeded, 3000, .inl f_7))]) [0, 1, 2, 3, 4, 5, 6] (by decide) rfl
          have hK9 := hK.sub (tys' := [(ckop, .int), (cka, .int), (ckb, .int), (ckplace, .int), (cknext, .int), (ckneeded, .int)]) [0, 1, 2, 3, 4, 5] rfl
          exact W.iret (v := z) hx hb hr (fun t ht hW => ⟨⟨z, (x_2, ta, f_3, f_4, f_5, f_6, f_12, f_7), rfl, ⟨rfl, by omega, by omega, hp_f_12, by rw [ef_3], by rw [ef_4], by rw [ef_5], by rw [ef_12, ef_10, ex_9], by rw [ef_6]⟩, by rw [ht]; exact hP9, va_K.moved hW.alike hK9, hD9⟩, hS.F ht⟩) hS.2.2 dX2_insertBehind_121
        · have ic_13 : be.toInt = ta.toInt := zi_eq c_13
          refine lv_aload_n hx hb dX2_insertBehind_113 rfl (lv_at hl 1 rfl) ?_
          refine lv_iload hx hb dX2_insertBehind_114 (lv_at hl 0 rfl) ?_
          refine va_put (D := (dC, dI)) (ci := 2) (v := .int z) (ty := .int) (C := RX2) (T := TX2) (N := 8) hx hb hA zin_X2 tyX2 tyX2_ok nmX2 hown hK hP hD hS 0 rfl rfl 7 (by decide) (hA _ wi_200) (fun _ h9 => h9) rfl (by decide +kernel) rfl rfl (Nat.le_of_ble_eq_true rfl) dX2_insertBehind_116 (fun H locs hP hD hS => ?_)
          have hP : va_P (dC, dI) vwCl [(h0, .inr (2, [.ref cop, .ref ca, .ref cb, .ref cplace, .ref cnext, .ref cneeded, .int x_2, .int z])), (cop, .inl (ckop, 3000, .inl f_3)), (ca, .inl (cka, 3000, .inl f_4)), (cb, .inl (ckb, 3000, .inl f_5)), (cplace, .inl (ckplace, 3000, .inl f_6)), (cnext, .inl (cknext, 3000, .inl f_12)), (cneeded, .inl (ckneeded, 3000, .inl f_7))] H := hP
          have hD : va_D A [(h0, .inr (2, [.ref cop, .ref ca, .ref cb, .ref cplace, .ref cnext, .ref cneeded, .int x_2, .int z])), (cop, .inl (ckop, 3000, .inl f_3)), (ca, .inl (cka, 3000, .inl f_4)), (cb, .inl (ckb, 3000, .inl f_5)), (cplace, .inl (ckplace, 3000, .inl f_6)), (cnext, .inl (cknext, 3000, .inl f_12)), (cneeded, .inl (ckneeded, 3000, .inl f_7))] := hD
          refine lv_iload hx hb dX2_insertBehind_119 (lv_at hl 0 rfl) ?_
          have hP9 := hP.sub (ws' := [(h0, .inr (2, [.ref cop, .ref ca, .ref cb, .ref cplace, .ref cnext, .ref cneeded, .int x_2, .int z])), (cop, .inl (ckop, 3000, .inl f_3)), (ca, .inl (cka, 3000, .inl f_4)), (cb, .inl (ckb, 3000, .inl f_5)), (cplace, .inl (ckplace, 3000, .inl f_6)), (cnext, .inl (cknext, 3000, .inl f_12)), (cneeded, .inl (ckneeded, 3000, .inl f_7))]) [0, 1, 2, 3, 4, 5, 6] rfl
          have hD9 := hD.sub (ws' := [(h0, .inr (2, [.ref cop, .ref ca, .ref cb, .ref cplace, .ref cnext, .ref cneeded, .int x_2, .int z])), (cop, .inl (ckop, 3000, .inl f_3)), (ca, .inl (cka, 3000, .inl f_4)), (cb, .inl (ckb, 3000, .inl f_5)), (cplace, .inl (ckplace, 3000, .inl f_6)), (cnext, .inl (cknext, 3000, .inl f_12)), (cneeded, .inl (ckneeded, 3000, .inl f_7))]) [0, 1, 2, 3, 4, 5, 6] (by decide) rfl
          have hK9 := hK.sub (tys' := [(ckop, .int), (cka, .int), (ckb, .int), (ckplace, .int), (cknext, .int), (ckneeded, .int)]) [0, 1, 2, 3, 4, 5] rfl
          exact W.iret (v := z) hx hb hr (fun t ht hW => ⟨⟨z, (x_2, z, f_3, f_4, f_5, f_6, f_12, f_7), rfl, ⟨rfl, by omega, by omega, hp_f_12, by rw [ef_3], by rw [ef_4], by rw [ef_5], by rw [ef_12, ef_10, ex_9], by rw [ef_6]⟩, by rw [ht]; exact hP9, va_K.moved hW.alike hK9, hD9⟩, hS.F ht⟩) hS.2.2 dX2_insertBehind_121
    · have ic_8 : be.toInt = (-1) := zi_eq c_8
      exfalso
      omega
  · have ic_1 : 3000 ≤ z.toInt := zi_nlt c_1
    exfalso
    omega
set_option maxHeartbeats 4000000 in
set_option maxRecDepth 100000 in
theorem c_X2_append_x (l : Launch) (dC : Nat → ClassId) (dI : Nat → Nat → Nat) (aK aV : Nat → Nat) (h0 : Nat) (cop : Nat) (ca : Nat) (cb : Nat) (cplace : Nat) (cnext : Nat) (cneeded : Nat) (ckop : ClassId) (cka : ClassId) (ckb : ClassId) (ckplace : ClassId) (cknext : ClassId) (ckneeded : ClassId) (z : Int32) (ta : Int32) (gop : Nat → Int32) (ga : Nat → Int32) (gb : Nat → Int32) (gplace : Nat → Int32) (gnext : Nat → Int32) (gneeded : Nat → Int32) (o : Int32) (wh : Int32) (nu : Int32) (sz : Nat) (hz0 : 0 ≤ z.toInt) (hz1 : z.toInt < 3000) (ht0 : 0 ≤ ta.toInt) (ht1 : ta.toInt < 3000) (hgn : zx 3000 gnext) : Met l yX2_append (Cond.code yX2_append cX2_append 5 (some .int) :: zw) ({ frames := 10, cells := 0, slots := 0, locals := 300 }) (va_Pc [.ref h0, .int o, .int wh, .int nu] (zP dC dI aK aV sz [(ckop, .int), (cka, .int), (ckb, .int), (ckplace, .int), (cknext, .int), (ckneeded, .int)] [(h0, .inr (2, [.ref cop, .ref ca, .ref cb, .ref cplace, .ref cnext, .ref cneeded, .int z, .int ta])), (cop, .inl (ckop, 3000, .inl gop)), (ca, .inl (cka, 3000, .inl ga)), (cb, .inl (ckb, 3000, .inl gb)), (cplace, .inl (ckplace, 3000, .inl gplace)), (cnext, .inl (cknext, 3000, .inl gnext)), (cneeded, .inl (ckneeded, 3000, .inl gneeded))])) (va_Qi (fun (r : Int32) (u : Int32 × Int32 × (Nat → Int32) × (Nat → Int32) × (Nat → Int32) × (Nat → Int32) × (Nat → Int32) × (Nat → Int32)) => match u with | (z2, t2, nop, na, nb, nplace, nnext, nneeded) => (r = z) ∧ (z2.toInt = z.toInt + 1) ∧ (t2 = z) ∧ (zx 3000 nnext) ∧ (nop = upd gop (Int32.toNatClampNeg z) o) ∧ (na = upd ga (Int32.toNatClampNeg z) nu) ∧ (nb = upd gb (Int32.toNatClampNeg z) (-1)) ∧ (nnext = upd (upd gnext (Int32.toNatClampNeg z) (gnext (Int32.toNatClampNeg ta))) (Int32.toNatClampNeg ta) z) ∧ (nplace = upd gplace (Int32.toNatClampNeg z) wh)) (fun u => match u with | (z2, t2, nop, na, nb, nplace, nnext, nneeded) => zQ dC dI (va_A [(h0, .inr (2, [.ref cop, .ref ca, .ref cb, .ref cplace, .ref cnext, .ref cneeded, .int z, .int ta])), (cop, .inl (ckop, 3000, .inl gop)), (ca, .inl (cka, 3000, .inl ga)), (cb, .inl (ckb, 3000, .inl gb)), (cplace, .inl (ckplace, 3000, .inl gplace)), (cnext, .inl (cknext, 3000, .inl gnext)), (cneeded, .inl (ckneeded, 3000, .inl gneeded))] sz) [(ckop, .int), (cka, .int), (ckb, .int), (ckplace, .int), (cknext, .int), (ckneeded, .int)] [(h0, .inr (2, [.ref cop, .ref ca, .ref cb, .ref cplace, .ref cnext, .ref cneeded, .int z2, .int t2])), (cop, .inl (ckop, 3000, .inl nop)), (ca, .inl (cka, 3000, .inl na)), (cb, .inl (ckb, 3000, .inl nb)), (cplace, .inl (ckplace, 3000, .inl nplace)), (cnext, .inl (cknext, 3000, .inl nnext)), (cneeded, .inl (ckneeded, 3000, .inl nneeded))]) (va_A [(h0, .inr (2, [.ref cop, .ref ca, .ref cb, .ref cplace, .ref cnext, .ref cneeded, .int z, .int ta])), (cop, .inl (ckop, 3000, .inl gop)), (ca, .inl (cka, 3000, .inl ga)), (cb, .inl (ckb, 3000, .inl gb)), (cplace, .inl (ckplace, 3000, .inl gplace)), (cnext, .inl (cknext, 3000, .inl gnext)), (cneeded, .inl (ckneeded, 3000, .inl gneeded))] sz)) 0 0 (va_A [(h0, .inr (2, [.ref cop, .ref ca, .ref cb, .ref cplace, .ref cnext, .ref cneeded, .int z, .int ta])), (cop, .inl (ckop, 3000, .inl gop)), (ca, .inl (cka, 3000, .inl ga)), (cb, .inl (ckb, 3000, .inl gb)), (cplace, .inl (ckplace, 3000, .inl gplace)), (cnext, .inl (cknext, 3000, .inl gnext)), (cneeded, .inl (ckneeded, 3000, .inl gneeded))] sz) := by
  refine Met.ofW (cc := cX2_append) (maxL := 5) (ret := (some .int)) (by decide) rfl ?_
  intro p e s m args below meth c s₁ B hml hv
  obtain ⟨rfl, hsz, hP, hK, hD0, hN, hT⟩ := hv
  have hx := B.exec
  have hb := B.bytes
  have hr := B.returns
  have hts := atoms_spec (ws := Cond.code yX2_append cX2_append 5 (some .int) :: zw) B.pre
  have hA : ∀ w ∈ zw, w.before _ s = true := fun w h => hts w (List.mem_cons_of_mem _ h)
  have hown : s.vm.findClass RX2 = some m.cls := findClass_of_methodNamed B.named
  have hlocks := B.notSynchronized
  subst hsz
  have hD := hD0.self (sz := s.heap.size)
  generalize hAe : va_A [(h0, .inr (2, [.ref cop, .ref ca, .ref cb, .ref cplace, .ref cnext, .ref cneeded, .int z, .int ta])), (cop, .inl (ckop, 3000, .inl gop)), (ca, .inl (cka, 3000, .inl ga)), (cb, .inl (ckb, 3000, .inl gb)), (cplace, .inl (ckplace, 3000, .inl gplace)), (cnext, .inl (cknext, 3000, .inl gnext)), (cneeded, .inl (ckneeded, 3000, .inl gneeded))] s.heap.size = A at hD hT ⊢
  have hAA : ∀ q : Nat, s.heap.size ≤ q → A q := fun q h => by rw [← hAe]; exact Or.inr h
  have hS : va_S A s.heap s.heap [] := va_S.rf
  have hl := lv_entry ([.ref h0, .int o, .int wh, .int nu]) (n := 5) (Nat.le_of_ble_eq_true rfl)
  rw [lg_entry_eq]
  generalize (lg_sl ([.ref h0, .int o, .int wh, .int nu]) ++ List.replicate (5 - (lg_sl ([.ref h0, .int o, .int wh, .int nu])).length) Slot.unset).toArray = ls at hl ⊢
  have hl : lv_has ls 5 [(0, .ref h0), (1, .int o), (2, .int wh), (3, .int nu)] := hl
  refine lv_aload_n hx hb dX2_append_0 rfl (lv_at hl 0 rfl) ?_
  refine lv_aload_n hx hb dX2_append_1 rfl (lv_at hl 0 rfl) ?_
  refine va_get (D := (dC, dI)) (ci := 2) (v := .int ta) (C := RX2) (T := TX2) (N := 8) hx hb hA zin_X2 hown hK hP 0 rfl rfl 7 (by decide) (hA _ wi_200) (fun _ h9 => h9) rfl dX2_append_2 ?_
  refine lv_iload_n hx hb dX2_append_5 rfl (lv_at hl 1 rfl) ?_
  refine lv_iload_n hx hb dX2_append_6 rfl (lv_at hl 2 rfl) ?_
  have hPc := hP.sub (ws' := [(h0, .inr (2, [.ref cop, .ref ca, .ref cb, .ref cplace, .ref cnext, .ref cneeded, .int z, .int ta])), (cop, .inl (ckop, 3000, .inl gop)), (ca, .inl (cka, 3000, .inl ga)), (cb, .inl (ckb, 3000, .inl gb)), (cplace, .inl (ckplace, 3000, .inl gplace)), (cnext, .inl (cknext, 3000, .inl gnext)), (cneeded, .inl (ckneeded, 3000, .inl gneeded))]) [0, 1, 2, 3, 4, 5, 6] rfl
  have hDc := hD.sub (ws' := [(h0, .inr (2, [.ref cop, .ref ca, .ref cb, .ref cplace, .ref cnext, .ref cneeded, .int z, .int ta])), (cop, .inl (ckop, 3000, .inl gop)), (ca, .inl (cka, 3000, .inl ga)), (cb, .inl (ckb, 3000, .inl gb)), (cplace, .inl (ckplace, 3000, .inl gplace)), (cnext, .inl (cknext, 3000, .inl gnext)), (cneeded, .inl (ckneeded, 3000, .inl gneeded))]) [0, 1, 2, 3, 4, 5, 6] (by decide) rfl
  have hKc := hK.sub (tys' := [(ckop, .int), (cka, .int), (ckb, .int), (ckplace, .int), (cknext, .int), (ckneeded, .int)]) [0, 1, 2, 3, 4, 5] rfl
  have hFc := va_free (wc := [(h0, .inr (2, [.ref cop, .ref ca, .ref cb, .ref cplace, .ref cnext, .ref cneeded, .int z, .int ta])), (cop, .inl (ckop, 3000, .inl gop)), (ca, .inl (cka, 3000, .inl ga)), (cb, .inl (ckb, 3000, .inl gb)), (cplace, .inl (ckplace, 3000, .inl gplace)), (cnext, .inl (cknext, 3000, .inl gnext)), (cneeded, .inl (ckneeded, 3000, .inl gneeded))]) hD hS hAA [0, 1, 2, 3, 4, 5, 6] rfl
  refine va_calli (va_runV (As := [.int ta, .int o, .int wh]) (rest := []) ⟨hx, hb, hml, hown, hA⟩ (c_X2_insertBehind_x l dC dI aK aV h0 cop ca cb cplace cnext cneeded ckop cka ckb ckplace cknext ckneeded z ta gop ga gb gplace gnext gneeded ta o wh s.heap.size (by omega) (by omega) (by omega) (by omega) hgn (by omega) (by omega)) (cwV 3 hA (zw_V wi_922 wi_923 wi_924 wi_132 (zw_good wi_925)) rfl rfl rfl (by decide +kernel) ⟨(Nat.le_of_ble_eq_true rfl), (Nat.le_of_ble_eq_true rfl)⟩) ⟨zP_blind, va_recv hKc hPc (ci := 2) (q0 := 0) rfl rfl, zz_pre hKc hPc hDc hN hT hS hFc⟩ rfl rfl hl.1 rfl (lv_room (Nat.le_of_ble_eq_true rfl)) dX2_append_7 ⟨(Nat.le_of_ble_eq_true rfl), (Nat.le_of_ble_eq_true rfl)⟩) hS (fun q _ h => hFc q h) hFc (fun r_1 u t H1 locs ht hvm hw hB hz1 hk1 hS => ?_)
  obtain ⟨z_2, t_3, nop_4, na_5, nb_6, nplace_7, nnext_8, nneeded_9⟩ := u
  obtain ⟨hP1, hK1, hD1⟩ := hB
  rw [ht] at hP1
  have hK1 := va_K.moved hvm.symm hK1
  obtain ⟨hP, hD⟩ := va_join (wr := []) (w1 := [(h0, .inr (2, [.ref cop, .ref ca, .ref cb, .ref cplace, .ref cnext, .ref cneeded, .int z_2, .int t_3])), (cop, .inl (ckop, 3000, .inl nop_4)), (ca, .inl (cka, 3000, .inl na_5)), (cb, .inl (ckb, 3000, .inl nb_6)), (cplace, .inl (ckplace, 3000, .inl nplace_7)), (cnext, .inl (cknext, 3000, .inl nnext_8)), (cneeded, .inl (ckneeded, 3000, .inl nneeded_9))]) hP hD [0, 1, 2, 3, 4, 5, 6] [] rfl rfl (by decide) (by decide) hk1 hFc hP1 hD1
  have hK := (hK.sub (tys' := []) [] rfl).app hK1
  generalize H1 = H at hP hS ⊢
  have hP : va_P (dC, dI) vwCl [(h0, .inr (2, [.ref cop, .ref ca, .ref cb, .ref cplace, .ref cnext, .ref cneeded, .int z_2, .int t_3])), (cop, .inl (ckop, 3000, .inl nop_4)), (ca, .inl (cka, 3000, .inl na_5)), (cb, .inl (ckb, 3000, .inl nb_6)), (cplace, .inl (ckplace, 3000, .inl nplace_7)), (cnext, .inl (cknext, 3000, .inl nnext_8)), (cneeded, .inl (ckneeded, 3000, .inl nneeded_9))] H := hP
  have hD : va_D A [(h0, .inr (2, [.ref cop, .ref ca, .ref cb, .ref cplace, .ref cnext, .ref cneeded, .int z_2, .int t_3])), (cop, .inl (ckop, 3000, .inl nop_4)), (ca, .inl (cka, 3000, .inl na_5)), (cb, .inl (ckb, 3000, .inl nb_6)), (cplace, .inl (ckplace, 3000, .inl nplace_7)), (cnext, .inl (cknext, 3000, .inl nnext_8)), (cneeded, .inl (ckneeded, 3000, .inl nneeded_9))] := hD
  have hK : va_K (dC, dI) vwCl [(ckop, .int), (cka, .int), (ckb, .int), (ckplace, .int), (cknext, .int), (ckneeded, .int)] s := hK
  obtain rfl : z = r_1 := hw.1.symm
  obtain ⟨hq_10, hq_11, hq_12, hq_13, hq_14, hq_15, hq_16, hq_17, hq_18⟩ := hw
  refine lv_istore (lv' := [(4, .int z), (0, .ref h0), (1, .int o), (2, .int wh), (3, .int nu)]) hx hb dX2_append_10 hl (by decide) rfl (fun ls hl => ?_)
  refine lv_aload_n hx hb dX2_append_12 rfl (lv_at hl 1 rfl) ?_
  refine va_get (D := (dC, dI)) (ci := 2) (v := .ref ca) (C := RX2) (T := TX2) (N := 8) hx hb hA zin_X2 hown hK hP 0 rfl rfl 1 (by decide) (hA _ wi_180) (fun _ h9 => h9) rfl dX2_append_13 ?_
  refine lv_iload hx hb dX2_append_16 (lv_at hl 0 rfl) ?_
  refine lv_iload_n hx hb dX2_append_18 rfl (lv_at hl 4 rfl) ?_
  refine va_iast hx hb hK hP hD hS 2 1 rfl rfl (vp_in_iff.mpr ⟨by omega, by omega⟩) dX2_append_19 (fun H locs hP hD hS => ?_)
  obtain ⟨f_19, ef_19⟩ : ∃ gz9 : Nat → Int32, gz9 = upd na_5 (Int32.toNatClampNeg z) nu := ⟨_, rfl⟩
  rw [← ef_19] at hP hD
  have hP : va_P (dC, dI) vwCl [(h0, .inr (2, [.ref cop, .ref ca, .ref cb, .ref cplace, .ref cnext, .ref cneeded, .int z_2, .int t_3])), (cop, .inl (ckop, 3000, .inl nop_4)), (ca, .inl (cka, 3000, .inl f_19)), (cb, .inl (ckb, 3000, .inl nb_6)), (cplace, .inl (ckplace, 3000, .inl nplace_7)), (cnext, .inl (cknext, 3000, .inl nnext_8)), (cneeded, .inl (ckneeded, 3000, .inl nneeded_9))] H := hP
  have hD : va_D A [(h0, .inr (2, [.ref cop, .ref ca, .ref cb, .ref cplace, .ref cnext, .ref cneeded, .int z_2, .int t_3])), (cop, .inl (ckop, 3000, .inl nop_4)), (ca, .inl (cka, 3000, .inl f_19)), (cb, .inl (ckb, 3000, .inl nb_6)), (cplace, .inl (ckplace, 3000, .inl nplace_7)), (cnext, .inl (cknext, 3000, .inl nnext_8)), (cneeded, .inl (ckneeded, 3000, .inl nneeded_9))] := hD
  refine lv_iload hx hb dX2_append_20 (lv_at hl 0 rfl) ?_
  have hP9 := hP.sub (ws' := [(h0, .inr (2, [.ref cop, .ref ca, .ref cb, .ref cplace, .ref cnext, .ref cneeded, .int z_2, .int t_3])), (cop, .inl (ckop, 3000, .inl nop_4)), (ca, .inl (cka, 3000, .inl f_19)), (cb, .inl (ckb, 3000, .inl nb_6)), (cplace, .inl (ckplace, 3000, .inl nplace_7)), (cnext, .inl (cknext, 3000, .inl nnext_8)), (cneeded, .inl (ckneeded, 3000, .inl nneeded_9))]) [0, 1, 2, 3, 4, 5, 6] rfl
  have hD9 := hD.sub (ws' := [(h0, .inr (2, [.ref cop, .ref ca, .ref cb, .ref cplace, .ref cnext, .ref cneeded, .int z_2, .int t_3])), (cop, .inl (ckop, 3000, .inl nop_4)), (ca, .inl (cka, 3000, .inl f_19)), (cb, .inl (ckb, 3000, .inl nb_6)), (cplace, .inl (ckplace, 3000, .inl nplace_7)), (cnext, .inl (cknext, 3000, .inl nnext_8)), (cneeded, .inl (ckneeded, 3000, .inl nneeded_9))]) [0, 1, 2, 3, 4, 5, 6] (by decide) rfl
  have hK9 := hK.sub (tys' := [(ckop, .int), (cka, .int), (ckb, .int), (ckplace, .int), (cknext, .int), (ckneeded, .int)]) [0, 1, 2, 3, 4, 5] rfl
  exact W.iret (v := z) hx hb hr (fun t ht hW => ⟨⟨z, (z_2, t_3, nop_4, f_19, nb_6, nplace_7, nnext_8, nneeded_9), rfl, ⟨rfl, by omega, Int32.toInt_inj.mp (by omega), hq_13, hq_14, by rw [ef_19, hq_15, zu_uu], hq_16, hq_17, hq_18⟩, by rw [ht]; exact hP9, va_K.moved hW.alike hK9, hD9⟩, hS.F ht⟩) hS.2.2 dX2_append_22
set_option maxHeartbeats 4000000 in
set_option maxRecDepth 100000 in
theorem c_X2_appendStep_x (l : Launch) (dC : Nat → ClassId) (dI : Nat → Nat → Nat) (aK aV : Nat → Nat) (h0 : Nat) (cop : Nat) (ca : Nat) (cb : Nat) (cplace : Nat) (cnext : Nat) (cneeded : Nat) (ckop : ClassId) (cka : ClassId) (ckb : ClassId) (ckplace : ClassId) (cknext : ClassId) (ckneeded : ClassId) (z : Int32) (ta : Int32) (gop : Nat → Int32) (ga : Nat → Int32) (gb : Nat → Int32) (gplace : Nat → Int32) (gnext : Nat → Int32) (gneeded : Nat → Int32) (wh : Int32) (sz : Nat) (hz0 : 0 ≤ z.toInt) (hz1 : z.toInt < 3000) (ht0 : 0 ≤ ta.toInt) (ht1 : ta.toInt < 3000) (hgn : zx 3000 gnext) : Met l yX2_appendStep (Cond.code yX2_appendStep cX2_appendStep 2 none :: zw) ({ frames := 10, cells := 0, slots := 0, locals := 300 }) (va_Pc [.ref h0, .int wh] (zP dC dI aK aV sz [(ckop, .int), (cka, .int), (ckb, .int), (ckplace, .int), (cknext, .int), (ckneeded, .int)] [(h0, .inr (2, [.ref cop, .ref ca, .ref cb, .ref cplace, .ref cnext, .ref cneeded, .int z, .int ta])), (cop, .inl (ckop, 3000, .inl gop)), (ca, .inl (cka, 3000, .inl ga)), (cb, .inl (ckb, 3000, .inl gb)), (cplace, .inl (ckplace, 3000, .inl gplace)), (cnext, .inl (cknext, 3000, .inl gnext)), (cneeded, .inl (ckneeded, 3000, .inl gneeded))])) (va_Qv (fun u : Int32 × Int32 × (Nat → Int32) × (Nat → Int32) × (Nat → Int32) × (Nat → Int32) × (Nat → Int32) × (Nat → Int32) => match u with | (z2, t2, nop, na, nb, nplace, nnext, nneeded) => (z2.toInt = z.toInt + 1) ∧ (t2 = z) ∧ (zx 3000 nnext) ∧ (nop = upd gop (Int32.toNatClampNeg z) 1) ∧ (na = upd ga (Int32.toNatClampNeg z) (-1)) ∧ (nb = upd gb (Int32.toNatClampNeg z) (-1)) ∧ (nnext = upd (upd gnext (Int32.toNatClampNeg z) (gnext (Int32.toNatClampNeg ta))) (Int32.toNatClampNeg ta) z) ∧ (nplace = upd gplace (Int32.toNatClampNeg z) wh)) (fun u => match u with | (z2, t2, nop, na, nb, nplace, nnext, nneeded) => zQ dC dI (va_A [(h0, .inr (2, [.ref cop, .ref ca, .ref cb, .ref cplace, .ref cnext, .ref cneeded, .int z, .int ta])), (cop, .inl (ckop, 3000, .inl gop)), (ca, .inl (cka, 3000, .inl ga)), (cb, .inl (ckb, 3000, .inl gb)), (cplace, .inl (ckplace, 3000, .inl gplace)), (cnext, .inl (cknext, 3000, .inl gnext)), (cneeded, .inl (ckneeded, 3000, .inl gneeded))] sz) [(ckop, .int), (cka, .int), (ckb, .int), (ckplace, .int), (cknext, .int), (ckneeded, .int)] [(h0, .inr (2, [.ref cop, .ref ca, .ref cb, .ref cplace, .ref cnext, .ref cneeded, .int z2, .int t2])), (cop, .inl (ckop, 3000, .inl nop)), (ca, .inl (cka, 3000, .inl na)), (cb, .inl (ckb, 3000, .inl nb)), (cplace, .inl (ckplace, 3000, .inl nplace)), (cnext, .inl (cknext, 3000, .inl nnext)), (cneeded, .inl (ckneeded, 3000, .inl nneeded))]) (va_A [(h0, .inr (2, [.ref cop, .ref ca, .ref cb, .ref cplace, .ref cnext, .ref cneeded, .int z, .int ta])), (cop, .inl (ckop, 3000, .inl gop)), (ca, .inl (cka, 3000, .inl ga)), (cb, .inl (ckb, 3000, .inl gb)), (cplace, .inl (ckplace, 3000, .inl gplace)), (cnext, .inl (cknext, 3000, .inl gnext)), (cneeded, .inl (ckneeded, 3000, .inl gneeded))] sz)) 0 0 (va_A [(h0, .inr (2, [.ref cop, .ref ca, .ref cb, .ref cplace, .ref cnext, .ref cneeded, .int z, .int ta])), (cop, .inl (ckop, 3000, .inl gop)), (ca, .inl (cka, 3000, .inl ga)), (cb, .inl (ckb, 3000, .inl gb)), (cplace, .inl (ckplace, 3000, .inl gplace)), (cnext, .inl (cknext, 3000, .inl gnext)), (cneeded, .inl (ckneeded, 3000, .inl gneeded))] sz) := by
  refine Met.ofW (cc := cX2_appendStep) (maxL := 2) (ret := none) (by decide) rfl ?_
  intro p e s m args below meth c s₁ B hml hv
  obtain ⟨rfl, hsz, hP, hK, hD0, hN, hT⟩ := hv
  have hx := B.exec
  have hb := B.bytes
  have hr := B.returns
  have hts := atoms_spec (ws := Cond.code yX2_appendStep cX2_appendStep 2 none :: zw) B.pre
  have hA : ∀ w ∈ zw, w.before _ s = true := fun w h => hts w (List.mem_cons_of_mem _ h)
  have hown : s.vm.findClass RX2 = some m.cls := findClass_of_methodNamed B.named
  have hlocks := B.notSynchronized
  subst hsz
  have hD := hD0.self (sz := s.heap.size)
  generalize hAe : va_A [(h0, .inr (2, [.ref cop, .ref ca, .ref cb, .ref cplace, .ref cnext, .ref cneeded, .int z, .int ta])), (cop, .inl (ckop, 3000, .inl gop)), (ca, .inl (cka, 3000, .inl ga)), (cb, .inl (ckb, 3000, .inl gb)), (cplace, .inl (ckplace, 3000, .inl gplace)), (cnext, .inl (cknext, 3000, .inl gnext)), (cneeded, .inl (ckneeded, 3000, .inl gneeded))] s.heap.size = A at hD hT ⊢
  have hAA : ∀ q : Nat, s.heap.size ≤ q → A q := fun q h => by rw [← hAe]; exact Or.inr h
  have hS : va_S A s.heap s.heap [] := va_S.rf
  have hl := lv_entry ([.ref h0, .int wh]) (n := 2) (Nat.le_of_ble_eq_true rfl)
  rw [lg_entry_eq]
  generalize (lg_sl ([.ref h0, .int wh]) ++ List.replicate (2 - (lg_sl ([.ref h0, .int wh])).length) Slot.unset).toArray = ls at hl ⊢
  have hl : lv_has ls 2 [(0, .ref h0), (1, .int wh)] := hl
  refine lv_aload_n hx hb dX2_appendStep_0 rfl (lv_at hl 0 rfl) ?_
  refine lv_aload_n hx hb dX2_appendStep_1 rfl (lv_at hl 0 rfl) ?_
  refine va_get (D := (dC, dI)) (ci := 2) (v := .int ta) (C := RX2) (T := TX2) (N := 8) hx hb hA zin_X2 hown hK hP 0 rfl rfl 7 (by decide) (hA _ wi_200) (fun _ h9 => h9) rfl dX2_appendStep_2 ?_
  refine lv_iconst (v := 1) hx hb dX2_appendStep_5 (by decide) ?_
  refine lv_iload_n hx hb dX2_appendStep_6 rfl (lv_at hl 1 rfl) ?_
  have hPc := hP.sub (ws' := [(h0, .inr (2, [.ref cop, .ref ca, .ref cb, .ref cplace, .ref cnext, .ref cneeded, .int z, .int ta])), (cop, .inl (ckop, 3000, .inl gop)), (ca, .inl (cka, 3000, .inl ga)), (cb, .inl (ckb, 3000, .inl gb)), (cplace, .inl (ckplace, 3000, .inl gplace)), (cnext, .inl (cknext, 3000, .inl gnext)), (cneeded, .inl (ckneeded, 3000, .inl gneeded))]) [0, 1, 2, 3, 4, 5, 6] rfl
  have hDc := hD.sub (ws' := [(h0, .inr (2, [.ref cop, .ref ca, .ref cb, .ref cplace, .ref cnext, .ref cneeded, .int z, .int ta])), (cop, .inl (ckop, 3000, .inl gop)), (ca, .inl (cka, 3000, .inl ga)), (cb, .inl (ckb, 3000, .inl gb)), (cplace, .inl (ckplace, 3000, .inl gplace)), (cnext, .inl (cknext, 3000, .inl gnext)), (cneeded, .inl (ckneeded, 3000, .inl gneeded))]) [0, 1, 2, 3, 4, 5, 6] (by decide) rfl
  have hKc := hK.sub (tys' := [(ckop, .int), (cka, .int), (ckb, .int), (ckplace, .int), (cknext, .int), (ckneeded, .int)]) [0, 1, 2, 3, 4, 5] rfl
  have hFc := va_free (wc := [(h0, .inr (2, [.ref cop, .ref ca, .ref cb, .ref cplace, .ref cnext, .ref cneeded, .int z, .int ta])), (cop, .inl (ckop, 3000, .inl gop)), (ca, .inl (cka, 3000, .inl ga)), (cb, .inl (ckb, 3000, .inl gb)), (cplace, .inl (ckplace, 3000, .inl gplace)), (cnext, .inl (cknext, 3000, .inl gnext)), (cneeded, .inl (ckneeded, 3000, .inl gneeded))]) hD hS hAA [0, 1, 2, 3, 4, 5, 6] rfl
  refine va_calli (va_runV (As := [.int ta, .int 1, .int wh]) (rest := []) ⟨hx, hb, hml, hown, hA⟩ (c_X2_insertBehind_x l dC dI aK aV h0 cop ca cb cplace cnext cneeded ckop cka ckb ckplace cknext ckneeded z ta gop ga gb gplace gnext gneeded ta 1 wh s.heap.size (by omega) (by omega) (by omega) (by omega) hgn (by omega) (by omega)) (cwV 3 hA (zw_V wi_922 wi_923 wi_924 wi_132 (zw_good wi_925)) rfl rfl rfl (by decide +kernel) ⟨(Nat.le_of_ble_eq_true rfl), (Nat.le_of_ble_eq_true rfl)⟩) ⟨zP_blind, va_recv hKc hPc (ci := 2) (q0 := 0) rfl rfl, zz_pre hKc hPc hDc hN hT hS hFc⟩ rfl rfl hl.1 rfl (lv_room (Nat.le_of_ble_eq_true rfl)) dX2_appendStep_7 ⟨(Nat.le_of_ble_eq_true rfl), (Nat.le_of_ble_eq_true rfl)⟩) hS (fun q _ h => hFc q h) hFc (fun r_1 u t H1 locs ht hvm hw hB hz1 hk1 hS => ?_)
  obtain ⟨z_2, t_3, nop_4, na_5, nb_6, nplace_7, nnext_8, nneeded_9⟩ := u
  obtain ⟨hP1, hK1, hD1⟩ := hB
  rw [ht] at hP1
  have hK1 := va_K.moved hvm.symm hK1
  obtain ⟨hP, hD⟩ := va_join (wr := []) (w1 := [(h0, .inr (2, [.ref cop, .ref ca, .ref cb, .ref cplace, .ref cnext, .ref cneeded, .int z_2, .int t_3])), (cop, .inl (ckop, 3000, .inl nop_4)), (ca, .inl (cka, 3000, .inl na_5)), (cb, .inl (ckb, 3000, .inl nb_6)), (cplace, .inl (ckplace, 3000, .inl nplace_7)), (cnext, .inl (cknext, 3000, .inl nnext_8)), (cneeded, .inl (ckneeded, 3000, .inl nneeded_9))]) hP hD [0, 1, 2, 3, 4, 5, 6] [] rfl rfl (by decide) (by decide) hk1 hFc hP1 hD1
  have hK := (hK.sub (tys' := []) [] rfl).app hK1
  generalize H1 = H at hP hS ⊢
  have hP : va_P (dC, dI) vwCl [(h0, .inr (2, [.ref cop, .ref ca, .ref cb, .ref cplace, .ref cnext, .ref cneeded, .int z_2, .int t_3])), (cop, .inl (ckop, 3000, .inl nop_4)), (ca, .inl (cka, 3000, .inl na_5)), (cb, .inl (ckb, 3000, .inl nb_6)), (cplace, .inl (ckplace, 3000, .inl nplace_7)), (cnext, .inl (cknext, 3000, .inl nnext_8)), (cneeded, .inl (ckneeded, 3000, .inl nneeded_9))] H := hP
  have hD : va_D A [(h0, .inr (2, [.ref cop, .ref ca, .ref cb, .ref cplace, .ref cnext, .ref cneeded, .int z_2, .int t_3])), (cop, .inl (ckop, 3000, .inl nop_4)), (ca, .inl (cka, 3000, .inl na_5)), (cb, .inl (ckb, 3000, .inl nb_6)), (cplace, .inl (ckplace, 3000, .inl nplace_7)), (cnext, .inl (cknext, 3000, .inl nnext_8)), (cneeded, .inl (ckneeded, 3000, .inl nneeded_9))] := hD
  have hK : va_K (dC, dI) vwCl [(ckop, .int), (cka, .int), (ckb, .int), (ckplace, .int), (cknext, .int), (ckneeded, .int)] s := hK
  obtain rfl : z = r_1 := hw.1.symm
  obtain ⟨hq_10, hq_11, hq_12, hq_13, hq_14, hq_15, hq_16, hq_17, hq_18⟩ := hw
  refine lv_pop hx hb dX2_appendStep_10 rfl ?_
  have hP9 := hP.sub (ws' := [(h0, .inr (2, [.ref cop, .ref ca, .ref cb, .ref cplace, .ref cnext, .ref cneeded, .int z_2, .int t_3])), (cop, .inl (ckop, 3000, .inl nop_4)), (ca, .inl (cka, 3000, .inl na_5)), (cb, .inl (ckb, 3000, .inl nb_6)), (cplace, .inl (ckplace, 3000, .inl nplace_7)), (cnext, .inl (cknext, 3000, .inl nnext_8)), (cneeded, .inl (ckneeded, 3000, .inl nneeded_9))]) [0, 1, 2, 3, 4, 5, 6] rfl
  have hD9 := hD.sub (ws' := [(h0, .inr (2, [.ref cop, .ref ca, .ref cb, .ref cplace, .ref cnext, .ref cneeded, .int z_2, .int t_3])), (cop, .inl (ckop, 3000, .inl nop_4)), (ca, .inl (cka, 3000, .inl na_5)), (cb, .inl (ckb, 3000, .inl nb_6)), (cplace, .inl (ckplace, 3000, .inl nplace_7)), (cnext, .inl (cknext, 3000, .inl nnext_8)), (cneeded, .inl (ckneeded, 3000, .inl nneeded_9))]) [0, 1, 2, 3, 4, 5, 6] (by decide) rfl
  have hK9 := hK.sub (tys' := [(ckop, .int), (cka, .int), (ckb, .int), (ckplace, .int), (cknext, .int), (ckneeded, .int)]) [0, 1, 2, 3, 4, 5] rfl
  exact W.vret hx hb hr (fun t ht hW => ⟨⟨(z_2, t_3, nop_4, na_5, nb_6, nplace_7, nnext_8, nneeded_9), rfl, ⟨by omega, Int32.toInt_inj.mp (by omega), hq_13, hq_14, hq_15, hq_16, hq_17, hq_18⟩, by rw [ht]; exact hP9, va_K.moved hW.alike hK9, hD9⟩, hS.F ht⟩) hS.2.2 dX2_appendStep_11

end
section
set_option maxHeartbeats 4000000 in
set_option maxRecDepth 100000 in
theorem c_X7_writeCall_x (l : Launch) (dC : Nat → ClassId) (dI : Nat → Nat → Nat) (aK aV : Nat → Nat) (h0 : Nat) (ptok : Nat) (pnee : Nat) (pnam : Nat) (pbui : Nat) (pdra : Nat) (ar : Int32) (fu : Int32) (fn : Int32) (fp : Int32) (gco : Nat) (gar : Nat) (gki : Nat) (gfu : Nat) (cop : Nat) (ca : Nat) (cb : Nat) (cplace : Nat) (cnext : Nat) (cneeded : Nat) (ckop : ClassId) (cka : ClassId) (ckb : ClassId) (ckplace : ClassId) (cknext : ClassId) (ckneeded : ClassId) (cz : Int32) (ct : Int32) (cgop : Nat → Int32) (cga : Nat → Int32) (cgb : Nat → Int32) (cgplace : Nat → Int32) (cgnext : Nat → Int32) (cgneeded : Nat → Int32) (o : Int32) (wh : Int32) (to : Int32) (nu : Int32) (sz : Nat) (hc0 : 0 ≤ cz.toInt) (hc1 : cz.toInt < 3000) (hc2 : 0 ≤ ct.toInt) (hc3 : ct.toInt < 3000) (hcn : zx 3000 cgnext) : Met l yX7_writeCall (Cond.code yX7_writeCall cX7_writeCall 5 none :: zw) ({ frames := 12, cells := 0, slots := 0, locals := 400 }) (va_Pc [.ref h0, .int o, .int wh, .int to, .int nu] (zP dC dI aK aV sz [(ckop, .int), (cka, .int), (ckb, .int), (ckplace, .int), (cknext, .int), (ckneeded, .int)] [(h0, .inr (7, [.ref ptok, .ref pnee, .ref pnam, .int ar, .ref pbui, .ref pdra, .int fu, .int fn, .int fp])), (pdra, .inr (9, [.ref gco, .ref gar, .ref gki, .ref gfu])), (gco, .inr (2, [.ref cop, .ref ca, .ref cb, .ref cplace, .ref cnext, .ref cneeded, .int cz, .int ct])), (cop, .inl (ckop, 3000, .inl cgop)), (ca, .inl (cka, 3000, .inl cga)), (cb, .inl (ckb, 3000, .inl cgb)), (cplace, .inl (ckplace, 3000, .inl cgplace)), (cnext, .inl (cknext, 3000, .inl cgnext)), (cneeded, .inl (ckneeded, 3000, .inl cgneeded))])) (va_Qv (fun u : Int32 × Int32 × (Nat → Int32) × (Nat → Int32) × (Nat → Int32) × (Nat → Int32) × (Nat → Int32) × (Nat → Int32) => match u with | (cz2, ct2, nop, na, nb, nplace, nnext, nneeded) => (cz2.toInt = cz.toInt + 1) ∧ (ct2 = cz) ∧ (zx 3000 nnext) ∧ (nop = upd cgop (Int32.toNatClampNeg cz) o) ∧ (na = upd cga (Int32.toNatClampNeg cz) to) ∧ (nb = upd (upd cgb (Int32.toNatClampNeg cz) (-1)) (Int32.toNatClampNeg cz) nu) ∧ (nnext = upd (upd cgnext (Int32.toNatClampNeg cz) (cgnext (Int32.toNatClampNeg ct))) (Int32.toNatClampNeg ct) cz) ∧ (nplace = upd cgplace (Int32.toNatClampNeg cz) wh)) (fun u => match u with | (cz2, ct2, nop, na, nb, nplace, nnext, nneeded) => zQ dC dI (va_A [(h0, .inr (7, [.ref ptok, .ref pnee, .ref pnam, .int ar, .ref pbui, .ref pdra, .int fu, .int fn, .int fp])), (pdra, .inr (9, [.ref gco, .ref gar, .ref gki, .ref gfu])), (gco, .inr (2, [.ref cop, .ref ca, .ref cb, .ref cplace, .ref cnext, .ref cneeded, .int cz, .int ct])), (cop, .inl (ckop, 3000, .inl cgop)), (ca, .inl (cka, 3000, .inl cga)), (cb, .inl (ckb, 3000, .inl cgb)), (cplace, .inl (ckplace, 3000, .inl cgplace)), (cnext, .inl (cknext, 3000, .inl cgnext)), (cneeded, .inl (ckneeded, 3000, .inl cgneeded))] sz) [(ckop, .int), (cka, .int), (ckb, .int), (ckplace, .int), (cknext, .int), (ckneeded, .int)] [(h0, .inr (7, [.ref ptok, .ref pnee, .ref pnam, .int ar, .ref pbui, .ref pdra, .int fu, .int fn, .int fp])), (pdra, .inr (9, [.ref gco, .ref gar, .ref gki, .ref gfu])), (gco, .inr (2, [.ref cop, .ref ca, .ref cb, .ref cplace, .ref cnext, .ref cneeded, .int cz2, .int ct2])), (cop, .inl (ckop, 3000, .inl nop)), (ca, .inl (cka, 3000, .inl na)), (cb, .inl (ckb, 3000, .inl nb)), (cplace, .inl (ckplace, 3000, .inl nplace)), (cnext, .inl (cknext, 3000, .inl nnext)), (cneeded, .inl (ckneeded, 3000, .inl nneeded))]) (va_A [(h0, .inr (7, [.ref ptok, .ref pnee, .ref pnam, .int ar, .ref pbui, .ref pdra, .int fu, .int fn, .int fp])), (pdra, .inr (9, [.ref gco, .ref gar, .ref gki, .ref gfu])), (gco, .inr (2, [.ref cop, .ref ca, .ref cb, .ref cplace, .ref cnext, .ref cneeded, .int cz, .int ct])), (cop, .inl (ckop, 3000, .inl cgop)), (ca, .inl (cka, 3000, .inl cga)), (cb, .inl (ckb, 3000, .inl cgb)), (cplace, .inl (ckplace, 3000, .inl cgplace)), (cnext, .inl (cknext, 3000, .inl cgnext)), (cneeded, .inl (ckneeded, 3000, .inl cgneeded))] sz)) 0 0 (va_A [(h0, .inr (7, [.ref ptok, .ref pnee, .ref pnam, .int ar, .ref pbui, .ref pdra, .int fu, .int fn, .int fp])), (pdra, .inr (9, [.ref gco, .ref gar, .ref gki, .ref gfu])), (gco, .inr (2, [.ref cop, .ref ca, .ref cb, .ref cplace, .ref cnext, .ref cneeded, .int cz, .int ct])), (cop, .inl (ckop, 3000, .inl cgop)), (ca, .inl (cka, 3000, .inl cga)), (cb, .inl (ckb, 3000, .inl cgb)), (cplace, .inl (ckplace, 3000, .inl cgplace)), (cnext, .inl (cknext, 3000, .inl cgnext)), (cneeded, .inl (ckneeded, 3000, .inl cgneeded))] sz) := by
  refine Met.ofW (cc := cX7_writeCall) (maxL := 5) (ret := none) (by decide) rfl ?_
  intro p e s m args below meth c s₁ B hml hv
  obtain ⟨rfl, hsz, hP, hK, hD0, hN, hT⟩ := hv
  have hx := B.exec
  have hb := B.bytes
  have hr := B.returns
  have hts := atoms_spec (ws := Cond.code yX7_writeCall cX7_writeCall 5 none :: zw) B.pre
  have hA : ∀ w ∈ zw, w.before _ s = true := fun w h => hts w (List.mem_cons_of_mem _ h)
  have hown : s.vm.findClass RX7 = some m.cls := findClass_of_methodNamed B.named
  have hlocks := B.notSynchronized
  subst hsz
  have hD := hD0.self (sz := s.heap.size)
  generalize hAe : va_A [(h0, .inr (7, [.ref ptok, .ref pnee, .ref pnam, .int ar, .ref pbui, .ref pdra, .int fu, .int fn, .int fp])), (pdra, .inr (9, [.ref gco, .ref gar, .ref gki, .ref gfu])), (gco, .inr (2, [.ref cop, .ref ca, .ref cb, .ref cplace, .ref cnext, .ref cneeded, .int cz, .int ct])), (cop, .inl (ckop, 3000, .inl cgop)), (ca, .inl (cka, 3000, .inl cga)), (cb, .inl (ckb, 3000, .inl cgb)), (cplace, .inl (ckplace, 3000, .inl cgplace)), (cnext, .inl (cknext, 3000, .inl cgnext)), (cneeded, .inl (ckneeded, 3000, .inl cgneeded))] s.heap.size = A at hD hT ⊢
  have hAA : ∀ q : Nat, s.heap.size ≤ q → A q := fun q h => by rw [← hAe]; exact Or.inr h
  have hS : va_S A s.heap s.heap [] := va_S.rf
  have hl := lv_entry ([.ref h0, .int o, .int wh, .int to, .int nu]) (n := 5) (Nat.le_of_ble_eq_true rfl)
  rw [lg_entry_eq]
  generalize (lg_sl ([.ref h0, .int o, .int wh, .int to, .int nu]) ++ List.replicate (5 - (lg_sl ([.ref h0, .int o, .int wh, .int to, .int nu])).length) Slot.unset).toArray = ls at hl ⊢
  have hl : lv_has ls 5 [(0, .ref h0), (1, .int o), (2, .int wh), (3, .int to), (4, .int nu)] := hl
  refine lv_aload_n hx hb dX7_writeCall_0 rfl (lv_at hl 0 rfl) ?_
  refine va_get (D := (dC, dI)) (ci := 7) (v := .ref pdra) (C := RX7) (T := TX7) (N := 9) hx hb hA zin_X7 hown hK hP 0 rfl rfl 5 (by decide) (hA _ wi_392) (fun _ h9 => h9) rfl dX7_writeCall_1 ?_
  refine va_get (D := (dC, dI)) (ci := 9) (v := .ref gco) (C := RX9) (T := TX9) (N := 4) hx hb hA zin_X9 hown hK hP 1 rfl rfl 0 (by decide) (hA _ wi_311) (fun _ h9 => h9) rfl dX7_writeCall_4 ?_
  refine va_get (D := (dC, dI)) (ci := 2) (v := .ref cb) (C := RX2) (T := TX2) (N := 8) hx hb hA zin_X2 hown hK hP 2 rfl rfl 2 (by decide) (hA _ wi_186) (fun _ h9 => h9) rfl dX7_writeCall_7 ?_
  refine lv_aload_n hx hb dX7_writeCall_10 rfl (lv_at hl 0 rfl) ?_
  refine va_get (D := (dC, dI)) (ci := 7) (v := .ref pdra) (C := RX7) (T := TX7) (N := 9) hx hb hA zin_X7 hown hK hP 0 rfl rfl 5 (by decide) (hA _ wi_392) (fun _ h9 => h9) rfl dX7_writeCall_11 ?_
  refine va_get (D := (dC, dI)) (ci := 9) (v := .ref gco) (C := RX9) (T := TX9) (N := 4) hx hb hA zin_X9 hown hK hP 1 rfl rfl 0 (by decide) (hA _ wi_311) (fun _ h9 => h9) rfl dX7_writeCall_14 ?_
  refine lv_iload_n hx hb dX7_writeCall_17 rfl (lv_at hl 1 rfl) ?_
  refine lv_iload_n hx hb dX7_writeCall_18 rfl (lv_at hl 2 rfl) ?_
  refine lv_iload_n hx hb dX7_writeCall_19 rfl (lv_at hl 3 rfl) ?_
  have hPc := hP.sub (ws' := [(gco, .inr (2, [.ref cop, .ref ca, .ref cb, .ref cplace, .ref cnext, .ref cneeded, .int cz, .int ct])), (cop, .inl (ckop, 3000, .inl cgop)), (ca, .inl (cka, 3000, .inl cga)), (cb, .inl (ckb, 3000, .inl cgb)), (cplace, .inl (ckplace, 3000, .inl cgplace)), (cnext, .inl (cknext, 3000, .inl cgnext)), (cneeded, .inl (ckneeded, 3000, .inl cgneeded))]) [2, 3, 4, 5, 6, 7, 8] rfl
  have hDc := hD.sub (ws' := [(gco, .inr (2, [.ref cop, .ref ca, .ref cb, .ref cplace, .ref cnext, .ref cneeded, .int cz, .int ct])), (cop, .inl (ckop, 3000, .inl cgop)), (ca, .inl (cka, 3000, .inl cga)), (cb, .inl (ckb, 3000, .inl cgb)), (cplace, .inl (ckplace, 3000, .inl cgplace)), (cnext, .inl (cknext, 3000, .inl cgnext)), (cneeded, .inl (ckneeded, 3000, .inl cgneeded))]) [2, 3, 4, 5, 6, 7, 8] (by decide) rfl
  have hKc := hK.sub (tys' := [(ckop, .int), (cka, .int), (ckb, .int), (ckplace, .int), (cknext, .int), (ckneeded, .int)]) [0, 1, 2, 3, 4, 5] rfl
  have hFc := va_free (wc := [(gco, .inr (2, [.ref cop, .ref ca, .ref cb, .ref cplace, .ref cnext, .ref cneeded, .int cz, .int ct])), (cop, .inl (ckop, 3000, .inl cgop)), (ca, .inl (cka, 3000, .inl cga)), (cb, .inl (ckb, 3000, .inl cgb)), (cplace, .inl (ckplace, 3000, .inl cgplace)), (cnext, .inl (cknext, 3000, .inl cgnext)), (cneeded, .inl (ckneeded, 3000, .inl cgneeded))]) hD hS hAA [2, 3, 4, 5, 6, 7, 8] rfl
  refine va_calli (va_runV (As := [.int o, .int wh, .int to]) (rest := [.ref cb]) ⟨hx, hb, hml, hown, hA⟩ (c_X2_append_x l dC dI aK aV gco cop ca cb cplace cnext cneeded ckop cka ckb ckplace cknext ckneeded cz ct cgop cga cgb cgplace cgnext cgneeded o wh to s.heap.size (by omega) (by omega) (by omega) (by omega) hcn) (cwV 3 hA (zw_V wi_918 wi_919 wi_920 wi_132 (zw_good wi_921)) rfl rfl rfl (by decide +kernel) ⟨(Nat.le_of_ble_eq_true rfl), (Nat.le_of_ble_eq_true rfl)⟩) ⟨zP_blind, va_recv hKc hPc (ci := 2) (q0 := 0) rfl rfl, zz_pre hKc hPc hDc hN hT hS hFc⟩ rfl rfl hl.1 rfl (lv_room (Nat.le_of_ble_eq_true rfl)) dX7_writeCall_20 ⟨(Nat.le_of_ble_eq_true rfl), (Nat.le_of_ble_eq_true rfl)⟩) hS (fun q _ h => hFc q h) hFc (fun r_1 u t H1 locs ht hvm hw hB hz1 hk1 hS => ?_)
  obtain ⟨z_2, t_3, nop_4, na_5, nb_6, nplace_7, nnext_8, nneeded_9⟩ := u
  obtain ⟨hP1, hK1, hD1⟩ := hB
  rw [ht] at hP1
  have hK1 := va_K.moved hvm.symm hK1
  obtain ⟨hP, hD⟩ := va_join (wr := [(h0, .inr (7, [.ref ptok, .ref pnee, .ref pnam, .int ar, .ref pbui, .ref pdra, .int fu, .int fn, .int fp])), (pdra, .inr (9, [.ref gco, .ref gar, .ref gki, .ref gfu]))]) (w1 := [(gco, .inr (2, [.ref cop, .ref ca, .ref cb, .ref cplace, .ref cnext, .ref cneeded, .int z_2, .int t_3])), (cop, .inl (ckop, 3000, .inl nop_4)), (ca, .inl (cka, 3000, .inl na_5)), (cb, .inl (ckb, 3000, .inl nb_6)), (cplace, .inl (ckplace, 3000, .inl nplace_7)), (cnext, .inl (cknext, 3000, .inl nnext_8)), (cneeded, .inl (ckneeded, 3000, .inl nneeded_9))]) hP hD [2, 3, 4, 5, 6, 7, 8] [0, 1] rfl rfl (by decide) (by decide) hk1 hFc hP1 hD1
  have hK := (hK.sub (tys' := []) [] rfl).app hK1
  generalize H1 = H at hP hS ⊢
  have hP : va_P (dC, dI) vwCl [(h0, .inr (7, [.ref ptok, .ref pnee, .ref pnam, .int ar, .ref pbui, .ref pdra, .int fu, .int fn, .int fp])), (pdra, .inr (9, [.ref gco, .ref gar, .ref gki, .ref gfu])), (gco, .inr (2, [.ref cop, .ref ca, .ref cb, .ref cplace, .ref cnext, .ref cneeded, .int z_2, .int t_3])), (cop, .inl (ckop, 3000, .inl nop_4)), (ca, .inl (cka, 3000, .inl na_5)), (cb, .inl (ckb, 3000, .inl nb_6)), (cplace, .inl (ckplace, 3000, .inl nplace_7)), (cnext, .inl (cknext, 3000, .inl nnext_8)), (cneeded, .inl (ckneeded, 3000, .inl nneeded_9))] H := hP
  have hD : va_D A [(h0, .inr (7, [.ref ptok, .ref pnee, .ref pnam, .int ar, .ref pbui, .ref pdra, .int fu, .int fn, .int fp])), (pdra, .inr (9, [.ref gco, .ref gar, .ref gki, .ref gfu])), (gco, .inr (2, [.ref cop, .ref ca, .ref cb, .ref cplace, .ref cnext, .ref cneeded, .int z_2, .int t_3])), (cop, .inl (ckop, 3000, .inl nop_4)), (ca, .inl (cka, 3000, .inl na_5)), (cb, .inl (ckb, 3000, .inl nb_6)), (cplace, .inl (ckplace, 3000, .inl nplace_7)), (cnext, .inl (cknext, 3000, .inl nnext_8)), (cneeded, .inl (ckneeded, 3000, .inl nneeded_9))] := hD
  have hK : va_K (dC, dI) vwCl [(ckop, .int), (cka, .int), (ckb, .int), (ckplace, .int), (cknext, .int), (ckneeded, .int)] s := hK
  obtain rfl : cz = r_1 := hw.1.symm
  obtain ⟨hq_10, hq_11, hq_12, hq_13, hq_14, hq_15, hq_16, hq_17, hq_18⟩ := hw
  refine lv_iload hx hb dX7_writeCall_23 (lv_at hl 4 rfl) ?_
  refine va_iast hx hb hK hP hD hS 5 2 rfl rfl (vp_in_iff.mpr ⟨by omega, by omega⟩) dX7_writeCall_25 (fun H locs hP hD hS => ?_)
  obtain ⟨f_19, ef_19⟩ : ∃ gz9 : Nat → Int32, gz9 = upd nb_6 (Int32.toNatClampNeg cz) nu := ⟨_, rfl⟩
  rw [← ef_19] at hP hD
  have hP : va_P (dC, dI) vwCl [(h0, .inr (7, [.ref ptok, .ref pnee, .ref pnam, .int ar, .ref pbui, .ref pdra, .int fu, .int fn, .int fp])), (pdra, .inr (9, [.ref gco, .ref gar, .ref gki, .ref gfu])), (gco, .inr (2, [.ref cop, .ref ca, .ref cb, .ref cplace, .ref cnext, .ref cneeded, .int z_2, .int t_3])), (cop, .inl (ckop, 3000, .inl nop_4)), (ca, .inl (cka, 3000, .inl na_5)), (cb, .inl (ckb, 3000, .inl f_19)), (cplace, .inl (ckplace, 3000, .inl nplace_7)), (cnext, .inl (cknext, 3000, .inl nnext_8)), (cneeded, .inl (ckneeded, 3000, .inl nneeded_9))] H := hP
  have hD : va_D A [(h0, .inr (7, [.ref ptok, .ref pnee, .ref pnam, .int ar, .ref pbui, .ref pdra, .int fu, .int fn, .int fp])), (pdra, .inr (9, [.ref gco, .ref gar, .ref gki, .ref gfu])), (gco, .inr (2, [.ref cop, .ref ca, .ref cb, .ref cplace, .ref cnext, .ref cneeded, .int z_2, .int t_3])), (cop, .inl (ckop, 3000, .inl nop_4)), (ca, .inl (cka, 3000, .inl na_5)), (cb, .inl (ckb, 3000, .inl f_19)), (cplace, .inl (ckplace, 3000, .inl nplace_7)), (cnext, .inl (cknext, 3000, .inl nnext_8)), (cneeded, .inl (ckneeded, 3000, .inl nneeded_9))] := hD
  have hP9 := hP.sub (ws' := [(h0, .inr (7, [.ref ptok, .ref pnee, .ref pnam, .int ar, .ref pbui, .ref pdra, .int fu, .int fn, .int fp])), (pdra, .inr (9, [.ref gco, .ref gar, .ref gki, .ref gfu])), (gco, .inr (2, [.ref cop, .ref ca, .ref cb, .ref cplace, .ref cnext, .ref cneeded, .int z_2, .int t_3])), (cop, .inl (ckop, 3000, .inl nop_4)), (ca, .inl (cka, 3000, .inl na_5)), (cb, .inl (ckb, 3000, .inl f_19)), (cplace, .inl (ckplace, 3000, .inl nplace_7)), (cnext, .inl (cknext, 3000, .inl nnext_8)), (cneeded, .inl (ckneeded, 3000, .inl nneeded_9))]) [0, 1, 2, 3, 4, 5, 6, 7, 8] rfl
  have hD9 := hD.sub (ws' := [(h0, .inr (7, [.ref ptok, .ref pnee, .ref pnam, .int ar, .ref pbui, .ref pdra, .int fu, .int fn, .int fp])), (pdra, .inr (9, [.ref gco, .ref gar, .ref gki, .ref gfu])), (gco, .inr (2, [.ref cop, .ref ca, .ref cb, .ref cplace, .ref cnext, .ref cneeded, .int z_2, .int t_3])), (cop, .inl (ckop, 3000, .inl nop_4)), (ca, .inl (cka, 3000, .inl na_5)), (cb, .inl (ckb, 3000, .inl f_19)), (cplace, .inl (ckplace, 3000, .inl nplace_7)), (cnext, .inl (cknext, 3000, .inl nnext_8)), (cneeded, .inl (ckneeded, 3000, .inl nneeded_9))]) [0, 1, 2, 3, 4, 5, 6, 7, 8] (by decide) rfl
  have hK9 := hK.sub (tys' := [(ckop, .int), (cka, .int), (ckb, .int), (ckplace, .int), (cknext, .int), (ckneeded, .int)]) [0, 1, 2, 3, 4, 5] rfl
  exact W.vret hx hb hr (fun t ht hW => ⟨⟨(z_2, t_3, nop_4, na_5, f_19, nplace_7, nnext_8, nneeded_9), rfl, ⟨by omega, hq_12, hq_13, hq_14, hq_15, by rw [ef_19, hq_16], hq_17, hq_18⟩, by rw [ht]; exact hP9, va_K.moved hW.alike hK9, hD9⟩, hS.F ht⟩) hS.2.2 dX7_writeCall_26
set_option maxHeartbeats 4000000 in
set_option maxRecDepth 100000 in
theorem c_X3_has_x (l : Launch) (dC : Nat → ClassId) (dI : Nat → Nat → Nat) (aK aV : Nat → Nat) (h0 : Nat) (fw : Nat) (fe : Nat) (ff : Nat) (z : Int32) (i : Int32) (sz : Nat)  : Met l yX3_has (Cond.code yX3_has cX3_has 2 (some .boolean) :: zw) ({ frames := 8, cells := 0, slots := 0, locals := 200 }) (va_Pc [.ref h0, .int i] (zP dC dI aK aV sz [] [(h0, .inr (3, [.ref fw, .ref fe, .ref ff, .int z]))])) (va_Qi (fun (r : Int32) (u : Unit) => (r.toInt = 0 ∧ (i.toInt < 0 ∨ z.toInt ≤ i.toInt) ∨ r.toInt = 1 ∧ 0 ≤ i.toInt ∧ i.toInt < z.toInt)) (fun u => zQ dC dI (va_A [(h0, .inr (3, [.ref fw, .ref fe, .ref ff, .int z]))] sz) [] [(h0, .inr (3, [.ref fw, .ref fe, .ref ff, .int z]))]) (va_A [(h0, .inr (3, [.ref fw, .ref fe, .ref ff, .int z]))] sz)) 0 0 (va_A [(h0, .inr (3, [.ref fw, .ref fe, .ref ff, .int z]))] sz) := by
  refine Met.ofW (cc := cX3_has) (maxL := 2) (ret := (some .boolean)) (by decide) rfl ?_
  intro p e s m args below meth c s₁ B hml hv
  obtain ⟨rfl, hsz, hP, hK, hD0, hN, hT⟩ := hv
  have hx := B.exec
  have hb := B.bytes
  have hr := B.returns
  have hts := atoms_spec (ws := Cond.code yX3_has cX3_has 2 (some .boolean) :: zw) B.pre
  have hA : ∀ w ∈ zw, w.before _ s = true := fun w h => hts w (List.mem_cons_of_mem _ h)
  have hown : s.vm.findClass RX3 = some m.cls := findClass_of_methodNamed B.named
  have hlocks := B.notSynchronized
  subst hsz
  have hD := hD0.self (sz := s.heap.size)
  generalize hAe : va_A [(h0, .inr (3, [.ref fw, .ref fe, .ref ff, .int z]))] s.heap.size = A at hD hT ⊢
  have hAA : ∀ q : Nat, s.heap.size ≤ q → A q := fun q h => by rw [← hAe]; exact Or.inr h
  have hS : va_S A s.heap s.heap [] := va_S.rf
  have hl := lv_entry ([.ref h0, .int i]) (n := 2) (Nat.le_of_ble_eq_true rfl)
  rw [lg_entry_eq]
  generalize (lg_sl ([.ref h0, .int i]) ++ List.replicate (2 - (lg_sl ([.ref h0, .int i])).length) Slot.unset).toArray = ls at hl ⊢
  have hl : lv_has ls 2 [(0, .ref h0), (1, .int i)] := hl
  refine lv_iload_n hx hb dX3_has_0 rfl (lv_at hl 1 rfl) ?_
  refine lv_if_lt (tgt := 16) hx hb dX3_has_1 (by decide) (fun c_1 => ?_) (fun c_1 => ?_)
  · have ic_1 : i.toInt < 0 := zi_lt c_1
    refine lv_iconst (v := 0) hx hb dX3_has_16 (by decide) ?_
    have hlit : Int32.toInt 0 = 0 := by decide
    have hP9 := hP.sub (ws' := [(h0, .inr (3, [.ref fw, .ref fe, .ref ff, .int z]))]) [0] rfl
    have hD9 := hD.sub (ws' := [(h0, .inr (3, [.ref fw, .ref fe, .ref ff, .int z]))]) [0] (by decide) rfl
    have hK9 := hK.sub (tys' := []) [] rfl
    exact W.zret (v := 0) hx hb hr rfl (fun t ht hW => ⟨⟨0, (), rfl, by omega, by rw [ht]; exact hP9, va_K.moved hW.alike hK9, hD9⟩, hS.F ht⟩) hS.2.2 dX3_has_17
  · have ic_1 : 0 ≤ i.toInt := zi_nlt c_1
    refine lv_iload_n hx hb dX3_has_4 rfl (lv_at hl 1 rfl) ?_
    refine lv_aload_n hx hb dX3_has_5 rfl (lv_at hl 0 rfl) ?_
    refine va_get (D := (dC, dI)) (ci := 3) (v := .int z) (C := RX3) (T := TX3) (N := 4) hx hb hA zin_X3 hown hK hP 0 rfl rfl 3 (by decide) (hA _ wi_295) (fun _ h9 => h9) rfl dX3_has_6 ?_
    refine lv_icmp_ge (tgt := 16) hx hb dX3_has_9 (by decide) (fun c_2 => ?_) (fun c_2 => ?_)
    · have ic_2 : z.toInt ≤ i.toInt := zi_le c_2
      refine lv_iconst (v := 0) hx hb dX3_has_16 (by decide) ?_
      have hlit : Int32.toInt 0 = 0 := by decide
      have hP9 := hP.sub (ws' := [(h0, .inr (3, [.ref fw, .ref fe, .ref ff, .int z]))]) [0] rfl
      have hD9 := hD.sub (ws' := [(h0, .inr (3, [.ref fw, .ref fe, .ref ff, .int z]))]) [0] (by decide) rfl
      have hK9 := hK.sub (tys' := []) [] rfl
      exact W.zret (v := 0) hx hb hr rfl (fun t ht hW => ⟨⟨0, (), rfl, by omega, by rw [ht]; exact hP9, va_K.moved hW.alike hK9, hD9⟩, hS.F ht⟩) hS.2.2 dX3_has_17
    · have ic_2 : i.toInt < z.toInt := zi_nle c_2
      refine lv_iconst (v := 1) hx hb dX3_has_12 (by decide) ?_
      refine lv_goto (tgt := 17) hx hb dX3_has_13 (by decide) ?_
      have hlit : Int32.toInt 1 = 1 := by decide
      have hP9 := hP.sub (ws' := [(h0, .inr (3, [.ref fw, .ref fe, .ref ff, .int z]))]) [0] rfl
      have hD9 := hD.sub (ws' := [(h0, .inr (3, [.ref fw, .ref fe, .ref ff, .int z]))]) [0] (by decide) rfl
      have hK9 := hK.sub (tys' := []) [] rfl
      exact W.zret (v := 1) hx hb hr rfl (fun t ht hW => ⟨⟨1, (), rfl, by omega, by rw [ht]; exact hP9, va_K.moved hW.alike hK9, hD9⟩, hS.F ht⟩) hS.2.2 dX3_has_17
set_option maxHeartbeats 4000000 in
set_option maxRecDepth 100000 in
theorem c_X3_fact_x (l : Launch) (dC : Nat → ClassId) (dI : Nat → Nat → Nat) (aK aV : Nat → Nat) (h0 : Nat) (fw : Nat) (fe : Nat) (ff : Nat) (f1 : ClassId) (f2 : ClassId) (f3 : ClassId) (z : Int32) (gw : Nat → Int64) (ge : Nat → Int32) (gf : Nat → Int32) (i : Int32) (w : Int32) (sz : Nat) (hz0 : 0 ≤ z.toInt) (hz1 : z.toInt ≤ 30) (hi0 : 0 ≤ i.toInt) (hi1 : i.toInt < z.toInt) (hw0 : 0 ≤ w.toInt) (hw1 : w.toInt < 5) : Met l yX3_fact (Cond.code yX3_fact cX3_fact 3 (some .int) :: zw) ({ frames := 10, cells := 0, slots := 0, locals := 300 }) (va_Pc [.ref h0, .int i, .int w] (zP dC dI aK aV sz [(f1, .long), (f2, .int), (f3, .int)] [(h0, .inr (3, [.ref fw, .ref fe, .ref ff, .int z])), (fw, .inl (f1, 30, .inr (.inl gw))), (fe, .inl (f2, 30, .inl ge)), (ff, .inl (f3, 150, .inl gf))])) (va_Qi (fun (r : Int32) (u : Unit) => (r = gf (5 * Int32.toNatClampNeg i + Int32.toNatClampNeg w))) (fun u => zQ dC dI (va_A [(h0, .inr (3, [.ref fw, .ref fe, .ref ff, .int z])), (fw, .inl (f1, 30, .inr (.inl gw))), (fe, .inl (f2, 30, .inl ge)), (ff, .inl (f3, 150, .inl gf))] sz) [(f1, .long), (f2, .int), (f3, .int)] [(h0, .inr (3, [.ref fw, .ref fe, .ref ff, .int z])), (fw, .inl (f1, 30, .inr (.inl gw))), (fe, .inl (f2, 30, .inl ge)), (ff, .inl (f3, 150, .inl gf))]) (va_A [(h0, .inr (3, [.ref fw, .ref fe, .ref ff, .int z])), (fw, .inl (f1, 30, .inr (.inl gw))), (fe, .inl (f2, 30, .inl ge)), (ff, .inl (f3, 150, .inl gf))] sz)) 0 0 (va_A [(h0, .inr (3, [.ref fw, .ref fe, .ref ff, .int z])), (fw, .inl (f1, 30, .inr (.inl gw))), (fe, .inl (f2, 30, .inl ge)), (ff, .inl (f3, 150, .inl gf))] sz) := by
  refine Met.ofW (cc := cX3_fact) (maxL := 3) (ret := (some .int)) (by decide) rfl ?_
  intro p e s m args below meth c s₁ B hml hv
  obtain ⟨rfl, hsz, hP, hK, hD0, hN, hT⟩ := hv
  have hx := B.exec
  have hb := B.bytes
  have hr := B.returns
  have hts := atoms_spec (ws := Cond.code yX3_fact cX3_fact 3 (some .int) :: zw) B.pre
  have hA : ∀ w ∈ zw, w.before _ s = true := fun w h => hts w (List.mem_cons_of_mem _ h)
  have hown : s.vm.findClass RX3 = some m.cls := findClass_of_methodNamed B.named
  have hlocks := B.notSynchronized
  subst hsz
  have hD := hD0.self (sz := s.heap.size)
  generalize hAe : va_A [(h0, .inr (3, [.ref fw, .ref fe, .ref ff, .int z])), (fw, .inl (f1, 30, .inr (.inl gw))), (fe, .inl (f2, 30, .inl ge)), (ff, .inl (f3, 150, .inl gf))] s.heap.size = A at hD hT ⊢
  have hAA : ∀ q : Nat, s.heap.size ≤ q → A q := fun q h => by rw [← hAe]; exact Or.inr h
  have hS : va_S A s.heap s.heap [] := va_S.rf
  have hl := lv_entry ([.ref h0, .int i, .int w]) (n := 3) (Nat.le_of_ble_eq_true rfl)
  rw [lg_entry_eq]
  generalize (lg_sl ([.ref h0, .int i, .int w]) ++ List.replicate (3 - (lg_sl ([.ref h0, .int i, .int w])).length) Slot.unset).toArray = ls at hl ⊢
  have hl : lv_has ls 3 [(0, .ref h0), (1, .int i), (2, .int w)] := hl
  refine lv_aload_n hx hb dX3_fact_0 rfl (lv_at hl 0 rfl) ?_
  refine lv_iload_n hx hb dX3_fact_1 rfl (lv_at hl 1 rfl) ?_
  have hPc := hP.sub (ws' := [(h0, .inr (3, [.ref fw, .ref fe, .ref ff, .int z]))]) [0] rfl
  have hDc := hD.sub (ws' := [(h0, .inr (3, [.ref fw, .ref fe, .ref ff, .int z]))]) [0] (by decide) rfl
  have hKc := hK.sub (tys' := []) [] rfl
  have hFc := va_free (wc := [(h0, .inr (3, [.ref fw, .ref fe, .ref ff, .int z]))]) hD hS hAA [0] rfl
  refine va_calli (va_runV (As := [.int i]) (rest := []) ⟨hx, hb, hml, hown, hA⟩ (c_X3_has_x l dC dI aK aV h0 fw fe ff z i s.heap.size) (cwV 1 hA (zw_V wi_910 wi_911 wi_912 wi_135 (zw_good wi_913)) rfl rfl rfl (by decide +kernel) ⟨(Nat.le_of_ble_eq_true rfl), (Nat.le_of_ble_eq_true rfl)⟩) ⟨zP_blind, va_recv hKc hPc (ci := 3) (q0 := 0) rfl rfl, zz_pre hKc hPc hDc hN hT hS hFc⟩ rfl rfl hl.1 rfl (lv_room (Nat.le_of_ble_eq_true rfl)) dX3_fact_2 ⟨(Nat.le_of_ble_eq_true rfl), (Nat.le_of_ble_eq_true rfl)⟩) hS (fun q _ h => hFc q h) hFc (fun r_1 u t H1 locs ht hvm hw hB hz1 hk1 hS => ?_)
  obtain ⟨hP1, hK1, hD1⟩ := hB
  rw [ht] at hP1
  have hK1 := va_K.moved hvm.symm hK1
  obtain ⟨hP, hD⟩ := va_join (wr := [(fw, .inl (f1, 30, .inr (.inl gw))), (fe, .inl (f2, 30, .inl ge)), (ff, .inl (f3, 150, .inl gf))]) (w1 := [(h0, .inr (3, [.ref fw, .ref fe, .ref ff, .int z]))]) hP hD [0] [1, 2, 3] rfl rfl (by decide) (by decide) hk1 hFc hP1 hD1
  have hK := (hK.sub (tys' := [(f1, .long), (f2, .int), (f3, .int)]) [0, 1, 2] rfl).app hK1
  generalize H1 = H at hP hS ⊢
  have hP : va_P (dC, dI) vwCl [(fw, .inl (f1, 30, .inr (.inl gw))), (fe, .inl (f2, 30, .inl ge)), (ff, .inl (f3, 150, .inl gf)), (h0, .inr (3, [.ref fw, .ref fe, .ref ff, .int z]))] H := hP
  have hD : va_D A [(fw, .inl (f1, 30, .inr (.inl gw))), (fe, .inl (f2, 30, .inl ge)), (ff, .inl (f3, 150, .inl gf)), (h0, .inr (3, [.ref fw, .ref fe, .ref ff, .int z]))] := hD
  have hK : va_K (dC, dI) vwCl [(f1, .long), (f2, .int), (f3, .int)] s := hK
  have hw_r_1 := hw
  try dsimp only at hw_r_1
  have hq_2 := hw
  refine lv_if_eq (tgt := 21) hx hb dX3_fact_5 (by decide) (fun c_3 => ?_) (fun c_3 => ?_)
  · have ic_3 : r_1.toInt = 0 := zi_eq c_3
    exfalso
    omega
  · have ic_3 : r_1.toInt ≠ 0 := zi_ne c_3
    refine lv_aload_n hx hb dX3_fact_8 rfl (lv_at hl 0 rfl) ?_
    refine va_get (D := (dC, dI)) (ci := 3) (v := .ref ff) (C := RX3) (T := TX3) (N := 4) hx hb hA zin_X3 hown hK hP 3 rfl rfl 2 (by decide) (hA _ wi_294) (fun _ h9 => h9) rfl dX3_fact_9 ?_
    refine lv_iload_n hx hb dX3_fact_12 rfl (lv_at hl 1 rfl) ?_
    refine lv_iconst (v := 5) hx hb dX3_fact_13 (by decide) ?_
    refine lv_imul hx hb dX3_fact_14 ?_
    refine lv_topi (fun x_4 ex_4 => ?_)
    have ix_4 : x_4.toInt = i.toInt * 5 := by rw [ex_4]; exact zi_mulc (by decide) (by omega) (by omega)
    refine lv_iload_n hx hb dX3_fact_15 rfl (lv_at hl 2 rfl) ?_
    refine lv_iadd hx hb dX3_fact_16 ?_
    refine lv_topi (fun x_5 ex_5 => ?_)
    have ix_5 : x_5.toInt = x_4.toInt + w.toInt := by rw [ex_5]; exact zi_addc rfl (by omega) (by omega)
    refine va_iald hx hb hK hP 2 2 rfl rfl (vp_in_iff.mpr ⟨by omega, by omega⟩) dX3_fact_17 ?_
    refine lv_topi (fun x_6 ex_6 => ?_)
    refine lv_goto (tgt := 22) hx hb dX3_fact_18 (by decide) ?_
    have hP9 := hP.sub (ws' := [(h0, .inr (3, [.ref fw, .ref fe, .ref ff, .int z])), (fw, .inl (f1, 30, .inr (.inl gw))), (fe, .inl (f2, 30, .inl ge)), (ff, .inl (f3, 150, .inl gf))]) [3, 0, 1, 2] rfl
    have hD9 := hD.sub (ws' := [(h0, .inr (3, [.ref fw, .ref fe, .ref ff, .int z])), (fw, .inl (f1, 30, .inr (.inl gw))), (fe, .inl (f2, 30, .inl ge)), (ff, .inl (f3, 150, .inl gf))]) [3, 0, 1, 2] (by decide) rfl
    have hK9 := hK.sub (tys' := [(f1, .long), (f2, .int), (f3, .int)]) [0, 1, 2] rfl
    exact W.iret (v := x_6) hx hb hr (fun t ht hW => ⟨⟨x_6, (), rfl, by rw [ex_6]; exact congrArg gf (zn_5 (by omega) (by omega) (by omega)), by rw [ht]; exact hP9, va_K.moved hW.alike hK9, hD9⟩, hS.F ht⟩) hS.2.2 dX3_fact_22
set_option maxHeartbeats 4000000 in
set_option maxRecDepth 100000 in
theorem c_X3_oneMore_x (l : Launch) (dC : Nat → ClassId) (dI : Nat → Nat → Nat) (aK aV : Nat → Nat) (h0 : Nat) (fw : Nat) (fe : Nat) (ff : Nat) (f1 : ClassId) (f2 : ClassId) (f3 : ClassId) (z : Int32) (gw : Nat → Int64) (ge : Nat → Int32) (gf : Nat → Int32) (i : Int32) (w : Int32) (sz : Nat) (hz0 : 0 ≤ z.toInt) (hz1 : z.toInt ≤ 30) (hi0 : 0 ≤ i.toInt) (hi1 : i.toInt < z.toInt) (hw0 : 0 ≤ w.toInt) (hw1 : w.toInt < 5) : Met l yX3_oneMore (Cond.code yX3_oneMore cX3_oneMore 3 none :: zw) ({ frames := 10, cells := 0, slots := 0, locals := 300 }) (va_Pc [.ref h0, .int i, .int w] (zP dC dI aK aV sz [(f1, .long), (f2, .int), (f3, .int)] [(h0, .inr (3, [.ref fw, .ref fe, .ref ff, .int z])), (fw, .inl (f1, 30, .inr (.inl gw))), (fe, .inl (f2, 30, .inl ge)), (ff, .inl (f3, 150, .inl gf))])) (va_Qv (fun u : (Nat → Int32) => match u with | gf2 => (gf2 = upd gf (5 * Int32.toNatClampNeg i + Int32.toNatClampNeg w) (gf (5 * Int32.toNatClampNeg i + Int32.toNatClampNeg w) + 1))) (fun u => match u with | gf2 => zQ dC dI (va_A [(h0, .inr (3, [.ref fw, .ref fe, .ref ff, .int z])), (fw, .inl (f1, 30, .inr (.inl gw))), (fe, .inl (f2, 30, .inl ge)), (ff, .inl (f3, 150, .inl gf))] sz) [(f1, .long), (f2, .int), (f3, .int)] [(h0, .inr (3, [.ref fw, .ref fe, .ref ff, .int z])), (fw, .inl (f1, 30, .inr (.inl gw))), (fe, .inl (f2, 30, .inl ge)), (ff, .inl (f3, 150, .inl gf2))]) (va_A [(h0, .inr (3, [.ref fw, .ref fe, .ref ff, .int z])), (fw, .inl (f1, 30, .inr (.inl gw))), (fe, .inl (f2, 30, .inl ge)), (ff, .inl (f3, 150, .inl gf))] sz)) 0 0 (va_A [(h0, .inr (3, [.ref fw, .ref fe, .ref ff, .int z])), (fw, .inl (f1, 30, .inr (.inl gw))), (fe, .inl (f2, 30, .inl ge)), (ff, .inl (f3, 150, .inl gf))] sz) := by
  refine Met.ofW (cc := cX3_oneMore) (maxL := 3) (ret := none) (by decide) rfl ?_
  intro p e s m args below meth c s₁ B hml hv
  obtain ⟨rfl, hsz, hP, hK, hD0, hN, hT⟩ := hv
  have hx := B.exec
  have hb := B.bytes
  have hr := B.returns
  have hts := atoms_spec (ws := Cond.code yX3_oneMore cX3_oneMore 3 none :: zw) B.pre
  have hA : ∀ w ∈ zw, w.before _ s = true := fun w h => hts w (List.mem_cons_of_mem _ h)
  have hown : s.vm.findClass RX3 = some m.cls := findClass_of_methodNamed B.named
  have hlocks := B.notSynchronized
  subst hsz
  have hD := hD0.self (sz := s.heap.size)
  generalize hAe : va_A [(h0, .inr (3, [.ref fw, .ref fe, .ref ff, .int z])), (fw, .inl (f1, 30, .inr (.inl gw))), (fe, .inl (f2, 30, .inl ge)), (ff, .inl (f3, 150, .inl gf))] s.heap.size = A at hD hT ⊢
  have hAA : ∀ q : Nat, s.heap.size ≤ q → A q := fun q h => by rw [← hAe]; exact Or.inr h
  have hS : va_S A s.heap s.heap [] := va_S.rf
  have hl := lv_entry ([.ref h0, .int i, .int w]) (n := 3) (Nat.le_of_ble_eq_true rfl)
  rw [lg_entry_eq]
  generalize (lg_sl ([.ref h0, .int i, .int w]) ++ List.replicate (3 - (lg_sl ([.ref h0, .int i, .int w])).length) Slot.unset).toArray = ls at hl ⊢
  have hl : lv_has ls 3 [(0, .ref h0), (1, .int i), (2, .int w)] := hl
  refine lv_aload_n hx hb dX3_oneMore_0 rfl (lv_at hl 0 rfl) ?_
  refine lv_iload_n hx hb dX3_oneMore_1 rfl (lv_at hl 1 rfl) ?_
  have hPc := hP.sub (ws' := [(h0, .inr (3, [.ref fw, .ref fe, .ref ff, .int z]))]) [0] rfl
  have hDc := hD.sub (ws' := [(h0, .inr (3, [.ref fw, .ref fe, .ref ff, .int z]))]) [0] (by decide) rfl
  have hKc := hK.sub (tys' := []) [] rfl
  have hFc := va_free (wc := [(h0, .inr (3, [.ref fw, .ref fe, .ref ff, .int z]))]) hD hS hAA [0] rfl
  refine va_calli (va_runV (As := [.int i]) (rest := []) ⟨hx, hb, hml, hown, hA⟩ (c_X3_has_x l dC dI aK aV h0 fw fe ff z i s.heap.size) (cwV 1 hA (zw_V wi_910 wi_911 wi_912 wi_135 (zw_good wi_913)) rfl rfl rfl (by decide +kernel) ⟨(Nat.le_of_ble_eq_true rfl), (Nat.le_of_ble_eq_true rfl)⟩) ⟨zP_blind, va_recv hKc hPc (ci := 3) (q0 := 0) rfl rfl, zz_pre hKc hPc hDc hN hT hS hFc⟩ rfl rfl hl.1 rfl (lv_room (Nat.le_of_ble_eq_true rfl)) dX3_oneMore_2 ⟨(Nat.le_of_ble_eq_true rfl), (Nat.le_of_ble_eq_true rfl)⟩) hS (fun q _ h => hFc q h) hFc (fun r_1 u t H1 locs ht hvm hw hB hz1 hk1 hS => ?_)
  obtain ⟨hP1, hK1, hD1⟩ := hB
  rw [ht] at hP1
  have hK1 := va_K.moved hvm.symm hK1
  obtain ⟨hP, hD⟩ := va_join (wr := [(fw, .inl (f1, 30, .inr (.inl gw))), (fe, .inl (f2, 30, .inl ge)), (ff, .inl (f3, 150, .inl gf))]) (w1 := [(h0, .inr (3, [.ref fw, .ref fe, .ref ff, .int z]))]) hP hD [0] [1, 2, 3] rfl rfl (by decide) (by decide) hk1 hFc hP1 hD1
  have hK := (hK.sub (tys' := [(f1, .long), (f2, .int), (f3, .int)]) [0, 1, 2] rfl).app hK1
  generalize H1 = H at hP hS ⊢
  have hP : va_P (dC, dI) vwCl [(fw, .inl (f1, 30, .inr (.inl gw))), (fe, .inl (f2, 30, .inl ge)), (ff, .inl (f3, 150, .inl gf)), (h0, .inr (3, [.ref fw, .ref fe, .ref ff, .int z]))] H := hP
  have hD : va_D A [(fw, .inl (f1, 30, .inr (.inl gw))), (fe, .inl (f2, 30, .inl ge)), (ff, .inl (f3, 150, .inl gf)), (h0, .inr (3, [.ref fw, .ref fe, .ref ff, .int z]))] := hD
  have hK : va_K (dC, dI) vwCl [(f1, .long), (f2, .int), (f3, .int)] s := hK
  have hw_r_1 := hw
  try dsimp only at hw_r_1
  have hq_2 := hw
  refine lv_if_eq (tgt := 22) hx hb dX3_oneMore_5 (by decide) (fun c_3 => ?_) (fun c_3 => ?_)
  · have ic_3 : r_1.toInt = 0 := zi_eq c_3
    exfalso
    omega
  · have ic_3 : r_1.toInt ≠ 0 := zi_ne c_3
    refine lv_aload_n hx hb dX3_oneMore_8 rfl (lv_at hl 0 rfl) ?_
    refine va_get (D := (dC, dI)) (ci := 3) (v := .ref ff) (C := RX3) (T := TX3) (N := 4) hx hb hA zin_X3 hown hK hP 3 rfl rfl 2 (by decide) (hA _ wi_294) (fun _ h9 => h9) rfl dX3_oneMore_9 ?_
    refine lv_iload_n hx hb dX3_oneMore_12 rfl (lv_at hl 1 rfl) ?_
    refine lv_iconst (v := 5) hx hb dX3_oneMore_13 (by decide) ?_
    refine lv_imul hx hb dX3_oneMore_14 ?_
    refine lv_topi (fun x_4 ex_4 => ?_)
    have ix_4 : x_4.toInt = i.toInt * 5 := by rw [ex_4]; exact zi_mulc (by decide) (by omega) (by omega)
    refine lv_iload_n hx hb dX3_oneMore_15 rfl (lv_at hl 2 rfl) ?_
    refine lv_iadd hx hb dX3_oneMore_16 ?_
    refine lv_topi (fun x_5 ex_5 => ?_)
    have ix_5 : x_5.toInt = x_4.toInt + w.toInt := by rw [ex_5]; exact zi_addc rfl (by omega) (by omega)
    refine lv_dup2_11 hx hb dX3_oneMore_17 rfl rfl ?_
    refine va_iald hx hb hK hP 2 2 rfl rfl (vp_in_iff.mpr ⟨by omega, by omega⟩) dX3_oneMore_18 ?_
    refine lv_topi (fun x_6 ex_6 => ?_)
    refine lv_iconst (v := 1) hx hb dX3_oneMore_19 (by decide) ?_
    refine lv_iadd hx hb dX3_oneMore_20 ?_
    refine lv_topi (fun x_7 ex_7 => ?_)
    refine va_iast hx hb hK hP hD hS 2 2 rfl rfl (vp_in_iff.mpr ⟨by omega, by omega⟩) dX3_oneMore_21 (fun H locs hP hD hS => ?_)
    obtain ⟨f_8, ef_8⟩ : ∃ gz9 : Nat → Int32, gz9 = upd gf (Int32.toNatClampNeg x_5) x_7 := ⟨_, rfl⟩
    rw [← ef_8] at hP hD
    have hP : va_P (dC, dI) vwCl [(fw, .inl (f1, 30, .inr (.inl gw))), (fe, .inl (f2, 30, .inl ge)), (ff, .inl (f3, 150, .inl f_8)), (h0, .inr (3, [.ref fw, .ref fe, .ref ff, .int z]))] H := hP
    have hD : va_D A [(fw, .inl (f1, 30, .inr (.inl gw))), (fe, .inl (f2, 30, .inl ge)), (ff, .inl (f3, 150, .inl f_8)), (h0, .inr (3, [.ref fw, .ref fe, .ref ff, .int z]))] := hD
    have hP9 := hP.sub (ws' := [(h0, .inr (3, [.ref fw, .ref fe, .ref ff, .int z])), (fw, .inl (f1, 30, .inr (.inl gw))), (fe, .inl (f2, 30, .inl ge)), (ff, .inl (f3, 150, .inl f_8))]) [3, 0, 1, 2] rfl
    have hD9 := hD.sub (ws' := [(h0, .inr (3, [.ref fw, .ref fe, .ref ff, .int z])), (fw, .inl (f1, 30, .inr (.inl gw))), (fe, .inl (f2, 30, .inl ge)), (ff, .inl (f3, 150, .inl f_8))]) [3, 0, 1, 2] (by decide) rfl
    have hK9 := hK.sub (tys' := [(f1, .long), (f2, .int), (f3, .int)]) [0, 1, 2] rfl
    exact W.vret hx hb hr (fun t ht hW => ⟨⟨(f_8), rfl, by rw [ef_8, ex_7, ex_6, zn_5 (y := x_5) (i := i) (w := w) (by omega) (by omega) (by omega)], by rw [ht]; exact hP9, va_K.moved hW.alike hK9, hD9⟩, hS.F ht⟩) hS.2.2 dX3_oneMore_22

end
section
set_option maxHeartbeats 4000000 in
set_option maxRecDepth 100000 in
theorem c_X0_add_x (l : Launch) (dC : Nat → ClassId) (dI : Nat → Nat → Nat) (aK aV : Nat → Nat) (h0 : Nat) (akind : Nat) (anext : Nat) (abefore : Nat) (aleave : Nat) (afirstSlot : Nat) (abuilds : Nat) (akkind : ClassId) (aknext : ClassId) (akbefore : ClassId) (akleave : ClassId) (akfirstSlot : ClassId) (akbuilds : ClassId) (z : Int32) (gkind : Nat → Int32) (gnext : Nat → Int32) (gbefore : Nat → Int32) (gleave : Nat → Int32) (gfirstSlot : Nat → Int32) (gbuilds : Nat → Int32) (ki : Int32) (sl : Int32) (sz : Nat) (hz0 : 0 ≤ z.toInt) (hz1 : z.toInt < 400) (hgn : zx 400 gnext) (hgb : zx 3000 gbefore) (hgl : zx 3000 gleave) (hgs : zx 25 gfirstSlot) (hs0 : -1 ≤ sl.toInt) (hs1 : sl.toInt < 25) : Met l yX0_add (Cond.code yX0_add cX0_add 4 (some .int) :: zw) ({ frames := 8, cells := 0, slots := 0, locals := 200 }) (va_Pc [.ref h0, .int ki, .int sl] (zP dC dI aK aV sz [(akkind, .int), (aknext, .int), (akbefore, .int), (akleave, .int), (akfirstSlot, .int), (akbuilds, .int)] [(h0, .inr (0, [.ref akind, .ref anext, .ref abefore, .ref aleave, .ref afirstSlot, .ref abuilds, .int z])), (akind, .inl (akkind, 400, .inl gkind)), (anext, .inl (aknext, 400, .inl gnext)), (abefore, .inl (akbefore, 400, .inl gbefore)), (aleave, .inl (akleave, 400, .inl gleave)), (afirstSlot, .inl (akfirstSlot, 400, .inl gfirstSlot)), (abuilds, .inl (akbuilds, 400, .inl gbuilds))])) (va_Qi (fun (r : Int32) (u : Int32 × (Nat → Int32) × (Nat → Int32) × (Nat → Int32) × (Nat → Int32) × (Nat → Int32) × (Nat → Int32)) => match u with | (z2, nkind, nnext, nbefore, nleave, nfirstSlot, nbuilds) => (r = z) ∧ (z2.toInt = z.toInt + 1) ∧ (zx 400 nnext) ∧ (zx 3000 nbefore) ∧ (zx 3000 nleave) ∧ (zx 25 nfirstSlot) ∧ (nkind = upd gkind (Int32.toNatClampNeg z) ki) ∧ (nnext = upd gnext (Int32.toNatClampNeg z) (-1)) ∧ (nbefore = upd gbefore (Int32.toNatClampNeg z) (-1)) ∧ (nleave = upd gleave (Int32.toNatClampNeg z) (-1)) ∧ (nfirstSlot = upd gfirstSlot (Int32.toNatClampNeg z) sl) ∧ (nbuilds = upd gbuilds (Int32.toNatClampNeg z) 0)) (fun u => match u with | (z2, nkind, nnext, nbefore, nleave, nfirstSlot, nbuilds) => zQ dC dI (va_A [(h0, .inr (0, [.ref akind, .ref anext, .ref abefore, .ref aleave, .ref afirstSlot, .ref abuilds, .int z])), (akind, .inl (akkind, 400, .inl gkind)), (anext, .inl (aknext, 400, .inl gnext)), (abefore, .inl (akbefore, 400, .inl gbefore)), (aleave, .inl (akleave, 400, .inl gleave)), (afirstSlot, .inl (akfirstSlot, 400, .inl gfirstSlot)), (abuilds, .inl (akbuilds, 400, .inl gbuilds))] sz) [(akkind, .int), (aknext, .int), (akbefore, .int), (akleave, .int), (akfirstSlot, .int), (akbuilds, .int)] [(h0, .inr (0, [.ref akind, .ref anext, .ref abefore, .ref aleave, .ref afirstSlot, .ref abuilds, .int z2])), (akind, .inl (akkind, 400, .inl nkind)), (anext, .inl (aknext, 400, .inl nnext)), (abefore, .inl (akbefore, 400, .inl nbefore)), (aleave, .inl (akleave, 400, .inl nleave)), (afirstSlot, .inl (akfirstSlot, 400, .inl nfirstSlot)), (abuilds, .inl (akbuilds, 400, .inl nbuilds))]) (va_A [(h0, .inr (0, [.ref akind, .ref anext, .ref abefore, .ref aleave, .ref afirstSlot, .ref abuilds, .int z])), (akind, .inl (akkind, 400, .inl gkind)), (anext, .inl (aknext, 400, .inl gnext)), (abefore, .inl (akbefore, 400, .inl gbefore)), (aleave, .inl (akleave, 400, .inl gleave)), (afirstSlot, .inl (akfirstSlot, 400, .inl gfirstSlot)), (abuilds, .inl (akbuilds, 400, .inl gbuilds))] sz)) 0 0 (va_A [(h0, .inr (0, [.ref akind, .ref anext, .ref abefore, .ref aleave, .ref afirstSlot, .ref abuilds, .int z])), (akind, .inl (akkind, 400, .inl gkind)), (anext, .inl (aknext, 400, .inl gnext)), (abefore, .inl (akbefore, 400, .inl gbefore)), (aleave, .inl (akleave, 400, .inl gleave)), (afirstSlot, .inl (akfirstSlot, 400, .inl gfirstSlot)), (abuilds, .inl (akbuilds, 400, .inl gbuilds))] sz) := by
  refine Met.ofW (cc := cX0_add) (maxL := 4) (ret := (some .int)) (by decide) rfl ?_
  intro p e s m args below meth c s₁ B hml hv
  obtain ⟨rfl, hsz, hP, hK, hD0, hN, hT⟩ := hv
  have hx := B.exec
  have hb := B.bytes
  have hr := B.returns
  have hts := atoms_spec (ws := Cond.code yX0_add cX0_add 4 (some .int) :: zw) B.pre
  have hA : ∀ w ∈ zw, w.before _ s = true := fun w h => hts w (List.mem_cons_of_mem _ h)
  have hown : s.vm.findClass RX0 = some m.cls := findClass_of_methodNamed B.named
  have hlocks := B.notSynchronized
  subst hsz
  have hD := hD0.self (sz := s.heap.size)
  generalize hAe : va_A [(h0, .inr (0, [.ref akind, .ref anext, .ref abefore, .ref aleave, .ref afirstSlot, .ref abuilds, .int z])), (akind, .inl (akkind, 400, .inl gkind)), (anext, .inl (aknext, 400, .inl gnext)), (abefore, .inl (akbefore, 400, .inl gbefore)), (aleave, .inl (akleave, 400, .inl gleave)), (afirstSlot, .inl (akfirstSlot, 400, .inl gfirstSlot)), (abuilds, .inl (akbuilds, 400, .inl gbuilds))] s.heap.size = A at hD hT ⊢
  have hAA : ∀ q : Nat, s.heap.size ≤ q → A q := fun q h => by rw [← hAe]; exact Or.inr h
  have hS : va_S A s.heap s.heap [] := va_S.rf
  have hl := lv_entry ([.ref h0, .int ki, .int sl]) (n := 4) (Nat.le_of_ble_eq_true rfl)
  rw [lg_entry_eq]
  generalize (lg_sl ([.ref h0, .int ki, .int sl]) ++ List.replicate (4 - (lg_sl ([.ref h0, .int ki, .int sl])).length) Slot.unset).toArray = ls at hl ⊢
  have hl : lv_has ls 4 [(0, .ref h0), (1, .int ki), (2, .int sl)] := hl
  refine lv_aload_n hx hb dX0_add_0 rfl (lv_at hl 0 rfl) ?_
  refine va_get (D := (dC, dI)) (ci := 0) (v := .int z) (C := RX0) (T := TX0) (N := 7) hx hb hA zin_X0 hown hK hP 0 rfl rfl 6 (by decide) (hA _ wi_247) (fun _ h9 => h9) rfl dX0_add_1 ?_
  refine lv_sipush (v := 400) hx hb dX0_add_4 (by decide) ?_
  refine lv_icmp_lt (tgt := 14) hx hb dX0_add_7 (by decide) (fun c_1 => ?_) (fun c_1 => ?_)
  · have ic_1 : z.toInt < 400 := zi_lt c_1
    refine lv_aload_n hx hb dX0_add_14 rfl (lv_at hl 0 rfl) ?_
    refine va_get (D := (dC, dI)) (ci := 0) (v := .int z) (C := RX0) (T := TX0) (N := 7) hx hb hA zin_X0 hown hK hP 0 rfl rfl 6 (by decide) (hA _ wi_247) (fun _ h9 => h9) rfl dX0_add_15 ?_
    refine lv_istore_n (lv' := [(3, .int z), (0, .ref h0), (1, .int ki), (2, .int sl)]) hx hb dX0_add_18 rfl hl (by decide) rfl (fun ls hl => ?_)
    refine lv_aload_n hx hb dX0_add_19 rfl (lv_at hl 1 rfl) ?_
    refine lv_dup hx hb dX0_add_20 rfl ?_
    refine va_get (D := (dC, dI)) (ci := 0) (v := .int z) (C := RX0) (T := TX0) (N := 7) hx hb hA zin_X0 hown hK hP 0 rfl rfl 6 (by decide) (hA _ wi_247) (fun _ h9 => h9) rfl dX0_add_21 ?_
    refine lv_iconst (v := 1) hx hb dX0_add_24 (by decide) ?_
    refine lv_iadd hx hb dX0_add_25 ?_
    refine lv_topi (fun x_2 ex_2 => ?_)
    have ix_2 : x_2.toInt = z.toInt + 1 := by rw [ex_2]; exact zi_addc (by decide) (by omega) (by omega)
    refine va_put (D := (dC, dI)) (ci := 0) (v := .int x_2) (ty := .int) (C := RX0) (T := TX0) (N := 7) hx hb hA zin_X0 tyX0 tyX0_ok nmX0 hown hK hP hD hS 0 rfl rfl 6 (by decide) (hA _ wi_247) (fun _ h9 => h9) rfl (by decide +kernel) rfl rfl (Nat.le_of_ble_eq_true rfl) dX0_add_26 (fun H locs hP hD hS => ?_)
    have hP : va_P (dC, dI) vwCl [(h0, .inr (0, [.ref akind, .ref anext, .ref abefore, .ref aleave, .ref afirstSlot, .ref abuilds, .int x_2])), (akind, .inl (akkind, 400, .inl gkind)), (anext, .inl (aknext, 400, .inl gnext)), (abefore, .inl (akbefore, 400, .inl gbefore)), (aleave, .inl (akleave, 400, .inl gleave)), (afirstSlot, .inl (akfirstSlot, 400, .inl gfirstSlot)), (abuilds, .inl (akbuilds, 400, .inl gbuilds))] H := hP
    have hD : va_D A [(h0, .inr (0, [.ref akind, .ref anext, .ref abefore, .ref aleave, .ref afirstSlot, .ref abuilds, .int x_2])), (akind, .inl (akkind, 400, .inl gkind)), (anext, .inl (aknext, 400, .inl gnext)), (abefore, .inl (akbefore, 400, .inl gbefore)), (aleave, .inl (akleave, 400, .inl gleave)), (afirstSlot, .inl (akfirstSlot, 400, .inl gfirstSlot)), (abuilds, .inl (akbuilds, 400, .inl gbuilds))] := hD
    refine lv_aload_n hx hb dX0_add_29 rfl (lv_at hl 1 rfl) ?_
    refine va_get (D := (dC, dI)) (ci := 0) (v := .ref akind) (C := RX0) (T := TX0) (N := 7) hx hb hA zin_X0 hown hK hP 0 rfl rfl 0 (by decide) (hA _ wi_227) (fun _ h9 => h9) rfl dX0_add_30 ?_
    refine lv_iload_n hx hb dX0_add_33 rfl (lv_at hl 0 rfl) ?_
    refine lv_iload_n hx hb dX0_add_34 rfl (lv_at hl 2 rfl) ?_
    refine va_iast hx hb hK hP hD hS 1 0 rfl rfl (vp_in_iff.mpr ⟨by omega, by omega⟩) dX0_add_35 (fun H locs hP hD hS => ?_)
    obtain ⟨f_3, ef_3⟩ : ∃ gz9 : Nat → Int32, gz9 = upd gkind (Int32.toNatClampNeg z) ki := ⟨_, rfl⟩
    rw [← ef_3] at hP hD
    have hP : va_P (dC, dI) vwCl [(h0, .inr (0, [.ref akind, .ref anext, .ref abefore, .ref aleave, .ref afirstSlot, .ref abuilds, .int x_2])), (akind, .inl (akkind, 400, .inl f_3)), (anext, .inl (aknext, 400, .inl gnext)), (abefore, .inl (akbefore, 400, .inl gbefore)), (aleave, .inl (akleave, 400, .inl gleave)), (afirstSlot, .inl (akfirstSlot, 400, .inl gfirstSlot)), (abuilds, .inl (akbuilds, 400, .inl gbuilds))] H := hP
    have hD : va_D A [(h0, .inr (0, [.ref akind, .ref anext, .ref abefore, .ref aleave, .ref afirstSlot, .ref abuilds, .int x_2])), (akind, .inl (akkind, 400, .inl f_3)), (anext, .inl (aknext, 400, .inl gnext)), (abefore, .inl (akbefore, 400, .inl gbefore)), (aleave, .inl (akleave, 400, .inl gleave)), (afirstSlot, .inl (akfirstSlot, 400, .inl gfirstSlot)), (abuilds, .inl (akbuilds, 400, .inl gbuilds))] := hD
    refine lv_aload_n hx hb dX0_add_36 rfl (lv_at hl 1 rfl) ?_
    refine va_get (D := (dC, dI)) (ci := 0) (v := .ref anext) (C := RX0) (T := TX0) (N := 7) hx hb hA zin_X0 hown hK hP 0 rfl rfl 1 (by decide) (hA _ wi_231) (fun _ h9 => h9) rfl dX0_add_37 ?_
    refine lv_iload_n hx hb dX0_add_40 rfl (lv_at hl 0 rfl) ?_
    refine lv_iconst (v := (-1)) hx hb dX0_add_41 (by decide) ?_
    refine va_iast hx hb hK hP hD hS 2 1 rfl rfl (vp_in_iff.mpr ⟨by omega, by omega⟩) dX0_add_42 (fun H locs hP hD hS => ?_)
    obtain ⟨f_4, ef_4⟩ : ∃ gz9 : Nat → Int32, gz9 = upd gnext (Int32.toNatClampNeg z) (-1) := ⟨_, rfl⟩
    rw [← ef_4] at hP hD
    have hp_f_4 : zx 400 f_4 := by rw [ef_4]; exact zx_upd hgn (by have h9 : Int32.toInt (-1) = (-1) := (by decide); omega) (by have h9 : Int32.toInt (-1) = (-1) := (by decide); omega)
    have hP : va_P (dC, dI) vwCl [(h0, .inr (0, [.ref akind, .ref anext, .ref abefore, .ref aleave, .ref afirstSlot, .ref abuilds, .int x_2])), (akind, .inl (akkind, 400, .inl f_3)), (anext, .inl (aknext, 400, .inl f_4)), (abefore, .inl (akbefore, 400, .inl gbefore)), (aleave, .inl (akleave, 400, .inl gleave)), (afirstSlot, .inl (akfirstSlot, 400, .inl gfirstSlot)), (abuilds, .inl (akbuilds, 400, .inl gbuilds))] H := hP
    have hD : va_D A [(h0, .inr (0, [.ref akind, .ref anext, .ref abefore, .ref aleave, .ref afirstSlot, .ref abuilds, .int x_2])), (akind, .inl (akkind, 400, .inl f_3)), (anext, .inl (aknext, 400, .inl f_4)), (abefore, .inl (akbefore, 400, .inl gbefore)), (aleave, .inl (akleave, 400, .inl gleave)), (afirstSlot, .inl (akfirstSlot, 400, .inl gfirstSlot)), (abuilds, .inl (akbuilds, 400, .inl gbuilds))] := hD
    refine lv_aload_n hx hb dX0_add_43 rfl (lv_at hl 1 rfl) ?_
    refine va_get (D := (dC, dI)) (ci := 0) (v := .ref abefore) (C := RX0) (T := TX0) (N := 7) hx hb hA zin_X0 hown hK hP 0 rfl rfl 2 (by decide) (hA _ wi_235) (fun _ h9 => h9) rfl dX0_add_44 ?_
    refine lv_iload_n hx hb dX0_add_47 rfl (lv_at hl 0 rfl) ?_
    refine lv_iconst (v := (-1)) hx hb dX0_add_48 (by decide) ?_
    refine va_iast hx hb hK hP hD hS 3 2 rfl rfl (vp_in_iff.mpr ⟨by omega, by omega⟩) dX0_add_49 (fun H locs hP hD hS => ?_)
    obtain ⟨f_5, ef_5⟩ : ∃ gz9 : Nat → Int32, gz9 = upd gbefore (Int32.toNatClampNeg z) (-1) := ⟨_, rfl⟩
    rw [← ef_5] at hP hD
    have hp_f_5 : zx 3000 f_5 := by rw [ef_5]; exact zx_upd hgb (by have h9 : Int32.toInt (-1) = (-1) := (by decide); omega) (by have h9 : Int32.toInt (-1) = (-1) := (by decide); omega)
    have hP : va_P (dC, dI) vwCl [(h0, .inr (0, [.ref akind, .ref anext, .ref abefore, .ref aleave, .ref afirstSlot, .ref abuilds, .int x_2])), (akind, .inl (akkind, 400, .inl f_3)), (anext, .inl (aknext, 400, .inl f_4)), (abefore, .inl (akbefore, 400, .inl f_5)), (aleave, .inl (akleave, 400, .inl gleave)), (afirstSlot, .inl (akfirstSlot, 400, .inl gfirstSlot)), (abuilds, .inl (akbuilds, 400, .inl gbuilds))] H := hP
    have hD : va_D A [(h0, .inr (0, [.ref akind, .ref anext, .ref abefore, .ref aleave, .ref afirstSlot, .ref abuilds, .int x_2])), (akind, .inl (akkind, 400, .inl f_3)), (anext, .inl (aknext, 400, .inl f_4)), (abefore, .inl (akbefore, 400, .inl f_5)), (aleave, .inl (akleave, 400, .inl gleave)), (afirstSlot, .inl (akfirstSlot, 400, .inl gfirstSlot)), (abuilds, .inl (akbuilds, 400, .inl gbuilds))] := hD
    refine lv_aload_n hx hb dX0_add_50 rfl (lv_at hl 1 rfl) ?_
    refine va_get (D := (dC, dI)) (ci := 0) (v := .ref aleave) (C := RX0) (T := TX0) (N := 7) hx hb hA zin_X0 hown hK hP 0 rfl rfl 3 (by decide) (hA _ wi_239) (fun _ h9 => h9) rfl dX0_add_51 ?_
    refine lv_iload_n hx hb dX0_add_54 rfl (lv_at hl 0 rfl) ?_
    refine lv_iconst (v := (-1)) hx hb dX0_add_55 (by decide) ?_
    refine va_iast hx hb hK hP hD hS 4 3 rfl rfl (vp_in_iff.mpr ⟨by omega, by omega⟩) dX0_add_56 (fun H locs hP hD hS => ?_)
    obtain ⟨f_6, ef_6⟩ : ∃ gz9 : Nat → Int32, gz9 = upd gleave (Int32.toNatClampNeg z) (-1) := ⟨_, rfl⟩
    rw [← ef_6] at hP hD
    have hp_f_6 : zx 3000 f_6 := by rw [ef_6]; exact zx_upd hgl (by have h9 : Int32.toInt (-1) = (-1) := (by decide); omega) (by have h9 : Int32.toInt (-1) = (-1) := (by decide); omega)
    have hP : va_P (dC, dI) vwCl [(h0, .inr (0, [.ref akind, .ref anext, .ref abefore, .ref aleave, .ref afirstSlot, .ref abuilds, .int x_2])), (akind, .inl (akkind, 400, .inl f_3)), (anext, .inl (aknext, 400, .inl f_4)), (abefore, .inl (akbefore, 400, .inl f_5)), (aleave, .inl (akleave, 400, .inl f_6)), (afirstSlot, .inl (akfirstSlot, 400, .inl gfirstSlot)), (abuilds, .inl (akbuilds, 400, .inl gbuilds))] H := hP
    have hD : va_D A [(h0, .inr (0, [.ref akind, .ref anext, .ref abefore, .ref aleave, .ref afirstSlot, .ref abuilds, .int x_2])), (akind, .inl (akkind, 400, .inl f_3)), (anext, .inl (aknext, 400, .inl f_4)), (abefore, .inl (akbefore, 400, .inl f_5)), (aleave, .inl (akleave, 400, .inl f_6)), (afirstSlot, .inl (akfirstSlot, 400, .inl gfirstSlot)), (abuilds, .inl (akbuilds, 400, .inl gbuilds))] := hD
    refine lv_aload_n hx hb dX0_add_57 rfl (lv_at hl 1 rfl) ?_
    refine va_get (D := (dC, dI)) (ci := 0) (v := .ref afirstSlot) (C := RX0) (T := TX0) (N := 7) hx hb hA zin_X0 hown hK hP 0 rfl rfl 4 (by decide) (hA _ wi_241) (fun _ h9 => h9) rfl dX0_add_58 ?_
    refine lv_iload_n hx hb dX0_add_61 rfl (lv_at hl 0 rfl) ?_
    refine lv_iload_n hx hb dX0_add_62 rfl (lv_at hl 3 rfl) ?_
    refine va_iast hx hb hK hP hD hS 5 4 rfl rfl (vp_in_iff.mpr ⟨by omega, by omega⟩) dX0_add_63 (fun H locs hP hD hS => ?_)
    obtain ⟨f_7, ef_7⟩ : ∃ gz9 : Nat → Int32, gz9 = upd gfirstSlot (Int32.toNatClampNeg z) sl := ⟨_, rfl⟩
    rw [← ef_7] at hP hD
    have hp_f_7 : zx 25 f_7 := by rw [ef_7]; exact zx_upd hgs (by omega) (by omega)
    have hP : va_P (dC, dI) vwCl [(h0, .inr (0, [.ref akind, .ref anext, .ref abefore, .ref aleave, .ref afirstSlot, .ref abuilds, .int x_2])), (akind, .inl (akkind, 400, .inl f_3)), (anext, .inl (aknext, 400, .inl f_4)), (abefore, .inl (akbefore, 400, .inl f_5)), (aleave, .inl (akleave, 400, .inl f_6)), (afirstSlot, .inl (akfirstSlot, 400, .inl f_7)), (abuilds, .inl (akbuilds, 400, .inl gbuilds))] H := hP
    have hD : va_D A [(h0, .inr (0, [.ref akind, .ref anext, .ref abefore, .ref aleave, .ref afirstSlot, .ref abuilds, .int x_2])), (akind, .inl (akkind, 400, .inl f_3)), (anext, .inl (aknext, 400, .inl f_4)), (abefore, .inl (akbefore, 400, .inl f_5)), (aleave, .inl (akleave, 400, .inl f_6)), (afirstSlot, .inl (akfirstSlot, 400, .inl f_7)), (abuilds, .inl (akbuilds, 400, .inl gbuilds))] := hD
    refine lv_aload_n hx hb dX0_add_64 rfl (lv_at hl 1 rfl) ?_
    refine va_get (D := (dC, dI)) (ci := 0) (v := .ref abuilds) (C := RX0) (T := TX0) (N := 7) hx hb hA zin_X0 hown hK hP 0 rfl rfl 5 (by decide) (hA _ wi_244) (fun _ h9 => h9) rfl dX0_add_65 ?_
    refine lv_iload_n hx hb dX0_add_68 rfl (lv_at hl 0 rfl) ?_
    refine lv_iconst (v := 0) hx hb dX0_add_69 (by decide) ?_
    refine va_iast hx hb hK hP hD hS 6 5 rfl rfl (vp_in_iff.mpr ⟨by omega, by omega⟩) dX0_add_70 (fun H locs hP hD hS => ?_)
    obtain ⟨f_8, ef_8⟩ : ∃ gz9 : Nat → Int32, gz9 = upd gbuilds (Int32.toNatClampNeg z) 0 := ⟨_, rfl⟩
    rw [← ef_8] at hP hD
    have hP : va_P (dC, dI) vwCl [(h0, .inr (0, [.ref akind, .ref anext, .ref abefore, .ref aleave, .ref afirstSlot, .ref abuilds, .int x_2])), (akind, .inl (akkind, 400, .inl f_3)), (anext, .inl (aknext, 400, .inl f_4)), (abefore, .inl (akbefore, 400, .inl f_5)), (aleave, .inl (akleave, 400, .inl f_6)), (afirstSlot, .inl (akfirstSlot, 400, .inl f_7)), (abuilds, .inl (akbuilds, 400, .inl f_8))] H := hP
    have hD : va_D A [(h0, .inr (0, [.ref akind, .ref anext, .ref abefore, .ref aleave, .ref afirstSlot, .ref abuilds, .int x_2])), (akind, .inl (akkind, 400, .inl f_3)), (anext, .inl (aknext, 400, .inl f_4)), (abefore, .inl (akbefore, 400, .inl f_5)), (aleave, .inl (akleave, 400, .inl f_6)), (afirstSlot, .inl (akfirstSlot, 400, .inl f_7)), (abuilds, .inl (akbuilds, 400, .inl f_8))] := hD
    refine lv_iload_n hx hb dX0_add_71 rfl (lv_at hl 0 rfl) ?_
    have hP9 := hP.sub (ws' := [(h0, .inr (0, [.ref akind, .ref anext, .ref abefore, .ref aleave, .ref afirstSlot, .ref abuilds, .int x_2])), (akind, .inl (akkind, 400, .inl f_3)), (anext, .inl (aknext, 400, .inl f_4)), (abefore, .inl (akbefore, 400, .inl f_5)), (aleave, .inl (akleave, 400, .inl f_6)), (afirstSlot, .inl (akfirstSlot, 400, .inl f_7)), (abuilds, .inl (akbuilds, 400, .inl f_8))]) [0, 1, 2, 3, 4, 5, 6] rfl
    have hD9 := hD.sub (ws' := [(h0, .inr (0, [.ref akind, .ref anext, .ref abefore, .ref aleave, .ref afirstSlot, .ref abuilds, .int x_2])), (akind, .inl (akkind, 400, .inl f_3)), (anext, .inl (aknext, 400, .inl f_4)), (abefore, .inl (akbefore, 400, .inl f_5)), (aleave, .inl (akleave, 400, .inl f_6)), (afirstSlot, .inl (akfirstSlot, 400, .inl f_7)), (abuilds, .inl (akbuilds, 400, .inl f_8))]) [0, 1, 2, 3, 4, 5, 6] (by decide) rfl
    have hK9 := hK.sub (tys' := [(akkind, .int), (aknext, .int), (akbefore, .int), (akleave, .int), (akfirstSlot, .int), (akbuilds, .int)]) [0, 1, 2, 3, 4, 5] rfl
    exact W.iret (v := z) hx hb hr (fun t ht hW => ⟨⟨z, (x_2, f_3, f_4, f_5, f_6, f_7, f_8), rfl, ⟨rfl, by omega, hp_f_4, hp_f_5, hp_f_6, hp_f_7, by rw [ef_3], by rw [ef_4], by rw [ef_5], by rw [ef_6], by rw [ef_7], by rw [ef_8]⟩, by rw [ht]; exact hP9, va_K.moved hW.alike hK9, hD9⟩, hS.F ht⟩) hS.2.2 dX0_add_72
  · have ic_1 : 400 ≤ z.toInt := zi_nlt c_1
    exfalso
    omega

end
