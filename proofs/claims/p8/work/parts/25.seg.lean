/-! the code that the parser writes: rows, their heights and scopes -/
theorem zn_nat {x : Int32} (h : 0 ≤ x.toInt) : ((Int32.toNatClampNeg x : Nat) : Int) = x.toInt := by
  show ((x.toInt.toNat : Nat) : Int) = x.toInt
  omega
/-- a chain: -1 at its end, else the number of its first row -/
def zli (nx : Nat → Int32) : Int32 → List Nat → Prop
  | x, [] => x.toInt = -1
  | x, y :: l => x.toInt = (y : Int) ∧ zli nx (nx y) l
/-- the parser's rows, by number -/
def zst (op a b nx ak an ab al af kf ff : Nat → Int32) (cz ct az kz : Int32) : Nat → Nat → Int32
  | 0 => op | 1 => a | 2 => b | 3 => nx | 4 => ak | 5 => an | 6 => ab | 7 => al | 8 => af | 9 => kf | 10 => ff
  | 11 => fun _ => cz | 12 => fun _ => ct | 13 => fun _ => az | 14 => fun _ => kz | _ => fun _ => 0
/-- how many fields a kind has -/
def zfl (S : Nat → Nat → Int32) (k : Int32) : Int := if 0 ≤ k.toInt ∧ k.toInt < (S 14 0).toInt ∧ 0 < (S 9 (Int32.toNatClampNeg k)).toInt then (S 9 (Int32.toNatClampNeg k)).toInt else 0
def zkd (S : Nat → Nat → Int32) (k : Int32) : Prop := k.toInt = -2 ∨ 0 ≤ k.toInt ∧ k.toInt < (S 14 0).toInt ∧ (S 9 (Int32.toNatClampNeg k)).toInt ≠ -1
/-- where a row leads: behind a row of its own stretch -/
def ztg (S : Nat → Nat → Int32) (G : Nat → Nat → Int) (r : Nat) (po : List Nat) (h : Int) : Prop := (S 1 r).toInt = -1 ∨ 0 ≤ (S 1 r).toInt ∧ Int32.toNatClampNeg (S 1 r) ∈ r :: po ∧ G (Int32.toNatClampNeg (S 1 r)) 1 = h ∧ G (Int32.toNatClampNeg (S 1 r)) 3 ≤ G r 2 ∧ G (Int32.toNatClampNeg (S 1 r)) 4 = G r 4
def zarm (S : Nat → Nat → Int32) (G : Nat → Nat → Int) (f r : Nat) (po : List Nat) (m : Nat) : Prop := (m : Int) < (S 13 0).toInt ∧ G m 5 = (r : Int) ∧ zkd S (S 4 m) ∧ (S 8 m).toInt = G r 2 ∧ G r 2 + zfl S (S 4 m) ≤ (S 10 (5 * f + 1)).toInt ∧ 0 ≤ (S 6 m).toInt ∧ Int32.toNatClampNeg (S 6 m) ∈ r :: po ∧ G (Int32.toNatClampNeg (S 6 m)) 1 = G r 0 ∧ G (Int32.toNatClampNeg (S 6 m)) 3 ≤ G r 2 + zfl S (S 4 m) ∧ G (Int32.toNatClampNeg (S 6 m)) 4 = G r 4
/-- what a row of the code keeps: G r: its height, the height behind it, its scope, the scope behind it, its function; G m 5: the match of arm m -/
def zop (S : Nat → Nat → Int32) (G : Nat → Nat → Int) (f r : Nat) (po : List Nat) : Nat → Prop
  | 0 => G r 0 = 100000 ∧ G r 1 = 0 ∧ (S 1 r).toInt = (f : Int) ∧ G r 3 ≤ G r 2 ∧ G r 3 ≤ (S 10 (5 * f)).toInt ∧ (S 0 r).toInt = 0
  | 1 => G r 1 = G r 0 ∧ G r 3 ≤ G r 2
  | 2 => G r 1 = G r 0 + 1 ∧ G r 3 ≤ G r 2
  | 3 => 0 ≤ (S 1 r).toInt ∧ (S 1 r).toInt < G r 2 ∧ G r 1 = G r 0 + 1 ∧ G r 3 ≤ G r 2
  | 4 => 0 ≤ (S 1 r).toInt ∧ (S 1 r).toInt < (S 14 0).toInt ∧ (S 9 (Int32.toNatClampNeg (S 1 r))).toInt = 0 ∧ G r 1 = G r 0 + 1 ∧ G r 3 ≤ G r 2
  | 5 => 0 ≤ (S 1 r).toInt ∧ (S 1 r).toInt < (S 14 0).toInt ∧ 1 ≤ (S 9 (Int32.toNatClampNeg (S 1 r))).toInt ∧ (S 9 (Int32.toNatClampNeg (S 1 r))).toInt ≤ G r 0 ∧ G r 1 = G r 0 - (S 9 (Int32.toNatClampNeg (S 1 r))).toInt + 1 ∧ G r 3 ≤ G r 2
  | 6 => 0 ≤ (S 2 r).toInt ∧ (S 2 r).toInt ≤ G r 0 ∧ G r 1 = G r 0 - (S 2 r).toInt + 1 ∧ G r 3 ≤ G r 2
  | 7 => 1 ≤ (S 2 r).toInt ∧ (S 2 r).toInt ≤ G r 0 ∧ G r 1 = G r 0 - (S 2 r).toInt + 1 ∧ G r 3 ≤ G r 2
  | 8 => 2 ≤ G r 0 ∧ G r 1 = G r 0 - 1 ∧ G r 3 ≤ G r 2
  | 9 => 2 ≤ G r 0 ∧ G r 1 = G r 0 - 1 ∧ G r 3 ≤ G r 2
  | 10 => 2 ≤ G r 0 ∧ G r 1 = G r 0 - 1 ∧ G r 3 ≤ G r 2
  | 11 => 2 ≤ G r 0 ∧ G r 1 = G r 0 - 1 ∧ G r 3 ≤ G r 2
  | 12 => 1 ≤ G r 0 ∧ G r 1 = G r 0 - 1 ∧ (S 1 r).toInt = G r 2 ∧ G r 3 ≤ G r 2 + 1 ∧ G r 2 + 1 ≤ (S 10 (5 * f + 1)).toInt
  | 13 => 1 ≤ G r 0 ∧ G r 1 = G r 0 - 1 ∧ G r 3 ≤ G r 2 ∧ ztg S G r po (G r 0 - 1)
  | 14 => ztg S G r po (G r 0)
  | 15 => 0 ≤ (S 1 r).toInt ∧ (S 1 r).toInt < G r 2 ∧ ∃ AL : List Nat, AL.length ≤ 8 ∧ zli (S 5) (S 2 r) AL ∧ ∀ m ∈ AL, zarm S G f r po m
  | 16 => ztg S G r po (G r 0)
  | 17 => 1 ≤ G r 0
  | _ => False
def zrow (S : Nat → Nat → Int32) (G : Nat → Nat → Int) (f r : Nat) (po : List Nat) : Prop := r ∉ po ∧ 0 ≤ G r 0 ∧ 0 ≤ G r 1 ∧ 0 ≤ G r 2 ∧ 0 ≤ G r 3 ∧ G r 2 ≤ (S 10 (5 * f + 1)).toInt ∧ G r 4 = (f : Int) ∧ zop S G f r po (Int32.toNatClampNeg (S 0 r))
def zseg (S : Nat → Nat → Int32) (G : Nat → Nat → Int) (f : Nat) : List Nat → Prop
  | [] => True
  | r :: po => zrow S G f r po ∧ zseg S G f po
/-- the heights and scopes along a stretch, from (h, c) to (h2, c2) -/
def zco (G : Nat → Nat → Int) : Int → Int → List Nat → Int → Int → Prop
  | h, c, [], h2, c2 => h = h2 ∧ c = c2
  | h, c, r :: l, h2, c2 => G r 0 = h ∧ G r 2 ≤ c ∧ zco G (G r 1) (G r 3) l h2 c2
/-- what stays of the elder rows -/
def zfr (S S2 : Nat → Nat → Int32) (G G2 : Nat → Nat → Int) : Prop :=
  (S 11 0).toInt ≤ (S2 11 0).toInt ∧ (S 13 0).toInt ≤ (S2 13 0).toInt ∧ (S 14 0).toInt ≤ (S2 14 0).toInt ∧
  (∀ r : Nat, (r : Int) < (S 11 0).toInt → S2 0 r = S 0 r ∧ S2 1 r = S 1 r ∧ S2 2 r = S 2 r ∧ ∀ k, k < 5 → G2 r k = G r k) ∧
  (∀ m : Nat, (m : Int) < (S 13 0).toInt → S2 4 m = S 4 m ∧ S2 5 m = S 5 m ∧ S2 6 m = S 6 m ∧ S2 7 m = S 7 m ∧ S2 8 m = S 8 m ∧ G2 m 5 = G m 5) ∧
  (∀ k : Nat, (k : Int) < (S 14 0).toInt → (S 9 k).toInt ≠ -1 → S2 9 k = S 9 k) ∧
  (∀ g : Nat, (S 10 (5 * g + 1)).toInt ≤ (S2 10 (5 * g + 1)).toInt ∧ S2 10 (5 * g) = S 10 (5 * g) ∧ (S2 10 (5 * g + 1) = S 10 (5 * g + 1) ∨ (S2 10 (5 * g + 1)).toInt ≤ 24))
theorem zfr_rf {S : Nat → Nat → Int32} {G : Nat → Nat → Int} : zfr S S G G := ⟨Int.le_refl _, Int.le_refl _, Int.le_refl _, fun _ _ => ⟨rfl, rfl, rfl, fun _ _ => rfl⟩, fun _ _ => ⟨rfl, rfl, rfl, rfl, rfl, rfl⟩, fun _ _ _ => rfl, fun _ => ⟨Int.le_refl _, rfl, Or.inl rfl⟩⟩
theorem zfr_tr {S S1 S2 : Nat → Nat → Int32} {G G1 G2 : Nat → Nat → Int} (a : zfr S S1 G G1) (b : zfr S1 S2 G1 G2) : zfr S S2 G G2 := by
  obtain ⟨a1, a2, a3, a4, a5, a6, a7⟩ := a
  obtain ⟨b1, b2, b3, b4, b5, b6, b7⟩ := b
  refine ⟨by omega, by omega, by omega, fun r hr => ?_, fun m hm => ?_, fun k hk hn => ?_, fun g => ?_⟩
  · obtain ⟨p0, p1, p2, p3⟩ := a4 r hr
    obtain ⟨q0, q1, q2, q3⟩ := b4 r (by omega)
    exact ⟨q0.trans p0, q1.trans p1, q2.trans p2, fun k hk => (q3 k hk).trans (p3 k hk)⟩
  · obtain ⟨p0, p1, p2, p3, p4, p5⟩ := a5 m hm
    obtain ⟨q0, q1, q2, q3, q4, q5⟩ := b5 m (by omega)
    exact ⟨q0.trans p0, q1.trans p1, q2.trans p2, q3.trans p3, q4.trans p4, q5.trans p5⟩
  · have e := a6 k hk hn
    exact (b6 k (by omega) (by rw [e]; exact hn)).trans e
  · obtain ⟨p1, p2, p3⟩ := a7 g
    obtain ⟨q1, q2, q3⟩ := b7 g
    refine ⟨Int.le_trans p1 q1, q2.trans p2, ?_⟩
    rcases q3 with q3 | q3
    · rw [q3]; exact p3
    · exact Or.inr q3
theorem zli_ext {nx nx2 : Nat → Int32} : ∀ {l : List Nat} {x : Int32}, zli nx x l → (∀ r ∈ l, nx2 r = nx r) → zli nx2 x l
  | [], _, h, _ => h
  | y :: l, x, h, he => ⟨h.1, by rw [he y List.mem_cons_self]; exact zli_ext h.2 (fun r hr => he r (List.mem_cons_of_mem _ hr))⟩
theorem zfl_fr {S S2 : Nat → Nat → Int32} {G G2 : Nat → Nat → Int} (hF : zfr S S2 G G2) {k : Int32} (h : zkd S k) : zfl S2 k = zfl S k ∧ zkd S2 k := by
  obtain ⟨a1, a2, a3, a4, a5, a6, a7⟩ := hF
  rcases h with h | ⟨h1, h2, h3⟩
  · refine ⟨?_, Or.inl h⟩
    unfold zfl
    rw [if_neg (by omega), if_neg (by omega)]
  · have hn := zn_nat h1
    have e := a6 (Int32.toNatClampNeg k) (by omega) h3
    refine ⟨?_, Or.inr ⟨h1, by omega, by rw [e]; exact h3⟩⟩
    unfold zfl
    rw [e]
    by_cases g : 0 < (S 9 (Int32.toNatClampNeg k)).toInt
    · rw [if_pos ⟨h1, by omega, g⟩, if_pos ⟨h1, h2, g⟩]
    · rw [if_neg (fun q => g q.2.2), if_neg (fun q => g q.2.2)]
theorem ztg_fr {S S2 : Nat → Nat → Int32} {G G2 : Nat → Nat → Int} {r : Nat} {po po2 : List Nat} {h : Int} (e1 : S2 1 r = S 1 r) (hG : ∀ q ∈ r :: po, ∀ k, k < 5 → G2 q k = G q k) (hs : ∀ q ∈ po, q ∈ po2) (t : ztg S G r po h) : ztg S2 G2 r po2 h := by
  unfold ztg
  rw [e1]
  rcases t with t | ⟨t1, t2, t3, t4⟩
  · exact Or.inl t
  · refine Or.inr ⟨t1, ?_, by rw [hG _ t2 1 (by decide)]; exact t3, by rw [hG _ t2 3 (by decide), hG r List.mem_cons_self 2 (by decide)]; exact t4.1, by rw [hG _ t2 4 (by decide), hG r List.mem_cons_self 4 (by decide)]; exact t4.2⟩
    rcases List.mem_cons.mp t2 with q | q
    · exact List.mem_cons.mpr (Or.inl q)
    · exact List.mem_cons.mpr (Or.inr (hs _ q))
/-- a row keeps what it keeps while the elder rows stay; more rows may come behind -/
theorem zrow_fr {S S2 : Nat → Nat → Int32} {G G2 : Nat → Nat → Int} {f r : Nat} {po po2 : List Nat} (hF : zfr S S2 G G2) (hr : ∀ q ∈ r :: po, (q : Int) < (S 11 0).toInt) (hs : ∀ q ∈ po, q ∈ po2) (hn : r ∉ po2) (h : zrow S G f r po) : zrow S2 G2 f r po2 := by
  have hF0 := hF
  obtain ⟨a1, a2, a3, a4, a5, a6, a7⟩ := hF
  obtain ⟨h1, h2, h3, h4, h5, h6, h7, h8⟩ := h
  have r4 := a4 r (hr r List.mem_cons_self)
  have hG : ∀ q ∈ r :: po, ∀ k, k < 5 → G2 q k = G q k := fun q hq => (a4 q (hr q hq)).2.2.2
  have g0 := r4.2.2.2 0 (by decide)
  have g1 := r4.2.2.2 1 (by decide)
  have g2 := r4.2.2.2 2 (by decide)
  have g3 := r4.2.2.2 3 (by decide)
  have g4 := r4.2.2.2 4 (by decide)
  have e0 := r4.1
  have e1 := r4.2.1
  have e2 := r4.2.2.1
  have a7f : _ ∧ _ := ⟨(a7 f).1, (a7 f).2.1⟩
  refine ⟨hn, by omega, by omega, by omega, by omega, by omega, by omega, ?_⟩
  rw [e0]
  generalize Int32.toNatClampNeg (S 0 r) = n at h8 ⊢
  match n, h8 with
  | 0, h => simp only [zop] at h ⊢; rw [e0, e1, g0, g1, g2, g3, a7f.2]; exact h
  | 1, h => simp only [zop] at h ⊢; rw [g0, g1, g2, g3]; exact h
  | 2, h => simp only [zop] at h ⊢; rw [g0, g1, g2, g3]; exact h
  | 3, h => simp only [zop] at h ⊢; rw [e1, g0, g1, g2, g3]; exact h
  | 4, h =>
    simp only [zop] at h ⊢
    obtain ⟨k1, k2, k3, k4, k5⟩ := h
    have hn := zn_nat k1
    have e9 := a6 (Int32.toNatClampNeg (S 1 r)) (by omega) (by omega)
    rw [e1, g0, g1, g2, g3, e9]
    exact ⟨k1, by omega, k3, k4, k5⟩
  | 5, h =>
    simp only [zop] at h ⊢
    obtain ⟨k1, k2, k3, k4, k5, k6⟩ := h
    have hn := zn_nat k1
    have e9 := a6 (Int32.toNatClampNeg (S 1 r)) (by omega) (by omega)
    rw [e1, g0, g1, g2, g3, e9]
    exact ⟨k1, by omega, k3, k4, k5, k6⟩
  | 6, h => simp only [zop] at h ⊢; rw [e2, g0, g1, g2, g3]; exact h
  | 7, h => simp only [zop] at h ⊢; rw [e2, g0, g1, g2, g3]; exact h
  | 8, h => simp only [zop] at h ⊢; rw [g0, g1, g2, g3]; exact h
  | 9, h => simp only [zop] at h ⊢; rw [g0, g1, g2, g3]; exact h
  | 10, h => simp only [zop] at h ⊢; rw [g0, g1, g2, g3]; exact h
  | 11, h => simp only [zop] at h ⊢; rw [g0, g1, g2, g3]; exact h
  | 12, h => simp only [zop] at h ⊢; rw [e1, g0, g1, g2, g3]; exact ⟨h.1, h.2.1, h.2.2.1, h.2.2.2.1, by omega⟩
  | 13, h => simp only [zop] at h ⊢; rw [g0, g1, g2, g3]; exact ⟨h.1, h.2.1, h.2.2.1, ztg_fr e1 hG hs h.2.2.2⟩
  | 14, h => simp only [zop] at h ⊢; rw [g0]; exact ztg_fr e1 hG hs h
  | 15, h =>
    simp only [zop] at h ⊢
    rw [e1, e2, g2]
    obtain ⟨k1, k2, AL, k3, k4, k5⟩ := h
    refine ⟨k1, k2, AL, k3, zli_ext k4 (fun m hm => (a5 m (k5 m hm).1).2.1), fun m hm => ?_⟩
    obtain ⟨m1, m2, m3, m4, m5, m6, m7, m8, m9⟩ := k5 m hm
    obtain ⟨c4, c5, c6, c7, c8, c9⟩ := a5 m m1
    obtain ⟨d1, d2⟩ := zfl_fr hF0 m3
    unfold zarm
    rw [c4, c6, c8, c9, g0, g2, d1, hG _ m7 1 (by decide), hG _ m7 3 (by decide), hG _ m7 4 (by decide), g4]
    refine ⟨by omega, m2, d2, m4, by omega, m6, ?_, m8, m9⟩
    rcases List.mem_cons.mp m7 with q | q
    · exact List.mem_cons.mpr (Or.inl q)
    · exact List.mem_cons.mpr (Or.inr (hs _ q))
  | 16, h => simp only [zop] at h ⊢; rw [g0]; exact ztg_fr e1 hG hs h
  | 17, h => simp only [zop] at h ⊢; rw [g0]; exact h
  | n + 18, h => exact h.elim
theorem zseg_fr {S S2 : Nat → Nat → Int32} {G G2 : Nat → Nat → Int} {f : Nat} (hF : zfr S S2 G G2) {Y : List Nat} : ∀ {X : List Nat}, (∀ q ∈ X, (q : Int) < (S 11 0).toInt) → (∀ q ∈ X, q ∉ Y) → zseg S G f X → zseg S2 G2 f Y → zseg S2 G2 f (X ++ Y)
  | [], _, _, _, h => h
  | r :: po, hr, hd, h, hy => ⟨zrow_fr hF hr (fun q hq => List.mem_append.mpr (Or.inl hq)) (fun g => (List.mem_append.mp g).elim h.1.1 (hd r List.mem_cons_self)) h.1, zseg_fr hF (fun q hq => hr q (List.mem_cons_of_mem _ hq)) (fun q hq => hd q (List.mem_cons_of_mem _ hq)) h.2 hy⟩
theorem zco_ext {G G2 : Nat → Nat → Int} : ∀ {X : List Nat} {h c h2 c2 : Int}, zco G h c X h2 c2 → (∀ q ∈ X, ∀ k, k < 5 → G2 q k = G q k) → zco G2 h c X h2 c2
  | [], _, _, _, _, k, _ => k
  | r :: l, h, c, h2, c2, k, e => by
    have er := e r List.mem_cons_self
    refine ⟨by rw [er 0 (by decide)]; exact k.1, by rw [er 2 (by decide)]; exact k.2.1, ?_⟩
    rw [er 1 (by decide), er 3 (by decide)]
    exact zco_ext k.2.2 (fun q hq => e q (List.mem_cons_of_mem _ hq))
theorem zco_app {G : Nat → Nat → Int} {Y : List Nat} {h1 c1 h2 c2 : Int} (hy : zco G h1 c1 Y h2 c2) : ∀ {X : List Nat} {h c : Int}, zco G h c X h1 c1 → zco G h c (X ++ Y) h2 c2
  | [], _, _, k => by rw [k.1, k.2]; exact hy
  | _ :: _, _, _, k => ⟨k.1, k.2.1, zco_app hy k.2.2⟩
/-- the last row of a stretch, or d -/
def zla : Nat → List Nat → Nat
  | d, [] => d
  | _, r :: l => zla r l
theorem zla_app : ∀ (X : List Nat) (d : Nat) (Y : List Nat), zla d (X ++ Y) = zla (zla d X) Y
  | [], _, _ => rfl
  | r :: l, _, Y => zla_app l r Y
theorem zla_in : ∀ (X : List Nat) (d : Nat), zla d X = d ∨ zla d X ∈ X
  | [], _ => Or.inl rfl
  | r :: l, _ => Or.inr (by
    show zla r l ∈ r :: l
    rcases zla_in l r with h | h
    · rw [h]; exact List.mem_cons_self
    · exact List.mem_cons_of_mem _ h)
theorem zla_mem {X : List Nat} (h : X ≠ []) (d : Nat) : zla d X ∈ X := by
  cases X with
  | nil => exact (h rfl).elim
  | cons r l =>
    show zla r l ∈ r :: l
    rcases zla_in l r with h | h
    · rw [h]; exact List.mem_cons_self
    · exact List.mem_cons_of_mem _ h
theorem zli_app {nx nx2 : Nat → Int32} {Y : List Nat} : ∀ {X : List Nat} {x : Int32} {d : Nat}, X ≠ [] → X.Nodup → zli nx x X → (∀ r ∈ X, r ≠ zla d X → nx2 r = nx r) → zli nx2 (nx2 (zla d X)) Y → zli nx2 x (X ++ Y)
  | [], _, _, hn, _, _, _, _ => (hn rfl).elim
  | [y], x, d, _, _, h, _, hy => ⟨h.1, hy⟩
  | y :: z :: l, x, d, _, hnd, h, he, hy => by
    have hin : zla y (z :: l) ∈ z :: l := zla_mem (List.cons_ne_nil _ _) y
    have hyl : y ≠ zla d (y :: z :: l) := fun g => (List.nodup_cons.mp hnd).1 (by rw [g]; exact hin)
    refine ⟨h.1, ?_⟩
    rw [he y List.mem_cons_self hyl]
    exact zli_app (d := y) (List.cons_ne_nil _ _) (List.nodup_cons.mp hnd).2 h.2 (fun r hr hne => he r (List.mem_cons_of_mem _ hr) hne) hy
theorem zseg_nd {S : Nat → Nat → Int32} {G : Nat → Nat → Int} {f : Nat} : ∀ {X : List Nat}, zseg S G f X → X.Nodup
  | [], _ => List.nodup_nil
  | _ :: _, h => List.nodup_cons.mpr ⟨h.1.1, zseg_nd h.2⟩
/-- a stretch of code that came behind the tail: X is judged, T (no row, or one) not yet -/
def zE (S S2 : Nat → Nat → Int32) (G G2 : Nat → Nat → Int) (f : Nat) (h c : Int) (X T : List Nat) (h2 c2 : Int) : Prop :=
  zfr S S2 G G2 ∧ (∀ r : Nat, (r : Int) < (S 11 0).toInt → (r : Int) ≠ (S 12 0).toInt → S2 3 r = S 3 r) ∧
  zli (S2 3) (S2 3 (Int32.toNatClampNeg (S 12 0))) (X ++ T) ∧ 0 ≤ (S2 12 0).toInt ∧ zla (Int32.toNatClampNeg (S 12 0)) (X ++ T) = Int32.toNatClampNeg (S2 12 0) ∧
  (∀ r ∈ X ++ T, (S 11 0).toInt ≤ (r : Int) ∧ (r : Int) < (S2 11 0).toInt) ∧ (((X ++ T).length : Nat) : Int) = (S2 11 0).toInt - (S 11 0).toInt ∧ (X ++ T).Nodup ∧
  zseg S2 G2 f X ∧ zco G2 h c X h2 c2
/-- the parser's code as it stands between two rows -/
def zS0 (S : Nat → Nat → Int32) : Prop := 0 ≤ (S 12 0).toInt ∧ (S 12 0).toInt < (S 11 0).toInt ∧ (S 3 (Int32.toNatClampNeg (S 12 0))).toInt = -1
theorem zE_end {S S2 : Nat → Nat → Int32} {G G2 : Nat → Nat → Int} {f : Nat} {h c : Int} {X T : List Nat} {h2 c2 : Int} (h0 : zS0 S) (k : zE S S2 G G2 f h c X T h2 c2) : zS0 S2 := by
  obtain ⟨a, b, d, e, g, i, j, n, m, o⟩ := k
  obtain ⟨p, q, r⟩ := h0
  have hn := zn_nat p
  have hn2 := zn_nat e
  have a1 := a.1
  refine ⟨e, ?_, ?_⟩
  · rcases zla_in (X ++ T) (Int32.toNatClampNeg (S 12 0)) with u | u
    · rw [g] at u; omega
    · rw [g] at u; have := i _ u; omega
  · rw [← g]
    generalize Int32.toNatClampNeg (S 12 0) = d0 at d ⊢
    clear g i j n m o b
    generalize X ++ T = Z at d ⊢
    induction Z generalizing d0 with
    | nil => exact d
    | cons y l ih => exact ih y d.2
theorem zE_tr {S S1 S2 : Nat → Nat → Int32} {G G1 G2 : Nat → Nat → Int} {f : Nat} {h c h1 c1 h2 c2 : Int} {X Y T : List Nat} (h0 : zS0 S) (a : zE S S1 G G1 f h c X [] h1 c1) (b : zE S1 S2 G1 G2 f h1 c1 Y T h2 c2) : zE S S2 G G2 f h c (X ++ Y) T h2 c2 := by
  have hS1 := zE_end h0 a
  obtain ⟨a1, a2, a3, a4, a5, a6, a7, a8, a9, aa⟩ := a
  obtain ⟨b1, b2, b3, b4, b5, b6, b7, b8, b9, ba⟩ := b
  rw [List.append_nil] at a3 a5 a6 a7 a8
  obtain ⟨p0, p1, p2⟩ := h0
  obtain ⟨q0, q1, q2⟩ := hS1
  have hn := zn_nat p0
  have hn1 := zn_nat q0
  have l1 := a1.1
  have l2 := b1.1
  have hdis : ∀ r ∈ X, ∀ q ∈ Y ++ T, r ≠ q := fun r hr q hq e => by
    have u := a6 r hr
    have v := b6 q hq
    subst e; omega
  unfold zE
  rw [List.append_assoc]
  refine ⟨zfr_tr a1 b1, fun r hr hne => ?_, ?_, b4, ?_, fun r hr => ?_, ?_, ?_, ?_, ?_⟩
  · rw [b2 r (by omega) ?_, a2 r hr hne]
    intro e
    rcases zla_in X (Int32.toNatClampNeg (S 12 0)) with u | u
    · rw [a5] at u; rw [u] at hn1; omega
    · rw [a5] at u; have := a6 _ u; omega
  · rcases X with _ | ⟨x, X⟩
    · have e : Int32.toNatClampNeg (S 12 0) = Int32.toNatClampNeg (S1 12 0) := a5
      show zli (S2 3) (S2 3 (Int32.toNatClampNeg (S 12 0))) (Y ++ T)
      rw [e]; exact b3
    · have hne : Int32.toNatClampNeg (S 12 0) ≠ Int32.toNatClampNeg (S1 12 0) := fun e => by
        have u := zla_mem (List.cons_ne_nil x X) (Int32.toNatClampNeg (S 12 0))
        rw [a5] at u; have := a6 _ u; omega
      rw [b2 (Int32.toNatClampNeg (S 12 0)) (by omega) (by omega)]
      refine zli_app (d := Int32.toNatClampNeg (S 12 0)) (List.cons_ne_nil _ _) a8 a3 (fun r hr hne2 => ?_) (by rw [a5]; exact b3)
      have u := a6 r hr
      exact b2 r u.2 (by rw [a5] at hne2; omega)
  · rw [zla_app, a5]; exact b5
  · rcases List.mem_append.mp hr with u | u
    · have := a6 r u; omega
    · have := b6 r u; omega
  · rw [List.length_append]; omega
  · exact List.nodup_append.mpr ⟨a8, b8, hdis⟩
  · exact zseg_fr b1 (fun q hq => (a6 q hq).2) (fun q hq g => hdis q hq q (List.mem_append.mpr (Or.inl g)) rfl) a9 b9
  · exact zco_app ba (zco_ext aa (fun q hq => (b1.2.2.2.1 q (a6 q hq).2).2.2.2))
theorem zE_nil {S : Nat → Nat → Int32} {G : Nat → Nat → Int} {f : Nat} {h c : Int} (h0 : zS0 S) : zE S S G G f h c [] [] h c :=
  ⟨zfr_rf, fun _ _ _ => rfl, h0.2.2, h0.1, rfl, fun _ h => (nomatch h), by show (0 : Int) = _; omega, List.nodup_nil, trivial, rfl, rfl⟩
/-- nothing of the rows has changed -/
theorem zE_id {S S2 : Nat → Nat → Int32} {G : Nat → Nat → Int} {f : Nat} {h c : Int} (h0 : zS0 S) (hF : zfr S S2 G G) (e3 : S2 3 = S 3) (e11 : S2 11 0 = S 11 0) (e12 : S2 12 0 = S 12 0) : zE S S2 G G f h c [] [] h c :=
  ⟨hF, fun _ _ _ => by rw [e3], by rw [e3]; exact h0.2.2, by rw [e12]; exact h0.1, by rw [e12]; rfl, fun _ h => (nomatch h), by show (0 : Int) = _; rw [e11]; omega, List.nodup_nil, trivial, rfl, rfl⟩
/-- a row comes behind the tail -/
def zap (S S2 : Nat → Nat → Int32) (o x : Int32) : Prop := (S2 11 0).toInt = (S 11 0).toInt + 1 ∧ S2 12 0 = S 11 0 ∧ S2 0 = upd (S 0) (Int32.toNatClampNeg (S 11 0)) o ∧ S2 1 = upd (S 1) (Int32.toNatClampNeg (S 11 0)) x ∧ S2 2 = upd (S 2) (Int32.toNatClampNeg (S 11 0)) (-1) ∧ S2 3 = upd (upd (S 3) (Int32.toNatClampNeg (S 11 0)) (S 3 (Int32.toNatClampNeg (S 12 0)))) (Int32.toNatClampNeg (S 12 0)) (S 11 0) ∧ ∀ k, 4 ≤ k → k ≠ 11 → k ≠ 12 → S2 k = S k
theorem zu_s {f : Nat → Int32} {k : Nat} {x : Int32} : upd f k x k = x := pk_us
theorem zu_n {f : Nat → Int32} {k j : Nat} {x : Int32} (h : j ≠ k) : upd f k x j = f j := by unfold upd; rw [if_neg h]
theorem zap_fr {S S2 : Nat → Nat → Int32} {G : Nat → Nat → Int} {o x : Int32} (h0 : zS0 S) (h : zap S S2 o x) : zfr S S2 G G := by
  obtain ⟨h1, h2, h3, h4, h5, h6, h7⟩ := h
  obtain ⟨p0, p1, p2⟩ := h0
  have hn := zn_nat (x := S 11 0) (by omega)
  refine ⟨by omega, by rw [h7 13 (by decide) (by decide) (by decide)]; exact Int.le_refl _, by rw [h7 14 (by decide) (by decide) (by decide)]; exact Int.le_refl _, fun r hr => ?_, fun m _ => ?_, fun k _ _ => ?_, fun g => ?_⟩
  · have hne : r ≠ Int32.toNatClampNeg (S 11 0) := by omega
    rw [h3, h4, h5, zu_n hne, zu_n hne, zu_n hne]
    exact ⟨rfl, rfl, rfl, fun _ _ => rfl⟩
  · rw [h7 4 (by decide) (by decide) (by decide), h7 5 (by decide) (by decide) (by decide), h7 6 (by decide) (by decide) (by decide), h7 7 (by decide) (by decide) (by decide), h7 8 (by decide) (by decide) (by decide)]
    exact ⟨rfl, rfl, rfl, rfl, rfl, rfl⟩
  · rw [h7 9 (by decide) (by decide) (by decide)]
  · rw [h7 10 (by decide) (by decide) (by decide)]
    exact ⟨Int.le_refl _, rfl, Or.inl rfl⟩
theorem zE_ap {S S2 : Nat → Nat → Int32} {G : Nat → Nat → Int} {f : Nat} {h c : Int} {o x : Int32} (h0 : zS0 S) (k : zap S S2 o x) : zE S S2 G G f h c [] [Int32.toNatClampNeg (S 11 0)] h c := by
  have hF := zap_fr (G := G) h0 k
  obtain ⟨h1, h2, h3, h4, h5, h6, h7⟩ := k
  obtain ⟨p0, p1, p2⟩ := h0
  have hn := zn_nat (x := S 11 0) (by omega)
  have hn2 := zn_nat p0
  have hne : Int32.toNatClampNeg (S 11 0) ≠ Int32.toNatClampNeg (S 12 0) := by omega
  refine ⟨hF, fun r hr hr2 => ?_, ⟨?_, ?_⟩, by rw [h2]; omega, by rw [h2]; rfl, fun r hr => ?_, by show (1 : Int) = _; omega, List.nodup_cons.mpr ⟨by intro g; exact (nomatch g), List.nodup_nil⟩, trivial, rfl, rfl⟩
  · rw [h6, zu_n (by omega), zu_n (by omega)]
  · rw [h6, zu_s]; omega
  · show (S2 3 (Int32.toNatClampNeg (S 11 0))).toInt = -1
    rw [h6, zu_n hne, zu_s]; exact p2
  · rcases List.mem_cons.mp hr with e | e
    · rw [e]; omega
    · exact nomatch e
/-- G with another row t -/
def zgu (G : Nat → Nat → Int) (t : Nat) (a b c d e : Int) : Nat → Nat → Int := fun r k => if r = t ∧ k < 5 then (match k with | 0 => a | 1 => b | 2 => c | 3 => d | _ => e) else G r k
theorem zgu_n {G : Nat → Nat → Int} {t : Nat} {a b c d e : Int} {r k : Nat} (h : r ≠ t) : zgu G t a b c d e r k = G r k := by unfold zgu; rw [if_neg (fun g => h g.1)]
theorem zgu_5 {G : Nat → Nat → Int} {t : Nat} {a b c d e : Int} {r : Nat} : zgu G t a b c d e r 5 = G r 5 := by unfold zgu; rw [if_neg (fun g => absurd g.2 (by decide))]
theorem zgu_s {G : Nat → Nat → Int} {t : Nat} {a b c d e : Int} : zgu G t a b c d e t 0 = a ∧ zgu G t a b c d e t 1 = b ∧ zgu G t a b c d e t 2 = c ∧ zgu G t a b c d e t 3 = d ∧ zgu G t a b c d e t 4 = e := by
  refine ⟨?_, ?_, ?_, ?_, ?_⟩ <;> (unfold zgu; rw [if_pos ⟨rfl, by decide⟩]; rfl)
theorem zfr_gu {S S2 : Nat → Nat → Int32} {G G2 : Nat → Nat → Int} {t : Nat} {a b c d e : Int} (hF : zfr S S2 G G2) (ht : (S 11 0).toInt ≤ (t : Int)) : zfr S S2 G (zgu G2 t a b c d e) := by
  obtain ⟨a1, a2, a3, a4, a5, a6, a7⟩ := hF
  refine ⟨a1, a2, a3, fun r hr => ?_, fun m hm => ?_, a6, a7⟩
  · obtain ⟨p, q, w, u⟩ := a4 r hr
    exact ⟨p, q, w, fun k hk => by rw [zgu_n (by omega)]; exact u k hk⟩
  · rw [zgu_5]; exact a5 m hm
/-- rows that do not lead to t don't ask for it -/
theorem zseg_gu {S : Nat → Nat → Int32} {G : Nat → Nat → Int} {f t : Nat} {a b c d e : Int} : ∀ {X : List Nat}, t ∉ X → zseg S G f X → zseg S (zgu G t a b c d e) f X
  | [], _, _ => trivial
  | r :: po, ht, h => by
    refine ⟨?_, zseg_gu (fun g => ht (List.mem_cons_of_mem _ g)) h.2⟩
    have hne : ∀ q ∈ r :: po, q ≠ t := fun q hq e => ht (e ▸ hq)
    have hG : ∀ q ∈ r :: po, ∀ k, k < 5 → zgu G t a b c d e q k = G q k := fun q hq k _ => zgu_n (hne q hq)
    have hr := hG r List.mem_cons_self
    have g0 := hr 0 (by decide)
    have g1 := hr 1 (by decide)
    have g2 := hr 2 (by decide)
    have g3 := hr 3 (by decide)
    have g4 := hr 4 (by decide)
    obtain ⟨h1, h2, h3, h4, h5, h6, h7, h8⟩ := h.1
    refine ⟨h1, by omega, by omega, by omega, by omega, by omega, by omega, ?_⟩
    generalize Int32.toNatClampNeg (S 0 r) = n at h8 ⊢
    match n, h8 with
    | 0, h => simp only [zop] at h ⊢; rw [g0, g1, g2, g3]; exact h
    | 1, h => simp only [zop] at h ⊢; rw [g0, g1, g2, g3]; exact h
    | 2, h => simp only [zop] at h ⊢; rw [g0, g1, g2, g3]; exact h
    | 3, h => simp only [zop] at h ⊢; rw [g0, g1, g2, g3]; exact h
    | 4, h => simp only [zop] at h ⊢; rw [g0, g1, g2, g3]; exact h
    | 5, h => simp only [zop] at h ⊢; rw [g0, g1, g2, g3]; exact h
    | 6, h => simp only [zop] at h ⊢; rw [g0, g1, g2, g3]; exact h
    | 7, h => simp only [zop] at h ⊢; rw [g0, g1, g2, g3]; exact h
    | 8, h => simp only [zop] at h ⊢; rw [g0, g1, g2, g3]; exact h
    | 9, h => simp only [zop] at h ⊢; rw [g0, g1, g2, g3]; exact h
    | 10, h => simp only [zop] at h ⊢; rw [g0, g1, g2, g3]; exact h
    | 11, h => simp only [zop] at h ⊢; rw [g0, g1, g2, g3]; exact h
    | 12, h => simp only [zop] at h ⊢; rw [g0, g1, g2, g3]; exact h
    | 13, h => simp only [zop] at h ⊢; rw [g0, g1, g2, g3]; exact ⟨h.1, h.2.1, h.2.2.1, ztg_fr rfl hG (fun _ g => g) h.2.2.2⟩
    | 14, h => simp only [zop] at h ⊢; rw [g0]; exact ztg_fr rfl hG (fun _ g => g) h
    | 15, h =>
      simp only [zop] at h ⊢
      rw [g2]
      obtain ⟨k1, k2, AL, k3, k4, k5⟩ := h
      refine ⟨k1, k2, AL, k3, k4, fun m hm => ?_⟩
      obtain ⟨m1, m2, m3, m4, m5, m6, m7, m8, m9⟩ := k5 m hm
      unfold zarm
      rw [zgu_5, g0, g2, hG _ m7 1 (by decide), hG _ m7 3 (by decide), hG _ m7 4 (by decide), g4]
      exact ⟨m1, m2, m3, m4, m5, m6, m7, m8, m9⟩
    | 16, h => simp only [zop] at h ⊢; rw [g0]; exact ztg_fr rfl hG (fun _ g => g) h
    | 17, h => simp only [zop] at h ⊢; rw [g0]; exact h
    | n + 18, h => exact h.elim
/-- the row that was not judged yet -/
theorem zE_judge {S S2 : Nat → Nat → Int32} {G G2 : Nat → Nat → Int} {f t : Nat} {h c h1 c1 : Int} {X : List Nat} {b c2 d : Int} (k : zE S S2 G G2 f h c X [t] h1 c1) (hc : c2 ≤ c1) (hz : zrow S2 (zgu G2 t h1 b c2 d (f : Int)) f t []) : zE S S2 G (zgu G2 t h1 b c2 d (f : Int)) f h c (X ++ [t]) [] b d := by
  obtain ⟨a1, a2, a3, a4, a5, a6, a7, a8, a9, aa⟩ := k
  have htX : t ∉ X := fun g => (List.nodup_append.mp a8).2.2 t g t List.mem_cons_self rfl
  have hs := zgu_s (G := G2) (t := t) (a := h1) (b := b) (c := c2) (d := d) (e := (f : Int))
  unfold zE
  rw [List.append_nil]
  refine ⟨zfr_gu a1 (a6 t (List.mem_append.mpr (Or.inr List.mem_cons_self))).1, a2, a3, a4, a5, a6, a7, a8, ?_, ?_⟩
  · exact zseg_fr zfr_rf (fun q hq => (a6 q (List.mem_append.mpr (Or.inl hq))).2) (fun q hq g => by
      rcases List.mem_cons.mp g with e | e
      · exact htX (e ▸ hq)
      · exact nomatch e) (zseg_gu htX a9) ⟨hz, trivial⟩
  · refine zco_app (G := zgu G2 t h1 b c2 d (f : Int)) (Y := [t]) (h1 := h1) (c1 := c1) ⟨hs.1, by rw [hs.2.2.1]; exact hc, hs.2.1, hs.2.2.2.1⟩ (zco_ext aa (fun q hq k _ => zgu_n (fun e => htX (e ▸ hq))))
/-- a row is put ahead of a stretch -/
def zins (S S1 S2 : Nat → Nat → Int32) : Prop := (S2 11 0).toInt = (S1 11 0).toInt + 1 ∧ S2 12 0 = S1 12 0 ∧ S2 0 = upd (S1 0) (Int32.toNatClampNeg (S1 11 0)) 1 ∧ S2 1 = upd (S1 1) (Int32.toNatClampNeg (S1 11 0)) (-1) ∧ S2 2 = upd (S1 2) (Int32.toNatClampNeg (S1 11 0)) (-1) ∧ S2 3 = upd (upd (S1 3) (Int32.toNatClampNeg (S1 11 0)) (S1 3 (Int32.toNatClampNeg (S 12 0)))) (Int32.toNatClampNeg (S 12 0)) (S1 11 0) ∧ ∀ k, 4 ≤ k → k ≠ 11 → k ≠ 12 → S2 k = S1 k
theorem zE_ins {S S1 S2 : Nat → Nat → Int32} {G G1 : Nat → Nat → Int} {f : Nat} {h c h2 c2 : Int} {X : List Nat} (h0 : zS0 S) (hh : 0 ≤ h) (hc : 0 ≤ c) (hm : c ≤ (S 10 (5 * f + 1)).toInt) (hX : X ≠ []) (k : zE S S1 G G1 f h c X [] h2 c2) (i : zins S S1 S2) : ∃ r G2, zE S S2 G G2 f h c (r :: X) [] h2 c2 := by
  have hS1 := zE_end h0 k
  obtain ⟨a1, a2, a3, a4, a5, a6, a7, a8, a9, aa⟩ := k
  obtain ⟨i1, i2, i3, i4, i5, i6, i7⟩ := i
  obtain ⟨p0, p1, p2⟩ := h0
  rw [List.append_nil] at a3 a5 a6 a7 a8
  have n0 := zn_nat p0
  have n1 := zn_nat (x := S1 11 0) (by have := a1.1; omega)
  have l1 := a1.1
  generalize hr0 : Int32.toNatClampNeg (S1 11 0) = r at *
  have hrX : r ∉ X := fun g => by have := a6 r g; omega
  have hF2 : zfr S1 S2 G1 (zgu G1 r h h c c (f : Int)) := by
    refine zfr_gu (G2 := G1) ⟨by omega, by rw [i7 13 (by decide) (by decide) (by decide)]; exact Int.le_refl _, by rw [i7 14 (by decide) (by decide) (by decide)]; exact Int.le_refl _, fun q hq => ?_, fun m _ => ?_, fun k _ _ => ?_, fun g => ?_⟩ (by omega)
    · have hne : q ≠ r := by omega
      rw [i3, i4, i5, zu_n hne, zu_n hne, zu_n hne]
      exact ⟨rfl, rfl, rfl, fun _ _ => rfl⟩
    · rw [i7 4 (by decide) (by decide) (by decide), i7 5 (by decide) (by decide) (by decide), i7 6 (by decide) (by decide) (by decide), i7 7 (by decide) (by decide) (by decide), i7 8 (by decide) (by decide) (by decide)]
      exact ⟨rfl, rfl, rfl, rfl, rfl, rfl⟩
    · rw [i7 9 (by decide) (by decide) (by decide)]
    · rw [i7 10 (by decide) (by decide) (by decide)]
      exact ⟨Int.le_refl _, rfl, Or.inl rfl⟩
  have hs := zgu_s (G := G1) (t := r) (a := h) (b := h) (c := c) (d := c) (e := (f : Int))
  have hd0 : Int32.toNatClampNeg (S 12 0) ≠ r := by omega
  have hdX : Int32.toNatClampNeg (S 12 0) ∉ X := fun g => by have := a6 _ g; omega
  refine ⟨r, zgu G1 r h h c c (f : Int), ?_⟩
  unfold zE
  rw [List.append_nil]
  refine ⟨zfr_tr a1 hF2, fun q hq hne => ?_, ⟨?_, ?_⟩, by rw [i2]; exact a4, ?_, fun q hq => ?_, ?_, List.nodup_cons.mpr ⟨hrX, a8⟩, ⟨?_, ?_⟩, ⟨hs.1, by rw [hs.2.2.1]; exact Int.le_refl _, ?_⟩⟩
  · rw [i6, zu_n (by omega), zu_n (by omega), a2 q hq hne]
  · rw [i6, zu_s]; omega
  · show zli (S2 3) (S2 3 r) X
    have e1 : S2 3 r = S1 3 (Int32.toNatClampNeg (S 12 0)) := by rw [i6, zu_n (Ne.symm hd0), zu_s]
    rw [e1]
    exact zli_ext a3 (fun q hq => by rw [i6, zu_n (show q ≠ Int32.toNatClampNeg (S 12 0) from fun e => hdX (e ▸ hq)), zu_n (show q ≠ r from fun e => hrX (e ▸ hq))])
  · rw [i2, ← a5]
    cases X with
    | nil => exact (hX rfl).elim
    | cons x X => simp only [zla]
  · rcases List.mem_cons.mp hq with e | e
    · rw [e]; omega
    · have := a6 q e; omega
  · show ((X.length + 1 : Nat) : Int) = _
    omega
  · refine ⟨hrX, by rw [hs.1]; exact hh, by rw [hs.2.1]; exact hh, by rw [hs.2.2.1]; exact hc, by rw [hs.2.2.2.1]; exact hc, ?_, hs.2.2.2.2, ?_⟩
    · rw [hs.2.2.1]
      have u := (a1.2.2.2.2.2.2 f).1
      have v := (hF2.2.2.2.2.2.2 f).1
      omega
    · have e : Int32.toNatClampNeg (S2 0 r) = 1 := by rw [i3, zu_s]; rfl
      rw [e]
      simp only [zop]
      exact ⟨by rw [hs.1, hs.2.1], by rw [hs.2.2.1, hs.2.2.2.1]; exact Int.le_refl _⟩
  · have := zseg_fr (Y := []) hF2 (fun q hq => (a6 q hq).2) (fun q _ g => nomatch g) a9 trivial
    rw [List.append_nil] at this
    exact this
  · rw [hs.2.1, hs.2.2.2.1]
    exact zco_ext aa (fun q hq k _ => zgu_n (fun e => hrX (e ▸ hq)))
