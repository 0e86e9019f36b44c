theorem zco_last {G : Nat → Nat → Int} : ∀ {X : List Nat} {h c h2 c2 : Int} (d : Nat), X ≠ [] → zco G h c X h2 c2 → G (zla d X) 1 = h2 ∧ G (zla d X) 3 = c2
  | [], _, _, _, _, _, hn, _ => (hn rfl).elim
  | [r], _, _, _, _, _, _, k => ⟨k.2.2.1, k.2.2.2⟩
  | r :: s :: l, _, _, _, _, _, _, k => zco_last r (List.cons_ne_nil s l) k.2.2
theorem zop_low {S : Nat → Nat → Int32} {G G3 : Nat → Nat → Int} {f r : Nat} {po : List Nat} (he : ∀ q k, k ≠ 3 → G3 q k = G q k) (hl : ∀ q, G3 q 3 ≤ G q 3) : ∀ n, zop S G f r po n → zop S G3 f r po n := by
  have g0 := he r 0 (by decide)
  have g1 := he r 1 (by decide)
  have g2 := he r 2 (by decide)
  have g3 := hl r
  have tg : ∀ h, ztg S G r po h → ztg S G3 r po h := fun h t => by
    unfold ztg
    rcases t with t | ⟨t1, t2, t3, t4⟩
    · exact Or.inl t
    · have := hl (Int32.toNatClampNeg (S 1 r))
      exact Or.inr ⟨t1, t2, by rw [he _ 1 (by decide)]; exact t3, by omega, by rw [he _ 4 (by decide), he _ 4 (by decide)]; exact t4.2⟩
  intro n h
  match n, h with
  | 0, h => simp only [zop] at h ⊢; rw [g0, g1, g2]; exact ⟨h.1, h.2.1, h.2.2.1, by omega, by omega, h.2.2.2.2.2⟩
  | 1, h => simp only [zop] at h ⊢; rw [g0, g1, g2]; exact ⟨h.1, by omega⟩
  | 2, h => simp only [zop] at h ⊢; rw [g0, g1, g2]; exact ⟨h.1, by omega⟩
  | 3, h => simp only [zop] at h ⊢; rw [g0, g1, g2]; exact ⟨h.1, h.2.1, h.2.2.1, by omega⟩
  | 4, h => simp only [zop] at h ⊢; rw [g0, g1, g2]; exact ⟨h.1, h.2.1, h.2.2.1, h.2.2.2.1, by omega⟩
  | 5, h => simp only [zop] at h ⊢; rw [g0, g1, g2]; exact ⟨h.1, h.2.1, h.2.2.1, h.2.2.2.1, h.2.2.2.2.1, by omega⟩
  | 6, h => simp only [zop] at h ⊢; rw [g0, g1, g2]; exact ⟨h.1, h.2.1, h.2.2.1, by omega⟩
  | 7, h => simp only [zop] at h ⊢; rw [g0, g1, g2]; exact ⟨h.1, h.2.1, h.2.2.1, by omega⟩
  | 8, h => simp only [zop] at h ⊢; rw [g0, g1, g2]; exact ⟨h.1, h.2.1, by omega⟩
  | 9, h => simp only [zop] at h ⊢; rw [g0, g1, g2]; exact ⟨h.1, h.2.1, by omega⟩
  | 10, h => simp only [zop] at h ⊢; rw [g0, g1, g2]; exact ⟨h.1, h.2.1, by omega⟩
  | 11, h => simp only [zop] at h ⊢; rw [g0, g1, g2]; exact ⟨h.1, h.2.1, by omega⟩
  | 12, h => simp only [zop] at h ⊢; rw [g0, g1, g2]; exact ⟨h.1, h.2.1, h.2.2.1, by omega, h.2.2.2.2⟩
  | 13, h => simp only [zop] at h ⊢; rw [g0, g1, g2]; exact ⟨h.1, h.2.1, by omega, tg _ h.2.2.2⟩
  | 14, h => simp only [zop] at h ⊢; rw [g0]; exact tg _ h
  | 15, h =>
    simp only [zop] at h ⊢
    rw [g2]
    obtain ⟨k1, k2, AL, k3, k4, k5⟩ := h
    refine ⟨k1, k2, AL, k3, k4, fun m hm => ?_⟩
    obtain ⟨m1, m2, m3, m4, m5, m6, m7, m8, m9⟩ := k5 m hm
    have := hl (Int32.toNatClampNeg (S 6 m))
    unfold zarm
    rw [he m 5 (by decide), g0, g2, he _ 1 (by decide)]
    exact ⟨m1, m2, m3, m4, m5, m6, m7, m8, by omega, by rw [he _ 4 (by decide), he _ 4 (by decide)]; exact m9.2⟩
  | 16, h => simp only [zop] at h ⊢; rw [g0]; exact tg _ h
  | 17, h => simp only [zop] at h ⊢; rw [g0]; exact h
  | n + 18, h => exact h.elim
theorem zseg_low {S : Nat → Nat → Int32} {G G3 : Nat → Nat → Int} {f : Nat} (he : ∀ q k, k ≠ 3 → G3 q k = G q k) (hl : ∀ q, G3 q 3 ≤ G q 3) : ∀ {X : List Nat}, (∀ q ∈ X, 0 ≤ G3 q 3) → zseg S G f X → zseg S G3 f X
  | [], _, _ => trivial
  | r :: po, h0, h => by
    obtain ⟨h1, h2, h3, h4, h5, h6, h7, h8⟩ := h.1
    refine ⟨⟨h1, by rw [he r 0 (by decide)]; exact h2, by rw [he r 1 (by decide)]; exact h3, by rw [he r 2 (by decide)]; exact h4, h0 r List.mem_cons_self, by rw [he r 2 (by decide)]; exact h6, by rw [he r 4 (by decide)]; exact h7, zop_low he hl _ h8⟩, zseg_low he hl (fun q hq => h0 q (List.mem_cons_of_mem _ hq)) h.2⟩
theorem zco_low {G G3 : Nat → Nat → Int} {t : Nat} {c3 : Int} (he : ∀ q k, ¬ (q = t ∧ k = 3) → G3 q k = G q k) (ht : G3 t 3 = c3) : ∀ {X : List Nat} {h c h2 c2 : Int} (d : Nat), X ≠ [] → X.Nodup → zla d X = t → zco G h c X h2 c2 → zco G3 h c X h2 c3
  | [], _, _, _, _, _, hn, _, _, _ => (hn rfl).elim
  | [r], h, c, h2, c2, d, _, _, e, k => by
    have e : r = t := e
    subst e
    refine ⟨by rw [he r 0 (fun g => absurd g.2 (by decide))]; exact k.1, by rw [he r 2 (fun g => absurd g.2 (by decide))]; exact k.2.1, by rw [he r 1 (fun g => absurd g.2 (by decide))]; exact k.2.2.1, ht⟩
  | r :: s :: l, h, c, h2, c2, d, _, hn, e, k => by
    have hrt : r ≠ t := fun g => (List.nodup_cons.mp hn).1 (by rw [g, ← e]; exact zla_mem (List.cons_ne_nil s l) r)
    have hq : ∀ k, G3 r k = G r k := fun k => he r k (fun g => hrt g.1)
    refine ⟨by rw [hq]; exact k.1, by rw [hq]; exact k.2.1, ?_⟩
    rw [hq, hq]
    exact zco_low he ht r (List.cons_ne_nil s l) (List.nodup_cons.mp hn).2 e k.2.2
theorem zE_low {S S2 : Nat → Nat → Int32} {G G2 : Nat → Nat → Int} {f : Nat} {h c h2 c2 c3 : Int} {X : List Nat} (k : zE S S2 G G2 f h c X [] h2 c2) (hX : X ≠ []) (hc : c3 ≤ c2) (h3 : 0 ≤ c3) : ∃ G3, zE S S2 G G3 f h c X [] h2 c3 := by
  obtain ⟨a1, a2, a3, a4, a5, a6, a7, a8, a9, aa⟩ := k
  rw [List.append_nil] at a3 a5 a6 a7 a8
  have hl := zco_last (Int32.toNatClampNeg (S 12 0)) hX aa
  have hm := zla_mem hX (Int32.toNatClampNeg (S 12 0))
  generalize ht : zla (Int32.toNatClampNeg (S 12 0)) X = t at hl hm
  have htc := (a6 t hm).1
  have he : ∀ q k, ¬ (q = t ∧ k = 3) → (fun q k => if q = t ∧ k = 3 then c3 else G2 q k : Nat → Nat → Int) q k = G2 q k := fun q k g => if_neg g
  have hs : (fun q k => if q = t ∧ k = 3 then c3 else G2 q k : Nat → Nat → Int) t 3 = c3 := if_pos ⟨rfl, rfl⟩
  generalize (fun q k => if q = t ∧ k = 3 then c3 else G2 q k : Nat → Nat → Int) = G3 at he hs
  have hall : ∀ r ∈ X, 0 ≤ G2 r 3 := by
    clear a3 a5 a6 a7 a8 aa hl hm ht hX
    induction X with
    | nil => intro r hr; exact nomatch hr
    | cons x X ih =>
      intro r hr
      rcases List.mem_cons.mp hr with e | e
      · rw [e]; exact a9.1.2.2.2.2.1
      · exact ih a9.2 r e
  refine ⟨G3, ?_⟩
  unfold zE
  rw [List.append_nil]
  obtain ⟨b1, b2, b3, b4, b5, b6, b7⟩ := a1
  refine ⟨⟨b1, b2, b3, fun r hr => ?_, fun m hm => ?_, b6, b7⟩, a2, a3, a4, by rw [ht]; exact ht ▸ a5, a6, a7, a8, ?_, zco_low he hs _ hX a8 ht aa⟩
  · obtain ⟨p, q, w, u⟩ := b4 r hr
    exact ⟨p, q, w, fun k hk => by rw [he r k (fun g => by omega)]; exact u k hk⟩
  · rw [he m 5 (fun g => absurd g.2 (by decide))]; exact b5 m hm
  · refine zseg_low (fun q k hk => he q k (fun g => hk g.2)) (fun q => ?_) (fun q hq => ?_) a9
    · by_cases g : q = t
      · rw [g, hs]; omega
      · rw [he q 3 (fun u => g u.1)]; exact Int.le_refl _
    · by_cases g : q = t
      · rw [g, hs]; exact h3
      · rw [he q 3 (fun u => g u.1)]; exact hall q hq
/-- a row asks for its own numbers alone -/
theorem zrow_cg {S S2 : Nat → Nat → Int32} {G : Nat → Nat → Int} {f q : Nat} {po : List Nat} (e0 : S2 0 q = S 0 q) (e1 : S2 1 q = S 1 q) (e2 : S2 2 q = S 2 q) (hk : ∀ k, 4 ≤ k → k ≠ 7 → k ≠ 11 → k ≠ 12 → S2 k = S k) (h : zrow S G f q po) : zrow S2 G f q po := by
  have h4 := hk 4 (by decide) (by decide) (by decide) (by decide)
  have h5 := hk 5 (by decide) (by decide) (by decide) (by decide)
  have h6 := hk 6 (by decide) (by decide) (by decide) (by decide)
  have h8 := hk 8 (by decide) (by decide) (by decide) (by decide)
  have h9 := hk 9 (by decide) (by decide) (by decide) (by decide)
  have h10 := hk 10 (by decide) (by decide) (by decide) (by decide)
  have h13 := hk 13 (by decide) (by decide) (by decide) (by decide)
  have h14 := hk 14 (by decide) (by decide) (by decide) (by decide)
  obtain ⟨a1, a2, a3, a4, a5, a6, a7, a8⟩ := h
  refine ⟨a1, a2, a3, a4, a5, by rw [h10]; exact a6, a7, ?_⟩
  rw [e0]
  generalize Int32.toNatClampNeg (S 0 q) = n at a8 ⊢
  have tg : ∀ h, ztg S G q po h → ztg S2 G q po h := fun h t => by unfold ztg; rw [e1]; exact t
  match n, a8 with
  | 0, h => simp only [zop] at h ⊢; rw [e0, e1, h10]; exact h
  | 1, h => simp only [zop] at h ⊢; exact h
  | 2, h => simp only [zop] at h ⊢; exact h
  | 3, h => simp only [zop] at h ⊢; rw [e1]; exact h
  | 4, h => simp only [zop] at h ⊢; rw [e1, h9, h14]; exact h
  | 5, h => simp only [zop] at h ⊢; rw [e1, h9, h14]; exact h
  | 6, h => simp only [zop] at h ⊢; rw [e2]; exact h
  | 7, h => simp only [zop] at h ⊢; rw [e2]; exact h
  | 8, h => simp only [zop] at h ⊢; exact h
  | 9, h => simp only [zop] at h ⊢; exact h
  | 10, h => simp only [zop] at h ⊢; exact h
  | 11, h => simp only [zop] at h ⊢; exact h
  | 12, h => simp only [zop] at h ⊢; rw [e1, h10]; exact h
  | 13, h => simp only [zop] at h ⊢; exact ⟨h.1, h.2.1, h.2.2.1, tg _ h.2.2.2⟩
  | 14, h => simp only [zop] at h ⊢; exact tg _ h
  | 15, h =>
    simp only [zop] at h ⊢
    rw [e1, e2, h5]
    obtain ⟨k1, k2, AL, k3, k4, k5⟩ := h
    refine ⟨k1, k2, AL, k3, k4, fun m hm => ?_⟩
    have u := k5 m hm
    unfold zarm zkd zfl at u ⊢
    rw [h13, h4, h8, h10, h6, h14, h9]
    exact u
  | 16, h => simp only [zop] at h ⊢; exact tg _ h
  | 17, h => simp only [zop] at h ⊢; exact h
  | n + 18, h => exact h.elim
theorem zseg_cg {S S2 : Nat → Nat → Int32} {G : Nat → Nat → Int} {f : Nat} (hk : ∀ k, 4 ≤ k → k ≠ 7 → k ≠ 11 → k ≠ 12 → S2 k = S k) : ∀ {X : List Nat}, (∀ q ∈ X, S2 0 q = S 0 q ∧ S2 1 q = S 1 q ∧ S2 2 q = S 2 q) → zseg S G f X → zseg S2 G f X
  | [], _, _ => trivial
  | r :: po, he, h => ⟨zrow_cg (he r List.mem_cons_self).1 (he r List.mem_cons_self).2.1 (he r List.mem_cons_self).2.2 hk h.1, zseg_cg hk (fun q hq => he q (List.mem_cons_of_mem _ hq)) h.2⟩
theorem zseg_at {S S2 : Nat → Nat → Int32} {G : Nat → Nat → Int} {f r : Nat} {Q : List Nat} (hk : ∀ k, 4 ≤ k → k ≠ 7 → k ≠ 11 → k ≠ 12 → S2 k = S k) (he : ∀ q, q ≠ r → S2 0 q = S 0 q ∧ S2 1 q = S 1 q ∧ S2 2 q = S 2 q) (hz : zrow S2 G f r Q) : ∀ {P : List Nat}, (P ++ r :: Q).Nodup → zseg S G f (P ++ r :: Q) → zseg S2 G f (P ++ r :: Q)
  | [], hn, h => ⟨hz, zseg_cg hk (fun q hq => he q (fun e => (List.nodup_cons.mp hn).1 (e ▸ hq))) h.2⟩
  | p :: P, hn, h => by
    have hp : p ≠ r := fun e => (List.nodup_cons.mp hn).1 (by rw [e]; exact List.mem_append.mpr (Or.inr List.mem_cons_self))
    exact ⟨zrow_cg (he p hp).1 (he p hp).2.1 (he p hp).2.2 hk h.1, zseg_at hk he hz (List.nodup_cons.mp hn).2 h.2⟩
/-- one row's numbers are written anew -/
theorem zE_patch {S S1 S2 : Nat → Nat → Int32} {G G1 : Nat → Nat → Int} {f r : Nat} {h c h2 c2 : Int} {P Q : List Nat} (k : zE S S1 G G1 f h c (P ++ r :: Q) [] h2 c2) (h3 : S2 3 = S1 3) (h11 : S2 11 = S1 11) (h12 : S2 12 = S1 12) (hk : ∀ k, 4 ≤ k → k ≠ 11 → k ≠ 12 → S2 k = S1 k) (he : ∀ q, q ≠ r → S2 0 q = S1 0 q ∧ S2 1 q = S1 1 q ∧ S2 2 q = S1 2 q) (hz : zrow S2 G1 f r Q) : zE S S2 G G1 f h c (P ++ r :: Q) [] h2 c2 := by
  obtain ⟨a1, a2, a3, a4, a5, a6, a7, a8, a9, aa⟩ := k
  have hr := (a6 r (by rw [List.append_nil]; exact List.mem_append.mpr (Or.inr List.mem_cons_self))).1
  obtain ⟨b1, b2, b3, b4, b5, b6, b7⟩ := a1
  unfold zE
  rw [h3, h11, h12]
  refine ⟨⟨by rw [h11]; exact b1, by rw [hk 13 (by decide) (by decide) (by decide)]; exact b2, by rw [hk 14 (by decide) (by decide) (by decide)]; exact b3, fun q hq => ?_, fun m hm => ?_, ?_, ?_⟩, a2, a3, a4, a5, a6, a7, a8, zseg_at (fun k k1 _ k2 k3 => hk k k1 k2 k3) he hz (by rw [List.append_nil] at a8; exact a8) a9, aa⟩
  · obtain ⟨e0, e1, e2⟩ := he q (by omega)
    rw [e0, e1, e2]; exact b4 q hq
  · rw [hk 4 (by decide) (by decide) (by decide), hk 5 (by decide) (by decide) (by decide), hk 6 (by decide) (by decide) (by decide), hk 7 (by decide) (by decide) (by decide), hk 8 (by decide) (by decide) (by decide)]; exact b5 m hm
  · rw [hk 9 (by decide) (by decide) (by decide)]; exact b6
  · rw [hk 10 (by decide) (by decide) (by decide)]; exact b7
/-- what else changes while no row does -/
theorem zE_idT {S0 S S2 : Nat → Nat → Int32} {G0 G G2 : Nat → Nat → Int} {f : Nat} {h c h2 c2 : Int} {X T : List Nat} (k : zE S0 S G0 G f h c X T h2 c2) (hF : zfr S S2 G G2) (e3 : S2 3 = S 3) (e11 : S2 11 0 = S 11 0) (e12 : S2 12 0 = S 12 0) : zE S0 S2 G0 G2 f h c X T h2 c2 := by
  obtain ⟨a1, a2, a3, a4, a5, a6, a7, a8, a9, aa⟩ := k
  have hX : ∀ q ∈ X, (q : Int) < (S 11 0).toInt := fun q hq => (a6 q (List.mem_append.mpr (Or.inl hq))).2
  unfold zE
  rw [e3, e11, e12]
  refine ⟨zfr_tr a1 hF, a2, a3, a4, a5, a6, a7, a8, ?_, zco_ext aa (fun q hq => (hF.2.2.2.1 q (hX q hq)).2.2.2)⟩
  have := zseg_fr (Y := []) hF hX (fun q _ g => nomatch g) a9 trivial
  rw [List.append_nil] at this
  exact this
/-- another owner of arm A -/
def zow (G : Nat → Nat → Int) (A m : Nat) : Nat → Nat → Int := fun r k => if r = A ∧ k = 5 then (m : Int) else G r k
theorem zow_n {G : Nat → Nat → Int} {A m r k : Nat} (h : k < 5) : zow G A m r k = G r k := by unfold zow; rw [if_neg (fun g => absurd g.2 (by omega))]
theorem zow_5 {G : Nat → Nat → Int} {A m r : Nat} (h : r ≠ A) : zow G A m r 5 = G r 5 := by unfold zow; rw [if_neg (fun g => h g.1)]
theorem zow_s {G : Nat → Nat → Int} {A m : Nat} : zow G A m A 5 = (m : Int) := by unfold zow; rw [if_pos ⟨rfl, rfl⟩]
/-- an arm's chain grows at its end -/
theorem zli_snoc {nx nx2 : Nat → Int32} {A : Nat} {v : Int32} (hv : v.toInt = (A : Int)) (hA : (nx2 A).toInt = -1) : ∀ {L : List Nat} {x : Int32} {d : Nat}, L ≠ [] → L.Nodup → zli nx x L → (∀ r ∈ L, r ≠ zla d L → nx2 r = nx r) → nx2 (zla d L) = v → zli nx2 x (L ++ [A])
  | [], _, _, hn, _, _, _, _ => (hn rfl).elim
  | [y], x, d, _, _, h, _, hy => ⟨h.1, by have hy : nx2 y = v := hy; rw [hy]; exact ⟨hv, hA⟩⟩
  | y :: z :: l, x, d, _, hnd, h, he, hy => by
    have hin : zla y (z :: l) ∈ z :: l := zla_mem (List.cons_ne_nil _ _) y
    have hyl : y ≠ zla d (y :: z :: l) := fun g => (List.nodup_cons.mp hnd).1 (by rw [g]; exact hin)
    refine ⟨h.1, ?_⟩
    rw [he y List.mem_cons_self hyl]
    exact zli_snoc hv hA (d := y) (List.cons_ne_nil _ _) (List.nodup_cons.mp hnd).2 h.2 (fun r hr hne => he r (List.mem_cons_of_mem _ hr) hne) hy
/-- where a match stands between two of its arms -/
def zM (S0 S : Nat → Nat → Int32) (G0 G : Nat → Nat → Int) (f : Nat) (h c : Int) (m : Nat) (fo : Int32) (n : Nat) : Prop :=
  (fo.toInt = -1 ∧ n = 0 ∧ ∃ s, zE S0 S G0 G f h c [s] [m] h c ∧ Int32.toNatClampNeg (S 0 m) = 15 ∧ (S 2 m).toInt = -1 ∧ 0 ≤ (S 1 m).toInt ∧ (S 1 m).toInt < c) ∨
  (0 ≤ fo.toInt ∧ ∃ (s : Nat) (Y : List Nat) (t : Nat) (AL : List Nat) (cx : Int), zE S0 S G0 G f h c (s :: m :: Y) [t] (h + 1) cx ∧ c ≤ cx ∧ Int32.toNatClampNeg (S 0 t) = 16 ∧ (S 1 t).toInt = -1 ∧ G m 0 = h ∧ G m 2 = c ∧ Int32.toNatClampNeg (S 0 m) = 15 ∧ 0 ≤ (S 1 m).toInt ∧ (S 1 m).toInt < c ∧ AL ≠ [] ∧ AL.length = n ∧ AL.Nodup ∧ zli (S 5) (S 2 m) AL ∧ zla 0 AL = Int32.toNatClampNeg fo ∧ (∀ am ∈ AL, zarm S G f m Y am ∧ (S0 13 0).toInt ≤ (am : Int)) ∧ ∀ am ∈ AL, 0 ≤ (S 7 am).toInt ∧ (Int32.toNatClampNeg (S 7 am) = t ∨ Int32.toNatClampNeg (S 7 am) ∈ s :: m :: Y ∧ Int32.toNatClampNeg (S 0 (Int32.toNatClampNeg (S 7 am))) = 16 ∧ G (Int32.toNatClampNeg (S 7 am)) 0 = h + 1 ∧ c ≤ G (Int32.toNatClampNeg (S 7 am)) 2))
/-- behind an arm's pattern: the match has arm A, whose EXPR comes -/
def zMr (S0 S : Nat → Nat → Int32) (G0 G : Nat → Nat → Int) (f : Nat) (h c : Int) (m A n : Nat) : Prop :=
  ∃ (s : Nat) (Y : List Nat) (AL : List Nat), zE S0 S G0 G f h c (s :: m :: Y) [] h (c + zfl S (S 4 A)) ∧ G m 0 = h ∧ G m 2 = c ∧ Int32.toNatClampNeg (S 0 m) = 15 ∧ 0 ≤ (S 1 m).toInt ∧ (S 1 m).toInt < c ∧ AL ≠ [] ∧ AL.length = n + 1 ∧ AL.Nodup ∧ zli (S 5) (S 2 m) AL ∧ zla 0 AL = A ∧ (∀ am ∈ AL, zarm S G f m Y am ∧ (S0 13 0).toInt ≤ (am : Int)) ∧ ∀ am ∈ AL, am ≠ A → 0 ≤ (S 7 am).toInt ∧ Int32.toNatClampNeg (S 7 am) ∈ s :: m :: Y ∧ Int32.toNatClampNeg (S 0 (Int32.toNatClampNeg (S 7 am))) = 16 ∧ G (Int32.toNatClampNeg (S 7 am)) 0 = h + 1 ∧ c ≤ G (Int32.toNatClampNeg (S 7 am)) 2
/-- arm A comes to match m, behind arm fo -/
def zR (S S5 : Nat → Nat → Int32) (f : Nat) (c : Int) (m : Nat) (fo : Int32) (A : Nat) : Prop :=
  S5 0 = S 0 ∧ S5 1 = S 1 ∧ S5 3 = S 3 ∧ S5 11 = S 11 ∧ S5 12 = S 12 ∧
  (fo.toInt = -1 → (S5 2 m).toInt = (A : Int) ∧ ∀ r, r ≠ m → S5 2 r = S 2 r) ∧ (0 ≤ fo.toInt → S5 2 = S 2) ∧
  (A : Int) = (S 13 0).toInt ∧ (S5 13 0).toInt = (S 13 0).toInt + 1 ∧
  (∀ a : Nat, (a : Int) < (S 13 0).toInt → S5 4 a = S 4 a ∧ (fo.toInt = -1 ∨ a ≠ Int32.toNatClampNeg fo → S5 5 a = S 5 a) ∧ S5 6 a = S 6 a ∧ S5 7 a = S 7 a ∧ S5 8 a = S 8 a) ∧
  (0 ≤ fo.toInt → (S5 5 (Int32.toNatClampNeg fo)).toInt = (A : Int)) ∧ (S5 5 A).toInt = -1 ∧ S5 6 A = S 12 0 ∧ (S5 8 A).toInt = c ∧ zkd S5 (S5 4 A) ∧
  (S 14 0).toInt ≤ (S5 14 0).toInt ∧ (∀ k : Nat, (k : Int) < (S 14 0).toInt → (S 9 k).toInt ≠ -1 → S5 9 k = S 9 k) ∧
  (∀ g : Nat, (S 10 (5 * g + 1)).toInt ≤ (S5 10 (5 * g + 1)).toInt ∧ S5 10 (5 * g) = S 10 (5 * g) ∧ (S5 10 (5 * g + 1) = S 10 (5 * g + 1) ∨ (S5 10 (5 * g + 1)).toInt ≤ 24)) ∧ c + zfl S5 (S5 4 A) ≤ (S5 10 (5 * f + 1)).toInt
