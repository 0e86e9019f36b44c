theorem zfl_0 (S : Nat → Nat → Int32) (k : Int32) : 0 ≤ zfl S k := by
  unfold zfl
  split
  · omega
  · exact Int.le_refl _
theorem zarm_fr {S S2 : Nat → Nat → Int32} {G G2 : Nat → Nat → Int} {f r : Nat} {po po2 : List Nat} {m : Nat} (hF : zfr S S2 G G2) (hr : ∀ q ∈ r :: po, (q : Int) < (S 11 0).toInt) (hs : ∀ q ∈ po, q ∈ po2) (h : zarm S G f r po m) : zarm S2 G2 f r po2 m := by
  have hF0 := hF
  obtain ⟨a1, a2, a3, a4, a5, a6, a7⟩ := hF
  obtain ⟨m1, m2, m3, m4, m5, m6, m7, m8, m9⟩ := h
  obtain ⟨c4, c5, c6, c7, c8, c9⟩ := a5 m m1
  obtain ⟨d1, d2⟩ := zfl_fr hF0 m3
  have hG : ∀ q ∈ r :: po, ∀ k, k < 5 → G2 q k = G q k := fun q hq => (a4 q (hr q hq)).2.2.2
  have a7f : _ ∧ _ := ⟨(a7 f).1, (a7 f).2.1⟩
  unfold zarm
  rw [c4, c6, c8, c9, hG r List.mem_cons_self 0 (by decide), hG r List.mem_cons_self 2 (by decide), d1, hG _ m7 1 (by decide), hG _ m7 3 (by decide), hG _ m7 4 (by decide), hG r List.mem_cons_self 4 (by decide)]
  refine ⟨by omega, m2, d2, m4, by omega, m6, ?_, m8, m9⟩
  rcases List.mem_cons.mp m7 with q | q
  · exact List.mem_cons.mpr (Or.inl q)
  · exact List.mem_cons.mpr (Or.inr (hs _ q))
theorem zE_patchT {S S1 S2 : Nat → Nat → Int32} {G G1 : Nat → Nat → Int} {f t : Nat} {h c h2 c2 : Int} {X : List Nat} (k : zE S S1 G G1 f h c X [t] h2 c2) (h3 : S2 3 = S1 3) (h11 : S2 11 = S1 11) (h12 : S2 12 = S1 12) (hk : ∀ k, 4 ≤ k → k ≠ 11 → k ≠ 12 → S2 k = S1 k) (he : ∀ q, q ≠ t → S2 0 q = S1 0 q ∧ S2 1 q = S1 1 q ∧ S2 2 q = S1 2 q) : zE S S2 G G1 f h c X [t] h2 c2 := by
  obtain ⟨a1, a2, a3, a4, a5, a6, a7, a8, a9, aa⟩ := k
  have hr := (a6 t (List.mem_append.mpr (Or.inr List.mem_cons_self))).1
  have htX : ∀ q ∈ X, q ≠ t := fun q hq e => (List.nodup_append.mp a8).2.2 q hq t List.mem_cons_self e
  obtain ⟨b1, b2, b3, b4, b5, b6, b7⟩ := a1
  unfold zE
  rw [h3, h11, h12]
  refine ⟨⟨by rw [h11]; exact b1, by rw [hk 13 (by decide) (by decide) (by decide)]; exact b2, by rw [hk 14 (by decide) (by decide) (by decide)]; exact b3, fun q hq => ?_, fun m hm => ?_, ?_, ?_⟩, a2, a3, a4, a5, a6, a7, a8, zseg_cg (fun k k1 _ k2 k3 => hk k k1 k2 k3) (fun q hq => he q (htX q hq)) a9, aa⟩
  · obtain ⟨e0, e1, e2⟩ := he q (by omega)
    rw [e0, e1, e2]; exact b4 q hq
  · rw [hk 4 (by decide) (by decide) (by decide), hk 5 (by decide) (by decide) (by decide), hk 6 (by decide) (by decide) (by decide), hk 7 (by decide) (by decide) (by decide), hk 8 (by decide) (by decide) (by decide)]; exact b5 m hm
  · rw [hk 9 (by decide) (by decide) (by decide)]; exact b6
  · rw [hk 10 (by decide) (by decide) (by decide)]; exact b7
/-- rows of other matches don't see that an arm gets a next one -/
theorem zrow_p5 {S S2 : Nat → Nat → Int32} {G : Nat → Nat → Int} {f q : Nat} {po : List Nat} (hk : ∀ k, k ≠ 5 → S2 k = S k) (h5 : ∀ a, G a 5 = (q : Int) → S2 5 a = S 5 a) (h : zrow S G f q po) : zrow S2 G f q po := by
  have e0 := hk 0 (by decide)
  have e1 := hk 1 (by decide)
  have e2 := hk 2 (by decide)
  have e4 := hk 4 (by decide)
  have e6 := hk 6 (by decide)
  have e8 := hk 8 (by decide)
  have e9 := hk 9 (by decide)
  have e10 := hk 10 (by decide)
  have e13 := hk 13 (by decide)
  have e14 := hk 14 (by decide)
  obtain ⟨a1, a2, a3, a4, a5, a6, a7, a8⟩ := h
  refine ⟨a1, a2, a3, a4, a5, by rw [e10]; exact a6, a7, ?_⟩
  rw [e0]
  generalize Int32.toNatClampNeg (S 0 q) = n at a8 ⊢
  have tg : ∀ h, ztg S G q po h → ztg S2 G q po h := fun h t => by unfold ztg; rw [e1]; exact t
  match n, a8 with
  | 0, h => simp only [zop] at h ⊢; rw [e0, e1, e10]; exact h
  | 1, h => simp only [zop] at h ⊢; exact h
  | 2, h => simp only [zop] at h ⊢; exact h
  | 3, h => simp only [zop] at h ⊢; rw [e1]; exact h
  | 4, h => simp only [zop] at h ⊢; rw [e1, e9, e14]; exact h
  | 5, h => simp only [zop] at h ⊢; rw [e1, e9, e14]; exact h
  | 6, h => simp only [zop] at h ⊢; rw [e2]; exact h
  | 7, h => simp only [zop] at h ⊢; rw [e2]; exact h
  | 8, h => simp only [zop] at h ⊢; exact h
  | 9, h => simp only [zop] at h ⊢; exact h
  | 10, h => simp only [zop] at h ⊢; exact h
  | 11, h => simp only [zop] at h ⊢; exact h
  | 12, h => simp only [zop] at h ⊢; rw [e1, e10]; exact h
  | 13, h => simp only [zop] at h ⊢; exact ⟨h.1, h.2.1, h.2.2.1, tg _ h.2.2.2⟩
  | 14, h => simp only [zop] at h ⊢; exact tg _ h
  | 15, h =>
    simp only [zop] at h ⊢
    rw [e1, e2]
    obtain ⟨k1, k2, AL, k3, k4, k5⟩ := h
    refine ⟨k1, k2, AL, k3, zli_ext k4 (fun a ha => h5 a (k5 a ha).2.1), fun m hm => ?_⟩
    have u := k5 m hm
    unfold zarm zkd zfl at u ⊢
    rw [e13, e4, e8, e10, e6, e14, e9]
    exact u
  | 16, h => simp only [zop] at h ⊢; exact tg _ h
  | 17, h => simp only [zop] at h ⊢; exact h
  | n + 18, h => exact h.elim
theorem zseg_p5 {S S2 : Nat → Nat → Int32} {G : Nat → Nat → Int} {f : Nat} (hk : ∀ k, k ≠ 5 → S2 k = S k) : ∀ {X : List Nat}, (∀ q ∈ X, ∀ a, G a 5 = (q : Int) → S2 5 a = S 5 a) → zseg S G f X → zseg S2 G f X
  | [], _, _ => trivial
  | r :: po, h5, h => ⟨zrow_p5 hk (h5 r List.mem_cons_self) h.1, zseg_p5 hk (fun q hq => h5 q (List.mem_cons_of_mem _ hq)) h.2⟩
theorem zM_arm0 {S0 S S5 : Nat → Nat → Int32} {G0 G : Nat → Nat → Int} {f : Nat} {h c : Int} {m s : Nat} {fo : Int32} {A : Nat} (hh : 0 ≤ h) (hc0 : 0 ≤ c) (hfo : fo.toInt = -1) (hM : zE S0 S G0 G f h c [s] [m] h c ∧ Int32.toNatClampNeg (S 0 m) = 15 ∧ (S 2 m).toInt = -1 ∧ 0 ≤ (S 1 m).toInt ∧ (S 1 m).toInt < c) (hR : zR S S5 f c m fo A) : ∃ G5, zMr S0 S5 G0 G5 f h c m A 0 := by
  obtain ⟨k, k15, k2, ka, kb⟩ := hM
  obtain ⟨r0, r1, r3, r11, r12, rl, -, rA, rz, ra, -, rn, rb, rs, rk, rkz, rkf, rnm, rfl_⟩ := hR
  obtain ⟨rl1, rl2⟩ := rl hfo
  have kf := zfl_0 S5 (S5 4 A)
  have hF : zfr S (fun k => if k = 2 then S 2 else S5 k) G (zow G A m) := by
    refine ⟨?_, ?_, rkz, fun r _ => ⟨?_, ?_, rfl, fun k hk => zow_n hk⟩, fun a ha => ?_, rkf, rnm⟩
    · show (S 11 0).toInt ≤ (S5 11 0).toInt; rw [r11]; exact Int.le_refl _
    · show (S 13 0).toInt ≤ (S5 13 0).toInt; omega
    · show S5 0 r = S 0 r; rw [r0]
    · show S5 1 r = S 1 r; rw [r1]
    · obtain ⟨c1, c2, c3, c4, c5⟩ := ra a ha
      exact ⟨c1, c2 (Or.inl hfo), c3, c4, c5, zow_5 (by omega)⟩
  have k1 := zE_idT k hF r3 (by show S5 11 0 = S 11 0; rw [r11]) (by show S5 12 0 = S 12 0; rw [r12])
  have k2 : zE S0 S5 G0 (zow G A m) f h c [s] [m] h c := zE_patchT k1 rfl rfl rfl (fun k hk _ _ => by show S5 k = if k = 2 then S 2 else S5 k; rw [if_neg (by omega)]) (fun q hq => ⟨rfl, rfl, rl2 q hq⟩)
  have ht : Int32.toNatClampNeg (S 12 0) = m := by rw [← k.2.2.2.2.1]; rfl
  have h12 : 0 ≤ (S 12 0).toInt := k.2.2.2.1
  have hs := zgu_s (G := zow G A m) (t := m) (a := h) (b := h) (c := c) (d := c + zfl S5 (S5 4 A)) (e := (f : Int))
  obtain ⟨s0, s1, s2, s3, s4⟩ := hs
  have hA : zarm S5 (zgu (zow G A m) m h h c (c + zfl S5 (S5 4 A)) (f : Int)) f m [] A := by
    unfold zarm
    rw [zgu_5, zow_s, rb, ht, s0, s1, s2, s3]
    exact ⟨by omega, rfl, rk, rs, rfl_, h12, List.mem_cons_self, rfl, Int.le_refl _, rfl⟩
  have hli : zli (S5 5) (S5 2 m) [A] := ⟨rl1, rn⟩
  have hz : zrow S5 (zgu (zow G A m) m h h c (c + zfl S5 (S5 4 A)) (f : Int)) f m [] := by
    refine ⟨fun g => (nomatch g), by rw [s0]; exact hh, by rw [s1]; exact hh, by rw [s2]; exact hc0, by rw [s3]; omega, by rw [s2]; omega, s4, ?_⟩
    rw [r0, k15]
    simp only [zop]
    rw [s2, r1]
    refine ⟨ka, kb, [A], by show 1 ≤ 8; decide, hli, fun a ha => ?_⟩
    rcases List.mem_cons.mp ha with e | e
    · rw [e]; exact hA
    · exact nomatch e
  have k3 := zE_judge k2 (Int.le_refl c) hz
  refine ⟨_, s, [], [A], k3, s0, s2, by rw [r0]; exact k15, by rw [r1]; exact ka, by rw [r1]; exact kb, List.cons_ne_nil _ _, rfl, List.nodup_cons.mpr ⟨fun g => (nomatch g), List.nodup_nil⟩, hli, rfl, fun a ha => ?_, fun a ha hne => ?_⟩
  · rcases List.mem_cons.mp ha with e | e
    · rw [e]; exact ⟨hA, by have := k.1.2.1; omega⟩
    · exact nomatch e
  · rcases List.mem_cons.mp ha with e | e
    · exact (hne e).elim
    · exact nomatch e
