theorem zM_arm1 {S0 S S5 : Nat → Nat → Int32} {G0 G : Nat → Nat → Int} {f : Nat} {h c : Int} {m s t : Nat} {Y AL : List Nat} {cx : Int} {fo : Int32} {A : Nat} (hh : 0 ≤ h) (hc0 : 0 ≤ c) (hfo : 0 ≤ fo.toInt)
    (k : zE S0 S G0 G f h c (s :: m :: Y) [t] (h + 1) cx) (kc : c ≤ cx) (k16 : Int32.toNatClampNeg (S 0 t) = 16) (kt : (S 1 t).toInt = -1) (g0 : G m 0 = h) (g2 : G m 2 = c) (k15 : Int32.toNatClampNeg (S 0 m) = 15) (ka : 0 ≤ (S 1 m).toInt) (kb : (S 1 m).toInt < c) (kn : AL ≠ []) (k8 : AL.length < 8) (knd : AL.Nodup) (kli : zli (S 5) (S 2 m) AL) (kla : zla 0 AL = Int32.toNatClampNeg fo) (kar : ∀ am ∈ AL, zarm S G f m Y am ∧ (S0 13 0).toInt ≤ (am : Int))
    (kle : ∀ am ∈ AL, 0 ≤ (S 7 am).toInt ∧ (Int32.toNatClampNeg (S 7 am) = t ∨ Int32.toNatClampNeg (S 7 am) ∈ s :: m :: Y ∧ Int32.toNatClampNeg (S 0 (Int32.toNatClampNeg (S 7 am))) = 16 ∧ G (Int32.toNatClampNeg (S 7 am)) 0 = h + 1 ∧ c ≤ G (Int32.toNatClampNeg (S 7 am)) 2))
    (hR : zR S S5 f c m fo A) : ∃ G5, zMr S0 S5 G0 G5 f h c m A AL.length := by
  obtain ⟨r0, r1, r3, r11, r12, -, r2, rA, rz, ra, rfo, rn, rb, rs, rk, rkz, rkf, rnm, rfl_⟩ := hR
  have r2 := r2 hfo
  have rfo := rfo hfo
  have kf := zfl_0 S5 (S5 4 A)
  have hfoA : Int32.toNatClampNeg fo ∈ AL := by rw [← kla]; exact zla_mem kn 0
  have hfoz := (kar _ hfoA).1.1
  have hF : zfr S (fun k => if k = 5 then upd (S5 5) (Int32.toNatClampNeg fo) (S 5 (Int32.toNatClampNeg fo)) else S5 k) G (zow G A m) := by
    refine ⟨?_, ?_, rkz, fun r _ => ⟨?_, ?_, ?_, fun k hk => zow_n hk⟩, fun a ha => ?_, rkf, rnm⟩
    · show (S 11 0).toInt ≤ (S5 11 0).toInt; rw [r11]; exact Int.le_refl _
    · show (S 13 0).toInt ≤ (S5 13 0).toInt; omega
    · show S5 0 r = S 0 r; rw [r0]
    · show S5 1 r = S 1 r; rw [r1]
    · show S5 2 r = S 2 r; rw [r2]
    · obtain ⟨c1, c2, c3, c4, c5⟩ := ra a ha
      refine ⟨c1, ?_, c3, c4, c5, zow_5 (by omega)⟩
      show upd (S5 5) (Int32.toNatClampNeg fo) (S 5 (Int32.toNatClampNeg fo)) a = S 5 a
      by_cases e : a = Int32.toNatClampNeg fo
      · rw [e, zu_s]
      · rw [zu_n e]; exact c2 (Or.inr e)
  have ht : Int32.toNatClampNeg (S 12 0) = t := by rw [← k.2.2.2.2.1]; exact zla_app (s :: m :: Y) _ [t]
  have h12 : 0 ≤ (S 12 0).toInt := k.2.2.2.1
  have hnd : ((s :: m :: Y) ++ [t]).Nodup := k.2.2.2.2.2.2.2.1
  have hrg : ∀ r ∈ (s :: m :: Y) ++ [t], (S0 11 0).toInt ≤ (r : Int) ∧ (r : Int) < (S 11 0).toInt := k.2.2.2.2.2.1
  have htX : ∀ q ∈ s :: m :: Y, q ≠ t := fun q hq e => (List.nodup_append.mp hnd).2.2 q hq t List.mem_cons_self e
  have hm_in : m ∈ s :: m :: Y := List.mem_cons_of_mem _ List.mem_cons_self
  generalize hS' : (fun k => if k = 5 then upd (S5 5) (Int32.toNatClampNeg fo) (S 5 (Int32.toNatClampNeg fo)) else S5 k : Nat → Nat → Int32) = S' at hF
  have e' : ∀ k, k ≠ 5 → S5 k = S' k := fun k hk => by rw [← hS']; show S5 k = if k = 5 then _ else S5 k; rw [if_neg hk]
  have e5 : S' 5 = upd (S5 5) (Int32.toNatClampNeg fo) (S 5 (Int32.toNatClampNeg fo)) := by rw [← hS']; rfl
  have k1 := zE_idT k hF (by rw [← e' 3 (by decide)]; exact r3) (by rw [← e' 11 (by decide), r11]) (by rw [← e' 12 (by decide), r12])
  obtain ⟨s0, s1, s2, s3, s4⟩ := zgu_s (G := zow G A m) (t := t) (a := h + 1) (b := h) (c := c) (d := c + zfl S5 (S5 4 A)) (e := (f : Int))
  have hz : zrow S' (zgu (zow G A m) t (h + 1) h c (c + zfl S5 (S5 4 A)) (f : Int)) f t [] := by
    refine ⟨fun g => (nomatch g), by rw [s0]; omega, by rw [s1]; exact hh, by rw [s2]; exact hc0, by rw [s3]; omega, by rw [s2, ← e' 10 (by decide)]; omega, s4, ?_⟩
    rw [← e' 0 (by decide), r0, k16]
    simp only [zop]
    exact Or.inl (by rw [← e' 1 (by decide), r1]; exact kt)
  have k3 := zE_judge k1 kc hz
  generalize hG5 : zgu (zow G A m) t (h + 1) h c (c + zfl S5 (S5 4 A)) (f : Int) = G5 at s0 s1 s2 s3 s4 k3
  have q5 : ∀ a, a ≠ A → G5 a 5 = G a 5 := fun a ha => by rw [← hG5, zgu_5, zow_5 ha]
  have q5A : G5 A 5 = (m : Int) := by rw [← hG5, zgu_5, zow_s]
  have qn : ∀ r k, r ≠ t → k < 5 → G5 r k = G r k := fun r k hr hk => by rw [← hG5, zgu_n hr, zow_n hk]
  have hfoo : G5 (Int32.toNatClampNeg fo) 5 = (m : Int) := by rw [q5 _ (by omega)]; exact (kar _ hfoA).1.2.1
  have hmt : m ≠ t := htX m hm_in
  have harm : ∀ am ∈ AL ++ [A], zarm S5 G5 f m (Y ++ [t]) am := fun am ham => by
    rcases List.mem_append.mp ham with ha | ha
    · obtain ⟨m1, m2, m3, m4, m5, m6, m7, m8, m9⟩ := (kar am ha).1
      obtain ⟨c1, -, c3, -, c5⟩ := ra am m1
      obtain ⟨d1, d2⟩ := zfl_fr hF m3
      have d1 : zfl S5 (S 4 am) = zfl S (S 4 am) := by
        rw [← d1]; unfold zfl; rw [e' 14 (by decide), e' 9 (by decide)]
      have d2 : zkd S5 (S 4 am) := by unfold zkd at d2 ⊢; rw [e' 14 (by decide), e' 9 (by decide)]; exact d2
      have hb : Int32.toNatClampNeg (S 6 am) ≠ t := htX _ (List.mem_cons_of_mem _ m7)
      have nm := (rnm f).1
      unfold zarm
      rw [c1, c3, c5, q5 am (by omega), qn m 0 hmt (by decide), qn m 2 hmt (by decide), d1, qn _ 1 hb (by decide), qn _ 3 hb (by decide), qn _ 4 hb (by decide), qn m 4 hmt (by decide)]
      refine ⟨by omega, m2, d2, m4, by omega, m6, ?_, m8, m9⟩
      rcases List.mem_cons.mp m7 with q | q
      · exact List.mem_cons.mpr (Or.inl q)
      · exact List.mem_cons.mpr (Or.inr (List.mem_append.mpr (Or.inl q)))
    · have e : am = A := (List.mem_cons.mp ha).elim id (fun g => (nomatch g))
      rw [e]
      unfold zarm
      rw [q5A, rb, ht, qn m 0 hmt (by decide), qn m 2 hmt (by decide), g0, g2, s1, s3, s4, qn m 4 hmt (by decide), show G m 4 = (f : Int) from k.2.2.2.2.2.2.2.2.1.2.1.2.2.2.2.2.2.1]
      exact ⟨by omega, rfl, rk, rs, rfl_, h12, List.mem_cons_of_mem _ (List.mem_append.mpr (Or.inr List.mem_cons_self)), rfl, Int.le_refl _, rfl⟩
  have hli : zli (S5 5) (S5 2 m) (AL ++ [A]) := by
    rw [r2]
    exact zli_snoc (d := 0) rfo rn kn knd kli (fun r hr hne => (ra r (kar r hr).1.1).2.1 (Or.inr (by rw [kla] at hne; exact hne))) (by rw [kla])
  have hAL : A ∉ AL := fun g => by have := (kar A g).1.1; omega
  have hnd2 : (AL ++ [A]).Nodup := List.nodup_append.mpr ⟨knd, List.nodup_cons.mpr ⟨fun g => (nomatch g), List.nodup_nil⟩, fun a ha b hb e => by
    rcases List.mem_cons.mp hb with g | g
    · exact hAL (by rw [← g, ← e]; exact ha)
    · exact nomatch g⟩
  obtain ⟨b1, b2, b3, b4, b5, b6, b7, b8, b9, ba⟩ := k3
  have h5 : ∀ q, q ≠ m → ∀ a, G5 a 5 = (q : Int) → S5 5 a = S' 5 a := fun q hq a hqa => by
    rw [e5, zu_n (fun e => hq (by rw [e, hfoo] at hqa; omega))]
  have hseg : zseg S5 G5 f (s :: m :: (Y ++ [t])) := by
    obtain ⟨z1, z2, z3⟩ := b9
    have hnds : (s :: m :: (Y ++ [t])).Nodup := hnd
    have hsm : s ≠ m := fun e => (List.nodup_cons.mp hnds).1 (by rw [e]; exact List.mem_cons_self)
    have hmY : ∀ q ∈ Y ++ [t], q ≠ m := fun q hq e => (List.nodup_cons.mp (List.nodup_cons.mp hnds).2).1 (e ▸ hq)
    refine ⟨zrow_p5 e' (h5 s hsm) z1, ?_, zseg_p5 e' (fun q hq => h5 q (hmY q hq)) z3⟩
    obtain ⟨y1, y2, y3, y4, y5, y6, y7, y8⟩ := z2
    refine ⟨y1, y2, y3, y4, y5, by rw [e' 10 (by decide)]; exact y6, y7, ?_⟩
    rw [r0, k15]
    simp only [zop]
    rw [qn m 2 hmt (by decide), g2, r1]
    exact ⟨ka, kb, AL ++ [A], by rw [List.length_append]; show AL.length + 1 ≤ 8; omega, hli, harm⟩
  refine ⟨G5, s, Y ++ [t], AL ++ [A], ?_, by rw [qn m 0 hmt (by decide)]; exact g0, by rw [qn m 2 hmt (by decide)]; exact g2, by rw [r0]; exact k15, by rw [r1]; exact ka, by rw [r1]; exact kb, by simp, by rw [List.length_append]; rfl, hnd2, hli, zla_app AL 0 [A], fun a ha => ⟨harm a ha, ?_⟩, fun a ha hne => ?_⟩
  · unfold zE
    rw [e' 3 (by decide), e' 12 (by decide), e' 11 (by decide)]
    obtain ⟨w1, w2, w3, w4, w5, w6, w7⟩ := b1
    refine ⟨⟨by rw [e' 11 (by decide)]; exact w1, by rw [e' 13 (by decide)]; exact w2, by rw [e' 14 (by decide)]; exact w3, fun r hr => ?_, fun a ha => ?_, by rw [e' 9 (by decide)]; exact w6, by rw [e' 10 (by decide)]; exact w7⟩, b2, b3, b4, b5, b6, b7, b8, hseg, ba⟩
    · rw [e' 0 (by decide), e' 1 (by decide), e' 2 (by decide)]; exact w4 r hr
    · rw [e' 4 (by decide), e' 6 (by decide), e' 7 (by decide), e' 8 (by decide)]
      have := (kar _ hfoA).2
      have e : S5 5 a = S' 5 a := by rw [e5, zu_n (by omega)]
      rw [e]; exact w5 a ha
  · rcases List.mem_append.mp ha with g | g
    · exact (kar a g).2
    · have e : a = A := (List.mem_cons.mp g).elim id (fun g => (nomatch g))
      rw [e]
      have := (kar _ hfoA).2
      omega
  · have g : a ∈ AL := (List.mem_append.mp ha).elim id (fun g => (hne ((List.mem_cons.mp g).elim id (fun g => (nomatch g)))).elim)
    obtain ⟨u1, u2⟩ := kle a g
    rw [(ra a (kar a g).1.1).2.2.2.1]
    refine ⟨u1, ?_⟩
    rcases u2 with u2 | ⟨u2, u3, u4, u5⟩
    · rw [u2, r0]
      exact ⟨List.mem_cons_of_mem _ (List.mem_cons_of_mem _ (List.mem_append.mpr (Or.inr List.mem_cons_self))), k16, s0, by rw [s2]; exact Int.le_refl _⟩
    · rw [r0, qn _ 0 (htX _ u2) (by decide), qn _ 2 (htX _ u2) (by decide)]
      exact ⟨by
        have : s :: m :: (Y ++ [t]) = (s :: m :: Y) ++ [t] := rfl
        rw [this]
        exact List.mem_append.mpr (Or.inl u2), u3, u4, u5⟩
theorem zM_arm {S0 S S5 : Nat → Nat → Int32} {G0 G : Nat → Nat → Int} {f : Nat} {h c : Int} {m : Nat} {fo : Int32} {A n : Nat} (hh : 0 ≤ h) (hc0 : 0 ≤ c) (hn : n < 8) (hM : zM S0 S G0 G f h c m fo n) (hR : zR S S5 f c m fo A) : ∃ G5, zMr S0 S5 G0 G5 f h c m A n := by
  rcases hM with ⟨h1, rfl, s, h2⟩ | ⟨h1, s, Y, t, AL, cx, k1, k2, k3, k4, k5, k6, k7, k8, k9, ka, kb, kc, kd, ke, kf, kg⟩
  · exact zM_arm0 hh hc0 h1 h2 hR
  · rw [← kb]
    exact zM_arm1 hh hc0 h1 k1 k2 k3 k4 k5 k6 k7 k8 k9 ka (by omega) kc kd ke kf kg hR
/-- behind an arm's EXPR and its last row -/
theorem zM_fin {S0 S5 S6 S7 : Nat → Nat → Int32} {G0 G5 G6 : Nat → Nat → Int} {f : Nat} {h c c' : Int} {m A n t : Nat} {Y' : List Nat} {v w : Int32} (h0 : zS0 S0) (hc : c' = c + zfl S5 (S5 4 A)) (hM : zMr S0 S5 G0 G5 f h c m A n) (k : zE S5 S6 G5 G6 f h c' Y' [t] (h + 1) c') (k16 : Int32.toNatClampNeg (S6 0 t) = 16) (kt : (S6 1 t).toInt = -1) (e7 : ∀ k, k ≠ 7 → S7 k = S6 k) (e7a : S7 7 = upd (S6 7) A v) (hv : v.toInt = (t : Int)) (hw : w.toInt = (A : Int)) : zM S0 S7 G0 G6 f h c m w (n + 1) := by
  subst hc
  obtain ⟨s, Y, AL, q, q0, q2, q15, qa, qb, qn, ql, qnd, qli, qla, qar, qle⟩ := hM
  have kk := zE_tr h0 q k
  have hF := k.1
  have hX : ∀ r ∈ s :: m :: Y, (r : Int) < (S5 11 0).toInt := fun r hr => (q.2.2.2.2.2.1 r (by rw [List.append_nil]; exact hr)).2
  have hm_in : m ∈ s :: m :: Y := List.mem_cons_of_mem _ List.mem_cons_self
  have hmr := hF.2.2.2.1 m (hX m hm_in)
  have hAin : A ∈ AL := by rw [← qla]; exact zla_mem qn 0
  have hAz := (qar A hAin).2
  have hz := zfl_0 S5 (S5 4 A)
  have hAt : Int32.toNatClampNeg v = t := by have := zn_nat (x := v) (by omega); omega
  have hwA : Int32.toNatClampNeg w = A := by have := zn_nat (x := w) (by omega); omega
  refine Or.inr ⟨by omega, s, Y ++ Y', t, AL, c + zfl S5 (S5 4 A), ?_, by omega, by rw [e7 0 (by decide)]; exact k16, by rw [e7 1 (by decide)]; exact kt, by rw [hmr.2.2.2 0 (by decide)]; exact q0, by rw [hmr.2.2.2 2 (by decide)]; exact q2, by rw [e7 0 (by decide), hmr.1]; exact q15, by rw [e7 1 (by decide), hmr.2.1]; exact qa, by rw [e7 1 (by decide), hmr.2.1]; exact qb, qn, ql, qnd, ?_, by rw [qla, hwA], fun a ha => ⟨?_, (qar a ha).2⟩, fun a ha => ?_⟩
  · have kk2 : zE S0 S6 G0 G6 f h c (s :: m :: (Y ++ Y')) [t] (h + 1) (c + zfl S5 (S5 4 A)) := kk
    obtain ⟨a1, a2, a3, a4, a5, a6, a7, a8, a9, aa⟩ := kk2
    obtain ⟨b1, b2, b3, b4, b5, b6, b7⟩ := a1
    unfold zE
    rw [e7 3 (by decide), e7 11 (by decide), e7 12 (by decide)]
    refine ⟨⟨by rw [e7 11 (by decide)]; exact b1, by rw [e7 13 (by decide)]; exact b2, by rw [e7 14 (by decide)]; exact b3, fun r hr => ?_, fun a ha => ?_, by rw [e7 9 (by decide)]; exact b6, by rw [e7 10 (by decide)]; exact b7⟩, a2, a3, a4, a5, a6, a7, a8, zseg_cg (fun k _ h7 _ _ => e7 k h7) (fun r _ => by rw [e7 0 (by decide), e7 1 (by decide), e7 2 (by decide)]; exact ⟨rfl, rfl, rfl⟩) a9, aa⟩
    · rw [e7 0 (by decide), e7 1 (by decide), e7 2 (by decide)]; exact b4 r hr
    · rw [e7 4 (by decide), e7 5 (by decide), e7 6 (by decide), e7 8 (by decide), e7a, zu_n (by omega)]; exact b5 a ha
  · rw [e7 5 (by decide), e7 2 (by decide), hmr.2.2.1]
    exact zli_ext qli (fun a ha => (hF.2.2.2.2.1 a (qar a ha).1.1).2.1)
  · have u := zarm_fr (po2 := Y ++ Y') hF (fun r hr => hX r (List.mem_cons_of_mem _ hr)) (fun r hr => List.mem_append.mpr (Or.inl hr)) (qar a ha).1
    unfold zarm zkd zfl at u ⊢
    rw [e7 13 (by decide), e7 4 (by decide), e7 14 (by decide), e7 9 (by decide), e7 8 (by decide), e7 10 (by decide), e7 6 (by decide)]
    exact u
  · by_cases hA : a = A
    · rw [hA, e7a, zu_s, hAt]
      exact ⟨by omega, Or.inl rfl⟩
    · obtain ⟨u1, u2, u3, u4, u5⟩ := qle a ha hA
      have ea : S7 7 a = S5 7 a := by rw [e7a, zu_n hA]; exact (hF.2.2.2.2.1 a (qar a ha).1.1).2.2.2.1
      have hl := hF.2.2.2.1 _ (hX _ u2)
      rw [ea, e7 0 (by decide)]
      refine ⟨u1, Or.inr ⟨?_, by rw [hl.1]; exact u3, by rw [hl.2.2.2 0 (by decide)]; exact u4, by rw [hl.2.2.2 2 (by decide)]; exact u5⟩⟩
      have : s :: m :: (Y ++ Y') = (s :: m :: Y) ++ Y' := rfl
      rw [this]
      exact List.mem_append.mpr (Or.inl u2)
theorem zseg_pt {S S2 : Nat → Nat → Int32} {G : Nat → Nat → Int} {f : Nat} : ∀ {X : List Nat}, (∀ P q Q, X = P ++ q :: Q → zrow S G f q Q → zrow S2 G f q Q) → zseg S G f X → zseg S2 G f X
  | [], _, _ => trivial
  | r :: po, he, h => ⟨he [] r po rfl h.1, zseg_pt (fun P q Q e => he (r :: P) q Q (by rw [e]; rfl)) h.2⟩
/-- a match is whole: its arms lead behind its last row -/
theorem zM_done {S0 S S8 : Nat → Nat → Int32} {G0 G : Nat → Nat → Int} {f : Nat} {h c : Int} {m n : Nat} {fo : Int32} (h0 : zS0 S0) (hh : 0 ≤ h) (hc0 : 0 ≤ c) (hfo : 0 ≤ fo.toInt) (hM : zM S0 S G0 G f h c m fo n) (ek : ∀ k, k ≠ 1 → S8 k = S k) (ej : ∀ AL : List Nat, AL.length = n → zli (S 5) (S 2 m) AL → ∀ r, S8 1 r = if r ∈ AL.map (fun a => Int32.toNatClampNeg (S 7 a)) then S 12 0 else S 1 r) : ∃ G8 X, X ≠ [] ∧ zE S0 S8 G0 G8 f h c X [] (h + 1) c := by
  rcases hM with ⟨h1, -⟩ | ⟨-, s, Y, t, AL, cx, k, k2, k16, kt, k5, k6, k7, k8, k9, ka, kb, kc, kd, ke, kf, kg⟩
  · omega
  have hej := ej AL kb kd
  have ht : Int32.toNatClampNeg (S 12 0) = t := by rw [← k.2.2.2.2.1]; exact zla_app (s :: m :: Y) _ [t]
  have h12 : 0 ≤ (S 12 0).toInt := k.2.2.2.1
  have hnd : ((s :: m :: Y) ++ [t]).Nodup := k.2.2.2.2.2.2.2.1
  have htX : ∀ q ∈ s :: m :: Y, q ≠ t := fun q hq e => (List.nodup_append.mp hnd).2.2 q hq t List.mem_cons_self e
  have hcn : c ≤ (S 10 (5 * f + 1)).toInt := by
    have := (k.2.2.2.2.2.2.2.2.1).2.1.2.2.2.2.2.1
    omega
  obtain ⟨s0, s1, s2, s3, s4⟩ := zgu_s (G := G) (t := t) (a := h + 1) (b := h + 1) (c := c) (d := c) (e := (f : Int))
  have hz : zrow S (zgu G t (h + 1) (h + 1) c c (f : Int)) f t [] := by
    refine ⟨fun g => (nomatch g), by rw [s0]; omega, by rw [s1]; omega, by rw [s2]; exact hc0, by rw [s3]; exact hc0, by rw [s2]; exact hcn, s4, ?_⟩
    rw [k16]
    simp only [zop]
    exact Or.inl kt
  have k3 := zE_judge k k2 hz
  have qn : ∀ r k, r ≠ t → zgu G t (h + 1) (h + 1) c c (f : Int) r k = G r k := fun r k hr => zgu_n hr
  generalize zgu G t (h + 1) (h + 1) c c (f : Int) = G8 at s0 s1 s2 s3 s4 k3 qn
  refine ⟨G8, s :: m :: Y ++ [t], by simp, ?_⟩
  obtain ⟨a1, a2, a3, a4, a5, a6, a7, a8, a9, aa⟩ := k3
  have hrg := a6
  rw [List.append_nil] at a5 hrg
  obtain ⟨b1, b2, b3, b4, b5, b6, b7⟩ := a1
  unfold zE
  rw [ek 3 (by decide), ek 11 (by decide), ek 12 (by decide)]
  have hleaf : ∀ r ∈ AL.map (fun a => Int32.toNatClampNeg (S 7 a)), r ∈ s :: m :: Y ++ [t] ∧ Int32.toNatClampNeg (S 0 r) = 16 ∧ G8 r 0 = h + 1 ∧ c ≤ G8 r 2 := fun r hr => by
    obtain ⟨a, ha, e⟩ := List.mem_map.mp hr
    have e : Int32.toNatClampNeg (S 7 a) = r := e
    obtain ⟨-, u⟩ := kg a ha
    rw [e] at u
    rcases u with u | ⟨u1, u2, u3, u4⟩
    · rw [u]
      exact ⟨List.mem_append.mpr (Or.inr List.mem_cons_self), k16, s0, by rw [s2]; exact Int.le_refl _⟩
    · rw [qn r 0 (htX r u1), qn r 2 (htX r u1)]
      exact ⟨List.mem_append.mpr (Or.inl u1), u2, u3, u4⟩
  refine ⟨⟨by rw [ek 11 (by decide)]; exact b1, by rw [ek 13 (by decide)]; exact b2, by rw [ek 14 (by decide)]; exact b3, fun r hr => ?_, fun a ha => ?_, by rw [ek 9 (by decide)]; exact b6, by rw [ek 10 (by decide)]; exact b7⟩, a2, a3, a4, by rw [List.append_nil]; exact a5, a6, a7, a8, ?_, aa⟩
  · have e : S8 1 r = S 1 r := by
      rw [hej r, if_neg]
      intro g
      have := hrg r (hleaf r g).1
      omega
    rw [ek 0 (by decide), ek 2 (by decide), e]; exact b4 r hr
  · rw [ek 4 (by decide), ek 5 (by decide), ek 6 (by decide), ek 7 (by decide), ek 8 (by decide)]; exact b5 a ha
  · refine zseg_pt (fun P q Q e z => ?_) a9
    by_cases g : q ∈ AL.map (fun a => Int32.toNatClampNeg (S 7 a))
    · obtain ⟨g1, g2, g3, g4⟩ := hleaf q g
      obtain ⟨y1, y2, y3, y4, y5, y6, y7, y8⟩ := z
      refine ⟨y1, y2, y3, y4, y5, by rw [ek 10 (by decide)]; exact y6, y7, ?_⟩
      rw [ek 0 (by decide), g2]
      simp only [zop]
      refine Or.inr ?_
      have eq : S8 1 q = S 12 0 := by rw [hej q, if_pos g]
      rw [eq, ht, s1, s3, s4, y7]
      refine ⟨h12, ?_, g3.symm, g4, rfl⟩
      have u : zla 0 (P ++ q :: Q) = t := by rw [← e]; exact zla_app (s :: m :: Y) 0 [t]
      rw [zla_app] at u
      rw [← u]
      exact zla_mem (List.cons_ne_nil q Q) _
    · exact zrow_cg (by rw [ek 0 (by decide)]) (by rw [hej q, if_neg g]) (by rw [ek 2 (by decide)]) (fun k k1 _ _ _ => ek k (by omega)) z
