theorem zfn_tr {S S1 S2 : Nat → Nat → Int32} {f : Nat} (a : zfn S S1 f) (b : zfn S1 S2 f) : zfn S S2 f := ⟨Int.le_trans a.1 b.1, b.2.1.trans a.2.1, by
  rcases b.2.2 with q | q
  · rw [q]; exact a.2.2
  · exact Or.inr q⟩
/-- a definition more -/
theorem zPr_def {S S2 S3 S4 : Nat → Nat → Int32} {G G3 : Nat → Nat → Int} {en en2 : Nat → Int32} {F e : Nat} {L X : List Nat} {n : Int} {v f32 : Int32}
    (hP : zPr S G en F L) (he : Int32.toNatClampNeg (S 11 0) = e) (h0 : 0 ≤ n) (h6 : n ≤ 6) (hf32 : f32.toInt = (F : Int))
    (e0 : S2 0 = upd (S 0) e 0) (e1 : S2 1 = upd (S 1) e f32) (e2 : S2 2 = upd (S 2) e (-1))
    (e3a : (S 12 0).toInt = -1 → S2 3 = upd (S 3) e (-1)) (e3b : 0 ≤ (S 12 0).toInt → S2 3 = upd (upd (S 3) e (S 3 (Int32.toNatClampNeg (S 12 0)))) (Int32.toNatClampNeg (S 12 0)) (S 11 0))
    (e11 : (S2 11 0).toInt = (S 11 0).toInt + 1) (e12 : S2 12 0 = S 11 0) (er : ∀ k, 4 ≤ k → k ≠ 10 → k ≠ 11 → k ≠ 12 → S2 k = S k)
    (ef : ∀ g, g < F → zfn S S2 g) (et : (S2 10 (5 * F)).toInt = n) (enm : n ≤ (S2 10 (5 * F + 1)).toInt)
    (q : zE S2 S3 (zgu G e 100000 0 n n (F : Int)) G3 F 0 n X [] (0 + 1) n) (hX : X ≠ []) (a4 : zap S3 S4 17 (-1)) (m4 : n ≤ (S4 10 (5 * F + 1)).toInt) (m5 : (S4 10 (5 * F + 1)).toInt ≤ 24)
    (een : en2 = upd en F v) (ev : v = S 11 0) : ∃ G4 L', zPr S4 G4 en2 (F + 1) L' := by
  obtain ⟨pc, pl, pn, pr, pa, pcc, pe, pf⟩ := hP
  have c0 : 0 ≤ (S 11 0).toInt := by omega
  have hn := zn_nat c0
  rw [he] at hn
  obtain ⟨s0, s1, s2, s3, s4⟩ := zgu_s (G := G) (t := e) (a := 100000) (b := 0) (c := n) (d := n) (e := (F : Int))
  have hq2 : zfq S S2 G (zgu G e 100000 0 n n (F : Int)) := by
    refine ⟨by omega, by rw [er 13 (by decide) (by decide) (by decide) (by decide)]; exact Int.le_refl _, by rw [er 14 (by decide) (by decide) (by decide) (by decide)]; exact Int.le_refl _, fun r hr => ?_, fun m _ => ?_, fun k _ _ => ?_⟩
    · have hne : r ≠ e := by omega
      rw [e0, e1, e2, zu_n hne, zu_n hne, zu_n hne]
      exact ⟨rfl, rfl, rfl, fun k _ => zgu_n hne⟩
    · rw [er 4 (by decide) (by decide) (by decide) (by decide), er 5 (by decide) (by decide) (by decide) (by decide), er 6 (by decide) (by decide) (by decide) (by decide), er 7 (by decide) (by decide) (by decide) (by decide), er 8 (by decide) (by decide) (by decide) (by decide), zgu_5]
      exact ⟨rfl, rfl, rfl, rfl, rfl, rfl⟩
    · rw [er 9 (by decide) (by decide) (by decide) (by decide)]
  have hz2 : zS0 S2 := by
    refine ⟨by rw [e12]; exact c0, by rw [e12]; omega, ?_⟩
    rw [e12, he]
    rcases pc with ⟨-, -, u⟩ | ⟨-, u, -⟩
    · rw [e3a u, zu_s]; decide
    · have hc := zn_nat u.1
      have := u.2.1
      rw [e3b u.1, zu_n (by omega), zu_s]; exact u.2.2
  have k4 := zx_op (b := 0) (c3 := n) (d := 1000) 17 hz2 q a4 rfl (Int.le_refl _) (by omega) (Int.le_refl _) h0 (by decide) m4 (fun G' t g0 _ _ _ _ _ => by simp only [zop]; rw [g0]; decide)
  have ht4 : Int32.toNatClampNeg (S4 0 (Int32.toNatClampNeg (S4 12 0))) = 17 := by rw [a4.2.1, a4.2.2.1, zu_s]; rfl
  have ht5 : zgu G3 (Int32.toNatClampNeg (S3 11 0)) (0 + 1) 0 n 1000 (F : Int) (Int32.toNatClampNeg (S4 12 0)) 3 = 1000 := by rw [a4.2.1]; exact zgu_s.2.2.2.1
  generalize zgu G3 (Int32.toNatClampNeg (S3 11 0)) (0 + 1) 0 n 1000 (F : Int) = G4 at k4 ht5
  generalize hY : X ++ [Int32.toNatClampNeg (S3 11 0)] = Y at k4
  have hYne : Y ≠ [] := by rw [← hY]; simp
  have hz4 := zE_end hz2 k4
  obtain ⟨b1, b2, b3, b4, b5, b6, b7, b8, b9, ba⟩ := k4
  rw [List.append_nil] at b3 b5 b6 b7 b8
  rw [e12, he] at b3 b5
  have l2 := b1.1
  have hQ : zfq S S4 G G4 := zfq_tr hq2 (zfr_q b1)
  have hfn : ∀ g, g < F → zfn S S4 g := fun g hg => zfn_tr (ef g hg) (b1.2.2.2.2.2.2 g)
  have heY : e ∉ Y := fun g => by have := b6 e g; omega
  have hLr : ∀ r ∈ L, (r : Int) < (S 11 0).toInt := fun r hr => (pr r hr).1
  have hrow2 : zrow S2 (zgu G e 100000 0 n n (F : Int)) F e [] := by
    refine ⟨fun g => (nomatch g), by rw [s0]; decide, by rw [s1]; exact Int.le_refl _, by rw [s2]; exact h0, by rw [s3]; exact h0, by rw [s2]; exact enm, s4, ?_⟩
    rw [e0, zu_s]
    show zop S2 _ F e [] 0
    simp only [zop]
    rw [s0, s1, s2, s3, e1, zu_s]
    exact ⟨rfl, rfl, hf32, Int.le_refl _, by omega, by rw [e0, zu_s]; decide⟩
  have hrow4 : zrow S4 G4 F e Y := zrow_fr (po := []) b1 (fun q hq => by
    rcases List.mem_cons.mp hq with g | g
    · rw [g]; omega
    · exact nomatch g) (fun _ g => (nomatch g)) heY hrow2
  have he4 := b1.2.2.2.1 e (by omega)
  have hG4 : G4 e 0 = 100000 ∧ G4 e 1 = 0 ∧ G4 e 3 = n ∧ G4 e 4 = (F : Int) := ⟨by rw [he4.2.2.2 0 (by decide)]; exact s0, by rw [he4.2.2.2 1 (by decide)]; exact s1, by rw [he4.2.2.2 3 (by decide)]; exact s3, by rw [he4.2.2.2 4 (by decide)]; exact s4⟩
  have hLd : ∀ r ∈ L, r ∉ e :: Y := fun r hr g => by
    have := hLr r hr
    rcases List.mem_cons.mp g with g | g
    · omega
    · have := b6 r g; omega
  have hYf : ∀ r ∈ Y, G4 r 4 = (F : Int) := by
    clear b2 b3 b5 b6 b7 b8 ba heY hLd hrow4 hYne hY
    induction Y with
    | nil => intro r hr; exact nomatch hr
    | cons y Y ih =>
      intro r hr
      rcases List.mem_cons.mp hr with g | g
      · rw [g]; exact b9.1.2.2.2.2.2.2.1
      · exact ih b9.2 r g
  have hccY : zcc S4 G4 (e :: Y) := by
    have hcY := zcc_seg b9 ba
    have hh := ba
    cases Y with
    | nil => trivial
    | cons y Y => exact ⟨Or.inr ⟨by rw [hG4.2.1]; exact hh.1, by rw [hG4.2.2.1]; exact hh.2.1, by rw [hG4.2.2.2]; exact hYf y List.mem_cons_self⟩, hcY⟩
  refine ⟨G4, L ++ e :: Y, Or.inr ⟨by simp, hz4, ?_, ?_, ?_, ?_⟩, ?_, ?_, fun r hr => ?_, ?_, ?_, fun g hg => ?_, fun g hg => ?_⟩
  · rcases pc with ⟨u1, u2, u3⟩ | ⟨u1, u2, u3, u4, u5⟩
    · rw [u1]
      refine ⟨?_, b3⟩
      show (0 : Int32).toInt = (e : Int)
      have : (0 : Int32).toInt = 0 := by decide
      omega
    · have hc := zn_nat u2.1
      have hc2 := u2.2.1
      refine zli_app (d := 0) u1 pn u3 (fun r hr hne => ?_) ?_
      · have := hLr r hr
        rw [u4] at hne
        rw [b2 r (by omega) (by rw [e12]; omega), e3b u2.1, zu_n hne, zu_n (by omega)]
      · rw [u4, b2 _ (by omega) (by rw [e12]; omega), e3b u2.1, zu_s]
        exact ⟨by omega, b3⟩
  · rw [zla_app]; exact b5
  · rw [zla_app]
    show Int32.toNatClampNeg (S4 0 (zla e Y)) = 17
    rw [b5]; exact ht4
  · rw [zla_app]
    show 1000 ≤ G4 (zla e Y) 3
    rw [b5, ht5]; exact Int.le_refl _
  · rw [List.length_append, List.length_cons]
    omega
  · refine List.nodup_append.mpr ⟨pn, List.nodup_cons.mpr ⟨heY, b8⟩, fun r hr q hq g => hLd r hr (g ▸ hq)⟩
  · rcases List.mem_append.mp hr with g | g
    · obtain ⟨p1, f, p2, p3⟩ := pr r g
      have := hQ.2.2.2.1 r p1
      exact ⟨by omega, f, by omega, by rw [this.2.2.2 4 (by decide)]; exact p3⟩
    · rcases List.mem_cons.mp g with g | g
      · rw [g]; exact ⟨by omega, F, by omega, hG4.2.2.2⟩
      · have := b6 r g
        exact ⟨by omega, F, by omega, hYf r g⟩
  · refine zall_fr hQ hLr (fun r hr f hf => ?_) hLd pa ⟨⟨F, hrow4⟩, zall_seg b9⟩
    obtain ⟨-, f', p2, p3⟩ := pr r hr
    have : f = f' := by omega
    rw [this]; exact hfn f' p2
  · refine zcc_app hccY 0 (zcc_ext (fun r hr => ⟨(hQ.2.2.2.1 r (hLr r hr)).1, (hQ.2.2.2.1 r (hLr r hr)).2.2.2⟩) pcc) ?_
    rcases pc with ⟨u1, -, -⟩ | ⟨u1, -, -, -, u5⟩
    · exact Or.inl u1
    · refine Or.inr (Or.inl ?_)
      have hq9 := hQ.2.2.2.1 _ (hLr _ (zla_mem u1 0))
      rw [hq9.1, hq9.2.2.2 3 (by decide)]; exact u5
  · by_cases g1 : g = F
    · rw [g1, een, zu_s, ev, he]
      exact ⟨c0, List.mem_append.mpr (Or.inr List.mem_cons_self), by rw [he4.1, e0, zu_s]; rfl, hG4.2.2.2⟩
    · obtain ⟨p1, p2, p3, p4⟩ := pe g (by omega)
      have := hQ.2.2.2.1 _ (hLr _ p2)
      rw [een, zu_n g1]
      exact ⟨p1, List.mem_append.mpr (Or.inl p2), by rw [this.1]; exact p3, by rw [this.2.2.2 4 (by decide)]; exact p4⟩
  · by_cases g1 : g = F
    · have t4 := (b1.2.2.2.2.2.2 F).2.1
      rw [g1, t4]
      exact ⟨by omega, by omega, by omega, m5⟩
    · obtain ⟨p1, p2, p3, p4⟩ := pf g (by omega)
      obtain ⟨t1, t2, t3⟩ := hfn g (by omega)
      rw [t2]
      refine ⟨p1, p2, by omega, ?_⟩
      rcases t3 with t3 | t3
      · rw [t3]; exact p4
      · exact t3
/-- a function's facts are cleared -/
def zfz (gf g2 : Nat → Int32) (Z i : Nat) : Prop := ∀ j, g2 j = if 5 * Z ≤ j ∧ j < 5 * Z + i then 0 else gf j
theorem zfz_0 {gf : Nat → Int32} {Z i : Nat} (h : i = 0) : zfz gf gf Z i := fun j => by rw [if_neg (by omega)]
theorem zfz_st {gf gl g2 : Nat → Int32} {Z i i2 k : Nat} (h : zfz gf gl Z i) (e : g2 = upd gl k 0) (ek : k = 5 * Z + i) (ei : i2 = i + 1) : zfz gf g2 Z i2 := fun j => by
  rw [e]
  by_cases u : j = k
  · rw [u, zu_s, if_pos (by omega)]
  · rw [zu_n u, h j]
    by_cases v : 5 * Z ≤ j ∧ j < 5 * Z + i
    · rw [if_pos v, if_pos (by omega)]
    · rw [if_neg v, if_neg (by omega)]
/-- other functions' facts -/
def zfo (F : Nat) (ff ff2 : Nat → Int32) : Prop := ∀ g : Nat, g ≠ F → (ff (5 * g + 1)).toInt ≤ (ff2 (5 * g + 1)).toInt ∧ ff2 (5 * g) = ff (5 * g) ∧ (ff2 (5 * g + 1) = ff (5 * g + 1) ∨ (ff2 (5 * g + 1)).toInt ≤ 24)
theorem zfo_rf {F : Nat} {ff : Nat → Int32} : zfo F ff ff := fun _ _ => ⟨Int.le_refl _, rfl, Or.inl rfl⟩
theorem zfo_tr {F : Nat} {ff f1 f2 : Nat → Int32} (a : zfo F ff f1) (b : zfo F f1 f2) : zfo F ff f2 := fun g hg => ⟨Int.le_trans (a g hg).1 (b g hg).1, (b g hg).2.1.trans (a g hg).2.1, by
  rcases (b g hg).2.2 with q | q
  · rw [q]; exact (a g hg).2.2
  · exact Or.inr q⟩
theorem zfo_ff {F : Nat} {ff f1 : Nat → Int32} (a : zff ff f1) : zfo F ff f1 := fun g _ => a g
theorem zfo_0 {F : Nat} {ff f1 : Nat → Int32} {x : Int32} (e : f1 = upd ff (5 * F + 0) x) : zfo F ff f1 := fun g hg => by
  rw [e, zu_n (by omega), zu_n (by omega)]; exact ⟨Int.le_refl _, rfl, Or.inl rfl⟩
theorem zfo_z {F : Nat} {ff f1 : Nat → Int32} (e : zfz ff f1 F 5) : zfo F ff f1 := fun g hg => by
  rw [e (5 * g), e (5 * g + 1), if_neg (by omega), if_neg (by omega)]; exact ⟨Int.le_refl _, rfl, Or.inl rfl⟩
