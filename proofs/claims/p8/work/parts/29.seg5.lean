/-- a row comes, and is judged -/
theorem zx_row {S0 S S2 : Nat → Nat → Int32} {G0 G : Nat → Nat → Int} {f : Nat} {h c h2 c2 b c3 d : Int} {X : List Nat} {o x : Int32} (h0 : zS0 S0) (k : zE S0 S G0 G f h c X [] h2 c2) (ha : zap S S2 o x) (hc : c3 ≤ c2) (hz : zrow S2 (zgu G (Int32.toNatClampNeg (S 11 0)) h2 b c3 d (f : Int)) f (Int32.toNatClampNeg (S 11 0)) []) : zE S0 S2 G0 (zgu G (Int32.toNatClampNeg (S 11 0)) h2 b c3 d (f : Int)) f h c (X ++ [Int32.toNatClampNeg (S 11 0)]) [] b d :=
  zE_tr h0 k (zE_judge (zE_ap (zE_end h0 k) ha) hc hz)
theorem zx_op {S0 S S2 : Nat → Nat → Int32} {G0 G : Nat → Nat → Int} {f : Nat} {h c h2 c2 b c3 d : Int} {X : List Nat} {o x : Int32} (n : Nat) (h0 : zS0 S0) (k : zE S0 S G0 G f h c X [] h2 c2) (ha : zap S S2 o x) (hn : Int32.toNatClampNeg o = n) (hc : c3 ≤ c2) (h1 : 0 ≤ h2) (h3 : 0 ≤ b) (h4 : 0 ≤ c3) (h5 : 0 ≤ d) (hm : c3 ≤ (S2 10 (5 * f + 1)).toInt) (hz : ∀ G' : Nat → Nat → Int, ∀ t, G' t 0 = h2 → G' t 1 = b → G' t 2 = c3 → G' t 3 = d → S2 1 t = x → (S2 2 t).toInt = -1 → zop S2 G' f t [] n) : zE S0 S2 G0 (zgu G (Int32.toNatClampNeg (S 11 0)) h2 b c3 d (f : Int)) f h c (X ++ [Int32.toNatClampNeg (S 11 0)]) [] b d := by
  obtain ⟨s0, s1, s2, s3, s4⟩ := zgu_s (G := G) (t := Int32.toNatClampNeg (S 11 0)) (a := h2) (b := b) (c := c3) (d := d) (e := (f : Int))
  refine zx_row h0 k ha hc ⟨fun g => (nomatch g), by rw [s0]; exact h1, by rw [s1]; exact h3, by rw [s2]; exact h4, by rw [s3]; exact h5, by rw [s2]; exact hm, s4, ?_⟩
  have e0 : S2 0 (Int32.toNatClampNeg (S 11 0)) = o := by rw [ha.2.2.1, zu_s]
  have e1 : S2 1 (Int32.toNatClampNeg (S 11 0)) = x := by rw [ha.2.2.2.1, zu_s]
  have e2 : (S2 2 (Int32.toNatClampNeg (S 11 0))).toInt = -1 := by rw [ha.2.2.2.2.1, zu_s]; decide
  rw [e0, hn]
  exact hz _ _ s0 s1 s2 s3 e1 e2
theorem zx_step {S0 S S2 : Nat → Nat → Int32} {G0 G : Nat → Nat → Int} {f : Nat} {h c h2 c2 : Int} {X : List Nat} {x : Int32} (h0 : zS0 S0) (k : zE S0 S G0 G f h c X [] h2 c2) (ha : zap S S2 1 x) (h1 : 0 ≤ h2) (h4 : 0 ≤ c2) (hm : c2 ≤ (S2 10 (5 * f + 1)).toInt) : ∃ G2, zE S0 S2 G0 G2 f h c (X ++ [Int32.toNatClampNeg (S 11 0)]) [] h2 c2 :=
  ⟨_, zx_op 1 h0 k ha rfl (Int.le_refl _) h1 h1 h4 h4 hm (fun G' t s0 s1 s2 s3 _ _ => by simp only [zop]; rw [s0, s1, s2, s3]; exact ⟨rfl, Int.le_refl _⟩)⟩
theorem zx_push {S0 S S2 : Nat → Nat → Int32} {G0 G : Nat → Nat → Int} {f : Nat} {h c h2 c2 : Int} {X : List Nat} {x : Int32} (h0 : zS0 S0) (k : zE S0 S G0 G f h c X [] h2 c2) (ha : zap S S2 2 x) (h1 : 0 ≤ h2) (h4 : 0 ≤ c2) (hm : c2 ≤ (S2 10 (5 * f + 1)).toInt) : ∃ G2, zE S0 S2 G0 G2 f h c (X ++ [Int32.toNatClampNeg (S 11 0)]) [] (h2 + 1) c2 :=
  ⟨_, zx_op 2 h0 k ha rfl (Int.le_refl _) h1 (by omega) h4 h4 hm (fun G' t s0 s1 s2 s3 _ _ => by simp only [zop]; rw [s0, s1, s2, s3]; exact ⟨rfl, Int.le_refl _⟩)⟩
theorem zx_kal {S0 S S2 : Nat → Nat → Int32} {G0 G : Nat → Nat → Int} {f : Nat} {h c h2 c2 : Int} {X : List Nat} {x : Int32} (h0 : zS0 S0) (k : zE S0 S G0 G f h c X [] h2 c2) (ha : zap S S2 4 x) (hx : 0 ≤ x.toInt) (hx2 : x.toInt < (S2 14 0).toInt) (hk : (S2 9 (Int32.toNatClampNeg x)).toInt = 0) (h1 : 0 ≤ h2) (h4 : 0 ≤ c2) (hm : c2 ≤ (S2 10 (5 * f + 1)).toInt) : ∃ G2, zE S0 S2 G0 G2 f h c (X ++ [Int32.toNatClampNeg (S 11 0)]) [] (h2 + 1) c2 :=
  ⟨_, zx_op 4 h0 k ha rfl (Int.le_refl _) h1 (by omega) h4 h4 hm (fun G' t s0 s1 s2 s3 e1 _ => by simp only [zop]; rw [s0, s1, s2, s3, e1]; exact ⟨hx, hx2, hk, rfl, Int.le_refl _⟩)⟩
theorem zx_name {S0 S S2 : Nat → Nat → Int32} {G0 G : Nat → Nat → Int} {f : Nat} {h c h2 c2 : Int} {X : List Nat} {x : Int32} (h0 : zS0 S0) (k : zE S0 S G0 G f h c X [] h2 c2) (ha : zap S S2 3 x) (hx : 0 ≤ x.toInt) (hx2 : x.toInt < c2) (h1 : 0 ≤ h2) (h4 : 0 ≤ c2) (hm : c2 ≤ (S2 10 (5 * f + 1)).toInt) : ∃ G2, zE S0 S2 G0 G2 f h c (X ++ [Int32.toNatClampNeg (S 11 0)]) [] (h2 + 1) c2 :=
  ⟨_, zx_op 3 h0 k ha rfl (Int.le_refl _) h1 (by omega) h4 h4 hm (fun G' t s0 s1 s2 s3 e1 _ => by simp only [zop]; rw [s0, s1, s2, s3, e1]; exact ⟨hx, hx2, rfl, Int.le_refl _⟩)⟩
theorem zx_bin {S0 S S2 : Nat → Nat → Int32} {G0 G : Nat → Nat → Int} {f : Nat} {h c h2 c2 : Int} {X : List Nat} {o x : Int32} (h0 : zS0 S0) (k : zE S0 S G0 G f h c X [] h2 c2) (ha : zap S S2 o x) (ho : o = 8 ∨ o = 9 ∨ o = 10 ∨ o = 11) (h1 : 2 ≤ h2) (h4 : 0 ≤ c2) (hm : c2 ≤ (S2 10 (5 * f + 1)).toInt) : ∃ G2, zE S0 S2 G0 G2 f h c (X ++ [Int32.toNatClampNeg (S 11 0)]) [] (h2 - 1) c2 := by
  rcases ho with rfl | rfl | rfl | rfl
  · exact ⟨_, zx_op 8 h0 k ha rfl (Int.le_refl _) (by omega) (by omega) h4 h4 hm (fun G' t s0 s1 s2 s3 _ _ => by simp only [zop]; rw [s0, s1, s2, s3]; exact ⟨h1, rfl, Int.le_refl _⟩)⟩
  · exact ⟨_, zx_op 9 h0 k ha rfl (Int.le_refl _) (by omega) (by omega) h4 h4 hm (fun G' t s0 s1 s2 s3 _ _ => by simp only [zop]; rw [s0, s1, s2, s3]; exact ⟨h1, rfl, Int.le_refl _⟩)⟩
  · exact ⟨_, zx_op 10 h0 k ha rfl (Int.le_refl _) (by omega) (by omega) h4 h4 hm (fun G' t s0 s1 s2 s3 _ _ => by simp only [zop]; rw [s0, s1, s2, s3]; exact ⟨h1, rfl, Int.le_refl _⟩)⟩
  · exact ⟨_, zx_op 11 h0 k ha rfl (Int.le_refl _) (by omega) (by omega) h4 h4 hm (fun G' t s0 s1 s2 s3 _ _ => by simp only [zop]; rw [s0, s1, s2, s3]; exact ⟨h1, rfl, Int.le_refl _⟩)⟩
theorem zx_kind {S0 S S2 : Nat → Nat → Int32} {G0 G : Nat → Nat → Int} {f : Nat} {h c h2 c2 n : Int} {X : List Nat} {x : Int32} (h0 : zS0 S0) (k : zE S0 S G0 G f h c X [] h2 c2) (ha : zap S S2 5 x) (hx : 0 ≤ x.toInt) (hx2 : x.toInt < (S2 14 0).toInt) (hk : (S2 9 (Int32.toNatClampNeg x)).toInt = n) (hn : 1 ≤ n) (h1 : n ≤ h2) (h4 : 0 ≤ c2) (hm : c2 ≤ (S2 10 (5 * f + 1)).toInt) : ∃ G2, zE S0 S2 G0 G2 f h c (X ++ [Int32.toNatClampNeg (S 11 0)]) [] (h2 - n + 1) c2 :=
  ⟨_, zx_op 5 h0 k ha rfl (Int.le_refl _) (by omega) (by omega) h4 h4 hm (fun G' t s0 s1 s2 s3 e1 _ => by simp only [zop]; rw [s0, s1, s2, s3, e1, hk]; exact ⟨hx, hx2, hn, h1, rfl, Int.le_refl _⟩)⟩
theorem zx_let {S0 S S2 : Nat → Nat → Int32} {G0 G : Nat → Nat → Int} {f : Nat} {h c h2 c2 : Int} {X : List Nat} {x : Int32} (h0 : zS0 S0) (k : zE S0 S G0 G f h c X [] h2 c2) (ha : zap S S2 12 x) (hx : x.toInt = c2) (h1 : 1 ≤ h2) (h4 : 0 ≤ c2) (hm : c2 + 1 ≤ (S2 10 (5 * f + 1)).toInt) : ∃ G2, zE S0 S2 G0 G2 f h c (X ++ [Int32.toNatClampNeg (S 11 0)]) [] (h2 - 1) (c2 + 1) :=
  ⟨_, zx_op 12 h0 k ha rfl (Int.le_refl _) (by omega) (by omega) h4 (by omega) (by omega) (fun G' t s0 s1 s2 s3 e1 _ => by simp only [zop]; rw [s0, s1, s2, s3, e1]; exact ⟨h1, rfl, hx, Int.le_refl _, hm⟩)⟩
theorem zx_if {S0 S S2 : Nat → Nat → Int32} {G0 G : Nat → Nat → Int} {f : Nat} {h c h2 c2 : Int} {X : List Nat} (h0 : zS0 S0) (k : zE S0 S G0 G f h c X [] h2 c2) (ha : zap S S2 13 (-1)) (h1 : 1 ≤ h2) (h4 : 0 ≤ c2) (hm : c2 ≤ (S2 10 (5 * f + 1)).toInt) : ∃ G2, zE S0 S2 G0 G2 f h c (X ++ [Int32.toNatClampNeg (S 11 0)]) [] (h2 - 1) c2 ∧ G2 (Int32.toNatClampNeg (S 11 0)) 0 = h2 ∧ G2 (Int32.toNatClampNeg (S 11 0)) 2 = c2 := by
  obtain ⟨s0, s1, s2, s3, s4⟩ := zgu_s (G := G) (t := Int32.toNatClampNeg (S 11 0)) (a := h2) (b := h2 - 1) (c := c2) (d := c2) (e := (f : Int))
  exact ⟨_, zx_op 13 h0 k ha rfl (Int.le_refl _) (by omega) (by omega) h4 h4 hm (fun G' t s0 s1 s2 s3 e1 _ => by simp only [zop]; rw [s0, s1, s2, s3]; exact ⟨h1, rfl, Int.le_refl _, Or.inl (by rw [e1]; decide)⟩), s0, s2⟩
/-- a row that leads elsewhere: what comes behind it begins at (b, d) -/
theorem zx_jump {S0 S S2 : Nat → Nat → Int32} {G0 G : Nat → Nat → Int} {f : Nat} {h c h2 c2 b d : Int} {X : List Nat} (h0 : zS0 S0) (k : zE S0 S G0 G f h c X [] h2 c2) (ha : zap S S2 14 (-1)) (h1 : 0 ≤ h2) (h3 : 0 ≤ b) (h4 : 0 ≤ c2) (h5 : 0 ≤ d) (hm : c2 ≤ (S2 10 (5 * f + 1)).toInt) : ∃ G2, zE S0 S2 G0 G2 f h c (X ++ [Int32.toNatClampNeg (S 11 0)]) [] b d ∧ G2 (Int32.toNatClampNeg (S 11 0)) 0 = h2 ∧ G2 (Int32.toNatClampNeg (S 11 0)) 1 = b ∧ G2 (Int32.toNatClampNeg (S 11 0)) 2 = c2 ∧ G2 (Int32.toNatClampNeg (S 11 0)) 3 = d := by
  obtain ⟨s0, s1, s2, s3, s4⟩ := zgu_s (G := G) (t := Int32.toNatClampNeg (S 11 0)) (a := h2) (b := b) (c := c2) (d := d) (e := (f : Int))
  exact ⟨_, zx_op 14 h0 k ha rfl (Int.le_refl _) h1 h3 h4 h5 hm (fun G' t s0 s1 s2 s3 e1 _ => by simp only [zop]; exact Or.inl (by rw [e1]; decide)), s0, s1, s2, s3⟩
theorem zseg_4 {S : Nat → Nat → Int32} {G : Nat → Nat → Int} {f : Nat} : ∀ {X : List Nat}, zseg S G f X → ∀ r ∈ X, G r 4 = (f : Int)
  | [], _, r, hr => nomatch hr
  | x :: X, h, r, hr => by
    rcases List.mem_cons.mp hr with g | g
    · rw [g]; exact h.1.2.2.2.2.2.2.1
    · exact zseg_4 h.2 r g
/-- where an if, or a jump, leads is written: behind row j of the stretch -/
theorem zx_lead {S0 S S2 : Nat → Nat → Int32} {G0 G : Nat → Nat → Int} {f r j : Nat} {h c h2 c2 : Int} {X P Q : List Nat} {v : Int32} (k : zE S0 S G0 G f h c X [] h2 c2) (eX : X = P ++ r :: Q) (ek : ∀ k, k ≠ 1 → S2 k = S k) (e1 : S2 1 = upd (S 1) r v) (hv : v.toInt = (j : Int)) (hj : j ∈ r :: Q) (ho : Int32.toNatClampNeg (S 0 r) = 13 ∧ G j 1 = G r 0 - 1 ∨ Int32.toNatClampNeg (S 0 r) = 14 ∧ G j 1 = G r 0) (h3 : G j 3 ≤ G r 2) : zE S0 S2 G0 G f h c X [] h2 c2 := by
  subst eX
  have hjv : Int32.toNatClampNeg v = j := by have := zn_nat (x := v) (by omega); omega
  have hzr : zrow S G f r Q := by
    have := k.2.2.2.2.2.2.2.2.1
    clear k
    induction P with
    | nil => exact this.1
    | cons p P ih => exact ih this.2
  have hj4 : G j 4 = G r 4 := by
    have hsg := k.2.2.2.2.2.2.2.2.1
    rw [zseg_4 hsg j (List.mem_append.mpr (Or.inr hj)), zseg_4 hsg r (List.mem_append.mpr (Or.inr List.mem_cons_self))]
  have er : S2 1 r = v := by rw [e1, zu_s]
  refine zE_patch k (ek 3 (by decide)) (ek 11 (by decide)) (ek 12 (by decide)) (fun k k1 _ _ => ek k (by omega)) (fun q hq => by rw [ek 0 (by decide), ek 2 (by decide), e1, zu_n hq]; exact ⟨rfl, rfl, rfl⟩) ?_
  obtain ⟨y1, y2, y3, y4, y5, y6, y7, y8⟩ := hzr
  refine ⟨y1, y2, y3, y4, y5, by rw [ek 10 (by decide)]; exact y6, y7, ?_⟩
  rw [ek 0 (by decide)]
  rcases ho with ⟨o1, o2⟩ | ⟨o1, o2⟩
  · rw [o1] at y8 ⊢
    simp only [zop] at y8 ⊢
    exact ⟨y8.1, y8.2.1, y8.2.2.1, Or.inr (by rw [er, hjv]; exact ⟨by omega, hj, o2, h3, hj4⟩)⟩
  · rw [o1] at y8 ⊢
    simp only [zop] at y8 ⊢
    exact Or.inr (by rw [er, hjv]; exact ⟨by omega, hj, o2, h3, hj4⟩)
/-- a call's row: its number of arguments is written behind it -/
theorem zx_call {S0 S S1 S2 : Nat → Nat → Int32} {G0 G : Nat → Nat → Int} {f : Nat} {h c h2 c2 : Int} {X : List Nat} {o x n : Int32} (h0 : zS0 S0) (k : zE S0 S G0 G f h c X [] h2 c2) (ha : zap S S1 o x) (ek : ∀ k, k ≠ 2 → S2 k = S1 k) (e2 : S2 2 = upd (S1 2) (Int32.toNatClampNeg (S 11 0)) n) (ho : o = 6 ∨ o = 7 ∧ 1 ≤ n.toInt) (hn : 0 ≤ n.toInt) (h1 : n.toInt ≤ h2) (h4 : 0 ≤ c2) (hm : c2 ≤ (S2 10 (5 * f + 1)).toInt) : ∃ G2, zE S0 S2 G0 G2 f h c (X ++ [Int32.toNatClampNeg (S 11 0)]) [] (h2 - n.toInt + 1) c2 := by
  have k1 := zE_ap (G := G) (f := f) (h := h2) (c := c2) (zE_end h0 k) ha
  have k2 : zE S S2 G G f h2 c2 [] [Int32.toNatClampNeg (S 11 0)] h2 c2 := zE_patchT k1 (ek 3 (by decide)) (ek 11 (by decide)) (ek 12 (by decide)) (fun k k1 _ _ => ek k (by omega)) (fun q hq => by rw [ek 0 (by decide), ek 1 (by decide), e2, zu_n hq]; exact ⟨rfl, rfl, rfl⟩)
  obtain ⟨s0, s1, s2, s3, s4⟩ := zgu_s (G := G) (t := Int32.toNatClampNeg (S 11 0)) (a := h2) (b := h2 - n.toInt + 1) (c := c2) (d := c2) (e := (f : Int))
  refine ⟨_, zE_tr h0 k (zE_judge (b := h2 - n.toInt + 1) (c2 := c2) (d := c2) k2 (Int.le_refl _) ⟨fun g => (nomatch g), by rw [s0]; omega, by rw [s1]; omega, by rw [s2]; exact h4, by rw [s3]; exact h4, by rw [s2]; exact hm, s4, ?_⟩)⟩
  have e0 : S2 0 (Int32.toNatClampNeg (S 11 0)) = o := by rw [ek 0 (by decide), ha.2.2.1, zu_s]
  have eb : S2 2 (Int32.toNatClampNeg (S 11 0)) = n := by rw [e2, zu_s]
  rw [e0]
  rcases ho with rfl | ⟨rfl, hn1⟩
  · show zop S2 _ f _ [] 6
    simp only [zop]
    rw [eb, s0, s1, s2, s3]
    exact ⟨hn, h1, rfl, Int.le_refl _⟩
  · show zop S2 _ f _ [] 7
    simp only [zop]
    rw [eb, s0, s1, s2, s3]
    exact ⟨hn1, h1, rfl, Int.le_refl _⟩
/-- the match's own row, not judged yet -/
theorem zx_match {S0 S S2 : Nat → Nat → Int32} {G0 G : Nat → Nat → Int} {f s : Nat} {h c : Int} {x fo : Int32} (h0 : zS0 S0) (k : zE S0 S G0 G f h c [s] [] h c) (ha : zap S S2 15 x) (hx : 0 ≤ x.toInt) (hx2 : x.toInt < c) (hfo : fo.toInt = -1) : zM S0 S2 G0 G f h c (Int32.toNatClampNeg (S 11 0)) fo 0 := by
  have k1 := zE_tr h0 k (zE_ap (G := G) (f := f) (h := h) (c := c) (zE_end h0 k) ha)
  refine Or.inl ⟨hfo, rfl, s, k1, by rw [ha.2.2.1, zu_s]; rfl, by rw [ha.2.2.2.2.1, zu_s]; decide, by rw [ha.2.2.2.1, zu_s]; exact hx, by rw [ha.2.2.2.1, zu_s]; exact hx2⟩
/-- the last row of an arm, not judged yet -/
theorem zx_leave {S0 S S2 : Nat → Nat → Int32} {G0 G : Nat → Nat → Int} {f : Nat} {h c h2 c2 : Int} {X : List Nat} (h0 : zS0 S0) (k : zE S0 S G0 G f h c X [] h2 c2) (ha : zap S S2 16 (-1)) : zE S0 S2 G0 G f h c X [Int32.toNatClampNeg (S 11 0)] h2 c2 ∧ Int32.toNatClampNeg (S2 0 (Int32.toNatClampNeg (S 11 0))) = 16 ∧ (S2 1 (Int32.toNatClampNeg (S 11 0))).toInt = -1 := by
  have k1 := zE_tr h0 k (zE_ap (G := G) (f := f) (h := h2) (c := c2) (zE_end h0 k) ha)
  rw [List.append_nil] at k1
  exact ⟨k1, by rw [ha.2.2.1, zu_s]; rfl, by rw [ha.2.2.2.1, zu_s]; decide⟩
/-- a match between its arms, while other tables change -/
theorem zM_idT {S0 S S2 : Nat → Nat → Int32} {G0 G : Nat → Nat → Int} {f : Nat} {h c : Int} {m n : Nat} {fo : Int32} (hF : zfr S S2 G G) (e3 : S2 3 = S 3) (e11 : S2 11 0 = S 11 0) (e12 : S2 12 0 = S 12 0) (hM : zM S0 S G0 G f h c m fo n) : zM S0 S2 G0 G f h c m fo n := by
  rcases hM with ⟨h1, h2, s, k, k15, k2, ka, kb⟩ | ⟨h1, s, Y, t, AL, cx, k, k2, k16, kt, k5, k6, k7, k8, k9, ka, kb, kc, kd, ke, kf, kg⟩
  · have hm := hF.2.2.2.1 m (k.2.2.2.2.2.1 m (List.mem_append.mpr (Or.inr List.mem_cons_self))).2
    exact Or.inl ⟨h1, h2, s, zE_idT k hF e3 e11 e12, by rw [hm.1]; exact k15, by rw [hm.2.2.1]; exact k2, by rw [hm.2.1]; exact ka, by rw [hm.2.1]; exact kb⟩
  · have hr := k.2.2.2.2.2.1
    have hX : ∀ r ∈ s :: m :: Y, (r : Int) < (S 11 0).toInt := fun r hr2 => (hr r (List.mem_append.mpr (Or.inl hr2))).2
    have hm := hF.2.2.2.1 m (hX m (List.mem_cons_of_mem _ List.mem_cons_self))
    have ht := hF.2.2.2.1 t (hr t (List.mem_append.mpr (Or.inr List.mem_cons_self))).2
    refine Or.inr ⟨h1, s, Y, t, AL, cx, zE_idT k hF e3 e11 e12, k2, by rw [ht.1]; exact k16, by rw [ht.2.1]; exact kt, k5, k6, by rw [hm.1]; exact k7, by rw [hm.2.1]; exact k8, by rw [hm.2.1]; exact k9, ka, kb, kc, ?_, ke, fun a ha => ⟨zarm_fr hF (fun r hr2 => hX r (List.mem_cons_of_mem _ hr2)) (fun _ g => g) (kf a ha).1, (kf a ha).2⟩, fun a ha => ?_⟩
    · rw [hm.2.2.1]; exact zli_ext kd (fun a ha => (hF.2.2.2.2.1 a (kf a ha).1.1).2.1)
    · obtain ⟨u1, u2⟩ := kg a ha
      rw [(hF.2.2.2.2.1 a (kf a ha).1.1).2.2.2.1]
      refine ⟨u1, ?_⟩
      rcases u2 with u2 | ⟨u2, u3, u4, u5⟩
      · exact Or.inl u2
      · exact Or.inr ⟨u2, by rw [(hF.2.2.2.1 _ (hX _ u2)).1]; exact u3, u4, u5⟩
