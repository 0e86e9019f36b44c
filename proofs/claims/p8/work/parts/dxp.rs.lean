/-! the reference's tasks, as the plain machine has them -/
def rAt (B : Nat → Nat → Int32) (J : Nat → Int64 → Prop) (z : Nat) (t : Tm) (k : Int32) : Prop := ∃ a b : Nat, k.toInt = (b : Int) - 1 ∧ 1 ≤ b ∧ b ≤ z ∧ rI B J t 0 a b ∧ ¬ tm_cl t
def rTk (B : Nat → Nat → Int32) (J : Nat → Int64 → Prop) (z : Nat) (tw tp : Nat → Int32) : List (Nat × Tm) → Nat → Prop
  | [], n => n = 0
  | (j, t) :: K, n => ∃ m : Nat, n = m + 1 ∧ rTk B J z tw tp K m ∧ (j = 0 ∧ (tw m).toInt = 0 ∧ rAt B J z t (tp m) ∧ sy_x t ∨ j = 1 ∧ (tw m).toInt = 1 ∧ rAt B J z t (tp m) ∧ sy_x t ∨ j = 2 ∧ (tw m).toInt = 3)
section
variable {B : Nat → Nat → Int32} {J : Nat → Int64 → Prop} {z : Nat} {tw tp tw2 tp2 : Nat → Int32}
theorem rTk_cg : ∀ {K : List (Nat × Tm)} {n : Nat}, (∀ i, i < n → tw2 i = tw i ∧ tp2 i = tp i) → rTk B J z tw tp K n → rTk B J z tw2 tp2 K n
  | [], _, _, h => h
  | (j, t) :: K, n, hg, ⟨m, h1, h2, h3⟩ => by
    obtain ⟨e1, e2⟩ := hg m (by omega)
    exact ⟨m, h1, rTk_cg (fun i hi => hg i (by omega)) h2, by rw [e1, e2]; exact h3⟩
/-- the reference at work, as the plain machine is -/
def rEn (op : Nat) (gpr : Nat → Int32) (gsl : Nat → Int64) (E : List (Nat → Int64)) : Prop := E.length = op ∧ ∀ i, i < op → ∀ j, j < 24 → zbit (gpr i) j = true → gsl (24 * i + j) = E.getD (op - 1 - i) (fun _ => 0) j
def rVa (vd : Nat) (gva : Nat → Int64) (V : List Int64) : Prop := V.length = vd ∧ ∀ i, i < vd → gva i = V.getD (vd - 1 - i) 0
def rCe (kf : Nat → Int32) (gck : Nat → Int32) (gcf : Nat → Int64) (c : Nat) (ck : Nat → Int32) (cf : Nat → Int64) : Prop := ∀ i, i < c → gck i = ck i ∧ ∀ k : Nat, (k : Int) < (kf (Int32.toNatClampNeg (ck i))).toInt → gcf (3 * i + k) = cf (3 * i + k)
theorem rVa_pu {vd : Nat} {gva gva2 : Nat → Int64} {V : List Int64} {v : Int64} (h : rVa vd gva V) (hg : ∀ i, i < vd → gva2 i = gva i) (hv : gva2 vd = v) : rVa (vd + 1) gva2 (v :: V) := by
  obtain ⟨h1, h2⟩ := h
  refine ⟨by rw [List.length_cons]; omega, fun i hi => ?_⟩
  by_cases u : i = vd
  · rw [u, hv, show vd + 1 - 1 - vd = 0 from by omega]; rfl
  · rw [hg i (by omega), h2 i (by omega), show vd + 1 - 1 - i = (vd - 1 - i) + 1 from by omega]; rfl
theorem rVa_dr {vd q : Nat} {gva : Nat → Int64} {V : List Int64} (h : rVa vd gva V) (hq : q ≤ vd) : rVa (vd - q) gva (V.drop q) ∧ ∀ k, k < q → gva (vd - q + k) = V.getD (q - 1 - k) 0 := by
  obtain ⟨h1, h2⟩ := h
  refine ⟨⟨by rw [List.length_drop]; omega, fun i hi => ?_⟩, fun k hk => ?_⟩
  · rw [h2 i (by omega), List.getD_eq_getElem?_getD, List.getD_eq_getElem?_getD, List.getElem?_drop, show q + (vd - q - 1 - i) = vd - 1 - i from by omega]
  · rw [h2 _ (by omega), show vd - 1 - (vd - q + k) = q - 1 - k from by omega]
theorem rI_1s : ∀ {t : Tm} {fi : Int32} {a b : Nat}, tm_k t = 1 → rI B J t fi a b → a < b ∧ ¬ tm_cl t
  | .leaf (some (0, _, _, _, _, _)), _, _, _, _, h => ⟨by have := h.1; omega, fun g => g⟩
  | .leaf (some (_ + 1, _, _, _, _, _)), _, _, _, _, h => ⟨by have := h.1; omega, fun g => g⟩
  | .branch 0 (.leaf (some (0, _, _, _, _, _))) x, _, _, _, _, h => by obtain ⟨m, h1, h2, -⟩ := h; have := rI_le x h1; exact ⟨by omega, fun g => g⟩
  | .branch 0 (.leaf (some (1, _, _, _, _, _))) x, _, _, _, _, h => by obtain ⟨m, h1, h2, -⟩ := h; have := rI_le x h1; exact ⟨by omega, fun g => g⟩
  | .branch 1 (.leaf (some (0, _, _, _, _, _))) (.branch _ x y), _, _, _, _, h => by obtain ⟨m, n, h1, h2, h3, -⟩ := h; have := rI_le x h1; have := rI_le y h2; exact ⟨by omega, fun g => g⟩
  | .branch 1 (.leaf (some (_ + 1, _, _, _, _, _))) (.branch _ x y), _, _, _, _, h => by obtain ⟨m, n, h1, h2, h3, -⟩ := h; have := rI_le x h1; have := rI_le y h2; exact ⟨by omega, fun g => g⟩
  | .branch 2 (.leaf (some (_, _, _, _, _, _))) (.branch _ x (.branch _ y z)), _, _, _, _, h => by obtain ⟨m, n, q, h1, h2, h3, h4, -⟩ := h; have := rI_le x h1; have := rI_le y h2; have := rI_le z h3; exact ⟨by omega, fun g => g⟩
  | .branch 0 (.leaf (some (2, _, _, _, _, _))) x, _, _, _, _, h => by obtain ⟨m, h1, h2, -⟩ := h; have := rI_le x h1; exact ⟨by omega, fun g => g⟩
  | .leaf none, _, _, _, g, _ => nomatch (show (0 : Nat) = 1 from g)
  | .branch (_ + 3) _ _, _, _, _, g, _ => nomatch (show (0 : Nat) = 1 from g)
  | .branch 0 (.leaf (some (_ + 3, _, _, _, _, _))) _, _, _, _, g, _ => nomatch (show (2 : Nat) = 1 from g)
  | .branch 0 (.leaf none) _, _, _, _, g, _ => nomatch (show (0 : Nat) = 1 from g)
  | .branch 0 (.branch _ _ _) _, _, _, _, g, _ => nomatch (show (0 : Nat) = 1 from g)
  | .branch 1 (.leaf none) _, _, _, _, g, _ => nomatch (show (0 : Nat) = 1 from g)
  | .branch 1 (.branch _ _ _) _, _, _, _, g, _ => nomatch (show (0 : Nat) = 1 from g)
  | .branch 1 (.leaf (some (0, _, _, _, _, _))) (.leaf _), _, _, _, g, _ => nomatch (show (0 : Nat) = 1 from g)
  | .branch 1 (.leaf (some (_ + 1, _, _, _, _, _))) (.leaf _), _, _, _, g, _ => nomatch (show (0 : Nat) = 1 from g)
  | .branch 2 (.leaf none) _, _, _, _, g, _ => nomatch (show (0 : Nat) = 1 from g)
  | .branch 2 (.branch _ _ _) _, _, _, _, g, _ => nomatch (show (0 : Nat) = 1 from g)
  | .branch 2 (.leaf (some (_, _, _, _, _, _))) (.leaf _), _, _, _, g, _ => nomatch (show (0 : Nat) = 1 from g)
  | .branch 2 (.leaf (some (_, _, _, _, _, _))) (.branch _ _ (.leaf _)), _, _, _, g, _ => nomatch (show (0 : Nat) = 1 from g)
/-- what is worked at a part -/
theorem rA_w {k : Int32} {n : Nat} : ∀ (t : Tm), sy_x t → rAt B J z t k → n = Int32.toNatClampNeg k → 0 ≤ k.toInt ∧ n < z ∧ pm_pl t = (B 1 n).toInt ∧
    (((B 0 n).toInt = 1 ∧ ∀ (K : List (Nat × Tm)) (V : List Int64) (E : List (Nat → Int64)) (m c : Nat) (ck : Nat → Int32) (cf : Nat → Int64), pm_w t K V E m c ck cf = .ok (K, pv0 (B 2 n) :: V, E, m, c, ck, cf)) ∨
    ((B 0 n).toInt = 2 ∧ 0 ≤ (B 2 n).toInt ∧ ∀ (K : List (Nat × Tm)) (V : List Int64) (E : List (Nat → Int64)) (m c : Nat) (ck : Nat → Int32) (cf : Nat → Int64), pm_w t K V E m c ck cf = .ok (K, E.headD (fun _ => 0) (Int32.toNatClampNeg (B 2 n)) :: V, E, m, c, ck, cf)) ∨
    (((B 0 n).toInt = 3 ∨ (B 0 n).toInt = 4) ∧ ∃ (x t2 : Tm) (a : Nat), tm_li x ∧ tm_sy x false ∧ rI B J x (B 3 n) a n ∧ (B 7 n).toInt = (tm_ln x : Int) ∧ rAt B J z t2 k ∧ sy_x t2 ∧ ∀ (K : List (Nat × Tm)) (V : List Int64) (E : List (Nat → Int64)) (m c : Nat) (ck : Nat → Int32) (cf : Nat → Int64), pm_w t K V E m c ck cf = .ok (pm_as x ++ (1, t2) :: K, V, E, m, c, ck, cf)) ∨
    ((B 0 n).toInt = 5 ∧ ∃ (x y t2 : Tm), rAt B J z x (B 3 n) ∧ rAt B J z y (B 4 n) ∧ rAt B J z t2 k ∧ sy_x x ∧ sy_x y ∧ sy_x t2 ∧ ∀ (K : List (Nat × Tm)) (V : List Int64) (E : List (Nat → Int64)) (m c : Nat) (ck : Nat → Int32) (cf : Nat → Int64), pm_w t K V E m c ck cf = .ok ((0, x) :: (0, y) :: (1, t2) :: K, V, E, m, c, ck, cf)) ∨
    (((B 0 n).toInt = 6 ∨ (B 0 n).toInt = 7) ∧ ∃ (x t2 : Tm), rAt B J z x (B 3 n) ∧ rAt B J z t2 k ∧ sy_x x ∧ sy_x t2 ∧ ∀ (K : List (Nat × Tm)) (V : List Int64) (E : List (Nat → Int64)) (m c : Nat) (ck : Nat → Int32) (cf : Nat → Int64), pm_w t K V E m c ck cf = .ok ((0, x) :: (1, t2) :: K, V, E, m, c, ck, cf)) ∨
    ((B 0 n).toInt = 8 ∧ 0 ≤ (B 2 n).toInt ∧ ∃ (x t2 : Tm) (a : Nat), tm_li x ∧ tm_sy x true ∧ rI B J x (B 3 n) a n ∧ (∀ (K : List (Nat × Tm)) (V : List Int64) (E : List (Nat → Int64)) (m c : Nat) (ck : Nat → Int32) (cf : Nat → Int64), pm_w t K V E m c ck cf = .ok ((1, t2) :: K, V, E, m, c, ck, cf)) ∧ ∀ (F : sp_F) (K : List (Nat × Tm)) (V : List Int64) (E : List (Nat → Int64)) (m c : Nat) (ck : Nat → Int32) (cf : Nat → Int64), pm_d F t2 K V E m c ck cf = pm_mt (B 1 n).toInt (Int32.toNatClampNeg (B 2 n)) x K V E m c ck cf))
  | .leaf (some (0, p, v, _, _, _)), _, ⟨a, b, h1, h2, h3, ⟨g1, g2, g3, g4⟩, h5⟩, e => by
    have hn : n = a := by have := zn_nat (x := k) (by omega); omega
    subst hn
    exact ⟨by omega, by omega, g3.symm, Or.inl ⟨g2, fun _ _ _ _ _ _ _ => by rw [← pi_of g4]; rfl⟩⟩
  | .leaf (some (_ + 1, p, _, s, _, _)), _, ⟨a, b, h1, h2, h3, ⟨g1, g2, g3, g4⟩, h5⟩, e => by
    have hn : n = a := by have := zn_nat (x := k) (by omega); omega
    subst hn
    have es : Int32.toNatClampNeg (B 2 n) = s := by have := zn_nat (x := B 2 n) (by omega); omega
    exact ⟨by omega, by omega, g3.symm, Or.inr (Or.inl ⟨g2, by omega, fun _ _ _ _ _ _ _ => by rw [es]; rfl⟩)⟩
  | .branch 0 (.leaf (some (0, p, _, _, _, w))) x, hs, ⟨a, b, h1, h2, h3, ⟨m, g1, g2, g3, g4, g5, g6⟩, h5⟩, e => by
    have hn : n = m := by have := zn_nat (x := k) (by omega); omega
    subst hn
    exact ⟨by omega, by omega, g4.symm, Or.inr (Or.inr (Or.inl ⟨Or.inl g3, x, Tm.call p w x, a, hs.2.1, hs.2.2, g1, g6, ⟨a, b, h1, h2, h3, ⟨n, g1, g2, g3, g4, g5, g6⟩, fun g => g⟩, ⟨rfl, hs.2⟩, fun _ _ _ _ _ _ _ => rfl⟩))⟩
  | .branch 0 (.leaf (some (1, p, _, c, _, _))) x, hs, ⟨a, b, h1, h2, h3, ⟨m, g1, g2, g3, g4, g5, g6⟩, h5⟩, e => by
    have hn : n = m := by have := zn_nat (x := k) (by omega); omega
    subst hn
    exact ⟨by omega, by omega, g4.symm, Or.inr (Or.inr (Or.inl ⟨Or.inr g3, x, Tm.made p c x, a, hs.2.1, hs.2.2, g1, g6, ⟨a, b, h1, h2, h3, ⟨n, g1, g2, g3, g4, g5, g6⟩, fun g => g⟩, ⟨rfl, hs.2⟩, fun _ _ _ _ _ _ _ => rfl⟩))⟩
  | .branch 1 (.leaf (some (0, p, o, _, _, _))) (.branch _ x y), hs, ⟨a, b, h1, h2, h3, ⟨m, q, g1, g2, g3, g4, g5, g6, g7, g8⟩, h5⟩, e => by
    have hn : n = q := by have := zn_nat (x := k) (by omega); omega
    subst hn
    have l1 := rI_1s hs.2.1.1 g1
    have l2 := rI_1s hs.2.2.1 g2
    exact ⟨by omega, by omega, g5.symm, Or.inr (Or.inr (Or.inr (Or.inl ⟨g4, x, y, Tm.bin p o x y, ⟨a, m, g7, by omega, by omega, g1, l1.2⟩, ⟨m, n, g8, by omega, by omega, g2, l2.2⟩, ⟨a, b, h1, h2, h3, ⟨m, n, g1, g2, g3, g4, g5, g6, g7, g8⟩, fun g => g⟩, hs.2.1, hs.2.2, ⟨rfl, hs.2⟩, fun _ _ _ _ _ _ _ => rfl⟩)))⟩
  | .branch 1 (.leaf (some (_ + 1, p, _, s, _, _))) (.branch _ x y), hs, ⟨a, b, h1, h2, h3, ⟨m, q, g1, g2, g3, g4, g5, g6, g7, g8⟩, h5⟩, e => by
    have hn : n = q := by have := zn_nat (x := k) (by omega); omega
    subst hn
    have l1 := rI_1s hs.2.1.1 g1
    have l2 := rI_1s hs.2.2.1 g2
    exact ⟨by omega, by omega, g5.symm, Or.inr (Or.inr (Or.inr (Or.inr (Or.inl ⟨Or.inl g4, x, Tm.tlet p s x y, ⟨a, m, g7, by omega, by omega, g1, l1.2⟩, ⟨a, b, h1, h2, h3, ⟨m, n, g1, g2, g3, g4, g5, g6, g7, g8⟩, fun g => g⟩, hs.2.1, ⟨rfl, hs.2⟩, fun _ _ _ _ _ _ _ => rfl⟩))))⟩
  | .branch 2 (.leaf (some (_, p, _, _, _, _))) (.branch _ x (.branch _ y w)), hs, ⟨a, b, h1, h2, h3, ⟨m, o, q, g1, g2, g9, g3, g4, g5, g6, g7, g8⟩, h5⟩, e => by
    have hn : n = q := by have := zn_nat (x := k) (by omega); omega
    subst hn
    have l1 := rI_1s hs.2.1.1 g1
    have l2 := rI_1s hs.2.2.1.1 g2
    have l3 := rI_1s hs.2.2.2.1 g9
    exact ⟨by omega, by omega, g5.symm, Or.inr (Or.inr (Or.inr (Or.inr (Or.inl ⟨Or.inr g4, x, Tm.ite p x y w, ⟨a, m, g6, by omega, by omega, g1, l1.2⟩, ⟨a, b, h1, h2, h3, ⟨m, o, n, g1, g2, g9, g3, g4, g5, g6, g7, g8⟩, fun g => g⟩, hs.2.1, ⟨rfl, hs.2⟩, fun _ _ _ _ _ _ _ => rfl⟩))))⟩
  | .branch 0 (.leaf (some (2, p, _, s, _, _))) x, hs, ⟨a, b, h1, h2, h3, ⟨m, g1, g2, g3, g4, g5⟩, h5⟩, e => by
    have hn : n = m := by have := zn_nat (x := k) (by omega); omega
    subst hn
    have es : Int32.toNatClampNeg (B 2 n) = s := by have := zn_nat (x := B 2 n) (by omega); omega
    exact ⟨by omega, by omega, g4.symm, Or.inr (Or.inr (Or.inr (Or.inr (Or.inr ⟨g3, by omega, x, Tm.mat p s x, a, hs.2.1, hs.2.2, g1, fun _ _ _ _ _ _ _ => rfl, fun _ _ _ _ _ _ _ _ => by rw [es, g4]; rfl⟩))))⟩
  | .leaf none, hs, _, _ => absurd hs.1 (by decide)
  | .branch (_ + 3) _ _, hs, _, _ => absurd hs.1 (fun g => nomatch (show (0 : Nat) = 1 from g))
  | .branch 0 (.leaf (some (_ + 3, _, _, _, _, _))) _, hs, _, _ => absurd hs.1 (fun g => nomatch (show (2 : Nat) = 1 from g))
  | .branch 0 (.leaf none) _, hs, _, _ => absurd hs.1 (fun g => nomatch (show (0 : Nat) = 1 from g))
  | .branch 0 (.branch _ _ _) _, hs, _, _ => absurd hs.1 (fun g => nomatch (show (0 : Nat) = 1 from g))
  | .branch 1 (.leaf none) _, hs, _, _ => absurd hs.1 (fun g => nomatch (show (0 : Nat) = 1 from g))
  | .branch 1 (.branch _ _ _) _, hs, _, _ => absurd hs.1 (fun g => nomatch (show (0 : Nat) = 1 from g))
  | .branch 1 (.leaf (some (0, _, _, _, _, _))) (.leaf _), hs, _, _ => absurd hs.1 (fun g => nomatch (show (0 : Nat) = 1 from g))
  | .branch 1 (.leaf (some (_ + 1, _, _, _, _, _))) (.leaf _), hs, _, _ => absurd hs.1 (fun g => nomatch (show (0 : Nat) = 1 from g))
  | .branch 2 (.leaf none) _, hs, _, _ => absurd hs.1 (fun g => nomatch (show (0 : Nat) = 1 from g))
  | .branch 2 (.branch _ _ _) _, hs, _, _ => absurd hs.1 (fun g => nomatch (show (0 : Nat) = 1 from g))
  | .branch 2 (.leaf (some (_, _, _, _, _, _))) (.leaf _), hs, _, _ => absurd hs.1 (fun g => nomatch (show (0 : Nat) = 1 from g))
  | .branch 2 (.leaf (some (_, _, _, _, _, _))) (.branch _ _ (.leaf _)), hs, _, _ => absurd hs.1 (fun g => nomatch (show (0 : Nat) = 1 from g))
end
