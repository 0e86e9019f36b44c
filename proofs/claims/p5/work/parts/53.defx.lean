section
theorem sp_tn_n {T : Nat → Int32} {V : Nat → Int64} {n a : Nat} {M : List Int64} (h : (T a).toInt ≠ 258) : sp_tn T V n M a = some (M, a) := by
  unfold sp_tn; rw [if_neg h]
theorem sp_tn_0 {T : Nat → Int32} {V : Nat → Int64} {a : Nat} {M : List Int64} (h : (T a).toInt = 258) : sp_tn T V 0 M a = none := by
  unfold sp_tn; rw [if_pos h]
theorem sp_tn_x {T : Nat → Int32} {V : Nat → Int64} {n a : Nat} {M : List Int64} (h : (T a).toInt = 258) (hm : V a ∈ M) : sp_tn T V n M a = none := by
  unfold sp_tn; rw [if_pos h]
  cases n with
  | zero => rfl
  | succ n => exact if_neg (fun g => g hm)
theorem sp_tn_s {T : Nat → Int32} {V : Nat → Int64} {n k a b : Nat} {M : List Int64} {w : Int64} (h : (T a).toInt = 258) (hn : n = k + 1) (ew : w = V a) (hm : w ∉ M) (eb : b = a + 1) : sp_tn T V n M a = sp_tn T V k (M ++ [w]) b := by
  subst hn; subst eb; subst ew
  conv => lhs; unfold sp_tn
  rw [if_pos h]; exact if_pos hm
/-- names told so far -/
def sp_tl (T P : Nat → Int32) (V : Nat → Int64) (gn : Nat → Int64) (ar : Int32) (o : Option (List Int64 × Nat)) (p : Int) (i : Int) (a : Nat) : Prop := ∃ (M : List Int64) (n : Nat), sp_nl gn ar M ∧ (n : Int) = 6 - i ∧ o = sp_tn T V n M a ∧ p = pf_tn P V n M a
theorem pf_tn_x {P : Nat → Int32} {V : Nat → Int64} {a : Nat} {M : List Int64} (hm : V a ∈ M) : ∀ n, pf_tn P V n M a = (P a).toInt
  | 0 => rfl
  | n + 1 => by unfold pf_tn; exact if_neg (fun g => g hm)
theorem pf_tn_s {P : Nat → Int32} {V : Nat → Int64} {n k a b : Nat} {M : List Int64} {w : Int64} (hn : n = k + 1) (ew : w = V a) (hm : w ∉ M) (eb : b = a + 1) : pf_tn P V n M a = pf_tn P V k (M ++ [w]) b := by
  subst hn; subst eb; subst ew
  conv => lhs; unfold pf_tn
  exact if_pos hm
theorem sp_nn_x {so ar : Int32} {w : Int64} {L : List Int64} (h : ¬ sp_nn so w ar L) (h1 : so.toInt = 258) (h2 : ar.toInt < 24) : w ∈ L := Classical.byContradiction (fun g => h ⟨h1, g, h2⟩)
/-- names told of each function -/
def sp_ft (ff : Nat → Int32) (fz : Int32) (t : Nat → Int) : Prop := ∀ g : Nat, (g : Int) < fz.toInt → (ff (5 * g)).toInt = t g
theorem sp_ft_s {ff ff2 : Nat → Int32} {fz fz2 : Int32} {t : Nat → Int} {n : Int} (h : sp_ft ff fz t) (h0 : 0 ≤ fz.toInt) (ez : fz2.toInt = fz.toInt + 1) (hn : (ff2 (5 * Int32.toNatClampNeg fz)).toInt = n) (ho : ∀ g : Nat, g ≠ Int32.toNatClampNeg fz → ff2 (5 * g) = ff (5 * g)) : sp_ft ff2 fz2 (fun k => if k = Int32.toNatClampNeg fz then n else t k) := fun g hg => by
  have := zn_nat h0
  by_cases u : g = Int32.toNatClampNeg fz
  · show _ = if g = Int32.toNatClampNeg fz then n else t g
    rw [if_pos u, u]; exact hn
  · show _ = if g = Int32.toNatClampNeg fz then n else t g
    rw [if_neg u, ho g u]; exact h g (by omega)
/-- from row r by the chain through X to row q -/
def zpa (nx : Nat → Int32) : Nat → List Nat → Nat → Prop
  | r, [], q => (nx r).toInt = (q : Int)
  | r, x :: l, q => (nx r).toInt = (x : Int) ∧ zpa nx x l q
theorem zpa_li {nx : Nat → Int32} {q : Nat} : ∀ {X : List Nat} {r : Nat}, zli nx (nx r) (X ++ [q]) → zpa nx r X q
  | [], r, h => h.1
  | x :: l, r, h => ⟨h.1, zpa_li (r := x) h.2⟩
theorem zpa_st {nx nx2 : Nat → Int32} {q : Nat} : ∀ {X : List Nat} {r : Nat}, nx2 r = nx r → (∀ x ∈ X, nx2 x = nx x) → zpa nx r X q → zpa nx2 r X q
  | [], r, e, _, h => by show (nx2 r).toInt = _; rw [e]; exact h
  | x :: l, r, e, hx, h => ⟨by rw [e]; exact h.1, zpa_st (r := x) (hx x (by simp)) (fun y hy => hx y (by simp [hy])) h.2⟩
/-- rows of a tree's code are neither a function's first nor its last -/
theorem cI_17 {S : Nat → Nat → Int32} {H : Int32 → Int64 → Prop} {alo ahi : Int} : ∀ (t : Tm) {mo : Bool} {pv : Nat} {ar : Int32} {en : Nat} {X : List Nat}, cI S H alo ahi t mo pv ar en X → ∀ r ∈ X, (S 0 r).toInt ≠ 17
  | .leaf (some (0, p, v, _, _, _)), _, _, _, _, X, h, r, hr => by
    obtain ⟨q, rfl, a, -⟩ := h
    rw [List.mem_singleton.mp hr]; omega
  | .leaf (some (_ + 1, p, _, s, _, _)), _, _, _, _, X, h, r, hr => by
    obtain ⟨q, rfl, a, -⟩ := h
    rw [List.mem_singleton.mp hr]; omega
  | .branch 0 (.leaf (some (0, p, _, _, _, w))) t, _, _, _, _, X, h, r, hr => by
    rcases h with ⟨-, -, q, rfl, a, -⟩ | ⟨-, s, Y, q, rfl, a, -, c, d, -⟩
    · rw [List.mem_singleton.mp hr]; omega
    · rcases List.mem_cons.mp hr with g | g
      · rw [g]; omega
      · rcases List.mem_append.mp g with g | g
        · exact cI_17 t c r g
        · rw [List.mem_singleton.mp g]; omega
  | .branch 0 (.leaf (some (1, p, _, k, _, _))) t, _, _, _, _, X, h, r, hr => by
    rcases h with ⟨-, -, q, rfl, a, -⟩ | ⟨-, s, Y, q, rfl, a, -, c, d, -⟩
    · rw [List.mem_singleton.mp hr]; omega
    · rcases List.mem_cons.mp hr with g | g
      · rw [g]; omega
      · rcases List.mem_append.mp g with g | g
        · exact cI_17 t c r g
        · rw [List.mem_singleton.mp g]; omega
  | .branch 1 (.leaf (some (0, p, o, _, _, _))) (.branch _ t u), _, _, _, _, X, h, r, hr => by
    obtain ⟨s, Y, Z, q, rfl, a, -, c, d, e, -⟩ := h
    have he : cI_op o ≠ 17 := by unfold cI_op; split; decide; split; decide; split <;> decide
    rcases List.mem_cons.mp hr with g | g
    · rw [g]; omega
    · rcases List.mem_append.mp g with g | g
      · rcases List.mem_append.mp g with g | g
        · exact cI_17 t c r g
        · exact cI_17 u d r g
      · rw [List.mem_singleton.mp g, e]; exact he
  | .branch 1 (.leaf (some (_ + 1, p, _, k, _, _))) (.branch _ t u), _, _, _, _, X, h, r, hr => by
    obtain ⟨s, Y, q, Z, rfl, a, -, c, d, -, f⟩ := h
    rcases List.mem_cons.mp hr with g | g
    · rw [g]; omega
    · rcases List.mem_append.mp g with g | g
      · rcases List.mem_append.mp g with g | g
        · exact cI_17 t c r g
        · rw [List.mem_singleton.mp g]; omega
      · exact cI_17 u f r g
  | .branch 2 (.leaf (some (_, p, _, _, _, _))) (.branch _ t (.branch _ u w)), _, _, _, _, X, h, r, hr => by
    obtain ⟨s, Y, i, Z, j, U, rfl, a, -, c, d, -, -, g1, k, -, m⟩ := h
    rcases List.mem_cons.mp hr with g | g
    · rw [g]; omega
    · rcases List.mem_append.mp g with g | g
      · rcases List.mem_append.mp g with g | g
        · rcases List.mem_append.mp g with g | g
          · rcases List.mem_append.mp g with g | g
            · exact cI_17 t c r g
            · rw [List.mem_singleton.mp g]; omega
          · exact cI_17 u g1 r g
        · rw [List.mem_singleton.mp g]; omega
      · exact cI_17 w m r g
  | .branch 0 (.leaf (some (2, p, _, k, _, _))) t, _, _, _, _, X, h, r, hr => by
    obtain ⟨s, m, Y, rfl, a, -, c, -, -, f⟩ := h
    rcases List.mem_cons.mp hr with g | g
    · rw [g]; omega
    · rcases List.mem_cons.mp g with g | g
      · rw [g]; omega
      · exact cI_17 t f r g
  | .branch 0 (.leaf (some (_ + 3, p, k, hh, m, _))) t, _, _, _, _, X, h, r, hr => by
    obtain ⟨Y, v, rfl, -, -, -, -, -, -, f, -, i⟩ := h
    rcases List.mem_append.mp hr with g | g
    · exact cI_17 t i r g
    · rw [List.mem_singleton.mp g]; omega
  | .branch 0 (.leaf none) _, _, _, _, _, _, h9, _, _ => h9.elim
  | .branch 0 (.branch _ _ _) _, _, _, _, _, _, h9, _, _ => h9.elim
  | .branch 1 (.leaf none) _, _, _, _, _, _, h9, _, _ => h9.elim
  | .branch 1 (.branch _ _ _) _, _, _, _, _, _, h9, _, _ => h9.elim
  | .branch 1 (.leaf (some (0, _, _, _, _, _))) (.leaf _), _, _, _, _, _, h9, _, _ => h9.elim
  | .branch 1 (.leaf (some (_ + 1, _, _, _, _, _))) (.leaf _), _, _, _, _, _, h9, _, _ => h9.elim
  | .branch 2 (.leaf none) _, _, _, _, _, _, h9, _, _ => h9.elim
  | .branch 2 (.branch _ _ _) _, _, _, _, _, _, h9, _, _ => h9.elim
  | .branch 2 (.leaf (some (_, _, _, _, _, _))) (.leaf _), _, _, _, _, _, h9, _, _ => h9.elim
  | .branch 2 (.leaf (some (_, _, _, _, _, _))) (.branch _ _ (.leaf _)), _, _, _, _, _, h9, _, _ => h9.elim
  | .leaf none, _, _, _, _, X, h, r, hr => by
    obtain ⟨rfl, -⟩ := h
    exact nomatch hr
  | .branch (_ + 3) t u, _, _, _, _, X, h, r, hr => by
    obtain ⟨Y, Z, rfl, a, b, -⟩ := h
    rcases List.mem_append.mp hr with g | g
    · exact cI_17 t a r g
    · exact cI_17 u b r g
/-- the functions' code: first row, the tree's rows, last row -/
def cPg (S : Nat → Nat → Int32) (nx : Nat → Int32) (H : Int32 → Int64 → Prop) (cz az : Int) (en : Nat → Int32) (n : Nat) (Tr : Nat → Tm) : Prop := ∀ f, f < n → ∃ (X : List Nat) (q : Nat), cI S H 0 az (Tr f) false 0 0 0 X ∧ zpa nx (Int32.toNatClampNeg (en f)) X q ∧ (0 ≤ (en f).toInt ∧ (en f).toInt < cz) ∧ (S 0 (Int32.toNatClampNeg (en f))).toInt = 0 ∧ (S 1 (Int32.toNatClampNeg (en f))).toInt = (f : Int) ∧ (S 0 q).toInt = 17 ∧ (q : Int) < cz ∧ ∀ r ∈ X, (r : Int) < cz
theorem cPg_s {S S2 : Nat → Nat → Int32} {nx nx2 : Nat → Int32} {H : Int32 → Int64 → Prop} {cz az cz2 az2 tl : Int} {en en2 : Nat → Int32} {n q : Nat} {Tr : Nat → Tm} {t : Tm} {X : List Nat} (h : cPg S nx H cz az en n Tr) (hz : cz ≤ cz2) (haz : az ≤ az2) (hr : ∀ r : Nat, (r : Int) < cz → S2 0 r = S 0 r ∧ S2 1 r = S 1 r ∧ S2 2 r = S 2 r ∧ S2 3 r = S 3 r) (ha : ∀ j : Nat, (j : Int) < az → S2 4 j = S 4 j ∧ S2 5 j = S 5 j ∧ S2 6 j = S 6 j ∧ S2 7 j = S 7 j ∧ S2 8 j = S 8 j ∧ S2 9 j = S 9 j) (hx : ∀ r : Nat, (r : Int) < cz → (r : Int) ≠ tl → nx2 r = nx r) (htl : ∀ r : Nat, (r : Int) < cz → (r : Int) = tl → (S 0 r).toInt = 17) (he : ∀ f, f < n → en2 f = en f) (h1 : cI S2 H 0 az2 t false 0 0 0 X) (h2 : zpa nx2 (Int32.toNatClampNeg (en2 n)) X q) (h3 : 0 ≤ (en2 n).toInt ∧ (en2 n).toInt < cz2) (h4 : (S2 0 (Int32.toNatClampNeg (en2 n))).toInt = 0) (h5 : (S2 1 (Int32.toNatClampNeg (en2 n))).toInt = (n : Int)) (h6 : (S2 0 q).toInt = 17) (h7 : (q : Int) < cz2) (h8 : ∀ r ∈ X, (r : Int) < cz2) : cPg S2 nx2 H cz2 az2 en2 (n + 1) (fun k => if k = n then t else Tr k) := fun f hf => by
  by_cases u : f = n
  · subst u
    refine ⟨X, q, ?_, h2, h3, h4, h5, h6, h7, h8⟩
    show cI S2 H 0 az2 (if f = f then t else Tr f) false 0 0 0 X
    rw [if_pos rfl]; exact h1
  · obtain ⟨Y, p, a1, a2, a3, a4, a5, a6, a7, a8⟩ := h f (by omega)
    have hn := zn_nat a3.1
    have e := he f (by omega)
    refine ⟨Y, p, ?_, ?_, ?_, ?_, ?_, ?_, by omega, fun r h => by have := a8 r h; omega⟩
    · show cI S2 H 0 az2 (if f = n then t else Tr f) false 0 0 0 Y
      rw [if_neg u]
      exact cI_st (fun j _ hj => ha j hj) (Int.le_refl _) haz (Tr f) (fun r h => hr r (a8 r h)) a1
    · rw [e]
      refine zpa_st (hx _ (by omega) (fun g => ?_)) (fun x hx9 => hx x (a8 x hx9) (fun g => cI_17 (Tr f) a1 x hx9 (htl x (a8 x hx9) g))) a2
      have := htl _ (by omega) g
      omega
    · rw [e]; exact ⟨a3.1, by omega⟩
    · rw [e, (hr _ (by omega)).1]; exact a4
    · rw [e, (hr _ (by omega)).2.1]; exact a5
    · rw [(hr p a7).1]; exact a6
/-- what a definition made -/
def sp_rd (nop na nb npl : Nat → Int32) (V : Nat → Int64) (zz cz2 pa2 kz2 : Int32) (kw2 : Nat → Int64) (kf2 : Nat → Int32) (ff2 : Nat → Int32) (fz2 : Int32) (fw2 : Nat → Int64) (Z : (Nat → Tm) → Prop) (o : Option (sp_S × sp_F)) : Prop := ∃ (C2 : List (Int64 × Int × Int)) (t2 : Nat → Int) (r2 : Nat → Tm), sp_cl nop na nb npl V zz cz2 C2 ∧ sp_ft ff2 fz2 t2 ∧ Z r2 ∧ o = some ((Int32.toNatClampNeg pa2, Int32.toNatClampNeg kz2, kw2, kf2, C2), (Int32.toNatClampNeg fz2, fw2, t2, r2))
section
variable {T P : Nat → Int32} {V : Nat → Int64} {K : Nat × (Nat → Int64) × (Nat → Int32) × List (Int64 × Int × Int)} {fw : Nat → Int64} {t : Nat → Int} {a b c d e z g : Nat} {M : List Int64} {s1 : Tm × sp_S} {tr : Nat → Tm} {w : Int64}
theorem sp_df_x0 (h : ¬ ((T a).toInt = 268 ∧ z < 30)) : sp_df T P V (a, K) (z, fw, t, tr) = none := by unfold sp_df; exact if_neg h
theorem sp_df_x1 (h : (T a).toInt = 268) (hz : z < 30) (eb : b = a + 1) (h2 : ¬ ((T b).toInt = 258 ∧ sp_fi fw (V b) z = z)) : sp_df T P V (a, K) (z, fw, t, tr) = none := by subst eb; unfold sp_df; exact (if_pos ⟨h, hz⟩).trans (if_neg h2)
theorem sp_df_1 (h : (T a).toInt = 268) (hz : z < 30) (eb : b = a + 1) (h2 : (T b).toInt = 258) (h3 : sp_fi fw (V b) z = z) (ec : c = b + 1) : sp_df T P V (a, K) (z, fw, t, tr) = (sp_tn T V 6 [] c).bind fun q => if (T q.2).toInt = 61 then (sp_E T P V 30 q.1 (q.2 + 1, K)).bind fun s2 => if (T s2.2.1).toInt = 59 then some (sp_to s2.2 (s2.2.1 + 1), (z + 1, vp_updL fw z (V b), (fun k => if k = z then (q.1.length : Int) else t k), fun k => if k = z then s2.1 else tr k)) else none else none := by
  have e2 : c = a + 2 := by omega
  subst e2; subst eb; unfold sp_df; exact (if_pos ⟨h, hz⟩).trans (if_pos ⟨h2, h3⟩)
theorem sp_df_x2 (h : (T a).toInt = 268) (hz : z < 30) (eb : b = a + 1) (h2 : (T b).toInt = 258) (h3 : sp_fi fw (V b) z = z) (ec : c = b + 1) (q : sp_tn T V 6 [] c = none) : sp_df T P V (a, K) (z, fw, t, tr) = none := (sp_df_1 h hz eb h2 h3 ec).trans (sp_bx q)
theorem sp_df_x3 (h : (T a).toInt = 268) (hz : z < 30) (eb : b = a + 1) (h2 : (T b).toInt = 258) (h3 : sp_fi fw (V b) z = z) (ec : c = b + 1) (q : sp_tn T V 6 [] c = some (M, d)) (h4 : (T d).toInt ≠ 61) : sp_df T P V (a, K) (z, fw, t, tr) = none := (sp_df_1 h hz eb h2 h3 ec).trans ((sp_b1 q).trans (if_neg h4))
theorem sp_df_x4 (h : (T a).toInt = 268) (hz : z < 30) (eb : b = a + 1) (h2 : (T b).toInt = 258) (h3 : sp_fi fw (V b) z = z) (ec : c = b + 1) (q : sp_tn T V 6 [] c = some (M, d)) (h4 : (T d).toInt = 61) (ee : e = d + 1) (q2 : sp_E T P V 30 M (e, K) = none) : sp_df T P V (a, K) (z, fw, t, tr) = none := by
  subst ee; exact (sp_df_1 h hz eb h2 h3 ec).trans ((sp_b1 q).trans ((if_pos h4).trans (sp_bx q2)))
theorem sp_df_x5 (h : (T a).toInt = 268) (hz : z < 30) (eb : b = a + 1) (h2 : (T b).toInt = 258) (h3 : sp_fi fw (V b) z = z) (ec : c = b + 1) (q : sp_tn T V 6 [] c = some (M, d)) (h4 : (T d).toInt = 61) (ee : e = d + 1) (q2 : sp_E T P V 30 M (e, K) = some s1) (h5 : (T s1.2.1).toInt ≠ 59) : sp_df T P V (a, K) (z, fw, t, tr) = none := by
  subst ee; exact (sp_df_1 h hz eb h2 h3 ec).trans ((sp_b1 q).trans ((if_pos h4).trans ((sp_b1 q2).trans (if_neg h5))))
theorem pf_df_x0 (h : ¬ ((T a).toInt = 268 ∧ z < 30)) : pf_df T P V (a, K) (z, fw, t, tr) = (P a).toInt := by unfold pf_df; exact if_neg h
theorem pf_df_x1 (h : (T a).toInt = 268) (hz : z < 30) (eb : b = a + 1) (h2 : ¬ ((T b).toInt = 258 ∧ sp_fi fw (V b) z = z)) : pf_df T P V (a, K) (z, fw, t, tr) = (P b).toInt := by subst eb; unfold pf_df; exact (if_pos ⟨h, hz⟩).trans (if_neg h2)
theorem pf_df_1 (h : (T a).toInt = 268) (hz : z < 30) (eb : b = a + 1) (h2 : (T b).toInt = 258) (h3 : sp_fi fw (V b) z = z) (ec : c = b + 1) : pf_df T P V (a, K) (z, fw, t, tr) = pf_b (sp_tn T V 6 [] c) (pf_tn P V 6 [] c) fun q => if (T q.2).toInt = 61 then pf_b (sp_E T P V 30 q.1 (q.2 + 1, K)) (pf_E T P V 30 q.1 (q.2 + 1, K)) fun s2 => (P s2.2.1).toInt else (P q.2).toInt := by
  have e2 : c = a + 2 := by omega
  subst e2; subst eb; unfold pf_df; exact (if_pos ⟨h, hz⟩).trans (if_pos ⟨h2, h3⟩)
theorem pf_df_x2 (h : (T a).toInt = 268) (hz : z < 30) (eb : b = a + 1) (h2 : (T b).toInt = 258) (h3 : sp_fi fw (V b) z = z) (ec : c = b + 1) (q : sp_tn T V 6 [] c = none) : pf_df T P V (a, K) (z, fw, t, tr) = pf_tn P V 6 [] c := (pf_df_1 h hz eb h2 h3 ec).trans (pf_b_n q)
theorem pf_df_x3 (h : (T a).toInt = 268) (hz : z < 30) (eb : b = a + 1) (h2 : (T b).toInt = 258) (h3 : sp_fi fw (V b) z = z) (ec : c = b + 1) (q : sp_tn T V 6 [] c = some (M, d)) (h4 : (T d).toInt ≠ 61) : pf_df T P V (a, K) (z, fw, t, tr) = (P d).toInt := (pf_df_1 h hz eb h2 h3 ec).trans ((pf_b_s q).trans (if_neg h4))
theorem pf_df_x4 (h : (T a).toInt = 268) (hz : z < 30) (eb : b = a + 1) (h2 : (T b).toInt = 258) (h3 : sp_fi fw (V b) z = z) (ec : c = b + 1) (q : sp_tn T V 6 [] c = some (M, d)) (h4 : (T d).toInt = 61) (ee : e = d + 1) (q2 : sp_E T P V 30 M (e, K) = none) : pf_df T P V (a, K) (z, fw, t, tr) = pf_E T P V 30 M (e, K) := by
  subst ee; exact (pf_df_1 h hz eb h2 h3 ec).trans ((pf_b_s q).trans ((if_pos h4).trans (pf_b_n q2)))
theorem pf_df_x5 (h : (T a).toInt = 268) (hz : z < 30) (eb : b = a + 1) (h2 : (T b).toInt = 258) (h3 : sp_fi fw (V b) z = z) (ec : c = b + 1) (q : sp_tn T V 6 [] c = some (M, d)) (h4 : (T d).toInt = 61) (ee : e = d + 1) (q2 : sp_E T P V 30 M (e, K) = some s1) : pf_df T P V (a, K) (z, fw, t, tr) = (P s1.2.1).toInt := by
  subst ee; exact (pf_df_1 h hz eb h2 h3 ec).trans ((pf_b_s q).trans ((if_pos h4).trans (pf_b_s q2)))
theorem sp_df_y (h : (T a).toInt = 268) (hz : z < 30) (eb : b = a + 1) (h2 : (T b).toInt = 258) (h3 : sp_fi fw (V b) z = z) (ec : c = b + 1) (q : sp_tn T V 6 [] c = some (M, d)) (h4 : (T d).toInt = 61) (ee : e = d + 1) (q2 : sp_E T P V 30 M (e, K) = some s1) (h5 : (T s1.2.1).toInt = 59) (eg : g = s1.2.1 + 1) : sp_df T P V (a, K) (z, fw, t, tr) = some ((g, s1.2.2), (z + 1, vp_updL fw z (V b), (fun k => if k = z then (M.length : Int) else t k), fun k => if k = z then s1.1 else tr k)) := by
  subst ee; subst eg; exact (sp_df_1 h hz eb h2 h3 ec).trans ((sp_b1 q).trans ((if_pos h4).trans ((sp_b1 q2).trans (if_pos h5))))
end
theorem cFa_s {ff ff1 ff2 ff3 : Nat → Int32} {fz fz2 : Int32} {tr : Nat → Tm} {t : Tm} {w : Int} (h : cFa ff fz tr) (h0 : 0 ≤ fz.toInt) (ez : fz2.toInt = fz.toInt + 1) (z5 : zfz ff ff1 (Int32.toNatClampNeg fz) 5) (ct : cT ff1 ff2 (Int32.toNatClampNeg fz) w) (hw : (ff2 (5 * Int32.toNatClampNeg fz)).toInt = w) (hw0 : 0 ≤ w) (cf : cG ff2 ff3 (Int32.toNatClampNeg fz) t) : cFa ff3 fz2 (fun k => if k = Int32.toNatClampNeg fz then t else tr k) := by
  have hn := zn_nat h0
  obtain ⟨c1, c2⟩ := ct
  obtain ⟨f1, f2, f3, f4⟩ := cf
  have z : ∀ i, i < 5 → ff1 (5 * Int32.toNatClampNeg fz + i) = 0 := fun i hi => by rw [z5, if_pos (by omega)]
  have e0 : (0 : Int32).toInt = 0 := by decide
  intro g hg
  by_cases u : g = Int32.toNatClampNeg fz
  · subst u
    have z1 := z 1 (by omega)
    have c1 := c1 (by rw [z1, e0]; exact Int.le_refl _)
    rw [z1, e0] at c1
    have f3 := f3 (by omega)
    have e5 := f4 (5 * Int32.toNatClampNeg fz) (by omega) (by omega) (by omega)
    have k2 := c2 (5 * Int32.toNatClampNeg fz + 2) (by omega) (by omega)
    have k3 := c2 (5 * Int32.toNatClampNeg fz + 3) (by omega) (by omega)
    have k4 := c2 (5 * Int32.toNatClampNeg fz + 4) (by omega) (by omega)
    rw [z 2 (by omega)] at k2
    rw [z 3 (by omega)] at k3
    rw [z 4 (by omega)] at k4
    show (ff3 _).toInt = max (ff3 _).toInt (tm_wi (if Int32.toNatClampNeg fz = Int32.toNatClampNeg fz then t else _) : Int) ∧ ff3 _ = Int32.ofInt (tm_bu (if Int32.toNatClampNeg fz = Int32.toNatClampNeg fz then t else _)) ∧ ff3 _ = Int32.ofInt (tm_ma (if Int32.toNatClampNeg fz = Int32.toNatClampNeg fz then t else _)) ∧ _
    rw [if_pos rfl, e5, f1, f2, k2, k3, Int32.zero_add, Int32.zero_add]
    exact ⟨by omega, rfl, rfl, by rw [f4 _ (by omega) (by omega) (by omega)]; exact k4⟩
  · have st : ∀ i, i < 5 → ff3 (5 * g + i) = ff (5 * g + i) := fun i hi => by
      rw [f4 _ (by omega) (by omega) (by omega), c2 _ (by omega) (by omega), z5, if_neg (by omega)]
    show (ff3 _).toInt = max (ff3 _).toInt (tm_wi (if g = Int32.toNatClampNeg fz then t else tr g) : Int) ∧ ff3 _ = Int32.ofInt (tm_bu (if g = Int32.toNatClampNeg fz then t else tr g)) ∧ ff3 _ = Int32.ofInt (tm_ma (if g = Int32.toNatClampNeg fz then t else tr g)) ∧ _
    have s0 := st 0 (by omega)
    rw [Nat.add_zero] at s0
    rw [if_neg u, s0, st 1 (by omega), st 2 (by omega), st 3 (by omega), st 4 (by omega)]
    exact h g (by omega)
/-- the functions' code, one behind the other -/
def cCh (S : Nat → Nat → Int32) (H : Int32 → Int64 → Prop) (az : Int) (en : Nat → Int32) (Tr : Nat → Tm) : Nat → List Nat → Prop
  | 0, L => L = []
  | n + 1, L => ∃ (A X : List Nat) (q : Nat), L = A ++ Int32.toNatClampNeg (en n) :: (X ++ [q]) ∧ cCh S H az en Tr n A ∧ cI S H 0 az (Tr n) false 0 0 0 X ∧ (S 0 (Int32.toNatClampNeg (en n))).toInt = 0 ∧ (S 1 (Int32.toNatClampNeg (en n))).toInt = (n : Int) ∧ (S 0 q).toInt = 17
theorem cCh_st {S S2 : Nat → Nat → Int32} {H : Int32 → Int64 → Prop} {az az2 : Int} {en en2 : Nat → Int32} {Tr Tr2 : Nat → Tm} (haz : az ≤ az2) (ha : ∀ j : Nat, (j : Int) < az → S2 4 j = S 4 j ∧ S2 5 j = S 5 j ∧ S2 6 j = S 6 j ∧ S2 7 j = S 7 j ∧ S2 8 j = S 8 j ∧ S2 9 j = S 9 j) : ∀ (n : Nat) {L : List Nat}, (∀ r ∈ L, S2 0 r = S 0 r ∧ S2 1 r = S 1 r ∧ S2 2 r = S 2 r ∧ S2 3 r = S 3 r) → (∀ f, f < n → en2 f = en f ∧ Tr2 f = Tr f) → cCh S H az en Tr n L → cCh S2 H az2 en2 Tr2 n L
  | 0, L, _, _, h => h
  | n + 1, L, hr, he, ⟨A, X, q, e, h1, h2, h3, h4, h5⟩ => by
    subst e
    obtain ⟨e1, e2⟩ := he n (Nat.lt_succ_self n)
    refine ⟨A, X, q, by rw [e1], cCh_st haz ha n (fun r h => hr r (by simp [h])) (fun f hf => he f (by omega)) h1, ?_, ?_, ?_, ?_⟩
    · rw [e2]; exact cI_st (fun j _ hj => ha j hj) (Int.le_refl _) haz (Tr n) (fun r h => hr r (by simp [h])) h2
    · rw [e1, (hr _ (by simp)).1]; exact h3
    · rw [e1, (hr _ (by simp)).2.1]; exact h4
    · rw [(hr q (by simp)).1]; exact h5
def cCl (S : Nat → Nat → Int32) (nx : Nat → Int32) (H : Int32 → Int64 → Prop) (cz az : Int) (ct : Int32) (en : Nat → Int32) (n : Nat) (Tr : Nat → Tm) : Prop := ∃ L : List Nat, cCh S H az en Tr n L ∧ (∀ r ∈ L, (r : Int) < cz) ∧ L.Nodup ∧ (ct.toInt = -1 ∧ cz = 0 ∧ L = [] ∨ 0 ≤ ct.toInt ∧ L ≠ [] ∧ zli nx 0 L ∧ zla 0 L = Int32.toNatClampNeg ct)
theorem cCl_0 {S : Nat → Nat → Int32} {nx : Nat → Int32} {H : Int32 → Int64 → Prop} {cz az : Int} {ct : Int32} {en : Nat → Int32} {n : Nat} {Tr : Nat → Tm} (h : n = 0) (h1 : ct.toInt = -1) (h2 : cz = 0) : cCl S nx H cz az ct en n Tr := by
  subst h
  exact ⟨[], rfl, fun r hr => (nomatch hr), List.nodup_nil, Or.inl ⟨h1, h2, rfl⟩⟩
theorem cCl_s {S S2 : Nat → Nat → Int32} {nx n1 nx2 : Nat → Int32} {H : Int32 → Int64 → Prop} {az az2 : Int} {cz ct z1 t1 cz2 ct2 : Int32} {en en2 : Nat → Int32} {n q : Nat} {Tr : Nat → Tm} {t : Tm} {X : List Nat} (h : cCl S nx H cz.toInt az ct en n Tr) (hcz : 0 ≤ cz.toInt) (haz : az ≤ az2) (hr : ∀ r : Nat, (r : Int) < cz.toInt → S2 0 r = S 0 r ∧ S2 1 r = S 1 r ∧ S2 2 r = S 2 r ∧ S2 3 r = S 3 r) (ha : ∀ j : Nat, (j : Int) < az → S2 4 j = S 4 j ∧ S2 5 j = S 5 j ∧ S2 6 j = S 6 j ∧ S2 7 j = S 7 j ∧ S2 8 j = S 8 j ∧ S2 9 j = S 9 j) (he : ∀ f, f < n → en2 f = en f) (een : en2 n = cz) (ez1 : z1.toInt = cz.toInt + 1) (et1 : t1 = cz) (hn1 : (ct.toInt = -1 ∧ n1 = upd nx (Int32.toNatClampNeg cz) (-1)) ∨ (0 ≤ ct.toInt ∧ n1 = upd (upd nx (Int32.toNatClampNeg cz) (nx (Int32.toNatClampNeg ct))) (Int32.toNatClampNeg ct) cz)) (hch : zCh n1 z1 t1 nx2 cz2 ct2 (X ++ [q])) (hI : cI S2 H 0 az2 t false 0 0 0 X) (h0 : (S2 0 (Int32.toNatClampNeg cz)).toInt = 0) (h1 : (S2 1 (Int32.toNatClampNeg cz)).toInt = (n : Int)) (h17 : (S2 0 q).toInt = 17) : cCl S2 nx2 H cz2.toInt az2 ct2 en2 (n + 1) (fun k => if k = n then t else Tr k) := by
  obtain ⟨L, c1, c2, c3, c4⟩ := h
  rw [et1] at hch
  obtain ⟨a1, a2, a3, a4, a5, a6, a7, a8, a9⟩ := hch
  have nz := zn_nat hcz
  refine ⟨L ++ Int32.toNatClampNeg cz :: (X ++ [q]), ⟨L, X, q, by rw [een], cCh_st haz ha n (fun r h => hr r (c2 r h)) (fun f hf => ⟨he f hf, if_neg (by omega)⟩) c1, ?_, by rw [een]; exact h0, by rw [een]; exact h1, h17⟩, ?_, ?_, Or.inr ⟨a7, by simp, ?_, ?_⟩⟩
  · show cI S2 H 0 az2 (if n = n then t else Tr n) false 0 0 0 X
    rw [if_pos rfl]; exact hI
  · intro r hr9
    rcases List.mem_append.mp hr9 with g | g
    · have := c2 r g; omega
    · rcases List.mem_cons.mp g with g | g
      · rw [g]; omega
      · exact (a8 r g).2
  · refine List.nodup_append.mpr ⟨c3, List.nodup_cons.mpr ⟨fun g => by have := (a8 _ g).1; omega, a9⟩, fun x hx y hy e => ?_⟩
    have hx := c2 x hx
    rcases List.mem_cons.mp hy with g | g
    · omega
    · have := (a8 y g).1; omega
  · rcases c4 with ⟨d1, d2, d3⟩ | ⟨d1, d2, d3, d4⟩
    · subst d3
      refine ⟨?_, a5⟩
      have e9 : Int32.toInt 0 = 0 := by decide
      omega
    · have hm := zla_mem d2 0
      rw [d4] at hm
      have hm2 := c2 _ hm
      have nt := zn_nat d1
      have hn1 := (hn1.resolve_left (fun g => by have := g.1; omega)).2
      refine zli_app (d := 0) d2 c3 d3 (fun r hr9 hn9 => ?_) ?_
      · rw [d4] at hn9
        have := c2 r hr9
        rw [a4 r (by omega) (by omega), hn1, zu_n hn9, zu_n (by omega)]
      · rw [d4, a4 _ (by omega) (by omega), hn1, zu_s]
        exact ⟨nz.symm, a5⟩
  · rw [zla_app]; exact a6

set_option maxHeartbeats 4000000 in
set_option maxRecDepth 100000 in
theorem c_X2_insertBehind_e (l : Launch) (dC : Nat → ClassId) (dI : Nat → Nat → Nat) (aK aV : Nat → Nat) (h0 : Nat) (cop : Nat) (ca : Nat) (cb : Nat) (cplace : Nat) (cnext : Nat) (cneeded : Nat) (ckop : ClassId) (cka : ClassId) (ckb : ClassId) (ckplace : ClassId) (cknext : ClassId) (ckneeded : ClassId) (z : Int32) (ta : Int32) (gop : Nat → Int32) (ga : Nat → Int32) (gb : Nat → Int32) (gplace : Nat → Int32) (gnext : Nat → Int32) (gneeded : Nat → Int32) (be : Int32) (o : Int32) (wh : Int32) (sz : Nat) (hz0 : 0 ≤ z.toInt) (hz1 : z.toInt < 3000) (ht0 : -1 ≤ ta.toInt) (ht1 : ta.toInt < 3000) (hgn : zx 3000 gnext) (hb0 : -1 ≤ be.toInt) (hb1 : be.toInt < 3000) : Met l yX2_insertBehind (Cond.code yX2_insertBehind cX2_insertBehind 5 (some .int) :: zw) ({ frames := 8, cells := 0, slots := 0, locals := 200 }) (va_Pc [.ref h0, .int be, .int o, .int wh] (zP dC dI aK aV sz [(ckop, .int), (cka, .int), (ckb, .int), (ckplace, .int), (cknext, .int), (ckneeded, .int)] [(h0, .inr (2, [.ref cop, .ref ca, .ref cb, .ref cplace, .ref cnext, .ref cneeded, .int z, .int ta])), (cop, .inl (ckop, 3000, .inl gop)), (ca, .inl (cka, 3000, .inl ga)), (cb, .inl (ckb, 3000, .inl gb)), (cplace, .inl (ckplace, 3000, .inl gplace)), (cnext, .inl (cknext, 3000, .inl gnext)), (cneeded, .inl (ckneeded, 3000, .inl gneeded))])) (va_Qi (fun (r : Int32) (u : Int32 × Int32 × (Nat → Int32) × (Nat → Int32) × (Nat → Int32) × (Nat → Int32) × (Nat → Int32) × (Nat → Int32)) => match u with | (z2, t2, nop, na, nb, nplace, nnext, nneeded) => (r = z) ∧ (z2.toInt = z.toInt + 1) ∧ (be.toInt = ta.toInt ∧ t2.toInt = z.toInt ∨ be.toInt ≠ ta.toInt ∧ t2.toInt = ta.toInt) ∧ (zx 3000 nnext) ∧ (nop = upd gop (Int32.toNatClampNeg z) o) ∧ (na = upd ga (Int32.toNatClampNeg z) (-1)) ∧ (nb = upd gb (Int32.toNatClampNeg z) (-1)) ∧ ((be.toInt = -1 ∧ nnext = upd gnext (Int32.toNatClampNeg z) (-1)) ∨ (0 ≤ be.toInt ∧ nnext = upd (upd gnext (Int32.toNatClampNeg z) (gnext (Int32.toNatClampNeg be))) (Int32.toNatClampNeg be) z)) ∧ (nplace = upd gplace (Int32.toNatClampNeg z) wh)) (fun u => match u with | (z2, t2, nop, na, nb, nplace, nnext, nneeded) => zQ dC dI (va_A [(h0, .inr (2, [.ref cop, .ref ca, .ref cb, .ref cplace, .ref cnext, .ref cneeded, .int z, .int ta])), (cop, .inl (ckop, 3000, .inl gop)), (ca, .inl (cka, 3000, .inl ga)), (cb, .inl (ckb, 3000, .inl gb)), (cplace, .inl (ckplace, 3000, .inl gplace)), (cnext, .inl (cknext, 3000, .inl gnext)), (cneeded, .inl (ckneeded, 3000, .inl gneeded))] sz) [(ckop, .int), (cka, .int), (ckb, .int), (ckplace, .int), (cknext, .int), (ckneeded, .int)] [(h0, .inr (2, [.ref cop, .ref ca, .ref cb, .ref cplace, .ref cnext, .ref cneeded, .int z2, .int t2])), (cop, .inl (ckop, 3000, .inl nop)), (ca, .inl (cka, 3000, .inl na)), (cb, .inl (ckb, 3000, .inl nb)), (cplace, .inl (ckplace, 3000, .inl nplace)), (cnext, .inl (cknext, 3000, .inl nnext)), (cneeded, .inl (ckneeded, 3000, .inl nneeded))]) (va_A [(h0, .inr (2, [.ref cop, .ref ca, .ref cb, .ref cplace, .ref cnext, .ref cneeded, .int z, .int ta])), (cop, .inl (ckop, 3000, .inl gop)), (ca, .inl (cka, 3000, .inl ga)), (cb, .inl (ckb, 3000, .inl gb)), (cplace, .inl (ckplace, 3000, .inl gplace)), (cnext, .inl (cknext, 3000, .inl gnext)), (cneeded, .inl (ckneeded, 3000, .inl gneeded))] sz)) 0 0 (va_A [(h0, .inr (2, [.ref cop, .ref ca, .ref cb, .ref cplace, .ref cnext, .ref cneeded, .int z, .int ta])), (cop, .inl (ckop, 3000, .inl gop)), (ca, .inl (cka, 3000, .inl ga)), (cb, .inl (ckb, 3000, .inl gb)), (cplace, .inl (ckplace, 3000, .inl gplace)), (cnext, .inl (cknext, 3000, .inl gnext)), (cneeded, .inl (ckneeded, 3000, .inl gneeded))] sz) := by
  refine Met.ofW (cc := cX2_insertBehind) (maxL := 5) (ret := (some .int)) (by decide) rfl ?_
  intro p e s m args below meth c s₁ B hml hv
  obtain ⟨rfl, hsz, hP, hK, hD0, hN, hT⟩ := hv
  have hx := B.exec
  have hb := B.bytes
  have hr := B.returns
  have hts := atoms_spec (ws := Cond.code yX2_insertBehind cX2_insertBehind 5 (some .int) :: zw) B.pre
  have hA : ∀ w ∈ zw, w.before _ s = true := fun w h => hts w (List.mem_cons_of_mem _ h)
  have hown : s.vm.findClass RX2 = some m.cls := findClass_of_methodNamed B.named
  have hlocks := B.notSynchronized
  subst hsz
  have hD := hD0.self (sz := s.heap.size)
  generalize hAe : va_A [(h0, .inr (2, [.ref cop, .ref ca, .ref cb, .ref cplace, .ref cnext, .ref cneeded, .int z, .int ta])), (cop, .inl (ckop, 3000, .inl gop)), (ca, .inl (cka, 3000, .inl ga)), (cb, .inl (ckb, 3000, .inl gb)), (cplace, .inl (ckplace, 3000, .inl gplace)), (cnext, .inl (cknext, 3000, .inl gnext)), (cneeded, .inl (ckneeded, 3000, .inl gneeded))] s.heap.size = A at hD hT ⊢
  have hAA : ∀ q : Nat, s.heap.size ≤ q → A q := fun q h => by rw [← hAe]; exact Or.inr h
  have hS : va_S A s.heap s.heap [] := va_S.rf
  have hl := lv_entry ([.ref h0, .int be, .int o, .int wh]) (n := 5) (Nat.le_of_ble_eq_true rfl)
  rw [lg_entry_eq]
  generalize (lg_sl ([.ref h0, .int be, .int o, .int wh]) ++ List.replicate (5 - (lg_sl ([.ref h0, .int be, .int o, .int wh])).length) Slot.unset).toArray = ls at hl ⊢
  have hl : lv_has ls 5 [(0, .ref h0), (1, .int be), (2, .int o), (3, .int wh)] := hl
  refine lv_aload_n hx hb dX2_insertBehind_0 rfl (lv_at hl 0 rfl) ?_
  refine va_get (D := (dC, dI)) (ci := 2) (v := .int z) (C := RX2) (T := TX2) (N := 8) hx hb hA zin_X2 hown hK hP 0 rfl rfl 6 (by decide) (hA _ wi_197) (fun _ h9 => h9) rfl dX2_insertBehind_1 ?_
  refine lv_sipush (v := 3000) hx hb dX2_insertBehind_4 (by decide) ?_
  refine lv_icmp_lt (tgt := 14) hx hb dX2_insertBehind_7 (by decide) (fun c_1 => ?_) (fun c_1 => ?_)
  · have ic_1 : z.toInt < 3000 := zi_lt c_1
    refine lv_aload_n hx hb dX2_insertBehind_14 rfl (lv_at hl 0 rfl) ?_
    refine va_get (D := (dC, dI)) (ci := 2) (v := .int z) (C := RX2) (T := TX2) (N := 8) hx hb hA zin_X2 hown hK hP 0 rfl rfl 6 (by decide) (hA _ wi_197) (fun _ h9 => h9) rfl dX2_insertBehind_15 ?_
    refine lv_istore (lv' := [(4, .int z), (0, .ref h0), (1, .int be), (2, .int o), (3, .int wh)]) hx hb dX2_insertBehind_18 hl (by decide) rfl (fun ls hl => ?_)
    refine lv_aload_n hx hb dX2_insertBehind_20 rfl (lv_at hl 1 rfl) ?_
    refine lv_dup hx hb dX2_insertBehind_21 rfl ?_
    refine va_get (D := (dC, dI)) (ci := 2) (v := .int z) (C := RX2) (T := TX2) (N := 8) hx hb hA zin_X2 hown hK hP 0 rfl rfl 6 (by decide) (hA _ wi_197) (fun _ h9 => h9) rfl dX2_insertBehind_22 ?_
    refine lv_iconst (v := 1) hx hb dX2_insertBehind_25 (by decide) ?_
    refine lv_iadd hx hb dX2_insertBehind_26 ?_
    refine lv_topi (fun x_2 ex_2 => ?_)
    have ix_2 : x_2.toInt = z.toInt + 1 := by rw [ex_2]; exact zi_addc (by decide) (by omega) (by omega)
    refine va_put (D := (dC, dI)) (ci := 2) (v := .int x_2) (ty := .int) (C := RX2) (T := TX2) (N := 8) hx hb hA zin_X2 tyX2 tyX2_ok nmX2 hown hK hP hD hS 0 rfl rfl 6 (by decide) (hA _ wi_197) (fun _ h9 => h9) rfl (by decide +kernel) rfl rfl (Nat.le_of_ble_eq_true rfl) dX2_insertBehind_27 (fun H locs hP hD hS => ?_)
    have hP : va_P (dC, dI) vwCl [(h0, .inr (2, [.ref cop, .ref ca, .ref cb, .ref cplace, .ref cnext, .ref cneeded, .int x_2, .int ta])), (cop, .inl (ckop, 3000, .inl gop)), (ca, .inl (cka, 3000, .inl ga)), (cb, .inl (ckb, 3000, .inl gb)), (cplace, .inl (ckplace, 3000, .inl gplace)), (cnext, .inl (cknext, 3000, .inl gnext)), (cneeded, .inl (ckneeded, 3000, .inl gneeded))] H := hP
    have hD : va_D A [(h0, .inr (2, [.ref cop, .ref ca, .ref cb, .ref cplace, .ref cnext, .ref cneeded, .int x_2, .int ta])), (cop, .inl (ckop, 3000, .inl gop)), (ca, .inl (cka, 3000, .inl ga)), (cb, .inl (ckb, 3000, .inl gb)), (cplace, .inl (ckplace, 3000, .inl gplace)), (cnext, .inl (cknext, 3000, .inl gnext)), (cneeded, .inl (ckneeded, 3000, .inl gneeded))] := hD
    refine lv_aload_n hx hb dX2_insertBehind_30 rfl (lv_at hl 1 rfl) ?_
    refine va_get (D := (dC, dI)) (ci := 2) (v := .ref cop) (C := RX2) (T := TX2) (N := 8) hx hb hA zin_X2 hown hK hP 0 rfl rfl 0 (by decide) (hA _ wi_176) (fun _ h9 => h9) rfl dX2_insertBehind_31 ?_
    refine lv_iload hx hb dX2_insertBehind_34 (lv_at hl 0 rfl) ?_
    refine lv_iload_n hx hb dX2_insertBehind_36 rfl (lv_at hl 3 rfl) ?_
    refine va_iast hx hb hK hP hD hS 1 0 rfl rfl (vp_in_iff.mpr ⟨by omega, by omega⟩) dX2_insertBehind_37 (fun H locs hP hD hS => ?_)
    obtain ⟨f_3, ef_3⟩ : ∃ gz9 : Nat → Int32, gz9 = upd gop (Int32.toNatClampNeg z) o := ⟨_, rfl⟩
    rw [← ef_3] at hP hD
    have hP : va_P (dC, dI) vwCl [(h0, .inr (2, [.ref cop, .ref ca, .ref cb, .ref cplace, .ref cnext, .ref cneeded, .int x_2, .int ta])), (cop, .inl (ckop, 3000, .inl f_3)), (ca, .inl (cka, 3000, .inl ga)), (cb, .inl (ckb, 3000, .inl gb)), (cplace, .inl (ckplace, 3000, .inl gplace)), (cnext, .inl (cknext, 3000, .inl gnext)), (cneeded, .inl (ckneeded, 3000, .inl gneeded))] H := hP
    have hD : va_D A [(h0, .inr (2, [.ref cop, .ref ca, .ref cb, .ref cplace, .ref cnext, .ref cneeded, .int x_2, .int ta])), (cop, .inl (ckop, 3000, .inl f_3)), (ca, .inl (cka, 3000, .inl ga)), (cb, .inl (ckb, 3000, .inl gb)), (cplace, .inl (ckplace, 3000, .inl gplace)), (cnext, .inl (cknext, 3000, .inl gnext)), (cneeded, .inl (ckneeded, 3000, .inl gneeded))] := hD
    refine lv_aload_n hx hb dX2_insertBehind_38 rfl (lv_at hl 1 rfl) ?_
    refine va_get (D := (dC, dI)) (ci := 2) (v := .ref ca) (C := RX2) (T := TX2) (N := 8) hx hb hA zin_X2 hown hK hP 0 rfl rfl 1 (by decide) (hA _ wi_180) (fun _ h9 => h9) rfl dX2_insertBehind_39 ?_
    refine lv_iload hx hb dX2_insertBehind_42 (lv_at hl 0 rfl) ?_
    refine lv_iconst (v := (-1)) hx hb dX2_insertBehind_44 (by decide) ?_
    refine va_iast hx hb hK hP hD hS 2 1 rfl rfl (vp_in_iff.mpr ⟨by omega, by omega⟩) dX2_insertBehind_45 (fun H locs hP hD hS => ?_)
    obtain ⟨f_4, ef_4⟩ : ∃ gz9 : Nat → Int32, gz9 = upd ga (Int32.toNatClampNeg z) (-1) := ⟨_, rfl⟩
    rw [← ef_4] at hP hD
    have hP : va_P (dC, dI) vwCl [(h0, .inr (2, [.ref cop, .ref ca, .ref cb, .ref cplace, .ref cnext, .ref cneeded, .int x_2, .int ta])), (cop, .inl (ckop, 3000, .inl f_3)), (ca, .inl (cka, 3000, .inl f_4)), (cb, .inl (ckb, 3000, .inl gb)), (cplace, .inl (ckplace, 3000, .inl gplace)), (cnext, .inl (cknext, 3000, .inl gnext)), (cneeded, .inl (ckneeded, 3000, .inl gneeded))] H := hP
    have hD : va_D A [(h0, .inr (2, [.ref cop, .ref ca, .ref cb, .ref cplace, .ref cnext, .ref cneeded, .int x_2, .int ta])), (cop, .inl (ckop, 3000, .inl f_3)), (ca, .inl (cka, 3000, .inl f_4)), (cb, .inl (ckb, 3000, .inl gb)), (cplace, .inl (ckplace, 3000, .inl gplace)), (cnext, .inl (cknext, 3000, .inl gnext)), (cneeded, .inl (ckneeded, 3000, .inl gneeded))] := hD
    refine lv_aload_n hx hb dX2_insertBehind_46 rfl (lv_at hl 1 rfl) ?_
    refine va_get (D := (dC, dI)) (ci := 2) (v := .ref cb) (C := RX2) (T := TX2) (N := 8) hx hb hA zin_X2 hown hK hP 0 rfl rfl 2 (by decide) (hA _ wi_184) (fun _ h9 => h9) rfl dX2_insertBehind_47 ?_
    refine lv_iload hx hb dX2_insertBehind_50 (lv_at hl 0 rfl) ?_
    refine lv_iconst (v := (-1)) hx hb dX2_insertBehind_52 (by decide) ?_
    refine va_iast hx hb hK hP hD hS 3 2 rfl rfl (vp_in_iff.mpr ⟨by omega, by omega⟩) dX2_insertBehind_53 (fun H locs hP hD hS => ?_)
    obtain ⟨f_5, ef_5⟩ : ∃ gz9 : Nat → Int32, gz9 = upd gb (Int32.toNatClampNeg z) (-1) := ⟨_, rfl⟩
    rw [← ef_5] at hP hD
    have hP : va_P (dC, dI) vwCl [(h0, .inr (2, [.ref cop, .ref ca, .ref cb, .ref cplace, .ref cnext, .ref cneeded, .int x_2, .int ta])), (cop, .inl (ckop, 3000, .inl f_3)), (ca, .inl (cka, 3000, .inl f_4)), (cb, .inl (ckb, 3000, .inl f_5)), (cplace, .inl (ckplace, 3000, .inl gplace)), (cnext, .inl (cknext, 3000, .inl gnext)), (cneeded, .inl (ckneeded, 3000, .inl gneeded))] H := hP
    have hD : va_D A [(h0, .inr (2, [.ref cop, .ref ca, .ref cb, .ref cplace, .ref cnext, .ref cneeded, .int x_2, .int ta])), (cop, .inl (ckop, 3000, .inl f_3)), (ca, .inl (cka, 3000, .inl f_4)), (cb, .inl (ckb, 3000, .inl f_5)), (cplace, .inl (ckplace, 3000, .inl gplace)), (cnext, .inl (cknext, 3000, .inl gnext)), (cneeded, .inl (ckneeded, 3000, .inl gneeded))] := hD
    refine lv_aload_n hx hb dX2_insertBehind_54 rfl (lv_at hl 1 rfl) ?_
    refine va_get (D := (dC, dI)) (ci := 2) (v := .ref cplace) (C := RX2) (T := TX2) (N := 8) hx hb hA zin_X2 hown hK hP 0 rfl rfl 3 (by decide) (hA _ wi_188) (fun _ h9 => h9) rfl dX2_insertBehind_55 ?_
    refine lv_iload hx hb dX2_insertBehind_58 (lv_at hl 0 rfl) ?_
    refine lv_iload_n hx hb dX2_insertBehind_60 rfl (lv_at hl 4 rfl) ?_
    refine va_iast hx hb hK hP hD hS 4 3 rfl rfl (vp_in_iff.mpr ⟨by omega, by omega⟩) dX2_insertBehind_61 (fun H locs hP hD hS => ?_)
    obtain ⟨f_6, ef_6⟩ : ∃ gz9 : Nat → Int32, gz9 = upd gplace (Int32.toNatClampNeg z) wh := ⟨_, rfl⟩
    rw [← ef_6] at hP hD
    have hP : va_P (dC, dI) vwCl [(h0, .inr (2, [.ref cop, .ref ca, .ref cb, .ref cplace, .ref cnext, .ref cneeded, .int x_2, .int ta])), (cop, .inl (ckop, 3000, .inl f_3)), (ca, .inl (cka, 3000, .inl f_4)), (cb, .inl (ckb, 3000, .inl f_5)), (cplace, .inl (ckplace, 3000, .inl f_6)), (cnext, .inl (cknext, 3000, .inl gnext)), (cneeded, .inl (ckneeded, 3000, .inl gneeded))] H := hP
    have hD : va_D A [(h0, .inr (2, [.ref cop, .ref ca, .ref cb, .ref cplace, .ref cnext, .ref cneeded, .int x_2, .int ta])), (cop, .inl (ckop, 3000, .inl f_3)), (ca, .inl (cka, 3000, .inl f_4)), (cb, .inl (ckb, 3000, .inl f_5)), (cplace, .inl (ckplace, 3000, .inl f_6)), (cnext, .inl (cknext, 3000, .inl gnext)), (cneeded, .inl (ckneeded, 3000, .inl gneeded))] := hD
    refine lv_aload_n hx hb dX2_insertBehind_62 rfl (lv_at hl 1 rfl) ?_
    refine va_get (D := (dC, dI)) (ci := 2) (v := .ref cneeded) (C := RX2) (T := TX2) (N := 8) hx hb hA zin_X2 hown hK hP 0 rfl rfl 5 (by decide) (hA _ wi_194) (fun _ h9 => h9) rfl dX2_insertBehind_63 ?_
    refine lv_iload hx hb dX2_insertBehind_66 (lv_at hl 0 rfl) ?_
    refine lv_iconst (v := 0) hx hb dX2_insertBehind_68 (by decide) ?_
    refine va_iast hx hb hK hP hD hS 6 5 rfl rfl (vp_in_iff.mpr ⟨by omega, by omega⟩) dX2_insertBehind_69 (fun H locs hP hD hS => ?_)
    obtain ⟨f_7, ef_7⟩ : ∃ gz9 : Nat → Int32, gz9 = upd gneeded (Int32.toNatClampNeg z) 0 := ⟨_, rfl⟩
    rw [← ef_7] at hP hD
    have hP : va_P (dC, dI) vwCl [(h0, .inr (2, [.ref cop, .ref ca, .ref cb, .ref cplace, .ref cnext, .ref cneeded, .int x_2, .int ta])), (cop, .inl (ckop, 3000, .inl f_3)), (ca, .inl (cka, 3000, .inl f_4)), (cb, .inl (ckb, 3000, .inl f_5)), (cplace, .inl (ckplace, 3000, .inl f_6)), (cnext, .inl (cknext, 3000, .inl gnext)), (cneeded, .inl (ckneeded, 3000, .inl f_7))] H := hP
    have hD : va_D A [(h0, .inr (2, [.ref cop, .ref ca, .ref cb, .ref cplace, .ref cnext, .ref cneeded, .int x_2, .int ta])), (cop, .inl (ckop, 3000, .inl f_3)), (ca, .inl (cka, 3000, .inl f_4)), (cb, .inl (ckb, 3000, .inl f_5)), (cplace, .inl (ckplace, 3000, .inl f_6)), (cnext, .inl (cknext, 3000, .inl gnext)), (cneeded, .inl (ckneeded, 3000, .inl f_7))] := hD
    refine lv_aload_n hx hb dX2_insertBehind_70 rfl (lv_at hl 1 rfl) ?_
    refine va_get (D := (dC, dI)) (ci := 2) (v := .ref cnext) (C := RX2) (T := TX2) (N := 8) hx hb hA zin_X2 hown hK hP 0 rfl rfl 4 (by decide) (hA _ wi_191) (fun _ h9 => h9) rfl dX2_insertBehind_71 ?_
    refine lv_iload hx hb dX2_insertBehind_74 (lv_at hl 0 rfl) ?_
    refine lv_iload_n hx hb dX2_insertBehind_76 rfl (lv_at hl 2 rfl) ?_
    refine lv_iconst (v := (-1)) hx hb dX2_insertBehind_77 (by decide) ?_
    refine lv_icmp_ne (tgt := 85) hx hb dX2_insertBehind_78 (by decide) (fun c_8 => ?_) (fun c_8 => ?_)
    · have ic_8 : be.toInt ≠ (-1) := zi_ne c_8
      refine lv_aload_n hx hb dX2_insertBehind_85 rfl (lv_at hl 1 rfl) ?_
      refine va_get (D := (dC, dI)) (ci := 2) (v := .ref cnext) (C := RX2) (T := TX2) (N := 8) hx hb hA zin_X2 hown hK hP 0 rfl rfl 4 (by decide) (hA _ wi_191) (fun _ h9 => h9) rfl dX2_insertBehind_86 ?_
      refine lv_iload_n hx hb dX2_insertBehind_89 rfl (lv_at hl 2 rfl) ?_
      refine va_iald hx hb hK hP 5 4 rfl rfl (vp_in_iff.mpr ⟨by omega, by omega⟩) dX2_insertBehind_90 ?_
      refine lv_topi (fun x_9 ex_9 => ?_)
      have ix_9 : -1 ≤ x_9.toInt ∧ x_9.toInt < 3000 := by rw [ex_9]; exact hgn _
      refine va_iast hx hb hK hP hD hS 5 4 rfl rfl (vp_in_iff.mpr ⟨by omega, by omega⟩) dX2_insertBehind_91 (fun H locs hP hD hS => ?_)
      obtain ⟨f_10, ef_10⟩ : ∃ gz9 : Nat → Int32, gz9 = upd gnext (Int32.toNatClampNeg z) x_9 := ⟨_, rfl⟩
      rw [← ef_10] at hP hD
      have hp_f_10 : zx 3000 f_10 := by rw [ef_10]; exact zx_upd hgn (by omega) (by omega)
      have hP : va_P (dC, dI) vwCl [(h0, .inr (2, [.ref cop, .ref ca, .ref cb, .ref cplace, .ref cnext, .ref cneeded, .int x_2, .int ta])), (cop, .inl (ckop, 3000, .inl f_3)), (ca, .inl (cka, 3000, .inl f_4)), (cb, .inl (ckb, 3000, .inl f_5)), (cplace, .inl (ckplace, 3000, .inl f_6)), (cnext, .inl (cknext, 3000, .inl f_10)), (cneeded, .inl (ckneeded, 3000, .inl f_7))] H := hP
      have hD : va_D A [(h0, .inr (2, [.ref cop, .ref ca, .ref cb, .ref cplace, .ref cnext, .ref cneeded, .int x_2, .int ta])), (cop, .inl (ckop, 3000, .inl f_3)), (ca, .inl (cka, 3000, .inl f_4)), (cb, .inl (ckb, 3000, .inl f_5)), (cplace, .inl (ckplace, 3000, .inl f_6)), (cnext, .inl (cknext, 3000, .inl f_10)), (cneeded, .inl (ckneeded, 3000, .inl f_7))] := hD
      refine lv_iload_n hx hb dX2_insertBehind_92 rfl (lv_at hl 2 rfl) ?_
      refine lv_iconst (v := (-1)) hx hb dX2_insertBehind_93 (by decide) ?_
      refine lv_icmp_eq (tgt := 105) hx hb dX2_insertBehind_94 (by decide) (fun c_11 => ?_) (fun c_11 => ?_)
      · have ic_11 : be.toInt = (-1) := zi_eq c_11
        exfalso
        omega
      · have ic_11 : be.toInt ≠ (-1) := zi_ne c_11
        refine lv_aload_n hx hb dX2_insertBehind_97 rfl (lv_at hl 1 rfl) ?_
        refine va_get (D := (dC, dI)) (ci := 2) (v := .ref cnext) (C := RX2) (T := TX2) (N := 8) hx hb hA zin_X2 hown hK hP 0 rfl rfl 4 (by decide) (hA _ wi_191) (fun _ h9 => h9) rfl dX2_insertBehind_98 ?_
        refine lv_iload_n hx hb dX2_insertBehind_101 rfl (lv_at hl 2 rfl) ?_
        refine lv_iload hx hb dX2_insertBehind_102 (lv_at hl 0 rfl) ?_
        refine va_iast hx hb hK hP hD hS 5 4 rfl rfl (vp_in_iff.mpr ⟨by omega, by omega⟩) dX2_insertBehind_104 (fun H locs hP hD hS => ?_)
        obtain ⟨f_12, ef_12⟩ : ∃ gz9 : Nat → Int32, gz9 = upd f_10 (Int32.toNatClampNeg be) z := ⟨_, rfl⟩
        rw [← ef_12] at hP hD
        have hp_f_12 : zx 3000 f_12 := by rw [ef_12]; exact zx_upd hp_f_10 (by omega) (by omega)
        have hP : va_P (dC, dI) vwCl [(h0, .inr (2, [.ref cop, .ref ca, .ref cb, .ref cplace, .ref cnext, .ref cneeded, .int x_2, .int ta])), (cop, .inl (ckop, 3000, .inl f_3)), (ca, .inl (cka, 3000, .inl f_4)), (cb, .inl (ckb, 3000, .inl f_5)), (cplace, .inl (ckplace, 3000, .inl f_6)), (cnext, .inl (cknext, 3000, .inl f_12)), (cneeded, .inl (ckneeded, 3000, .inl f_7))] H := hP
        have hD : va_D A [(h0, .inr (2, [.ref cop, .ref ca, .ref cb, .ref cplace, .ref cnext, .ref cneeded, .int x_2, .int ta])), (cop, .inl (ckop, 3000, .inl f_3)), (ca, .inl (cka, 3000, .inl f_4)), (cb, .inl (ckb, 3000, .inl f_5)), (cplace, .inl (ckplace, 3000, .inl f_6)), (cnext, .inl (cknext, 3000, .inl f_12)), (cneeded, .inl (ckneeded, 3000, .inl f_7))] := hD
        refine lv_iload_n hx hb dX2_insertBehind_105 rfl (lv_at hl 2 rfl) ?_
        refine lv_aload_n hx hb dX2_insertBehind_106 rfl (lv_at hl 1 rfl) ?_
        refine va_get (D := (dC, dI)) (ci := 2) (v := .int ta) (C := RX2) (T := TX2) (N := 8) hx hb hA zin_X2 hown hK hP 0 rfl rfl 7 (by decide) (hA _ wi_200) (fun _ h9 => h9) rfl dX2_insertBehind_107 ?_
        refine lv_icmp_ne (tgt := 119) hx hb dX2_insertBehind_110 (by decide) (fun c_13 => ?_) (fun c_13 => ?_)
        · have ic_13 : be.toInt ≠ ta.toInt := zi_ne c_13
          refine lv_iload hx hb dX2_insertBehind_119 (lv_at hl 0 rfl) ?_
          have hP9 := hP.sub (ws' := [(h0, .inr (2, [.ref cop, .ref ca, .ref cb, .ref cplace, .ref cnext, .ref cneeded, .int x_2, .int ta])), (cop, .inl (ckop, 3000, .inl f_3)), (ca, .inl (cka, 3000, .inl f_4)), (cb, .inl (ckb, 3000, .inl f_5)), (cplace, .inl (ckplace, 3000, .inl f_6)), (cnext, .inl (cknext, 3000, .inl f_12)), (cneeded, .inl (ckneeded, 3000, .inl f_7))]) [0, 1, 2, 3, 4, 5, 6] rfl
          have hD9 := hD.sub (ws' := [(h0, .inr (2, [.ref cop, .ref ca, .ref cb, .ref cplace, .ref cnext, .ref cneeded, .int x_2, .int ta])), (cop, .inl (ckop, 3000, .inl f_3)), (ca, .inl (cka, 3000, .inl f_4)), (cb, .inl (ckb, 3000, .inl f_5)), (cplace, .inl (ckplace, 3000, .inl f_6)), (cnext, .inl (cknext, 3000, .inl f_12)), (cneeded, .inl (ckneeded, 3000, .inl f_7))]) [0, 1, 2, 3, 4, 5, 6] (by decide) rfl
          have hK9 := hK.sub (tys' := [(ckop, .int), (cka, .int), (ckb, .int), (ckplace, .int), (cknext, .int), (ckneeded, .int)]) [0, 1, 2, 3, 4, 5] rfl
          exact W.iret (v := z) hx hb hr (fun t ht hW => ⟨⟨z, (x_2, ta, f_3, f_4, f_5, f_6, f_12, f_7), rfl, ⟨rfl, by omega, by omega, hp_f_12, by rw [ef_3], by rw [ef_4], by rw [ef_5], Or.inr ⟨by omega, by rw [ef_12, ef_10, ex_9]⟩, by rw [ef_6]⟩, by rw [ht]; exact hP9, va_K.moved hW.alike hK9, hD9⟩, hS.F ht⟩) hS.2.2 dX2_insertBehind_121
        · have ic_13 : be.toInt = ta.toInt := zi_eq c_13
          refine lv_aload_n hx hb dX2_insertBehind_113 rfl (lv_at hl 1 rfl) ?_
          refine lv_iload hx hb dX2_insertBehind_114 (lv_at hl 0 rfl) ?_
          refine va_put (D := (dC, dI)) (ci := 2) (v := .int z) (ty := .int) (C := RX2) (T := TX2) (N := 8) hx hb hA zin_X2 tyX2 tyX2_ok nmX2 hown hK hP hD hS 0 rfl rfl 7 (by decide) (hA _ wi_200) (fun _ h9 => h9) rfl (by decide +kernel) rfl rfl (Nat.le_of_ble_eq_true rfl) dX2_insertBehind_116 (fun H locs hP hD hS => ?_)
          have hP : va_P (dC, dI) vwCl [(h0, .inr (2, [.ref cop, .ref ca, .ref cb, .ref cplace, .ref cnext, .ref cneeded, .int x_2, .int z])), (cop, .inl (ckop, 3000, .inl f_3)), (ca, .inl (cka, 3000, .inl f_4)), (cb, .inl (ckb, 3000, .inl f_5)), (cplace, .inl (ckplace, 3000, .inl f_6)), (cnext, .inl (cknext, 3000, .inl f_12)), (cneeded, .inl (ckneeded, 3000, .inl f_7))] H := hP
          have hD : va_D A [(h0, .inr (2, [.ref cop, .ref ca, .ref cb, .ref cplace, .ref cnext, .ref cneeded, .int x_2, .int z])), (cop, .inl (ckop, 3000, .inl f_3)), (ca, .inl (cka, 3000, .inl f_4)), (cb, .inl (ckb, 3000, .inl f_5)), (cplace, .inl (ckplace, 3000, .inl f_6)), (cnext, .inl (cknext, 3000, .inl f_12)), (cneeded, .inl (ckneeded, 3000, .inl f_7))] := hD
          refine lv_iload hx hb dX2_insertBehind_119 (lv_at hl 0 rfl) ?_
          have hP9 := hP.sub (ws' := [(h0, .inr (2, [.ref cop, .ref ca, .ref cb, .ref cplace, .ref cnext, .ref cneeded, .int x_2, .int z])), (cop, .inl (ckop, 3000, .inl f_3)), (ca, .inl (cka, 3000, .inl f_4)), (cb, .inl (ckb, 3000, .inl f_5)), (cplace, .inl (ckplace, 3000, .inl f_6)), (cnext, .inl (cknext, 3000, .inl f_12)), (cneeded, .inl (ckneeded, 3000, .inl f_7))]) [0, 1, 2, 3, 4, 5, 6] rfl
          have hD9 := hD.sub (ws' := [(h0, .inr (2, [.ref cop, .ref ca, .ref cb, .ref cplace, .ref cnext, .ref cneeded, .int x_2, .int z])), (cop, .inl (ckop, 3000, .inl f_3)), (ca, .inl (cka, 3000, .inl f_4)), (cb, .inl (ckb, 3000, .inl f_5)), (cplace, .inl (ckplace, 3000, .inl f_6)), (cnext, .inl (cknext, 3000, .inl f_12)), (cneeded, .inl (ckneeded, 3000, .inl f_7))]) [0, 1, 2, 3, 4, 5, 6] (by decide) rfl
          have hK9 := hK.sub (tys' := [(ckop, .int), (cka, .int), (ckb, .int), (ckplace, .int), (cknext, .int), (ckneeded, .int)]) [0, 1, 2, 3, 4, 5] rfl
          exact W.iret (v := z) hx hb hr (fun t ht hW => ⟨⟨z, (x_2, z, f_3, f_4, f_5, f_6, f_12, f_7), rfl, ⟨rfl, by omega, by omega, hp_f_12, by rw [ef_3], by rw [ef_4], by rw [ef_5], Or.inr ⟨by omega, by rw [ef_12, ef_10, ex_9]⟩, by rw [ef_6]⟩, by rw [ht]; exact hP9, va_K.moved hW.alike hK9, hD9⟩, hS.F ht⟩) hS.2.2 dX2_insertBehind_121
    · have ic_8 : be.toInt = (-1) := zi_eq c_8
      refine lv_iconst (v := (-1)) hx hb dX2_insertBehind_81 (by decide) ?_
      refine lv_goto (tgt := 91) hx hb dX2_insertBehind_82 (by decide) ?_
      refine va_iast hx hb hK hP hD hS 5 4 rfl rfl (vp_in_iff.mpr ⟨by omega, by omega⟩) dX2_insertBehind_91 (fun H locs hP hD hS => ?_)
      obtain ⟨f_14, ef_14⟩ : ∃ gz9 : Nat → Int32, gz9 = upd gnext (Int32.toNatClampNeg z) (-1) := ⟨_, rfl⟩
      rw [← ef_14] at hP hD
      have hp_f_14 : zx 3000 f_14 := by rw [ef_14]; exact zx_upd hgn (by have h9 : Int32.toInt (-1) = (-1) := (by decide); omega) (by have h9 : Int32.toInt (-1) = (-1) := (by decide); omega)
      have hP : va_P (dC, dI) vwCl [(h0, .inr (2, [.ref cop, .ref ca, .ref cb, .ref cplace, .ref cnext, .ref cneeded, .int x_2, .int ta])), (cop, .inl (ckop, 3000, .inl f_3)), (ca, .inl (cka, 3000, .inl f_4)), (cb, .inl (ckb, 3000, .inl f_5)), (cplace, .inl (ckplace, 3000, .inl f_6)), (cnext, .inl (cknext, 3000, .inl f_14)), (cneeded, .inl (ckneeded, 3000, .inl f_7))] H := hP
      have hD : va_D A [(h0, .inr (2, [.ref cop, .ref ca, .ref cb, .ref cplace, .ref cnext, .ref cneeded, .int x_2, .int ta])), (cop, .inl (ckop, 3000, .inl f_3)), (ca, .inl (cka, 3000, .inl f_4)), (cb, .inl (ckb, 3000, .inl f_5)), (cplace, .inl (ckplace, 3000, .inl f_6)), (cnext, .inl (cknext, 3000, .inl f_14)), (cneeded, .inl (ckneeded, 3000, .inl f_7))] := hD
      refine lv_iload_n hx hb dX2_insertBehind_92 rfl (lv_at hl 2 rfl) ?_
      refine lv_iconst (v := (-1)) hx hb dX2_insertBehind_93 (by decide) ?_
      refine lv_icmp_eq (tgt := 105) hx hb dX2_insertBehind_94 (by decide) (fun c_15 => ?_) (fun c_15 => ?_)
      · have ic_15 : be.toInt = (-1) := zi_eq c_15
        refine lv_iload_n hx hb dX2_insertBehind_105 rfl (lv_at hl 2 rfl) ?_
        refine lv_aload_n hx hb dX2_insertBehind_106 rfl (lv_at hl 1 rfl) ?_
        refine va_get (D := (dC, dI)) (ci := 2) (v := .int ta) (C := RX2) (T := TX2) (N := 8) hx hb hA zin_X2 hown hK hP 0 rfl rfl 7 (by decide) (hA _ wi_200) (fun _ h9 => h9) rfl dX2_insertBehind_107 ?_
        refine lv_icmp_ne (tgt := 119) hx hb dX2_insertBehind_110 (by decide) (fun c_16 => ?_) (fun c_16 => ?_)
        · have ic_16 : be.toInt ≠ ta.toInt := zi_ne c_16
          refine lv_iload hx hb dX2_insertBehind_119 (lv_at hl 0 rfl) ?_
          have hP9 := hP.sub (ws' := [(h0, .inr (2, [.ref cop, .ref ca, .ref cb, .ref cplace, .ref cnext, .ref cneeded, .int x_2, .int ta])), (cop, .inl (ckop, 3000, .inl f_3)), (ca, .inl (cka, 3000, .inl f_4)), (cb, .inl (ckb, 3000, .inl f_5)), (cplace, .inl (ckplace, 3000, .inl f_6)), (cnext, .inl (cknext, 3000, .inl f_14)), (cneeded, .inl (ckneeded, 3000, .inl f_7))]) [0, 1, 2, 3, 4, 5, 6] rfl
          have hD9 := hD.sub (ws' := [(h0, .inr (2, [.ref cop, .ref ca, .ref cb, .ref cplace, .ref cnext, .ref cneeded, .int x_2, .int ta])), (cop, .inl (ckop, 3000, .inl f_3)), (ca, .inl (cka, 3000, .inl f_4)), (cb, .inl (ckb, 3000, .inl f_5)), (cplace, .inl (ckplace, 3000, .inl f_6)), (cnext, .inl (cknext, 3000, .inl f_14)), (cneeded, .inl (ckneeded, 3000, .inl f_7))]) [0, 1, 2, 3, 4, 5, 6] (by decide) rfl
          have hK9 := hK.sub (tys' := [(ckop, .int), (cka, .int), (ckb, .int), (ckplace, .int), (cknext, .int), (ckneeded, .int)]) [0, 1, 2, 3, 4, 5] rfl
          exact W.iret (v := z) hx hb hr (fun t ht hW => ⟨⟨z, (x_2, ta, f_3, f_4, f_5, f_6, f_14, f_7), rfl, ⟨rfl, by omega, by omega, hp_f_14, by rw [ef_3], by rw [ef_4], by rw [ef_5], Or.inl ⟨by omega, by rw [ef_14]⟩, by rw [ef_6]⟩, by rw [ht]; exact hP9, va_K.moved hW.alike hK9, hD9⟩, hS.F ht⟩) hS.2.2 dX2_insertBehind_121
        · have ic_16 : be.toInt = ta.toInt := zi_eq c_16
          refine lv_aload_n hx hb dX2_insertBehind_113 rfl (lv_at hl 1 rfl) ?_
          refine lv_iload hx hb dX2_insertBehind_114 (lv_at hl 0 rfl) ?_
          refine va_put (D := (dC, dI)) (ci := 2) (v := .int z) (ty := .int) (C := RX2) (T := TX2) (N := 8) hx hb hA zin_X2 tyX2 tyX2_ok nmX2 hown hK hP hD hS 0 rfl rfl 7 (by decide) (hA _ wi_200) (fun _ h9 => h9) rfl (by decide +kernel) rfl rfl (Nat.le_of_ble_eq_true rfl) dX2_insertBehind_116 (fun H locs hP hD hS => ?_)
          have hP : va_P (dC, dI) vwCl [(h0, .inr (2, [.ref cop, .ref ca, .ref cb, .ref cplace, .ref cnext, .ref cneeded, .int x_2, .int z])), (cop, .inl (ckop, 3000, .inl f_3)), (ca, .inl (cka, 3000, .inl f_4)), (cb, .inl (ckb, 3000, .inl f_5)), (cplace, .inl (ckplace, 3000, .inl f_6)), (cnext, .inl (cknext, 3000, .inl f_14)), (cneeded, .inl (ckneeded, 3000, .inl f_7))] H := hP
          have hD : va_D A [(h0, .inr (2, [.ref cop, .ref ca, .ref cb, .ref cplace, .ref cnext, .ref cneeded, .int x_2, .int z])), (cop, .inl (ckop, 3000, .inl f_3)), (ca, .inl (cka, 3000, .inl f_4)), (cb, .inl (ckb, 3000, .inl f_5)), (cplace, .inl (ckplace, 3000, .inl f_6)), (cnext, .inl (cknext, 3000, .inl f_14)), (cneeded, .inl (ckneeded, 3000, .inl f_7))] := hD
          refine lv_iload hx hb dX2_insertBehind_119 (lv_at hl 0 rfl) ?_
          have hP9 := hP.sub (ws' := [(h0, .inr (2, [.ref cop, .ref ca, .ref cb, .ref cplace, .ref cnext, .ref cneeded, .int x_2, .int z])), (cop, .inl (ckop, 3000, .inl f_3)), (ca, .inl (cka, 3000, .inl f_4)), (cb, .inl (ckb, 3000, .inl f_5)), (cplace, .inl (ckplace, 3000, .inl f_6)), (cnext, .inl (cknext, 3000, .inl f_14)), (cneeded, .inl (ckneeded, 3000, .inl f_7))]) [0, 1, 2, 3, 4, 5, 6] rfl
          have hD9 := hD.sub (ws' := [(h0, .inr (2, [.ref cop, .ref ca, .ref cb, .ref cplace, .ref cnext, .ref cneeded, .int x_2, .int z])), (cop, .inl (ckop, 3000, .inl f_3)), (ca, .inl (cka, 3000, .inl f_4)), (cb, .inl (ckb, 3000, .inl f_5)), (cplace, .inl (ckplace, 3000, .inl f_6)), (cnext, .inl (cknext, 3000, .inl f_14)), (cneeded, .inl (ckneeded, 3000, .inl f_7))]) [0, 1, 2, 3, 4, 5, 6] (by decide) rfl
          have hK9 := hK.sub (tys' := [(ckop, .int), (cka, .int), (ckb, .int), (ckplace, .int), (cknext, .int), (ckneeded, .int)]) [0, 1, 2, 3, 4, 5] rfl
          exact W.iret (v := z) hx hb hr (fun t ht hW => ⟨⟨z, (x_2, z, f_3, f_4, f_5, f_6, f_14, f_7), rfl, ⟨rfl, by omega, by omega, hp_f_14, by rw [ef_3], by rw [ef_4], by rw [ef_5], Or.inl ⟨by omega, by rw [ef_14]⟩, by rw [ef_6]⟩, by rw [ht]; exact hP9, va_K.moved hW.alike hK9, hD9⟩, hS.F ht⟩) hS.2.2 dX2_insertBehind_121
      · have ic_15 : be.toInt ≠ (-1) := zi_ne c_15
        exfalso
        omega
  · have ic_1 : 3000 ≤ z.toInt := zi_nlt c_1
    exfalso
    omega
set_option maxHeartbeats 4000000 in
set_option maxRecDepth 100000 in
theorem c_X2_append_e (l : Launch) (dC : Nat → ClassId) (dI : Nat → Nat → Nat) (aK aV : Nat → Nat) (h0 : Nat) (cop : Nat) (ca : Nat) (cb : Nat) (cplace : Nat) (cnext : Nat) (cneeded : Nat) (ckop : ClassId) (cka : ClassId) (ckb : ClassId) (ckplace : ClassId) (cknext : ClassId) (ckneeded : ClassId) (z : Int32) (ta : Int32) (gop : Nat → Int32) (ga : Nat → Int32) (gb : Nat → Int32) (gplace : Nat → Int32) (gnext : Nat → Int32) (gneeded : Nat → Int32) (o : Int32) (wh : Int32) (nu : Int32) (sz : Nat) (hz0 : 0 ≤ z.toInt) (hz1 : z.toInt < 3000) (ht0 : -1 ≤ ta.toInt) (ht1 : ta.toInt < 3000) (hgn : zx 3000 gnext) : Met l yX2_append (Cond.code yX2_append cX2_append 5 (some .int) :: zw) ({ frames := 10, cells := 0, slots := 0, locals := 300 }) (va_Pc [.ref h0, .int o, .int wh, .int nu] (zP dC dI aK aV sz [(ckop, .int), (cka, .int), (ckb, .int), (ckplace, .int), (cknext, .int), (ckneeded, .int)] [(h0, .inr (2, [.ref cop, .ref ca, .ref cb, .ref cplace, .ref cnext, .ref cneeded, .int z, .int ta])), (cop, .inl (ckop, 3000, .inl gop)), (ca, .inl (cka, 3000, .inl ga)), (cb, .inl (ckb, 3000, .inl gb)), (cplace, .inl (ckplace, 3000, .inl gplace)), (cnext, .inl (cknext, 3000, .inl gnext)), (cneeded, .inl (ckneeded, 3000, .inl gneeded))])) (va_Qi (fun (r : Int32) (u : Int32 × Int32 × (Nat → Int32) × (Nat → Int32) × (Nat → Int32) × (Nat → Int32) × (Nat → Int32) × (Nat → Int32)) => match u with | (z2, t2, nop, na, nb, nplace, nnext, nneeded) => (r = z) ∧ (z2.toInt = z.toInt + 1) ∧ (t2 = z) ∧ (zx 3000 nnext) ∧ (nop = upd gop (Int32.toNatClampNeg z) o) ∧ (na = upd ga (Int32.toNatClampNeg z) nu) ∧ (nb = upd gb (Int32.toNatClampNeg z) (-1)) ∧ ((ta.toInt = -1 ∧ nnext = upd gnext (Int32.toNatClampNeg z) (-1)) ∨ (0 ≤ ta.toInt ∧ nnext = upd (upd gnext (Int32.toNatClampNeg z) (gnext (Int32.toNatClampNeg ta))) (Int32.toNatClampNeg ta) z)) ∧ (nplace = upd gplace (Int32.toNatClampNeg z) wh)) (fun u => match u with | (z2, t2, nop, na, nb, nplace, nnext, nneeded) => zQ dC dI (va_A [(h0, .inr (2, [.ref cop, .ref ca, .ref cb, .ref cplace, .ref cnext, .ref cneeded, .int z, .int ta])), (cop, .inl (ckop, 3000, .inl gop)), (ca, .inl (cka, 3000, .inl ga)), (cb, .inl (ckb, 3000, .inl gb)), (cplace, .inl (ckplace, 3000, .inl gplace)), (cnext, .inl (cknext, 3000, .inl gnext)), (cneeded, .inl (ckneeded, 3000, .inl gneeded))] sz) [(ckop, .int), (cka, .int), (ckb, .int), (ckplace, .int), (cknext, .int), (ckneeded, .int)] [(h0, .inr (2, [.ref cop, .ref ca, .ref cb, .ref cplace, .ref cnext, .ref cneeded, .int z2, .int t2])), (cop, .inl (ckop, 3000, .inl nop)), (ca, .inl (cka, 3000, .inl na)), (cb, .inl (ckb, 3000, .inl nb)), (cplace, .inl (ckplace, 3000, .inl nplace)), (cnext, .inl (cknext, 3000, .inl nnext)), (cneeded, .inl (ckneeded, 3000, .inl nneeded))]) (va_A [(h0, .inr (2, [.ref cop, .ref ca, .ref cb, .ref cplace, .ref cnext, .ref cneeded, .int z, .int ta])), (cop, .inl (ckop, 3000, .inl gop)), (ca, .inl (cka, 3000, .inl ga)), (cb, .inl (ckb, 3000, .inl gb)), (cplace, .inl (ckplace, 3000, .inl gplace)), (cnext, .inl (cknext, 3000, .inl gnext)), (cneeded, .inl (ckneeded, 3000, .inl gneeded))] sz)) 0 0 (va_A [(h0, .inr (2, [.ref cop, .ref ca, .ref cb, .ref cplace, .ref cnext, .ref cneeded, .int z, .int ta])), (cop, .inl (ckop, 3000, .inl gop)), (ca, .inl (cka, 3000, .inl ga)), (cb, .inl (ckb, 3000, .inl gb)), (cplace, .inl (ckplace, 3000, .inl gplace)), (cnext, .inl (cknext, 3000, .inl gnext)), (cneeded, .inl (ckneeded, 3000, .inl gneeded))] sz) := by
  refine Met.ofW (cc := cX2_append) (maxL := 5) (ret := (some .int)) (by decide) rfl ?_
  intro p e s m args below meth c s₁ B hml hv
  obtain ⟨rfl, hsz, hP, hK, hD0, hN, hT⟩ := hv
  have hx := B.exec
  have hb := B.bytes
  have hr := B.returns
  have hts := atoms_spec (ws := Cond.code yX2_append cX2_append 5 (some .int) :: zw) B.pre
  have hA : ∀ w ∈ zw, w.before _ s = true := fun w h => hts w (List.mem_cons_of_mem _ h)
  have hown : s.vm.findClass RX2 = some m.cls := findClass_of_methodNamed B.named
  have hlocks := B.notSynchronized
  subst hsz
  have hD := hD0.self (sz := s.heap.size)
  generalize hAe : va_A [(h0, .inr (2, [.ref cop, .ref ca, .ref cb, .ref cplace, .ref cnext, .ref cneeded, .int z, .int ta])), (cop, .inl (ckop, 3000, .inl gop)), (ca, .inl (cka, 3000, .inl ga)), (cb, .inl (ckb, 3000, .inl gb)), (cplace, .inl (ckplace, 3000, .inl gplace)), (cnext, .inl (cknext, 3000, .inl gnext)), (cneeded, .inl (ckneeded, 3000, .inl gneeded))] s.heap.size = A at hD hT ⊢
  have hAA : ∀ q : Nat, s.heap.size ≤ q → A q := fun q h => by rw [← hAe]; exact Or.inr h
  have hS : va_S A s.heap s.heap [] := va_S.rf
  have hl := lv_entry ([.ref h0, .int o, .int wh, .int nu]) (n := 5) (Nat.le_of_ble_eq_true rfl)
  rw [lg_entry_eq]
  generalize (lg_sl ([.ref h0, .int o, .int wh, .int nu]) ++ List.replicate (5 - (lg_sl ([.ref h0, .int o, .int wh, .int nu])).length) Slot.unset).toArray = ls at hl ⊢
  have hl : lv_has ls 5 [(0, .ref h0), (1, .int o), (2, .int wh), (3, .int nu)] := hl
  refine lv_aload_n hx hb dX2_append_0 rfl (lv_at hl 0 rfl) ?_
  refine lv_aload_n hx hb dX2_append_1 rfl (lv_at hl 0 rfl) ?_
  refine va_get (D := (dC, dI)) (ci := 2) (v := .int ta) (C := RX2) (T := TX2) (N := 8) hx hb hA zin_X2 hown hK hP 0 rfl rfl 7 (by decide) (hA _ wi_200) (fun _ h9 => h9) rfl dX2_append_2 ?_
  refine lv_iload_n hx hb dX2_append_5 rfl (lv_at hl 1 rfl) ?_
  refine lv_iload_n hx hb dX2_append_6 rfl (lv_at hl 2 rfl) ?_
  have hPc := hP.sub (ws' := [(h0, .inr (2, [.ref cop, .ref ca, .ref cb, .ref cplace, .ref cnext, .ref cneeded, .int z, .int ta])), (cop, .inl (ckop, 3000, .inl gop)), (ca, .inl (cka, 3000, .inl ga)), (cb, .inl (ckb, 3000, .inl gb)), (cplace, .inl (ckplace, 3000, .inl gplace)), (cnext, .inl (cknext, 3000, .inl gnext)), (cneeded, .inl (ckneeded, 3000, .inl gneeded))]) [0, 1, 2, 3, 4, 5, 6] rfl
  have hDc := hD.sub (ws' := [(h0, .inr (2, [.ref cop, .ref ca, .ref cb, .ref cplace, .ref cnext, .ref cneeded, .int z, .int ta])), (cop, .inl (ckop, 3000, .inl gop)), (ca, .inl (cka, 3000, .inl ga)), (cb, .inl (ckb, 3000, .inl gb)), (cplace, .inl (ckplace, 3000, .inl gplace)), (cnext, .inl (cknext, 3000, .inl gnext)), (cneeded, .inl (ckneeded, 3000, .inl gneeded))]) [0, 1, 2, 3, 4, 5, 6] (by decide) rfl
  have hKc := hK.sub (tys' := [(ckop, .int), (cka, .int), (ckb, .int), (ckplace, .int), (cknext, .int), (ckneeded, .int)]) [0, 1, 2, 3, 4, 5] rfl
  have hFc := va_free (wc := [(h0, .inr (2, [.ref cop, .ref ca, .ref cb, .ref cplace, .ref cnext, .ref cneeded, .int z, .int ta])), (cop, .inl (ckop, 3000, .inl gop)), (ca, .inl (cka, 3000, .inl ga)), (cb, .inl (ckb, 3000, .inl gb)), (cplace, .inl (ckplace, 3000, .inl gplace)), (cnext, .inl (cknext, 3000, .inl gnext)), (cneeded, .inl (ckneeded, 3000, .inl gneeded))]) hD hS hAA [0, 1, 2, 3, 4, 5, 6] rfl
  refine va_calli (va_runV (As := [.int ta, .int o, .int wh]) (rest := []) ⟨hx, hb, hml, hown, hA⟩ (c_X2_insertBehind_e l dC dI aK aV h0 cop ca cb cplace cnext cneeded ckop cka ckb ckplace cknext ckneeded z ta gop ga gb gplace gnext gneeded ta o wh s.heap.size (by omega) (by omega) (by omega) (by omega) hgn (by omega) (by omega)) (cwV 3 hA (zw_V wi_922 wi_923 wi_924 wi_132 (zw_good wi_925)) rfl rfl rfl (by decide +kernel) ⟨(Nat.le_of_ble_eq_true rfl), (Nat.le_of_ble_eq_true rfl)⟩) ⟨zP_blind, va_recv hKc hPc (ci := 2) (q0 := 0) rfl rfl, zz_pre hKc hPc hDc hN hT hS hFc⟩ rfl rfl hl.1 rfl (lv_room (Nat.le_of_ble_eq_true rfl)) dX2_append_7 ⟨(Nat.le_of_ble_eq_true rfl), (Nat.le_of_ble_eq_true rfl)⟩) hS (fun q _ h => hFc q h) hFc (fun r_1 u t H1 locs ht hvm hw hB hz1 hk1 hS => ?_)
  obtain ⟨z_2, t_3, nop_4, na_5, nb_6, nplace_7, nnext_8, nneeded_9⟩ := u
  obtain ⟨hP1, hK1, hD1⟩ := hB
  rw [ht] at hP1
  have hK1 := va_K.moved hvm.symm hK1
  obtain ⟨hP, hD⟩ := va_join (wr := []) (w1 := [(h0, .inr (2, [.ref cop, .ref ca, .ref cb, .ref cplace, .ref cnext, .ref cneeded, .int z_2, .int t_3])), (cop, .inl (ckop, 3000, .inl nop_4)), (ca, .inl (cka, 3000, .inl na_5)), (cb, .inl (ckb, 3000, .inl nb_6)), (cplace, .inl (ckplace, 3000, .inl nplace_7)), (cnext, .inl (cknext, 3000, .inl nnext_8)), (cneeded, .inl (ckneeded, 3000, .inl nneeded_9))]) hP hD [0, 1, 2, 3, 4, 5, 6] [] rfl rfl (by decide) (by decide) hk1 hFc hP1 hD1
  have hK := (hK.sub (tys' := []) [] rfl).app hK1
  generalize H1 = H at hP hS ⊢
  have hP : va_P (dC, dI) vwCl [(h0, .inr (2, [.ref cop, .ref ca, .ref cb, .ref cplace, .ref cnext, .ref cneeded, .int z_2, .int t_3])), (cop, .inl (ckop, 3000, .inl nop_4)), (ca, .inl (cka, 3000, .inl na_5)), (cb, .inl (ckb, 3000, .inl nb_6)), (cplace, .inl (ckplace, 3000, .inl nplace_7)), (cnext, .inl (cknext, 3000, .inl nnext_8)), (cneeded, .inl (ckneeded, 3000, .inl nneeded_9))] H := hP
  have hD : va_D A [(h0, .inr (2, [.ref cop, .ref ca, .ref cb, .ref cplace, .ref cnext, .ref cneeded, .int z_2, .int t_3])), (cop, .inl (ckop, 3000, .inl nop_4)), (ca, .inl (cka, 3000, .inl na_5)), (cb, .inl (ckb, 3000, .inl nb_6)), (cplace, .inl (ckplace, 3000, .inl nplace_7)), (cnext, .inl (cknext, 3000, .inl nnext_8)), (cneeded, .inl (ckneeded, 3000, .inl nneeded_9))] := hD
  have hK : va_K (dC, dI) vwCl [(ckop, .int), (cka, .int), (ckb, .int), (ckplace, .int), (cknext, .int), (ckneeded, .int)] s := hK
  obtain rfl : z = r_1 := hw.1.symm
  obtain ⟨hq_10, hq_11, hq_12, hq_13, hq_14, hq_15, hq_16, hq_17, hq_18⟩ := hw
  refine lv_istore (lv' := [(4, .int z), (0, .ref h0), (1, .int o), (2, .int wh), (3, .int nu)]) hx hb dX2_append_10 hl (by decide) rfl (fun ls hl => ?_)
  refine lv_aload_n hx hb dX2_append_12 rfl (lv_at hl 1 rfl) ?_
  refine va_get (D := (dC, dI)) (ci := 2) (v := .ref ca) (C := RX2) (T := TX2) (N := 8) hx hb hA zin_X2 hown hK hP 0 rfl rfl 1 (by decide) (hA _ wi_180) (fun _ h9 => h9) rfl dX2_append_13 ?_
  refine lv_iload hx hb dX2_append_16 (lv_at hl 0 rfl) ?_
  refine lv_iload_n hx hb dX2_append_18 rfl (lv_at hl 4 rfl) ?_
  refine va_iast hx hb hK hP hD hS 2 1 rfl rfl (vp_in_iff.mpr ⟨by omega, by omega⟩) dX2_append_19 (fun H locs hP hD hS => ?_)
  obtain ⟨f_19, ef_19⟩ : ∃ gz9 : Nat → Int32, gz9 = upd na_5 (Int32.toNatClampNeg z) nu := ⟨_, rfl⟩
  rw [← ef_19] at hP hD
  have hP : va_P (dC, dI) vwCl [(h0, .inr (2, [.ref cop, .ref ca, .ref cb, .ref cplace, .ref cnext, .ref cneeded, .int z_2, .int t_3])), (cop, .inl (ckop, 3000, .inl nop_4)), (ca, .inl (cka, 3000, .inl f_19)), (cb, .inl (ckb, 3000, .inl nb_6)), (cplace, .inl (ckplace, 3000, .inl nplace_7)), (cnext, .inl (cknext, 3000, .inl nnext_8)), (cneeded, .inl (ckneeded, 3000, .inl nneeded_9))] H := hP
  have hD : va_D A [(h0, .inr (2, [.ref cop, .ref ca, .ref cb, .ref cplace, .ref cnext, .ref cneeded, .int z_2, .int t_3])), (cop, .inl (ckop, 3000, .inl nop_4)), (ca, .inl (cka, 3000, .inl f_19)), (cb, .inl (ckb, 3000, .inl nb_6)), (cplace, .inl (ckplace, 3000, .inl nplace_7)), (cnext, .inl (cknext, 3000, .inl nnext_8)), (cneeded, .inl (ckneeded, 3000, .inl nneeded_9))] := hD
  refine lv_iload hx hb dX2_append_20 (lv_at hl 0 rfl) ?_
  have hP9 := hP.sub (ws' := [(h0, .inr (2, [.ref cop, .ref ca, .ref cb, .ref cplace, .ref cnext, .ref cneeded, .int z_2, .int t_3])), (cop, .inl (ckop, 3000, .inl nop_4)), (ca, .inl (cka, 3000, .inl f_19)), (cb, .inl (ckb, 3000, .inl nb_6)), (cplace, .inl (ckplace, 3000, .inl nplace_7)), (cnext, .inl (cknext, 3000, .inl nnext_8)), (cneeded, .inl (ckneeded, 3000, .inl nneeded_9))]) [0, 1, 2, 3, 4, 5, 6] rfl
  have hD9 := hD.sub (ws' := [(h0, .inr (2, [.ref cop, .ref ca, .ref cb, .ref cplace, .ref cnext, .ref cneeded, .int z_2, .int t_3])), (cop, .inl (ckop, 3000, .inl nop_4)), (ca, .inl (cka, 3000, .inl f_19)), (cb, .inl (ckb, 3000, .inl nb_6)), (cplace, .inl (ckplace, 3000, .inl nplace_7)), (cnext, .inl (cknext, 3000, .inl nnext_8)), (cneeded, .inl (ckneeded, 3000, .inl nneeded_9))]) [0, 1, 2, 3, 4, 5, 6] (by decide) rfl
  have hK9 := hK.sub (tys' := [(ckop, .int), (cka, .int), (ckb, .int), (ckplace, .int), (cknext, .int), (ckneeded, .int)]) [0, 1, 2, 3, 4, 5] rfl
  exact W.iret (v := z) hx hb hr (fun t ht hW => ⟨⟨z, (z_2, t_3, nop_4, f_19, nb_6, nplace_7, nnext_8, nneeded_9), rfl, ⟨rfl, by omega, Int32.toInt_inj.mp (by omega), hq_13, hq_14, by rw [ef_19, hq_15, zu_uu], hq_16, hq_17, hq_18⟩, by rw [ht]; exact hP9, va_K.moved hW.alike hK9, hD9⟩, hS.F ht⟩) hS.2.2 dX2_append_22
set_option maxHeartbeats 4000000 in
set_option maxRecDepth 100000 in
theorem c_X3_add_x (l : Launch) (dC : Nat → ClassId) (dI : Nat → Nat → Nat) (aK aV : Nat → Nat) (h0 : Nat) (fw : Nat) (fe : Nat) (ff : Nat) (f1 : ClassId) (f2 : ClassId) (f3 : ClassId) (z : Int32) (gw : Nat → Int64) (ge : Nat → Int32) (gf : Nat → Int32) (nm : Int64) (sz : Nat) (hz0 : 0 ≤ z.toInt) (hz1 : z.toInt < 30) (hge : zx 3000 ge) : Met l yX3_add (Cond.code yX3_add cX3_add 5 (some .int) :: zw) ({ frames := 8, cells := 0, slots := 0, locals := 200 }) (va_Pc [.ref h0, .long nm] (zP dC dI aK aV sz [(f1, .long), (f2, .int), (f3, .int)] [(h0, .inr (3, [.ref fw, .ref fe, .ref ff, .int z])), (fw, .inl (f1, 30, .inr (.inl gw))), (fe, .inl (f2, 30, .inl ge)), (ff, .inl (f3, 150, .inl gf))])) (va_Qi (fun (r : Int32) (u : Int32 × (Nat → Int64) × (Nat → Int32) × (Nat → Int32)) => match u with | (z2, gw2, ge2, gf2) => (r = z) ∧ (z2.toInt = z.toInt + 1) ∧ (zx 3000 ge2) ∧ (ge2 = upd ge (Int32.toNatClampNeg z) (-1)) ∧ (zfz gf gf2 (Int32.toNatClampNeg z) 5) ∧ (gw2 = vp_updL gw (Int32.toNatClampNeg z) nm)) (fun u => match u with | (z2, gw2, ge2, gf2) => zQ dC dI (va_A [(h0, .inr (3, [.ref fw, .ref fe, .ref ff, .int z])), (fw, .inl (f1, 30, .inr (.inl gw))), (fe, .inl (f2, 30, .inl ge)), (ff, .inl (f3, 150, .inl gf))] sz) [(f1, .long), (f2, .int), (f3, .int)] [(h0, .inr (3, [.ref fw, .ref fe, .ref ff, .int z2])), (fw, .inl (f1, 30, .inr (.inl gw2))), (fe, .inl (f2, 30, .inl ge2)), (ff, .inl (f3, 150, .inl gf2))]) (va_A [(h0, .inr (3, [.ref fw, .ref fe, .ref ff, .int z])), (fw, .inl (f1, 30, .inr (.inl gw))), (fe, .inl (f2, 30, .inl ge)), (ff, .inl (f3, 150, .inl gf))] sz)) 0 0 (va_A [(h0, .inr (3, [.ref fw, .ref fe, .ref ff, .int z])), (fw, .inl (f1, 30, .inr (.inl gw))), (fe, .inl (f2, 30, .inl ge)), (ff, .inl (f3, 150, .inl gf))] sz) := by
  refine Met.ofW (cc := cX3_add) (maxL := 5) (ret := (some .int)) (by decide) rfl ?_
  intro p e s m args below meth c s₁ B hml hv
  obtain ⟨rfl, hsz, hP, hK, hD0, hN, hT⟩ := hv
  have hx := B.exec
  have hb := B.bytes
  have hr := B.returns
  have hts := atoms_spec (ws := Cond.code yX3_add cX3_add 5 (some .int) :: zw) B.pre
  have hA : ∀ w ∈ zw, w.before _ s = true := fun w h => hts w (List.mem_cons_of_mem _ h)
  have hown : s.vm.findClass RX3 = some m.cls := findClass_of_methodNamed B.named
  have hlocks := B.notSynchronized
  subst hsz
  have hD := hD0.self (sz := s.heap.size)
  generalize hAe : va_A [(h0, .inr (3, [.ref fw, .ref fe, .ref ff, .int z])), (fw, .inl (f1, 30, .inr (.inl gw))), (fe, .inl (f2, 30, .inl ge)), (ff, .inl (f3, 150, .inl gf))] s.heap.size = A at hD hT ⊢
  have hAA : ∀ q : Nat, s.heap.size ≤ q → A q := fun q h => by rw [← hAe]; exact Or.inr h
  have hS : va_S A s.heap s.heap [] := va_S.rf
  have hl := lv_entry ([.ref h0, .long nm]) (n := 5) (Nat.le_of_ble_eq_true rfl)
  rw [lg_entry_eq]
  generalize (lg_sl ([.ref h0, .long nm]) ++ List.replicate (5 - (lg_sl ([.ref h0, .long nm])).length) Slot.unset).toArray = ls at hl ⊢
  have hl : lv_has ls 5 [(0, .ref h0), (1, .long nm)] := hl
  refine lv_aload_n hx hb dX3_add_0 rfl (lv_at hl 0 rfl) ?_
  refine va_get (D := (dC, dI)) (ci := 3) (v := .int z) (C := RX3) (T := TX3) (N := 4) hx hb hA zin_X3 hown hK hP 0 rfl rfl 3 (by decide) (hA _ wi_295) (fun _ h9 => h9) rfl dX3_add_1 ?_
  refine lv_bipush (v := 30) hx hb dX3_add_4 (by decide) ?_
  refine lv_icmp_lt (tgt := 12) hx hb dX3_add_6 (by decide) (fun c_1 => ?_) (fun c_1 => ?_)
  · have ic_1 : z.toInt < 30 := zi_lt c_1
    refine lv_aload_n hx hb dX3_add_12 rfl (lv_at hl 0 rfl) ?_
    refine va_get (D := (dC, dI)) (ci := 3) (v := .int z) (C := RX3) (T := TX3) (N := 4) hx hb hA zin_X3 hown hK hP 0 rfl rfl 3 (by decide) (hA _ wi_295) (fun _ h9 => h9) rfl dX3_add_13 ?_
    refine lv_istore_n (lv' := [(3, .int z), (0, .ref h0), (1, .long nm)]) hx hb dX3_add_16 rfl hl (by decide) rfl (fun ls hl => ?_)
    refine lv_aload_n hx hb dX3_add_17 rfl (lv_at hl 1 rfl) ?_
    refine lv_dup hx hb dX3_add_18 rfl ?_
    refine va_get (D := (dC, dI)) (ci := 3) (v := .int z) (C := RX3) (T := TX3) (N := 4) hx hb hA zin_X3 hown hK hP 0 rfl rfl 3 (by decide) (hA _ wi_295) (fun _ h9 => h9) rfl dX3_add_19 ?_
    refine lv_iconst (v := 1) hx hb dX3_add_22 (by decide) ?_
    refine lv_iadd hx hb dX3_add_23 ?_
    refine lv_topi (fun x_2 ex_2 => ?_)
    have ix_2 : x_2.toInt = z.toInt + 1 := by rw [ex_2]; exact zi_addc (by decide) (by omega) (by omega)
    refine va_put (D := (dC, dI)) (ci := 3) (v := .int x_2) (ty := .int) (C := RX3) (T := TX3) (N := 4) hx hb hA zin_X3 tyX3 tyX3_ok nmX3 hown hK hP hD hS 0 rfl rfl 3 (by decide) (hA _ wi_295) (fun _ h9 => h9) rfl (by decide +kernel) rfl rfl (Nat.le_of_ble_eq_true rfl) dX3_add_24 (fun H locs hP hD hS => ?_)
    have hP : va_P (dC, dI) vwCl [(h0, .inr (3, [.ref fw, .ref fe, .ref ff, .int x_2])), (fw, .inl (f1, 30, .inr (.inl gw))), (fe, .inl (f2, 30, .inl ge)), (ff, .inl (f3, 150, .inl gf))] H := hP
    have hD : va_D A [(h0, .inr (3, [.ref fw, .ref fe, .ref ff, .int x_2])), (fw, .inl (f1, 30, .inr (.inl gw))), (fe, .inl (f2, 30, .inl ge)), (ff, .inl (f3, 150, .inl gf))] := hD
    refine lv_aload_n hx hb dX3_add_27 rfl (lv_at hl 1 rfl) ?_
    refine va_get (D := (dC, dI)) (ci := 3) (v := .ref fw) (C := RX3) (T := TX3) (N := 4) hx hb hA zin_X3 hown hK hP 0 rfl rfl 0 (by decide) (hA _ wi_290) (fun _ h9 => h9) rfl dX3_add_28 ?_
    refine lv_iload_n hx hb dX3_add_31 rfl (lv_at hl 0 rfl) ?_
    refine lv_lload_n hx hb dX3_add_32 rfl (lv_at hl 2 rfl) ?_
    refine va_last hx hb hK hP hD hS 1 0 rfl rfl (vp_in_iff.mpr ⟨by omega, by omega⟩) dX3_add_33 (fun H locs hP hD hS => ?_)
    obtain ⟨f_3, ef_3⟩ : ∃ gz9 : Nat → Int64, gz9 = vp_updL gw (Int32.toNatClampNeg z) nm := ⟨_, rfl⟩
    rw [← ef_3] at hP hD
    have hP : va_P (dC, dI) vwCl [(h0, .inr (3, [.ref fw, .ref fe, .ref ff, .int x_2])), (fw, .inl (f1, 30, .inr (.inl f_3))), (fe, .inl (f2, 30, .inl ge)), (ff, .inl (f3, 150, .inl gf))] H := hP
    have hD : va_D A [(h0, .inr (3, [.ref fw, .ref fe, .ref ff, .int x_2])), (fw, .inl (f1, 30, .inr (.inl f_3))), (fe, .inl (f2, 30, .inl ge)), (ff, .inl (f3, 150, .inl gf))] := hD
    refine lv_aload_n hx hb dX3_add_34 rfl (lv_at hl 1 rfl) ?_
    refine va_get (D := (dC, dI)) (ci := 3) (v := .ref fe) (C := RX3) (T := TX3) (N := 4) hx hb hA zin_X3 hown hK hP 0 rfl rfl 1 (by decide) (hA _ wi_291) (fun _ h9 => h9) rfl dX3_add_35 ?_
    refine lv_iload_n hx hb dX3_add_38 rfl (lv_at hl 0 rfl) ?_
    refine lv_iconst (v := (-1)) hx hb dX3_add_39 (by decide) ?_
    refine va_iast hx hb hK hP hD hS 2 1 rfl rfl (vp_in_iff.mpr ⟨by omega, by omega⟩) dX3_add_40 (fun H locs hP hD hS => ?_)
    obtain ⟨f_4, ef_4⟩ : ∃ gz9 : Nat → Int32, gz9 = upd ge (Int32.toNatClampNeg z) (-1) := ⟨_, rfl⟩
    rw [← ef_4] at hP hD
    have hp_f_4 : zx 3000 f_4 := by rw [ef_4]; exact zx_upd hge (by have h9 : Int32.toInt (-1) = (-1) := (by decide); omega) (by have h9 : Int32.toInt (-1) = (-1) := (by decide); omega)
    have hP : va_P (dC, dI) vwCl [(h0, .inr (3, [.ref fw, .ref fe, .ref ff, .int x_2])), (fw, .inl (f1, 30, .inr (.inl f_3))), (fe, .inl (f2, 30, .inl f_4)), (ff, .inl (f3, 150, .inl gf))] H := hP
    have hD : va_D A [(h0, .inr (3, [.ref fw, .ref fe, .ref ff, .int x_2])), (fw, .inl (f1, 30, .inr (.inl f_3))), (fe, .inl (f2, 30, .inl f_4)), (ff, .inl (f3, 150, .inl gf))] := hD
    refine lv_iconst (v := 0) hx hb dX3_add_41 (by decide) ?_
    refine lv_istore (lv' := [(4, .int 0), (3, .int z), (0, .ref h0), (1, .long nm)]) hx hb dX3_add_42 hl (by decide) rfl (fun ls hl => ?_)
    have loop_44 : ∀ (n9 : Nat) (i : Int32) (gl : Nat → Int32) (H : Heap) (locs : List Loc) (ls : Array Slot), (5 - i.toInt + 1).toNat ≤ n9 → 0 ≤ i.toInt → i.toInt ≤ 5 → zfz gf gl (Int32.toNatClampNeg z) (Int32.toNatClampNeg i) → va_P (dC, dI) vwCl [(h0, .inr (3, [.ref fw, .ref fe, .ref ff, .int x_2])), (fw, .inl (f1, 30, .inr (.inl f_3))), (fe, .inl (f2, 30, .inl f_4)), (ff, .inl (f3, 150, .inl gl))] H → va_D A [(h0, .inr (3, [.ref fw, .ref fe, .ref ff, .int x_2])), (fw, .inl (f1, 30, .inr (.inl f_3))), (fe, .inl (f2, 30, .inl f_4)), (ff, .inl (f3, 150, .inl gl))] → va_S A s.heap H locs → lv_has ls 5 [(4, .int i), (3, .int z), (0, .ref h0), (1, .long nm)] → W p l e (headSpec (Cond.code yX3_add cX3_add 5 (some .int) :: zw) ({ frames := 8, cells := 0, slots := 0, locals := 200 })).room s m #[.ref h0, .long nm] below meth c H locs 0 0 (MQ below (va_Qi (fun (r : Int32) (u : Int32 × (Nat → Int64) × (Nat → Int32) × (Nat → Int32)) => match u with | (z2, gw2, ge2, gf2) => (r = z) ∧ (z2.toInt = z.toInt + 1) ∧ (zx 3000 ge2) ∧ (ge2 = upd ge (Int32.toNatClampNeg z) (-1)) ∧ (zfz gf gf2 (Int32.toNatClampNeg z) 5) ∧ (gw2 = vp_updL gw (Int32.toNatClampNeg z) nm)) (fun u => match u with | (z2, gw2, ge2, gf2) => zQ dC dI A [(f1, .long), (f2, .int), (f3, .int)] [(h0, .inr (3, [.ref fw, .ref fe, .ref ff, .int z2])), (fw, .inl (f1, 30, .inr (.inl gw2))), (fe, .inl (f2, 30, .inl ge2)), (ff, .inl (f3, 150, .inl gf2))]) A) #[.ref h0, .long nm] s 0 0 A) (F0 m 44 ls []) := by
      intro n9
      induction n9 with
      | zero => intro i gl H locs ls hm hi0 hi1 hzz; exfalso; omega
      | succ n9 ih =>
        intro i gl H locs ls hm hi0 hi1 hzz hP hD hS hl
        refine lv_iload hx hb dX3_add_44 (lv_at hl 0 rfl) ?_
        refine lv_iconst (v := 5) hx hb dX3_add_46 (by decide) ?_
        refine lv_icmp_ge (tgt := 68) hx hb dX3_add_47 (by decide) (fun c_5 => ?_) (fun c_5 => ?_)
        · have ic_5 : 5 ≤ i.toInt := zi_le c_5
          refine lv_iload_n hx hb dX3_add_68 rfl (lv_at hl 1 rfl) ?_
          have hP9 := hP.sub (ws' := [(h0, .inr (3, [.ref fw, .ref fe, .ref ff, .int x_2])), (fw, .inl (f1, 30, .inr (.inl f_3))), (fe, .inl (f2, 30, .inl f_4)), (ff, .inl (f3, 150, .inl gl))]) [0, 1, 2, 3] rfl
          have hD9 := hD.sub (ws' := [(h0, .inr (3, [.ref fw, .ref fe, .ref ff, .int x_2])), (fw, .inl (f1, 30, .inr (.inl f_3))), (fe, .inl (f2, 30, .inl f_4)), (ff, .inl (f3, 150, .inl gl))]) [0, 1, 2, 3] (by decide) rfl
          have hK9 := hK.sub (tys' := [(f1, .long), (f2, .int), (f3, .int)]) [0, 1, 2] rfl
          exact W.iret (v := z) hx hb hr (fun t ht hW => ⟨⟨z, (x_2, f_3, f_4, gl), rfl, ⟨rfl, by omega, hp_f_4, by rw [ef_4], (by have h5 : Int32.toNatClampNeg i = 5 := (by have := zn_nat (x := i) (by omega); omega); rw [← h5]; exact hzz), by rw [ef_3]⟩, by rw [ht]; exact hP9, va_K.moved hW.alike hK9, hD9⟩, hS.F ht⟩) hS.2.2 dX3_add_69
        · have ic_5 : i.toInt < 5 := zi_nle c_5
          refine lv_aload_n hx hb dX3_add_50 rfl (lv_at hl 2 rfl) ?_
          refine va_get (D := (dC, dI)) (ci := 3) (v := .ref ff) (C := RX3) (T := TX3) (N := 4) hx hb hA zin_X3 hown hK hP 0 rfl rfl 2 (by decide) (hA _ wi_294) (fun _ h9 => h9) rfl dX3_add_51 ?_
          refine lv_iload_n hx hb dX3_add_54 rfl (lv_at hl 1 rfl) ?_
          refine lv_iconst (v := 5) hx hb dX3_add_55 (by decide) ?_
          refine lv_imul hx hb dX3_add_56 ?_
          refine lv_topi (fun x_6 ex_6 => ?_)
          have ix_6 : x_6.toInt = z.toInt * 5 := by rw [ex_6]; exact zi_mulc (by decide) (by omega) (by omega)
          refine lv_iload hx hb dX3_add_57 (lv_at hl 0 rfl) ?_
          refine lv_iadd hx hb dX3_add_59 ?_
          refine lv_topi (fun x_7 ex_7 => ?_)
          have ix_7 : x_7.toInt = x_6.toInt + i.toInt := by rw [ex_7]; exact zi_addc rfl (by omega) (by omega)
          refine lv_iconst (v := 0) hx hb dX3_add_60 (by decide) ?_
          refine va_iast hx hb hK hP hD hS 3 2 rfl rfl (vp_in_iff.mpr ⟨by omega, by omega⟩) dX3_add_61 (fun H locs hP hD hS => ?_)
          obtain ⟨f_8, ef_8⟩ : ∃ gz9 : Nat → Int32, gz9 = upd gl (Int32.toNatClampNeg x_7) 0 := ⟨_, rfl⟩
          rw [← ef_8] at hP hD
          have hP : va_P (dC, dI) vwCl [(h0, .inr (3, [.ref fw, .ref fe, .ref ff, .int x_2])), (fw, .inl (f1, 30, .inr (.inl f_3))), (fe, .inl (f2, 30, .inl f_4)), (ff, .inl (f3, 150, .inl f_8))] H := hP
          have hD : va_D A [(h0, .inr (3, [.ref fw, .ref fe, .ref ff, .int x_2])), (fw, .inl (f1, 30, .inr (.inl f_3))), (fe, .inl (f2, 30, .inl f_4)), (ff, .inl (f3, 150, .inl f_8))] := hD
          obtain ⟨x_9, ex_9⟩ : ∃ y : Int32, y = i + Int32.ofInt 1 := ⟨_, rfl⟩
          refine lv_iinc (v := x_9) (lv' := [(4, .int x_9), (3, .int z), (0, .ref h0), (1, .long nm)]) hx hb dX3_add_62 hl (k := 0) rfl (by rw [ex_9]) (by decide) rfl (fun ls hl => ?_)
          have ix_9 : x_9.toInt = i.toInt + 1 := by rw [ex_9]; exact zi_addc (by decide) (by omega) (by omega)
          refine lv_goto (tgt := 44) hx hb dX3_add_65 (by decide) ?_
          have hzf_10 : zfz gf f_8 (Int32.toNatClampNeg z) (Int32.toNatClampNeg x_9) := zfz_st hzz ef_8 (zn_5 (i := z) (w := i) (by omega) (by omega) (by omega)) (by have := zn_nat (x := i) (by omega); have := zn_nat (x := x_9) (by omega); omega)
          exact ih x_9 f_8 _ _ _ (by omega) (by omega) (by omega) hzf_10 (hP.sub [0, 1, 2, 3] rfl) (hD.sub [0, 1, 2, 3] (by decide) rfl) hS (lv_sub hl [0, 1, 2, 3] rfl)
    have hzf_11 : zfz gf gf (Int32.toNatClampNeg z) (Int32.toNatClampNeg 0) := zfz_0 (by decide)
    exact loop_44 _ 0 gf _ _ _ (Nat.le_refl _) (by have h9_0 : Int32.toInt 0 = 0 := (by decide); omega) (by have h9_0 : Int32.toInt 0 = 0 := (by decide); omega) hzf_11 (hP.sub [0, 1, 2, 3] rfl) (hD.sub [0, 1, 2, 3] (by decide) rfl) hS (lv_sub hl [0, 1, 2, 3] rfl)
  · have ic_1 : 30 ≤ z.toInt := zi_nlt c_1
    exfalso
    omega

end
section
set_option maxHeartbeats 4000000 in
set_option maxRecDepth 100000 in
theorem c_X7_toldNames_x (l : Launch) (dC : Nat → ClassId) (dI : Nat → Nat → Nat) (aK aV : Nat → Nat) (h0 : Nat) (ptok : Nat) (pnee : Nat) (pnam : Nat) (pbui : Nat) (pdra : Nat) (ar : Int32) (fu : Int32) (fn : Int32) (fp : Int32) (ts : Nat) (tp : Nat) (tw : Nat) (t1 : ClassId) (t2 : ClassId) (t3 : ClassId) (z : Int32) (pa : Int32) (so : Int32) (pl : Int32) (wd : Int64) (gs : Nat → Int32) (gp : Nat → Int32) (gw : Nat → Int64) (gco : Nat) (gar : Nat) (gki : Nat) (gfu : Nat) (kw : Nat) (kf : Nat) (k1 : ClassId) (k2 : ClassId) (kz : Int32) (kgw : Nat → Int64) (kgf : Nat → Int32) (nk : ClassId) (gn : Nat → Int64) (fw : Nat) (fe : Nat) (ff : Nat) (f1 : ClassId) (f2 : ClassId) (f3 : ClassId) (fz : Int32) (fgw : Nat → Int64) (fge : Nat → Int32) (fgf : Nat → Int32) (sz : Nat) (hlt : l.stackTraces = false) (hz0 : 0 ≤ z.toInt) (hz1 : z.toInt ≤ 2000) (ha0 : 0 ≤ pa.toInt) (ha1 : pa.toInt ≤ z.toInt) (hgz : gs (Int32.toNatClampNeg z) = 256) (hpt : zpt gs gp z pa pl so) (hso : so.toInt = 256 ∨ pa.toInt < z.toInt) (hk0 : 0 ≤ kz.toInt) (hk1 : kz.toInt ≤ 20) (hkf : zx 4 kgf) (hn0 : 0 ≤ ar.toInt) (hn1 : ar.toInt ≤ 24) (hf0 : 0 ≤ fz.toInt) (hf1 : fz.toInt ≤ 30) (hfe : zx 3000 fge) (hfu0 : 0 ≤ fu.toInt) (hfu1 : fu.toInt < fz.toInt) (hnm0 : ar.toInt ≤ (fgf (5 * Int32.toNatClampNeg fu + 1)).toInt) (hnm1 : (fgf (5 * Int32.toNatClampNeg fu + 1)).toInt ≤ 24) (hto : (fgf (5 * Int32.toNatClampNeg fu)).toInt = 0) (har0 : ar.toInt = 0) (hwd : sp_wd gw pa wd) : vy_Met l yX7_toldNames (Cond.code yX7_toldNames cX7_toldNames 2 none :: zw) ({ frames := 20, cells := 1, slots := 6, locals := 800 }) (va_Pc [.ref h0] (zP dC dI aK aV sz [(t1, .int), (t2, .int), (t3, .long), (k1, .long), (k2, .int), (nk, .long), (f1, .long), (f2, .int), (f3, .int)] [(h0, .inr (7, [.ref ptok, .ref pnee, .ref pnam, .int ar, .ref pbui, .ref pdra, .int fu, .int fn, .int fp])), (ptok, .inr (10, [.ref ts, .ref tp, .ref tw, .int z, .int pa, .int so, .int pl, .long wd])), (ts, .inl (t1, 2001, .inl gs)), (tp, .inl (t2, 2001, .inl gp)), (tw, .inl (t3, 2001, .inr (.inl gw))), (pdra, .inr (9, [.ref gco, .ref gar, .ref gki, .ref gfu])), (gki, .inr (4, [.ref kw, .ref kf, .int kz])), (kw, .inl (k1, 20, .inr (.inl kgw))), (kf, .inl (k2, 20, .inl kgf)), (pnam, .inl (nk, 24, .inr (.inl gn))), (gfu, .inr (3, [.ref fw, .ref fe, .ref ff, .int fz])), (fw, .inl (f1, 30, .inr (.inl fgw))), (fe, .inl (f2, 30, .inl fge)), (ff, .inl (f3, 150, .inl fgf))])) (va_Qv (fun u : Int32 × Int32 × Int32 × Int64 × Int32 × (Nat → Int64) × (Nat → Int32) => match u with | (pa2, so2, pl2, wd2, ar2, gn2, fgf2) => (0 ≤ pa2.toInt) ∧ (pa2.toInt ≤ z.toInt) ∧ (0 ≤ ar2.toInt) ∧ (ar2.toInt ≤ 24) ∧ (so2.toInt = 256 ∨ pa2.toInt < z.toInt) ∧ (pa.toInt ≤ pa2.toInt) ∧ (ar.toInt ≤ ar2.toInt) ∧ (ar2.toInt ≤ 6) ∧ (ar2.toInt ≤ (fgf2 (5 * Int32.toNatClampNeg fu + 1)).toInt) ∧ ((fgf2 (5 * Int32.toNatClampNeg fu + 1)).toInt ≤ 24) ∧ ((fgf2 (5 * Int32.toNatClampNeg fu)).toInt = ar2.toInt) ∧ (zfo (Int32.toNatClampNeg fu) fgf fgf2) ∧ (cT fgf fgf2 (Int32.toNatClampNeg fu) (Int32.toInt ar2)) ∧ (zpt gs gp z pa2 pl2 so2) ∧ (pl.toInt ≤ pl2.toInt) ∧ (sp_wd gw pa2 wd2) ∧ (∃ M : List Int64, sp_nl gn2 ar2 M ∧ sp_tn gs gw 6 [] (Int32.toNatClampNeg pa) = some (M, Int32.toNatClampNeg pa2))) (fun u => match u with | (pa2, so2, pl2, wd2, ar2, gn2, fgf2) => zQ dC dI (va_A [(h0, .inr (7, [.ref ptok, .ref pnee, .ref pnam, .int ar, .ref pbui, .ref pdra, .int fu, .int fn, .int fp])), (ptok, .inr (10, [.ref ts, .ref tp, .ref tw, .int z, .int pa, .int so, .int pl, .long wd])), (ts, .inl (t1, 2001, .inl gs)), (tp, .inl (t2, 2001, .inl gp)), (tw, .inl (t3, 2001, .inr (.inl gw))), (pdra, .inr (9, [.ref gco, .ref gar, .ref gki, .ref gfu])), (gki, .inr (4, [.ref kw, .ref kf, .int kz])), (kw, .inl (k1, 20, .inr (.inl kgw))), (kf, .inl (k2, 20, .inl kgf)), (pnam, .inl (nk, 24, .inr (.inl gn))), (gfu, .inr (3, [.ref fw, .ref fe, .ref ff, .int fz])), (fw, .inl (f1, 30, .inr (.inl fgw))), (fe, .inl (f2, 30, .inl fge)), (ff, .inl (f3, 150, .inl fgf))] sz) [(t1, .int), (t2, .int), (t3, .long), (k1, .long), (k2, .int), (nk, .long), (f1, .long), (f2, .int), (f3, .int)] [(h0, .inr (7, [.ref ptok, .ref pnee, .ref pnam, .int ar2, .ref pbui, .ref pdra, .int fu, .int fn, .int fp])), (ptok, .inr (10, [.ref ts, .ref tp, .ref tw, .int z, .int pa2, .int so2, .int pl2, .long wd2])), (ts, .inl (t1, 2001, .inl gs)), (tp, .inl (t2, 2001, .inl gp)), (tw, .inl (t3, 2001, .inr (.inl gw))), (pdra, .inr (9, [.ref gco, .ref gar, .ref gki, .ref gfu])), (gki, .inr (4, [.ref kw, .ref kf, .int kz])), (kw, .inl (k1, 20, .inr (.inl kgw))), (kf, .inl (k2, 20, .inl kgf)), (pnam, .inl (nk, 24, .inr (.inl gn2))), (gfu, .inr (3, [.ref fw, .ref fe, .ref ff, .int fz])), (fw, .inl (f1, 30, .inr (.inl fgw))), (fe, .inl (f2, 30, .inl fge)), (ff, .inl (f3, 150, .inl fgf2))]) (va_A [(h0, .inr (7, [.ref ptok, .ref pnee, .ref pnam, .int ar, .ref pbui, .ref pdra, .int fu, .int fn, .int fp])), (ptok, .inr (10, [.ref ts, .ref tp, .ref tw, .int z, .int pa, .int so, .int pl, .long wd])), (ts, .inl (t1, 2001, .inl gs)), (tp, .inl (t2, 2001, .inl gp)), (tw, .inl (t3, 2001, .inr (.inl gw))), (pdra, .inr (9, [.ref gco, .ref gar, .ref gki, .ref gfu])), (gki, .inr (4, [.ref kw, .ref kf, .int kz])), (kw, .inl (k1, 20, .inr (.inl kgw))), (kf, .inl (k2, 20, .inl kgf)), (pnam, .inl (nk, 24, .inr (.inl gn))), (gfu, .inr (3, [.ref fw, .ref fe, .ref ff, .int fz])), (fw, .inl (f1, 30, .inr (.inl fgw))), (fe, .inl (f2, 30, .inl fge)), (ff, .inl (f3, 150, .inl fgf))] sz)) (vx_X (fun u : Int32 × Int32 × Int32 × Int64 × Int32 × (Nat → Int64) × (Nat → Int32) × Int32 × Int32 => match u with | (pa2, so2, pl2, wd2, ar2, gn2, fgf2, fn2, fp2) => (Int32.toInt fp2 = pf_tn gp gw 6 [] (Int32.toNatClampNeg pa)) ∧ (sp_tn gs gw 6 [] (Int32.toNatClampNeg pa) = none)) (fun E u t => E = "java/lang/IllegalStateException" ∧ (match u with | (pa2, so2, pl2, wd2, ar2, gn2, fgf2, fn2, fp2) => zQ dC dI (va_A [(h0, .inr (7, [.ref ptok, .ref pnee, .ref pnam, .int ar, .ref pbui, .ref pdra, .int fu, .int fn, .int fp])), (ptok, .inr (10, [.ref ts, .ref tp, .ref tw, .int z, .int pa, .int so, .int pl, .long wd])), (ts, .inl (t1, 2001, .inl gs)), (tp, .inl (t2, 2001, .inl gp)), (tw, .inl (t3, 2001, .inr (.inl gw))), (pdra, .inr (9, [.ref gco, .ref gar, .ref gki, .ref gfu])), (gki, .inr (4, [.ref kw, .ref kf, .int kz])), (kw, .inl (k1, 20, .inr (.inl kgw))), (kf, .inl (k2, 20, .inl kgf)), (pnam, .inl (nk, 24, .inr (.inl gn))), (gfu, .inr (3, [.ref fw, .ref fe, .ref ff, .int fz])), (fw, .inl (f1, 30, .inr (.inl fgw))), (fe, .inl (f2, 30, .inl fge)), (ff, .inl (f3, 150, .inl fgf))] sz) [(t1, .int), (t2, .int), (t3, .long), (k1, .long), (k2, .int), (nk, .long), (f1, .long), (f2, .int), (f3, .int)] [(h0, .inr (7, [.ref ptok, .ref pnee, .ref pnam, .int ar2, .ref pbui, .ref pdra, .int fu, .int fn2, .int fp2])), (ptok, .inr (10, [.ref ts, .ref tp, .ref tw, .int z, .int pa2, .int so2, .int pl2, .long wd2])), (ts, .inl (t1, 2001, .inl gs)), (tp, .inl (t2, 2001, .inl gp)), (tw, .inl (t3, 2001, .inr (.inl gw))), (pdra, .inr (9, [.ref gco, .ref gar, .ref gki, .ref gfu])), (gki, .inr (4, [.ref kw, .ref kf, .int kz])), (kw, .inl (k1, 20, .inr (.inl kgw))), (kf, .inl (k2, 20, .inl kgf)), (pnam, .inl (nk, 24, .inr (.inl gn2))), (gfu, .inr (3, [.ref fw, .ref fe, .ref ff, .int fz])), (fw, .inl (f1, 30, .inr (.inl fgw))), (fe, .inl (f2, 30, .inl fge)), (ff, .inl (f3, 150, .inl fgf2))] t)) (va_A [(h0, .inr (7, [.ref ptok, .ref pnee, .ref pnam, .int ar, .ref pbui, .ref pdra, .int fu, .int fn, .int fp])), (ptok, .inr (10, [.ref ts, .ref tp, .ref tw, .int z, .int pa, .int so, .int pl, .long wd])), (ts, .inl (t1, 2001, .inl gs)), (tp, .inl (t2, 2001, .inl gp)), (tw, .inl (t3, 2001, .inr (.inl gw))), (pdra, .inr (9, [.ref gco, .ref gar, .ref gki, .ref gfu])), (gki, .inr (4, [.ref kw, .ref kf, .int kz])), (kw, .inl (k1, 20, .inr (.inl kgw))), (kf, .inl (k2, 20, .inl kgf)), (pnam, .inl (nk, 24, .inr (.inl gn))), (gfu, .inr (3, [.ref fw, .ref fe, .ref ff, .int fz])), (fw, .inl (f1, 30, .inr (.inl fgw))), (fe, .inl (f2, 30, .inl fge)), (ff, .inl (f3, 150, .inl fgf))] sz)) 0 0 1 6 (va_A [(h0, .inr (7, [.ref ptok, .ref pnee, .ref pnam, .int ar, .ref pbui, .ref pdra, .int fu, .int fn, .int fp])), (ptok, .inr (10, [.ref ts, .ref tp, .ref tw, .int z, .int pa, .int so, .int pl, .long wd])), (ts, .inl (t1, 2001, .inl gs)), (tp, .inl (t2, 2001, .inl gp)), (tw, .inl (t3, 2001, .inr (.inl gw))), (pdra, .inr (9, [.ref gco, .ref gar, .ref gki, .ref gfu])), (gki, .inr (4, [.ref kw, .ref kf, .int kz])), (kw, .inl (k1, 20, .inr (.inl kgw))), (kf, .inl (k2, 20, .inl kgf)), (pnam, .inl (nk, 24, .inr (.inl gn))), (gfu, .inr (3, [.ref fw, .ref fe, .ref ff, .int fz])), (fw, .inl (f1, 30, .inr (.inl fgw))), (fe, .inl (f2, 30, .inl fge)), (ff, .inl (f3, 150, .inl fgf))] sz) := by
  refine vy_ofW (cc := cX7_toldNames) (maxL := 2) (ret := none) (by decide) rfl ?_
  intro p e s m args below meth c s₁ B hml hnh hv
  obtain ⟨rfl, hsz, hP, hK, hD0, hN, hT⟩ := hv
  have hx := B.exec
  have hb := B.bytes
  have hr := B.returns
  have hts := atoms_spec (ws := Cond.code yX7_toldNames cX7_toldNames 2 none :: zw) B.pre
  have hA : ∀ w ∈ zw, w.before _ s = true := fun w h => hts w (List.mem_cons_of_mem _ h)
  have hown : s.vm.findClass RX7 = some m.cls := findClass_of_methodNamed B.named
  have hlocks := B.notSynchronized
  subst hsz
  have hD := hD0.self (sz := s.heap.size)
  generalize hAe : va_A [(h0, .inr (7, [.ref ptok, .ref pnee, .ref pnam, .int ar, .ref pbui, .ref pdra, .int fu, .int fn, .int fp])), (ptok, .inr (10, [.ref ts, .ref tp, .ref tw, .int z, .int pa, .int so, .int pl, .long wd])), (ts, .inl (t1, 2001, .inl gs)), (tp, .inl (t2, 2001, .inl gp)), (tw, .inl (t3, 2001, .inr (.inl gw))), (pdra, .inr (9, [.ref gco, .ref gar, .ref gki, .ref gfu])), (gki, .inr (4, [.ref kw, .ref kf, .int kz])), (kw, .inl (k1, 20, .inr (.inl kgw))), (kf, .inl (k2, 20, .inl kgf)), (pnam, .inl (nk, 24, .inr (.inl gn))), (gfu, .inr (3, [.ref fw, .ref fe, .ref ff, .int fz])), (fw, .inl (f1, 30, .inr (.inl fgw))), (fe, .inl (f2, 30, .inl fge)), (ff, .inl (f3, 150, .inl fgf))] s.heap.size = A at hD hT ⊢
  have hAA : ∀ q : Nat, s.heap.size ≤ q → A q := fun q h => by rw [← hAe]; exact Or.inr h
  have hS : va_S A s.heap s.heap [] := va_S.rf
  have hl := lv_entry ([.ref h0]) (n := 2) (Nat.le_of_ble_eq_true rfl)
  rw [lg_entry_eq]
  generalize (lg_sl ([.ref h0]) ++ List.replicate (2 - (lg_sl ([.ref h0])).length) Slot.unset).toArray = ls at hl ⊢
  have hl : lv_has ls 2 [(0, .ref h0)] := hl
  have htpa : Int32.toInt (gs (Int32.toNatClampNeg pa)) = so.toInt := by rw [hpt.2.2]
  refine lv_iconst (v := 0) hx hb dX7_toldNames_0 (by decide) ?_
  refine lv_istore_n (lv' := [(1, .int 0), (0, .ref h0)]) hx hb dX7_toldNames_1 rfl hl (by decide) rfl (fun ls hl => ?_)
  have loop_2 : ∀ (n9 : Nat) (i : Int32) (la : Int32) (lp : Int32) (ls_ : Int32) (ll : Int32) (lw : Int64) (lg : Nat → Int64) (lf : Nat → Int32) (H : Heap) (locs : List Loc) (ls : Array Slot), (6 - i.toInt + 1).toNat ≤ n9 → 0 ≤ i.toInt → i.toInt ≤ 6 → la.toInt = i.toInt → (lf (5 * Int32.toNatClampNeg fu)).toInt = i.toInt → zfo (Int32.toNatClampNeg fu) fgf lf → cT fgf lf (Int32.toNatClampNeg fu) (Int32.toInt la) → ls_.toInt = 256 ∨ lp.toInt < z.toInt → pa.toInt ≤ lp.toInt → ar.toInt ≤ la.toInt → 0 ≤ la.toInt → la.toInt ≤ 24 → 0 ≤ lp.toInt → lp.toInt ≤ z.toInt → la.toInt ≤ (lf (5 * Int32.toNatClampNeg fu + 1)).toInt → (lf (5 * Int32.toNatClampNeg fu + 1)).toInt ≤ 24 → zpt gs gp z lp ll ls_ → pl.toInt ≤ ll.toInt → sp_wd gw lp lw → sp_tl gs gp gw lg la (sp_tn gs gw 6 [] (Int32.toNatClampNeg pa)) (pf_tn gp gw 6 [] (Int32.toNatClampNeg pa)) (Int32.toInt i) (Int32.toNatClampNeg lp) → va_P (dC, dI) vwCl [(h0, .inr (7, [.ref ptok, .ref pnee, .ref pnam, .int la, .ref pbui, .ref pdra, .int fu, .int fn, .int fp])), (ptok, .inr (10, [.ref ts, .ref tp, .ref tw, .int z, .int lp, .int ls_, .int ll, .long lw])), (ts, .inl (t1, 2001, .inl gs)), (tp, .inl (t2, 2001, .inl gp)), (tw, .inl (t3, 2001, .inr (.inl gw))), (pdra, .inr (9, [.ref gco, .ref gar, .ref gki, .ref gfu])), (gki, .inr (4, [.ref kw, .ref kf, .int kz])), (kw, .inl (k1, 20, .inr (.inl kgw))), (kf, .inl (k2, 20, .inl kgf)), (pnam, .inl (nk, 24, .inr (.inl lg))), (gfu, .inr (3, [.ref fw, .ref fe, .ref ff, .int fz])), (fw, .inl (f1, 30, .inr (.inl fgw))), (fe, .inl (f2, 30, .inl fge)), (ff, .inl (f3, 150, .inl lf))] H → va_D A [(h0, .inr (7, [.ref ptok, .ref pnee, .ref pnam, .int la, .ref pbui, .ref pdra, .int fu, .int fn, .int fp])), (ptok, .inr (10, [.ref ts, .ref tp, .ref tw, .int z, .int lp, .int ls_, .int ll, .long lw])), (ts, .inl (t1, 2001, .inl gs)), (tp, .inl (t2, 2001, .inl gp)), (tw, .inl (t3, 2001, .inr (.inl gw))), (pdra, .inr (9, [.ref gco, .ref gar, .ref gki, .ref gfu])), (gki, .inr (4, [.ref kw, .ref kf, .int kz])), (kw, .inl (k1, 20, .inr (.inl kgw))), (kf, .inl (k2, 20, .inl kgf)), (pnam, .inl (nk, 24, .inr (.inl lg))), (gfu, .inr (3, [.ref fw, .ref fe, .ref ff, .int fz])), (fw, .inl (f1, 30, .inr (.inl fgw))), (fe, .inl (f2, 30, .inl fge)), (ff, .inl (f3, 150, .inl lf))] → va_S A s.heap H locs → lv_has ls 2 [(1, .int i), (0, .ref h0)] → W p l e (headSpec (Cond.code yX7_toldNames cX7_toldNames 2 none :: zw) ({ frames := 20, cells := 1, slots := 6, locals := 800 })).room s m #[.ref h0] below meth c H locs 0 0 (vy_MQ below (va_Qv (fun u : Int32 × Int32 × Int32 × Int64 × Int32 × (Nat → Int64) × (Nat → Int32) => match u with | (pa2, so2, pl2, wd2, ar2, gn2, fgf2) => (0 ≤ pa2.toInt) ∧ (pa2.toInt ≤ z.toInt) ∧ (0 ≤ ar2.toInt) ∧ (ar2.toInt ≤ 24) ∧ (so2.toInt = 256 ∨ pa2.toInt < z.toInt) ∧ (pa.toInt ≤ pa2.toInt) ∧ (ar.toInt ≤ ar2.toInt) ∧ (ar2.toInt ≤ 6) ∧ (ar2.toInt ≤ (fgf2 (5 * Int32.toNatClampNeg fu + 1)).toInt) ∧ ((fgf2 (5 * Int32.toNatClampNeg fu + 1)).toInt ≤ 24) ∧ ((fgf2 (5 * Int32.toNatClampNeg fu)).toInt = ar2.toInt) ∧ (zfo (Int32.toNatClampNeg fu) fgf fgf2) ∧ (cT fgf fgf2 (Int32.toNatClampNeg fu) (Int32.toInt ar2)) ∧ (zpt gs gp z pa2 pl2 so2) ∧ (pl.toInt ≤ pl2.toInt) ∧ (sp_wd gw pa2 wd2) ∧ (∃ M : List Int64, sp_nl gn2 ar2 M ∧ sp_tn gs gw 6 [] (Int32.toNatClampNeg pa) = some (M, Int32.toNatClampNeg pa2))) (fun u => match u with | (pa2, so2, pl2, wd2, ar2, gn2, fgf2) => zQ dC dI A [(t1, .int), (t2, .int), (t3, .long), (k1, .long), (k2, .int), (nk, .long), (f1, .long), (f2, .int), (f3, .int)] [(h0, .inr (7, [.ref ptok, .ref pnee, .ref pnam, .int ar2, .ref pbui, .ref pdra, .int fu, .int fn, .int fp])), (ptok, .inr (10, [.ref ts, .ref tp, .ref tw, .int z, .int pa2, .int so2, .int pl2, .long wd2])), (ts, .inl (t1, 2001, .inl gs)), (tp, .inl (t2, 2001, .inl gp)), (tw, .inl (t3, 2001, .inr (.inl gw))), (pdra, .inr (9, [.ref gco, .ref gar, .ref gki, .ref gfu])), (gki, .inr (4, [.ref kw, .ref kf, .int kz])), (kw, .inl (k1, 20, .inr (.inl kgw))), (kf, .inl (k2, 20, .inl kgf)), (pnam, .inl (nk, 24, .inr (.inl gn2))), (gfu, .inr (3, [.ref fw, .ref fe, .ref ff, .int fz])), (fw, .inl (f1, 30, .inr (.inl fgw))), (fe, .inl (f2, 30, .inl fge)), (ff, .inl (f3, 150, .inl fgf2))]) A) (vx_X (fun u : Int32 × Int32 × Int32 × Int64 × Int32 × (Nat → Int64) × (Nat → Int32) × Int32 × Int32 => match u with | (pa2, so2, pl2, wd2, ar2, gn2, fgf2, fn2, fp2) => (Int32.toInt fp2 = pf_tn gp gw 6 [] (Int32.toNatClampNeg pa)) ∧ (sp_tn gs gw 6 [] (Int32.toNatClampNeg pa) = none)) (fun E u t => E = "java/lang/IllegalStateException" ∧ (match u with | (pa2, so2, pl2, wd2, ar2, gn2, fgf2, fn2, fp2) => zQ dC dI A [(t1, .int), (t2, .int), (t3, .long), (k1, .long), (k2, .int), (nk, .long), (f1, .long), (f2, .int), (f3, .int)] [(h0, .inr (7, [.ref ptok, .ref pnee, .ref pnam, .int ar2, .ref pbui, .ref pdra, .int fu, .int fn2, .int fp2])), (ptok, .inr (10, [.ref ts, .ref tp, .ref tw, .int z, .int pa2, .int so2, .int pl2, .long wd2])), (ts, .inl (t1, 2001, .inl gs)), (tp, .inl (t2, 2001, .inl gp)), (tw, .inl (t3, 2001, .inr (.inl gw))), (pdra, .inr (9, [.ref gco, .ref gar, .ref gki, .ref gfu])), (gki, .inr (4, [.ref kw, .ref kf, .int kz])), (kw, .inl (k1, 20, .inr (.inl kgw))), (kf, .inl (k2, 20, .inl kgf)), (pnam, .inl (nk, 24, .inr (.inl gn2))), (gfu, .inr (3, [.ref fw, .ref fe, .ref ff, .int fz])), (fw, .inl (f1, 30, .inr (.inl fgw))), (fe, .inl (f2, 30, .inl fge)), (ff, .inl (f3, 150, .inl fgf2))] t)) A) #[.ref h0] s 0 0 1 6 A) (F0 m 2 ls []) := by
    intro n9
    induction n9 with
    | zero => intro i la lp ls_ ll lw lg lf H locs ls hm hi0 hi1 hila hlto hlfo hlct hls hlpp hlaa hla0 hla1 hlp0 hlp1 hlnm hlnm1 hlpt hpll2 hlwd hlS; exfalso; omega
    | succ n9 ih =>
      intro i la lp ls_ ll lw lg lf H locs ls hm hi0 hi1 hila hlto hlfo hlct hls hlpp hlaa hla0 hla1 hlp0 hlp1 hlnm hlnm1 hlpt hpll2 hlwd hlS hP hD hS hl
      have htlp : Int32.toInt (gs (Int32.toNatClampNeg lp)) = ls_.toInt := by rw [hlpt.2.2]
      have hplp : Int32.toInt (gp (Int32.toNatClampNeg lp)) = ll.toInt := by rw [hlpt.2.1]
      obtain ⟨lM, ln, hM1, hM2, hMq, hMp⟩ := hlS
      refine lv_iload_n hx hb dX7_toldNames_2 rfl (lv_at hl 0 rfl) ?_
      refine lv_bipush (v := 6) hx hb dX7_toldNames_3 (by decide) ?_
      refine lv_icmp_gt (tgt := 75) hx hb dX7_toldNames_5 (by decide) (fun c_1 => ?_) (fun c_1 => ?_)
      · have ic_1 : 6 < i.toInt := zi_lt c_1
        have hP9 := hP.sub (ws' := [(h0, .inr (7, [.ref ptok, .ref pnee, .ref pnam, .int la, .ref pbui, .ref pdra, .int fu, .int fn, .int fp])), (ptok, .inr (10, [.ref ts, .ref tp, .ref tw, .int z, .int lp, .int ls_, .int ll, .long lw])), (ts, .inl (t1, 2001, .inl gs)), (tp, .inl (t2, 2001, .inl gp)), (tw, .inl (t3, 2001, .inr (.inl gw))), (pdra, .inr (9, [.ref gco, .ref gar, .ref gki, .ref gfu])), (gki, .inr (4, [.ref kw, .ref kf, .int kz])), (kw, .inl (k1, 20, .inr (.inl kgw))), (kf, .inl (k2, 20, .inl kgf)), (pnam, .inl (nk, 24, .inr (.inl lg))), (gfu, .inr (3, [.ref fw, .ref fe, .ref ff, .int fz])), (fw, .inl (f1, 30, .inr (.inl fgw))), (fe, .inl (f2, 30, .inl fge)), (ff, .inl (f3, 150, .inl lf))]) [0, 1, 2, 3, 4, 5, 6, 7, 8, 9, 10, 11, 12, 13] rfl
        have hD9 := hD.sub (ws' := [(h0, .inr (7, [.ref ptok, .ref pnee, .ref pnam, .int la, .ref pbui, .ref pdra, .int fu, .int fn, .int fp])), (ptok, .inr (10, [.ref ts, .ref tp, .ref tw, .int z, .int lp, .int ls_, .int ll, .long lw])), (ts, .inl (t1, 2001, .inl gs)), (tp, .inl (t2, 2001, .inl gp)), (tw, .inl (t3, 2001, .inr (.inl gw))), (pdra, .inr (9, [.ref gco, .ref gar, .ref gki, .ref gfu])), (gki, .inr (4, [.ref kw, .ref kf, .int kz])), (kw, .inl (k1, 20, .inr (.inl kgw))), (kf, .inl (k2, 20, .inl kgf)), (pnam, .inl (nk, 24, .inr (.inl lg))), (gfu, .inr (3, [.ref fw, .ref fe, .ref ff, .int fz])), (fw, .inl (f1, 30, .inr (.inl fgw))), (fe, .inl (f2, 30, .inl fge)), (ff, .inl (f3, 150, .inl lf))]) [0, 1, 2, 3, 4, 5, 6, 7, 8, 9, 10, 11, 12, 13] (by decide) rfl
        have hK9 := hK.sub (tys' := [(t1, .int), (t2, .int), (t3, .long), (k1, .long), (k2, .int), (nk, .long), (f1, .long), (f2, .int), (f3, .int)]) [0, 1, 2, 3, 4, 5, 6, 7, 8] rfl
        exact vy_mono vy_ret (vx_ret (W.vret hx hb hr (fun t ht hW => ⟨⟨(lp, ls_, ll, lw, la, lg, lf), rfl, ⟨by omega, by omega, by omega, by omega, by omega, by omega, by omega, by omega, by omega, by omega, by omega, hlfo, hlct, hlpt, by omega, hlwd, ⟨lM, hM1, hMq.trans (sp_tn_n (show (gs (Int32.toNatClampNeg lp)).toInt ≠ 258 by have h9 : Int32.toInt 258 = 258 := (by decide); omega))⟩⟩, by rw [ht]; exact hP9, va_K.moved hW.alike hK9, hD9⟩, hS.F ht⟩) hS.2.2 dX7_toldNames_75))
      · have ic_1 : i.toInt ≤ 6 := zi_nlt c_1
        refine lv_aload_n hx hb dX7_toldNames_8 rfl (lv_at hl 1 rfl) ?_
        refine va_get (D := (dC, dI)) (ci := 7) (v := .ref ptok) (C := RX7) (T := TX7) (N := 9) hx hb hA zin_X7 hown hK hP 0 rfl rfl 0 (by decide) (hA _ wi_387) (fun _ h9 => h9) rfl dX7_toldNames_9 ?_
        refine va_get (D := (dC, dI)) (ci := 10) (v := .int ls_) (C := RX10) (T := TX10) (N := 8) hx hb hA zin_X10 hown hK hP 1 rfl rfl 5 (by decide) (hA _ wi_353) (fun _ h9 => h9) rfl dX7_toldNames_12 ?_
        refine lv_sipush (v := 258) hx hb dX7_toldNames_15 (by decide) ?_
        refine lv_icmp_ne (tgt := 75) hx hb dX7_toldNames_18 (by decide) (fun c_2 => ?_) (fun c_2 => ?_)
        · have ic_2 : ls_.toInt ≠ 258 := zi_ne c_2
          have hP9 := hP.sub (ws' := [(h0, .inr (7, [.ref ptok, .ref pnee, .ref pnam, .int la, .ref pbui, .ref pdra, .int fu, .int fn, .int fp])), (ptok, .inr (10, [.ref ts, .ref tp, .ref tw, .int z, .int lp, .int ls_, .int ll, .long lw])), (ts, .inl (t1, 2001, .inl gs)), (tp, .inl (t2, 2001, .inl gp)), (tw, .inl (t3, 2001, .inr (.inl gw))), (pdra, .inr (9, [.ref gco, .ref gar, .ref gki, .ref gfu])), (gki, .inr (4, [.ref kw, .ref kf, .int kz])), (kw, .inl (k1, 20, .inr (.inl kgw))), (kf, .inl (k2, 20, .inl kgf)), (pnam, .inl (nk, 24, .inr (.inl lg))), (gfu, .inr (3, [.ref fw, .ref fe, .ref ff, .int fz])), (fw, .inl (f1, 30, .inr (.inl fgw))), (fe, .inl (f2, 30, .inl fge)), (ff, .inl (f3, 150, .inl lf))]) [0, 1, 2, 3, 4, 5, 6, 7, 8, 9, 10, 11, 12, 13] rfl
          have hD9 := hD.sub (ws' := [(h0, .inr (7, [.ref ptok, .ref pnee, .ref pnam, .int la, .ref pbui, .ref pdra, .int fu, .int fn, .int fp])), (ptok, .inr (10, [.ref ts, .ref tp, .ref tw, .int z, .int lp, .int ls_, .int ll, .long lw])), (ts, .inl (t1, 2001, .inl gs)), (tp, .inl (t2, 2001, .inl gp)), (tw, .inl (t3, 2001, .inr (.inl gw))), (pdra, .inr (9, [.ref gco, .ref gar, .ref gki, .ref gfu])), (gki, .inr (4, [.ref kw, .ref kf, .int kz])), (kw, .inl (k1, 20, .inr (.inl kgw))), (kf, .inl (k2, 20, .inl kgf)), (pnam, .inl (nk, 24, .inr (.inl lg))), (gfu, .inr (3, [.ref fw, .ref fe, .ref ff, .int fz])), (fw, .inl (f1, 30, .inr (.inl fgw))), (fe, .inl (f2, 30, .inl fge)), (ff, .inl (f3, 150, .inl lf))]) [0, 1, 2, 3, 4, 5, 6, 7, 8, 9, 10, 11, 12, 13] (by decide) rfl
          have hK9 := hK.sub (tys' := [(t1, .int), (t2, .int), (t3, .long), (k1, .long), (k2, .int), (nk, .long), (f1, .long), (f2, .int), (f3, .int)]) [0, 1, 2, 3, 4, 5, 6, 7, 8] rfl
          exact vy_mono vy_ret (vx_ret (W.vret hx hb hr (fun t ht hW => ⟨⟨(lp, ls_, ll, lw, la, lg, lf), rfl, ⟨by omega, by omega, by omega, by omega, by omega, by omega, by omega, by omega, by omega, by omega, by omega, hlfo, hlct, hlpt, by omega, hlwd, ⟨lM, hM1, hMq.trans (sp_tn_n (show (gs (Int32.toNatClampNeg lp)).toInt ≠ 258 by have h9 : Int32.toInt 258 = 258 := (by decide); omega))⟩⟩, by rw [ht]; exact hP9, va_K.moved hW.alike hK9, hD9⟩, hS.F ht⟩) hS.2.2 dX7_toldNames_75))
        · have ic_2 : ls_.toInt = 258 := zi_eq c_2
          refine lv_aload_n hx hb dX7_toldNames_21 rfl (lv_at hl 1 rfl) ?_
          have hPc := hP.sub (ws' := [(h0, .inr (7, [.ref ptok, .ref pnee, .ref pnam, .int la, .ref pbui, .ref pdra, .int fu, .int fn, .int fp])), (ptok, .inr (10, [.ref ts, .ref tp, .ref tw, .int z, .int lp, .int ls_, .int ll, .long lw])), (ts, .inl (t1, 2001, .inl gs)), (tp, .inl (t2, 2001, .inl gp)), (tw, .inl (t3, 2001, .inr (.inl gw))), (pdra, .inr (9, [.ref gco, .ref gar, .ref gki, .ref gfu])), (gki, .inr (4, [.ref kw, .ref kf, .int kz])), (kw, .inl (k1, 20, .inr (.inl kgw))), (kf, .inl (k2, 20, .inl kgf)), (pnam, .inl (nk, 24, .inr (.inl lg)))]) [0, 1, 2, 3, 4, 5, 6, 7, 8, 9] rfl
          have hDc := hD.sub (ws' := [(h0, .inr (7, [.ref ptok, .ref pnee, .ref pnam, .int la, .ref pbui, .ref pdra, .int fu, .int fn, .int fp])), (ptok, .inr (10, [.ref ts, .ref tp, .ref tw, .int z, .int lp, .int ls_, .int ll, .long lw])), (ts, .inl (t1, 2001, .inl gs)), (tp, .inl (t2, 2001, .inl gp)), (tw, .inl (t3, 2001, .inr (.inl gw))), (pdra, .inr (9, [.ref gco, .ref gar, .ref gki, .ref gfu])), (gki, .inr (4, [.ref kw, .ref kf, .int kz])), (kw, .inl (k1, 20, .inr (.inl kgw))), (kf, .inl (k2, 20, .inl kgf)), (pnam, .inl (nk, 24, .inr (.inl lg)))]) [0, 1, 2, 3, 4, 5, 6, 7, 8, 9] (by decide) rfl
          have hKc := hK.sub (tys' := [(t1, .int), (t2, .int), (t3, .long), (k1, .long), (k2, .int), (nk, .long)]) [0, 1, 2, 3, 4, 5] rfl
          have hFc := va_free (wc := [(h0, .inr (7, [.ref ptok, .ref pnee, .ref pnam, .int la, .ref pbui, .ref pdra, .int fu, .int fn, .int fp])), (ptok, .inr (10, [.ref ts, .ref tp, .ref tw, .int z, .int lp, .int ls_, .int ll, .long lw])), (ts, .inl (t1, 2001, .inl gs)), (tp, .inl (t2, 2001, .inl gp)), (tw, .inl (t3, 2001, .inr (.inl gw))), (pdra, .inr (9, [.ref gco, .ref gar, .ref gki, .ref gfu])), (gki, .inr (4, [.ref kw, .ref kf, .int kz])), (kw, .inl (k1, 20, .inr (.inl kgw))), (kf, .inl (k2, 20, .inl kgf)), (pnam, .inl (nk, 24, .inr (.inl lg)))]) hD hS hAA [0, 1, 2, 3, 4, 5, 6, 7, 8, 9] rfl
          refine vy_callv (vy_runV (As := []) (rest := []) ⟨hx, hb, hml, hown, hA⟩ (c_X7_newName_s l dC dI aK aV h0 ptok pnee pnam pbui pdra la fu fn fp ts tp tw t1 t2 t3 z lp ls_ ll lw gs gp gw gco gar gki gfu kw kf k1 k2 kz kgw kgf nk lg lM H.size hlt (by omega) (by omega) (by omega) (by omega) hgz (by omega) (by omega) hkf (by omega) (by omega) hM1) (cwV 0 hA (zw_V wi_894 wi_896 wi_10 wi_136 (zw_good wi_897)) rfl rfl rfl (by decide +kernel) ⟨(Nat.le_of_ble_eq_true rfl), (Nat.le_of_ble_eq_true rfl)⟩) ⟨zP_blind, va_recv hKc hPc (ci := 7) (q0 := 0) rfl rfl, zz_pre hKc hPc hDc hN hT hS hFc⟩ rfl rfl hl.1 rfl (lv_room (Nat.le_of_ble_eq_true rfl)) dX7_toldNames_22 ⟨(Nat.le_of_ble_eq_true rfl), (Nat.le_of_ble_eq_true rfl)⟩) hS (fun q _ h => hFc q h) hFc (fun q _ h => hFc q h) (fun E9 ce9 q9 u t H1 locs ht hvm hw hB hz1 hk1 hS hcell hcv hcl => ?_) (fun u t H1 locs ht hvm hw hB hz1 hk1 hS => ?_)
          · obtain ⟨x_fn2_4, x_fp2_5⟩ := u
            obtain ⟨rfl, hP1, hK1, hD1⟩ := hB
            rw [ht] at hP1
            have hK1 := va_K.moved hvm.symm hK1
            obtain ⟨hP, hD⟩ := va_join (wr := [(gfu, .inr (3, [.ref fw, .ref fe, .ref ff, .int fz])), (fw, .inl (f1, 30, .inr (.inl fgw))), (fe, .inl (f2, 30, .inl fge)), (ff, .inl (f3, 150, .inl lf))]) (w1 := [(h0, .inr (7, [.ref ptok, .ref pnee, .ref pnam, .int la, .ref pbui, .ref pdra, .int fu, .int x_fn2_4, .int x_fp2_5])), (ptok, .inr (10, [.ref ts, .ref tp, .ref tw, .int z, .int lp, .int ls_, .int ll, .long lw])), (ts, .inl (t1, 2001, .inl gs)), (tp, .inl (t2, 2001, .inl gp)), (tw, .inl (t3, 2001, .inr (.inl gw))), (pdra, .inr (9, [.ref gco, .ref gar, .ref gki, .ref gfu])), (gki, .inr (4, [.ref kw, .ref kf, .int kz])), (kw, .inl (k1, 20, .inr (.inl kgw))), (kf, .inl (k2, 20, .inl kgf)), (pnam, .inl (nk, 24, .inr (.inl lg)))]) hP hD [0, 1, 2, 3, 4, 5, 6, 7, 8, 9] [10, 11, 12, 13] rfl rfl (by decide) (by decide) hk1 hFc hP1 hD1
            have hK := (hK.sub (tys' := [(f1, .long), (f2, .int), (f3, .int)]) [6, 7, 8] rfl).app hK1
            clear hPc hDc hFc hP1 hD1 hk1 hz1 ht hvm
            generalize H1 = H at hP hS hcell ⊢
            have hP : va_P (dC, dI) vwCl [(gfu, .inr (3, [.ref fw, .ref fe, .ref ff, .int fz])), (fw, .inl (f1, 30, .inr (.inl fgw))), (fe, .inl (f2, 30, .inl fge)), (ff, .inl (f3, 150, .inl lf)), (h0, .inr (7, [.ref ptok, .ref pnee, .ref pnam, .int la, .ref pbui, .ref pdra, .int fu, .int x_fn2_4, .int x_fp2_5])), (ptok, .inr (10, [.ref ts, .ref tp, .ref tw, .int z, .int lp, .int ls_, .int ll, .long lw])), (ts, .inl (t1, 2001, .inl gs)), (tp, .inl (t2, 2001, .inl gp)), (tw, .inl (t3, 2001, .inr (.inl gw))), (pdra, .inr (9, [.ref gco, .ref gar, .ref gki, .ref gfu])), (gki, .inr (4, [.ref kw, .ref kf, .int kz])), (kw, .inl (k1, 20, .inr (.inl kgw))), (kf, .inl (k2, 20, .inl kgf)), (pnam, .inl (nk, 24, .inr (.inl lg)))] H := hP
            have hD : va_D A [(gfu, .inr (3, [.ref fw, .ref fe, .ref ff, .int fz])), (fw, .inl (f1, 30, .inr (.inl fgw))), (fe, .inl (f2, 30, .inl fge)), (ff, .inl (f3, 150, .inl lf)), (h0, .inr (7, [.ref ptok, .ref pnee, .ref pnam, .int la, .ref pbui, .ref pdra, .int fu, .int x_fn2_4, .int x_fp2_5])), (ptok, .inr (10, [.ref ts, .ref tp, .ref tw, .int z, .int lp, .int ls_, .int ll, .long lw])), (ts, .inl (t1, 2001, .inl gs)), (tp, .inl (t2, 2001, .inl gp)), (tw, .inl (t3, 2001, .inr (.inl gw))), (pdra, .inr (9, [.ref gco, .ref gar, .ref gki, .ref gfu])), (gki, .inr (4, [.ref kw, .ref kf, .int kz])), (kw, .inl (k1, 20, .inr (.inl kgw))), (kf, .inl (k2, 20, .inl kgf)), (pnam, .inl (nk, 24, .inr (.inl lg)))] := hD
            have hK : va_K (dC, dI) vwCl [(f1, .long), (f2, .int), (f3, .int), (t1, .int), (t2, .int), (t3, .long), (k1, .long), (k2, .int), (nk, .long)] s := hK
            obtain ⟨hq_6, hq_7⟩ := hw
            try dsimp only at hq_6 hq_7
            refine vx_widen (k := 1) (n := 6) (Nat.le_of_ble_eq_true rfl) (Nat.le_of_ble_eq_true rfl) ?_
            have hP9 := hP.sub (ws' := [(h0, .inr (7, [.ref ptok, .ref pnee, .ref pnam, .int la, .ref pbui, .ref pdra, .int fu, .int x_fn2_4, .int x_fp2_5])), (ptok, .inr (10, [.ref ts, .ref tp, .ref tw, .int z, .int lp, .int ls_, .int ll, .long lw])), (ts, .inl (t1, 2001, .inl gs)), (tp, .inl (t2, 2001, .inl gp)), (tw, .inl (t3, 2001, .inr (.inl gw))), (pdra, .inr (9, [.ref gco, .ref gar, .ref gki, .ref gfu])), (gki, .inr (4, [.ref kw, .ref kf, .int kz])), (kw, .inl (k1, 20, .inr (.inl kgw))), (kf, .inl (k2, 20, .inl kgf)), (pnam, .inl (nk, 24, .inr (.inl lg))), (gfu, .inr (3, [.ref fw, .ref fe, .ref ff, .int fz])), (fw, .inl (f1, 30, .inr (.inl fgw))), (fe, .inl (f2, 30, .inl fge)), (ff, .inl (f3, 150, .inl lf))]) [4, 5, 6, 7, 8, 9, 10, 11, 12, 13, 0, 1, 2, 3] rfl
            have hD9 := hD.sub (ws' := [(h0, .inr (7, [.ref ptok, .ref pnee, .ref pnam, .int la, .ref pbui, .ref pdra, .int fu, .int x_fn2_4, .int x_fp2_5])), (ptok, .inr (10, [.ref ts, .ref tp, .ref tw, .int z, .int lp, .int ls_, .int ll, .long lw])), (ts, .inl (t1, 2001, .inl gs)), (tp, .inl (t2, 2001, .inl gp)), (tw, .inl (t3, 2001, .inr (.inl gw))), (pdra, .inr (9, [.ref gco, .ref gar, .ref gki, .ref gfu])), (gki, .inr (4, [.ref kw, .ref kf, .int kz])), (kw, .inl (k1, 20, .inr (.inl kgw))), (kf, .inl (k2, 20, .inl kgf)), (pnam, .inl (nk, 24, .inr (.inl lg))), (gfu, .inr (3, [.ref fw, .ref fe, .ref ff, .int fz])), (fw, .inl (f1, 30, .inr (.inl fgw))), (fe, .inl (f2, 30, .inl fge)), (ff, .inl (f3, 150, .inl lf))]) [4, 5, 6, 7, 8, 9, 10, 11, 12, 13, 0, 1, 2, 3] (by decide) rfl
            have hK9 := hK.sub (tys' := [(t1, .int), (t2, .int), (t3, .long), (k1, .long), (k2, .int), (nk, .long), (f1, .long), (f2, .int), (f3, .int)]) [3, 4, 5, 6, 7, 8, 0, 1, 2] rfl
            exact vy_monoX vy_thr (vx_out (fun x hx => (hnh x hx).elim) hlocks hcell hcv hcl (fun t ht hvm => ⟨(lp, ls_, ll, lw, la, lg, lf, x_fn2_4, x_fp2_5), ⟨(show Int32.toInt x_fp2_5 = Int32.toInt (gp (Int32.toNatClampNeg lp)) by omega).trans (hMp.trans (pf_tn_x (by rw [← (show lw = gw (Int32.toNatClampNeg lp) from hlwd)]; exact sp_nn_x hq_7 (by omega) (by omega)) _)).symm, hMq.trans (sp_tn_x (show (gs (Int32.toNatClampNeg lp)).toInt = 258 by have h9 : Int32.toInt 258 = 258 := (by decide); omega) (by rw [← (show lw = gw (Int32.toNatClampNeg lp) from hlwd)]; exact sp_nn_x hq_7 (by omega) (by omega)))⟩, ⟨rfl, by rw [ht]; exact hP9, va_K.moved hvm hK9, hD9⟩, hS.F ht⟩) hS.2.2 (Nat.le_of_ble_eq_true rfl) (Nat.le_of_ble_eq_true rfl))
          · obtain ⟨hP1, hK1, hD1⟩ := hB
            rw [ht] at hP1
            have hK1 := va_K.moved hvm.symm hK1
            obtain ⟨hP, hD⟩ := va_join (wr := [(gfu, .inr (3, [.ref fw, .ref fe, .ref ff, .int fz])), (fw, .inl (f1, 30, .inr (.inl fgw))), (fe, .inl (f2, 30, .inl fge)), (ff, .inl (f3, 150, .inl lf))]) (w1 := [(h0, .inr (7, [.ref ptok, .ref pnee, .ref pnam, .int la, .ref pbui, .ref pdra, .int fu, .int fn, .int fp])), (ptok, .inr (10, [.ref ts, .ref tp, .ref tw, .int z, .int lp, .int ls_, .int ll, .long lw])), (ts, .inl (t1, 2001, .inl gs)), (tp, .inl (t2, 2001, .inl gp)), (tw, .inl (t3, 2001, .inr (.inl gw))), (pdra, .inr (9, [.ref gco, .ref gar, .ref gki, .ref gfu])), (gki, .inr (4, [.ref kw, .ref kf, .int kz])), (kw, .inl (k1, 20, .inr (.inl kgw))), (kf, .inl (k2, 20, .inl kgf)), (pnam, .inl (nk, 24, .inr (.inl lg)))]) hP hD [0, 1, 2, 3, 4, 5, 6, 7, 8, 9] [10, 11, 12, 13] rfl rfl (by decide) (by decide) hk1 hFc hP1 hD1
            have hK := (hK.sub (tys' := [(f1, .long), (f2, .int), (f3, .int)]) [6, 7, 8] rfl).app hK1
            clear hPc hDc hFc hP1 hD1 hk1 hz1 ht hvm
            generalize H1 = H at hP hS ⊢
            have hP : va_P (dC, dI) vwCl [(gfu, .inr (3, [.ref fw, .ref fe, .ref ff, .int fz])), (fw, .inl (f1, 30, .inr (.inl fgw))), (fe, .inl (f2, 30, .inl fge)), (ff, .inl (f3, 150, .inl lf)), (h0, .inr (7, [.ref ptok, .ref pnee, .ref pnam, .int la, .ref pbui, .ref pdra, .int fu, .int fn, .int fp])), (ptok, .inr (10, [.ref ts, .ref tp, .ref tw, .int z, .int lp, .int ls_, .int ll, .long lw])), (ts, .inl (t1, 2001, .inl gs)), (tp, .inl (t2, 2001, .inl gp)), (tw, .inl (t3, 2001, .inr (.inl gw))), (pdra, .inr (9, [.ref gco, .ref gar, .ref gki, .ref gfu])), (gki, .inr (4, [.ref kw, .ref kf, .int kz])), (kw, .inl (k1, 20, .inr (.inl kgw))), (kf, .inl (k2, 20, .inl kgf)), (pnam, .inl (nk, 24, .inr (.inl lg)))] H := hP
            have hD : va_D A [(gfu, .inr (3, [.ref fw, .ref fe, .ref ff, .int fz])), (fw, .inl (f1, 30, .inr (.inl fgw))), (fe, .inl (f2, 30, .inl fge)), (ff, .inl (f3, 150, .inl lf)), (h0, .inr (7, [.ref ptok, .ref pnee, .ref pnam, .int la, .ref pbui, .ref pdra, .int fu, .int fn, .int fp])), (ptok, .inr (10, [.ref ts, .ref tp, .ref tw, .int z, .int lp, .int ls_, .int ll, .long lw])), (ts, .inl (t1, 2001, .inl gs)), (tp, .inl (t2, 2001, .inl gp)), (tw, .inl (t3, 2001, .inr (.inl gw))), (pdra, .inr (9, [.ref gco, .ref gar, .ref gki, .ref gfu])), (gki, .inr (4, [.ref kw, .ref kf, .int kz])), (kw, .inl (k1, 20, .inr (.inl kgw))), (kf, .inl (k2, 20, .inl kgf)), (pnam, .inl (nk, 24, .inr (.inl lg)))] := hD
            have hK : va_K (dC, dI) vwCl [(f1, .long), (f2, .int), (f3, .int), (t1, .int), (t2, .int), (t3, .long), (k1, .long), (k2, .int), (nk, .long)] s := hK
            refine W.widen (k := 0) (n := 0) (Nat.le_of_ble_eq_true rfl) (Nat.le_of_ble_eq_true rfl) ?_
            obtain ⟨hq_8, hq_9, hq_10⟩ := hw
            refine lv_iload_n hx hb dX7_toldNames_25 rfl (lv_at hl 0 rfl) ?_
            refine lv_bipush (v := 6) hx hb dX7_toldNames_26 (by decide) ?_
            refine lv_icmp_lt (tgt := 35) hx hb dX7_toldNames_28 (by decide) (fun c_11 => ?_) (fun c_11 => ?_)
            · have ic_11 : i.toInt < 6 := zi_lt c_11
              refine lv_aload_n hx hb dX7_toldNames_35 rfl (lv_at hl 1 rfl) ?_
              refine lv_aload_n hx hb dX7_toldNames_36 rfl (lv_at hl 1 rfl) ?_
              refine va_get (D := (dC, dI)) (ci := 7) (v := .ref ptok) (C := RX7) (T := TX7) (N := 9) hx hb hA zin_X7 hown hK hP 4 rfl rfl 0 (by decide) (hA _ wi_387) (fun _ h9 => h9) rfl dX7_toldNames_37 ?_
              refine va_get (D := (dC, dI)) (ci := 10) (v := .long lw) (C := RX10) (T := TX10) (N := 8) hx hb hA zin_X10 hown hK hP 5 rfl rfl 7 (by decide) (hA _ wi_357) (fun _ h9 => h9) rfl dX7_toldNames_40 ?_
              have hPc := hP.sub (ws' := [(h0, .inr (7, [.ref ptok, .ref pnee, .ref pnam, .int la, .ref pbui, .ref pdra, .int fu, .int fn, .int fp])), (pnam, .inl (nk, 24, .inr (.inl lg))), (pdra, .inr (9, [.ref gco, .ref gar, .ref gki, .ref gfu])), (gfu, .inr (3, [.ref fw, .ref fe, .ref ff, .int fz])), (fw, .inl (f1, 30, .inr (.inl fgw))), (fe, .inl (f2, 30, .inl fge)), (ff, .inl (f3, 150, .inl lf))]) [4, 13, 9, 0, 1, 2, 3] rfl
              have hDc := hD.sub (ws' := [(h0, .inr (7, [.ref ptok, .ref pnee, .ref pnam, .int la, .ref pbui, .ref pdra, .int fu, .int fn, .int fp])), (pnam, .inl (nk, 24, .inr (.inl lg))), (pdra, .inr (9, [.ref gco, .ref gar, .ref gki, .ref gfu])), (gfu, .inr (3, [.ref fw, .ref fe, .ref ff, .int fz])), (fw, .inl (f1, 30, .inr (.inl fgw))), (fe, .inl (f2, 30, .inl fge)), (ff, .inl (f3, 150, .inl lf))]) [4, 13, 9, 0, 1, 2, 3] (by decide) rfl
              have hKc := hK.sub (tys' := [(nk, .long), (f1, .long), (f2, .int), (f3, .int)]) [8, 0, 1, 2] rfl
              have hFc := va_free (wc := [(h0, .inr (7, [.ref ptok, .ref pnee, .ref pnam, .int la, .ref pbui, .ref pdra, .int fu, .int fn, .int fp])), (pnam, .inl (nk, 24, .inr (.inl lg))), (pdra, .inr (9, [.ref gco, .ref gar, .ref gki, .ref gfu])), (gfu, .inr (3, [.ref fw, .ref fe, .ref ff, .int fz])), (fw, .inl (f1, 30, .inr (.inl fgw))), (fe, .inl (f2, 30, .inl fge)), (ff, .inl (f3, 150, .inl lf))]) hD hS hAA [4, 13, 9, 0, 1, 2, 3] rfl
              refine va_calli (va_runV (As := [.long lw]) (rest := []) ⟨hx, hb, hml, hown, hA⟩ (c_X7_tell_s l dC dI aK aV h0 ptok pnee pnam pbui pdra la fu fn fp nk lg gco gar gki gfu fw fe ff f1 f2 f3 fz fgw fge lf lw lM H.size (by omega) (by omega) (by omega) (by omega) hfe (by omega) (by omega) (by omega) (by omega) (by omega) hM1) (cwV 1 hA (zw_V wi_902 wi_904 wi_12 wi_136 (zw_good wi_905)) rfl rfl rfl (by decide +kernel) ⟨(Nat.le_of_ble_eq_true rfl), (Nat.le_of_ble_eq_true rfl)⟩) ⟨zP_blind, va_recv hKc hPc (ci := 7) (q0 := 0) rfl rfl, zz_pre hKc hPc hDc hN hT hS hFc⟩ rfl rfl hl.1 rfl (lv_room (Nat.le_of_ble_eq_true rfl)) dX7_toldNames_43 ⟨(Nat.le_of_ble_eq_true rfl), (Nat.le_of_ble_eq_true rfl)⟩) hS (fun q _ h => hFc q h) hFc (fun r_12 u t H1 locs ht hvm hw hB hz1 hk1 hS => ?_)
              obtain ⟨ar_13, gn_14, fgf_15⟩ := u
              obtain ⟨hP1, hK1, hD1⟩ := hB
              rw [ht] at hP1
              have hK1 := va_K.moved hvm.symm hK1
              obtain ⟨hP, hD⟩ := va_join (wr := [(ptok, .inr (10, [.ref ts, .ref tp, .ref tw, .int z, .int lp, .int ls_, .int ll, .long lw])), (ts, .inl (t1, 2001, .inl gs)), (tp, .inl (t2, 2001, .inl gp)), (tw, .inl (t3, 2001, .inr (.inl gw))), (gki, .inr (4, [.ref kw, .ref kf, .int kz])), (kw, .inl (k1, 20, .inr (.inl kgw))), (kf, .inl (k2, 20, .inl kgf))]) (w1 := [(h0, .inr (7, [.ref ptok, .ref pnee, .ref pnam, .int ar_13, .ref pbui, .ref pdra, .int fu, .int fn, .int fp])), (pnam, .inl (nk, 24, .inr (.inl gn_14))), (pdra, .inr (9, [.ref gco, .ref gar, .ref gki, .ref gfu])), (gfu, .inr (3, [.ref fw, .ref fe, .ref ff, .int fz])), (fw, .inl (f1, 30, .inr (.inl fgw))), (fe, .inl (f2, 30, .inl fge)), (ff, .inl (f3, 150, .inl fgf_15))]) hP hD [4, 13, 9, 0, 1, 2, 3] [5, 6, 7, 8, 10, 11, 12] rfl rfl (by decide) (by decide) hk1 hFc hP1 hD1
              have hK := (hK.sub (tys' := [(t1, .int), (t2, .int), (t3, .long), (k1, .long), (k2, .int)]) [3, 4, 5, 6, 7] rfl).app hK1
              generalize H1 = H at hP hS ⊢
              have hP : va_P (dC, dI) vwCl [(ptok, .inr (10, [.ref ts, .ref tp, .ref tw, .int z, .int lp, .int ls_, .int ll, .long lw])), (ts, .inl (t1, 2001, .inl gs)), (tp, .inl (t2, 2001, .inl gp)), (tw, .inl (t3, 2001, .inr (.inl gw))), (gki, .inr (4, [.ref kw, .ref kf, .int kz])), (kw, .inl (k1, 20, .inr (.inl kgw))), (kf, .inl (k2, 20, .inl kgf)), (h0, .inr (7, [.ref ptok, .ref pnee, .ref pnam, .int ar_13, .ref pbui, .ref pdra, .int fu, .int fn, .int fp])), (pnam, .inl (nk, 24, .inr (.inl gn_14))), (pdra, .inr (9, [.ref gco, .ref gar, .ref gki, .ref gfu])), (gfu, .inr (3, [.ref fw, .ref fe, .ref ff, .int fz])), (fw, .inl (f1, 30, .inr (.inl fgw))), (fe, .inl (f2, 30, .inl fge)), (ff, .inl (f3, 150, .inl fgf_15))] H := hP
              have hD : va_D A [(ptok, .inr (10, [.ref ts, .ref tp, .ref tw, .int z, .int lp, .int ls_, .int ll, .long lw])), (ts, .inl (t1, 2001, .inl gs)), (tp, .inl (t2, 2001, .inl gp)), (tw, .inl (t3, 2001, .inr (.inl gw))), (gki, .inr (4, [.ref kw, .ref kf, .int kz])), (kw, .inl (k1, 20, .inr (.inl kgw))), (kf, .inl (k2, 20, .inl kgf)), (h0, .inr (7, [.ref ptok, .ref pnee, .ref pnam, .int ar_13, .ref pbui, .ref pdra, .int fu, .int fn, .int fp])), (pnam, .inl (nk, 24, .inr (.inl gn_14))), (pdra, .inr (9, [.ref gco, .ref gar, .ref gki, .ref gfu])), (gfu, .inr (3, [.ref fw, .ref fe, .ref ff, .int fz])), (fw, .inl (f1, 30, .inr (.inl fgw))), (fe, .inl (f2, 30, .inl fge)), (ff, .inl (f3, 150, .inl fgf_15))] := hD
              have hK : va_K (dC, dI) vwCl [(t1, .int), (t2, .int), (t3, .long), (k1, .long), (k2, .int), (nk, .long), (f1, .long), (f2, .int), (f3, .int)] s := hK
              have hw_r_12 := hw
              try dsimp only at hw_r_12
              obtain ⟨hq_16, hq_17, hq_18, hq_19, hq_20, hq_21, hq_22⟩ := hw
              refine lv_pop hx hb dX7_toldNames_46 rfl ?_
              refine lv_aload_n hx hb dX7_toldNames_47 rfl (lv_at hl 1 rfl) ?_
              refine va_get (D := (dC, dI)) (ci := 7) (v := .ref pdra) (C := RX7) (T := TX7) (N := 9) hx hb hA zin_X7 hown hK hP 7 rfl rfl 5 (by decide) (hA _ wi_392) (fun _ h9 => h9) rfl dX7_toldNames_48 ?_
              refine va_get (D := (dC, dI)) (ci := 9) (v := .ref gfu) (C := RX9) (T := TX9) (N := 4) hx hb hA zin_X9 hown hK hP 9 rfl rfl 3 (by decide) (hA _ wi_323) (fun _ h9 => h9) rfl dX7_toldNames_51 ?_
              refine lv_aload_n hx hb dX7_toldNames_54 rfl (lv_at hl 1 rfl) ?_
              refine va_get (D := (dC, dI)) (ci := 7) (v := .int fu) (C := RX7) (T := TX7) (N := 9) hx hb hA zin_X7 hown hK hP 7 rfl rfl 6 (by decide) (hA _ wi_394) (fun _ h9 => h9) rfl dX7_toldNames_55 ?_
              refine lv_iconst (v := 0) hx hb dX7_toldNames_58 (by decide) ?_
              have hPc := hP.sub (ws' := [(gfu, .inr (3, [.ref fw, .ref fe, .ref ff, .int fz])), (fw, .inl (f1, 30, .inr (.inl fgw))), (fe, .inl (f2, 30, .inl fge)), (ff, .inl (f3, 150, .inl fgf_15))]) [10, 11, 12, 13] rfl
              have hDc := hD.sub (ws' := [(gfu, .inr (3, [.ref fw, .ref fe, .ref ff, .int fz])), (fw, .inl (f1, 30, .inr (.inl fgw))), (fe, .inl (f2, 30, .inl fge)), (ff, .inl (f3, 150, .inl fgf_15))]) [10, 11, 12, 13] (by decide) rfl
              have hKc := hK.sub (tys' := [(f1, .long), (f2, .int), (f3, .int)]) [6, 7, 8] rfl
              have hFc := va_free (wc := [(gfu, .inr (3, [.ref fw, .ref fe, .ref ff, .int fz])), (fw, .inl (f1, 30, .inr (.inl fgw))), (fe, .inl (f2, 30, .inl fge)), (ff, .inl (f3, 150, .inl fgf_15))]) hD hS hAA [10, 11, 12, 13] rfl
              refine va_callv (va_runV (As := [.int fu, .int 0]) (rest := []) ⟨hx, hb, hml, hown, hA⟩ (c_X3_oneMore_x l dC dI aK aV gfu fw fe ff f1 f2 f3 fz fgw fge fgf_15 fu 0 H.size (by omega) (by omega) (by omega) (by omega) (by have h9_0 : Int32.toInt 0 = 0 := (by decide); omega) (by have h9_0 : Int32.toInt 0 = 0 := (by decide); omega)) (cwV 2 hA (zw_V wi_914 wi_915 wi_916 wi_135 (zw_good wi_917)) rfl rfl rfl (by decide +kernel) ⟨(Nat.le_of_ble_eq_true rfl), (Nat.le_of_ble_eq_true rfl)⟩) ⟨zP_blind, va_recv hKc hPc (ci := 3) (q0 := 0) rfl rfl, zz_pre hKc hPc hDc hN hT hS hFc⟩ rfl rfl hl.1 rfl (lv_room (Nat.le_of_ble_eq_true rfl)) dX7_toldNames_59 ⟨(Nat.le_of_ble_eq_true rfl), (Nat.le_of_ble_eq_true rfl)⟩) hS (fun q _ h => hFc q h) hFc (fun u t H1 locs ht hvm hw hB hz1 hk1 hS => ?_)
              obtain ⟨gf_24, rfl⟩ : ∃ z, z = u := ⟨_, rfl⟩
              obtain ⟨hP1, hK1, hD1⟩ := hB
              rw [ht] at hP1
              have hK1 := va_K.moved hvm.symm hK1
              obtain ⟨hP, hD⟩ := va_join (wr := [(ptok, .inr (10, [.ref ts, .ref tp, .ref tw, .int z, .int lp, .int ls_, .int ll, .long lw])), (ts, .inl (t1, 2001, .inl gs)), (tp, .inl (t2, 2001, .inl gp)), (tw, .inl (t3, 2001, .inr (.inl gw))), (gki, .inr (4, [.ref kw, .ref kf, .int kz])), (kw, .inl (k1, 20, .inr (.inl kgw))), (kf, .inl (k2, 20, .inl kgf)), (h0, .inr (7, [.ref ptok, .ref pnee, .ref pnam, .int ar_13, .ref pbui, .ref pdra, .int fu, .int fn, .int fp])), (pnam, .inl (nk, 24, .inr (.inl gn_14))), (pdra, .inr (9, [.ref gco, .ref gar, .ref gki, .ref gfu]))]) (w1 := [(gfu, .inr (3, [.ref fw, .ref fe, .ref ff, .int fz])), (fw, .inl (f1, 30, .inr (.inl fgw))), (fe, .inl (f2, 30, .inl fge)), (ff, .inl (f3, 150, .inl gf_24))]) hP hD [10, 11, 12, 13] [0, 1, 2, 3, 4, 5, 6, 7, 8, 9] rfl rfl (by decide) (by decide) hk1 hFc hP1 hD1
              have hK := (hK.sub (tys' := [(t1, .int), (t2, .int), (t3, .long), (k1, .long), (k2, .int), (nk, .long)]) [0, 1, 2, 3, 4, 5] rfl).app hK1
              generalize H1 = H at hP hS ⊢
              have hP : va_P (dC, dI) vwCl [(ptok, .inr (10, [.ref ts, .ref tp, .ref tw, .int z, .int lp, .int ls_, .int ll, .long lw])), (ts, .inl (t1, 2001, .inl gs)), (tp, .inl (t2, 2001, .inl gp)), (tw, .inl (t3, 2001, .inr (.inl gw))), (gki, .inr (4, [.ref kw, .ref kf, .int kz])), (kw, .inl (k1, 20, .inr (.inl kgw))), (kf, .inl (k2, 20, .inl kgf)), (h0, .inr (7, [.ref ptok, .ref pnee, .ref pnam, .int ar_13, .ref pbui, .ref pdra, .int fu, .int fn, .int fp])), (pnam, .inl (nk, 24, .inr (.inl gn_14))), (pdra, .inr (9, [.ref gco, .ref gar, .ref gki, .ref gfu])), (gfu, .inr (3, [.ref fw, .ref fe, .ref ff, .int fz])), (fw, .inl (f1, 30, .inr (.inl fgw))), (fe, .inl (f2, 30, .inl fge)), (ff, .inl (f3, 150, .inl gf_24))] H := hP
              have hD : va_D A [(ptok, .inr (10, [.ref ts, .ref tp, .ref tw, .int z, .int lp, .int ls_, .int ll, .long lw])), (ts, .inl (t1, 2001, .inl gs)), (tp, .inl (t2, 2001, .inl gp)), (tw, .inl (t3, 2001, .inr (.inl gw))), (gki, .inr (4, [.ref kw, .ref kf, .int kz])), (kw, .inl (k1, 20, .inr (.inl kgw))), (kf, .inl (k2, 20, .inl kgf)), (h0, .inr (7, [.ref ptok, .ref pnee, .ref pnam, .int ar_13, .ref pbui, .ref pdra, .int fu, .int fn, .int fp])), (pnam, .inl (nk, 24, .inr (.inl gn_14))), (pdra, .inr (9, [.ref gco, .ref gar, .ref gki, .ref gfu])), (gfu, .inr (3, [.ref fw, .ref fe, .ref ff, .int fz])), (fw, .inl (f1, 30, .inr (.inl fgw))), (fe, .inl (f2, 30, .inl fge)), (ff, .inl (f3, 150, .inl gf_24))] := hD
              have hK : va_K (dC, dI) vwCl [(t1, .int), (t2, .int), (t3, .long), (k1, .long), (k2, .int), (nk, .long), (f1, .long), (f2, .int), (f3, .int)] s := hK
              have hq_25 := hw
              have hup0 : gf_24 = upd fgf_15 (5 * Int32.toNatClampNeg fu + 0) (fgf_15 (5 * Int32.toNatClampNeg fu + 0) + 1) := hq_25
              have htl0 : fgf_15 (5 * Int32.toNatClampNeg fu) = lf (5 * Int32.toNatClampNeg fu) := (hq_20 (Int32.toNatClampNeg fu)).2.1
              have htl1 : (fgf_15 (5 * Int32.toNatClampNeg fu) + 1).toInt = (lf (5 * Int32.toNatClampNeg fu)).toInt + 1 := by rw [htl0]; exact zi_addc (by decide) (by omega) (by omega)
              have htl2 : (gf_24 (5 * Int32.toNatClampNeg fu)).toInt = (lf (5 * Int32.toNatClampNeg fu)).toInt + 1 := by rw [hup0, Nat.add_zero, zu_s]; exact htl1
              have htl3 : (gf_24 (5 * Int32.toNatClampNeg fu + 1)).toInt = (fgf_15 (5 * Int32.toNatClampNeg fu + 1)).toInt := by rw [hup0, zu_n (by omega)]
              have hfo_26 : zfo (Int32.toNatClampNeg fu) fgf gf_24 := zfo_tr hlfo (zfo_tr (zfo_ff hq_20) (zfo_0 hup0))
              have hct_27 : cT fgf gf_24 (Int32.toNatClampNeg fu) (Int32.toInt ar_13) := cT_s hlct hq_22 (by omega) hup0
              refine lv_aload_n hx hb dX7_toldNames_62 rfl (lv_at hl 1 rfl) ?_
              refine va_get (D := (dC, dI)) (ci := 7) (v := .ref ptok) (C := RX7) (T := TX7) (N := 9) hx hb hA zin_X7 hown hK hP 7 rfl rfl 0 (by decide) (hA _ wi_387) (fun _ h9 => h9) rfl dX7_toldNames_63 ?_
              have hPc := hP.sub (ws' := [(ptok, .inr (10, [.ref ts, .ref tp, .ref tw, .int z, .int lp, .int ls_, .int ll, .long lw])), (ts, .inl (t1, 2001, .inl gs)), (tp, .inl (t2, 2001, .inl gp)), (tw, .inl (t3, 2001, .inr (.inl gw)))]) [0, 1, 2, 3] rfl
              have hDc := hD.sub (ws' := [(ptok, .inr (10, [.ref ts, .ref tp, .ref tw, .int z, .int lp, .int ls_, .int ll, .long lw])), (ts, .inl (t1, 2001, .inl gs)), (tp, .inl (t2, 2001, .inl gp)), (tw, .inl (t3, 2001, .inr (.inl gw)))]) [0, 1, 2, 3] (by decide) rfl
              have hKc := hK.sub (tys' := [(t1, .int), (t2, .int), (t3, .long)]) [0, 1, 2] rfl
              have hFc := va_free (wc := [(ptok, .inr (10, [.ref ts, .ref tp, .ref tw, .int z, .int lp, .int ls_, .int ll, .long lw])), (ts, .inl (t1, 2001, .inl gs)), (tp, .inl (t2, 2001, .inl gp)), (tw, .inl (t3, 2001, .inr (.inl gw)))]) hD hS hAA [0, 1, 2, 3] rfl
              refine va_callv (va_runV (As := []) (rest := []) ⟨hx, hb, hml, hown, hA⟩ (c_X10_advance_s l dC dI aK aV ptok ts tp tw t1 t2 t3 z lp ls_ ll lw gs gp gw H.size (by omega) (by omega) (by omega) (by omega) hgz hlpt) (cwV 0 hA (zw_V wi_881 wi_775 wi_776 wi_137 (zw_good wi_777)) rfl rfl rfl (by decide +kernel) ⟨(Nat.le_of_ble_eq_true rfl), (Nat.le_of_ble_eq_true rfl)⟩) ⟨zP_blind, va_recv hKc hPc (ci := 10) (q0 := 0) rfl rfl, zz_pre hKc hPc hDc hN hT hS hFc⟩ rfl rfl hl.1 rfl (lv_room (Nat.le_of_ble_eq_true rfl)) dX7_toldNames_66 ⟨(Nat.le_of_ble_eq_true rfl), (Nat.le_of_ble_eq_true rfl)⟩) hS (fun q _ h => hFc q h) hFc (fun u t H1 locs ht hvm hw hB hz1 hk1 hS => ?_)
              obtain ⟨pa_29, so_30, pl_31, wd_32⟩ := u
              obtain ⟨hP1, hK1, hD1⟩ := hB
              rw [ht] at hP1
              have hK1 := va_K.moved hvm.symm hK1
              obtain ⟨hP, hD⟩ := va_join (wr := [(gki, .inr (4, [.ref kw, .ref kf, .int kz])), (kw, .inl (k1, 20, .inr (.inl kgw))), (kf, .inl (k2, 20, .inl kgf)), (h0, .inr (7, [.ref ptok, .ref pnee, .ref pnam, .int ar_13, .ref pbui, .ref pdra, .int fu, .int fn, .int fp])), (pnam, .inl (nk, 24, .inr (.inl gn_14))), (pdra, .inr (9, [.ref gco, .ref gar, .ref gki, .ref gfu])), (gfu, .inr (3, [.ref fw, .ref fe, .ref ff, .int fz])), (fw, .inl (f1, 30, .inr (.inl fgw))), (fe, .inl (f2, 30, .inl fge)), (ff, .inl (f3, 150, .inl gf_24))]) (w1 := [(ptok, .inr (10, [.ref ts, .ref tp, .ref tw, .int z, .int pa_29, .int so_30, .int pl_31, .long wd_32])), (ts, .inl (t1, 2001, .inl gs)), (tp, .inl (t2, 2001, .inl gp)), (tw, .inl (t3, 2001, .inr (.inl gw)))]) hP hD [0, 1, 2, 3] [4, 5, 6, 7, 8, 9, 10, 11, 12, 13] rfl rfl (by decide) (by decide) hk1 hFc hP1 hD1
              have hK := (hK.sub (tys' := [(k1, .long), (k2, .int), (nk, .long), (f1, .long), (f2, .int), (f3, .int)]) [3, 4, 5, 6, 7, 8] rfl).app hK1
              generalize H1 = H at hP hS ⊢
              have hP : va_P (dC, dI) vwCl [(gki, .inr (4, [.ref kw, .ref kf, .int kz])), (kw, .inl (k1, 20, .inr (.inl kgw))), (kf, .inl (k2, 20, .inl kgf)), (h0, .inr (7, [.ref ptok, .ref pnee, .ref pnam, .int ar_13, .ref pbui, .ref pdra, .int fu, .int fn, .int fp])), (pnam, .inl (nk, 24, .inr (.inl gn_14))), (pdra, .inr (9, [.ref gco, .ref gar, .ref gki, .ref gfu])), (gfu, .inr (3, [.ref fw, .ref fe, .ref ff, .int fz])), (fw, .inl (f1, 30, .inr (.inl fgw))), (fe, .inl (f2, 30, .inl fge)), (ff, .inl (f3, 150, .inl gf_24)), (ptok, .inr (10, [.ref ts, .ref tp, .ref tw, .int z, .int pa_29, .int so_30, .int pl_31, .long wd_32])), (ts, .inl (t1, 2001, .inl gs)), (tp, .inl (t2, 2001, .inl gp)), (tw, .inl (t3, 2001, .inr (.inl gw)))] H := hP
              have hD : va_D A [(gki, .inr (4, [.ref kw, .ref kf, .int kz])), (kw, .inl (k1, 20, .inr (.inl kgw))), (kf, .inl (k2, 20, .inl kgf)), (h0, .inr (7, [.ref ptok, .ref pnee, .ref pnam, .int ar_13, .ref pbui, .ref pdra, .int fu, .int fn, .int fp])), (pnam, .inl (nk, 24, .inr (.inl gn_14))), (pdra, .inr (9, [.ref gco, .ref gar, .ref gki, .ref gfu])), (gfu, .inr (3, [.ref fw, .ref fe, .ref ff, .int fz])), (fw, .inl (f1, 30, .inr (.inl fgw))), (fe, .inl (f2, 30, .inl fge)), (ff, .inl (f3, 150, .inl gf_24)), (ptok, .inr (10, [.ref ts, .ref tp, .ref tw, .int z, .int pa_29, .int so_30, .int pl_31, .long wd_32])), (ts, .inl (t1, 2001, .inl gs)), (tp, .inl (t2, 2001, .inl gp)), (tw, .inl (t3, 2001, .inr (.inl gw)))] := hD
              have hK : va_K (dC, dI) vwCl [(k1, .long), (k2, .int), (nk, .long), (f1, .long), (f2, .int), (f3, .int), (t1, .int), (t2, .int), (t3, .long)] s := hK
              obtain ⟨hq_33, hq_34, hq_35, hq_36, hq_37, hq_38, hq_39, hq_40, hq_41, hq_42⟩ := hw
              have htpa_29 : Int32.toInt (gs (Int32.toNatClampNeg pa_29)) = so_30.toInt := by rw [hq_38.2.2]
              have hppa_29 : Int32.toInt (gp (Int32.toNatClampNeg pa_29)) = pl_31.toInt := by rw [hq_38.2.1]
              have hnpa_29 : Int32.toNatClampNeg pa_29 = Int32.toNatClampNeg lp + 1 := zn_1 (by omega) (by omega)
              obtain ⟨x_43, ex_43⟩ : ∃ y : Int32, y = i + Int32.ofInt 1 := ⟨_, rfl⟩
              refine lv_iinc (v := x_43) (lv' := [(1, .int x_43), (0, .ref h0)]) hx hb dX7_toldNames_69 hl (k := 0) rfl (by rw [ex_43]) (by decide) rfl (fun ls hl => ?_)
              have ix_43 : x_43.toInt = i.toInt + 1 := by rw [ex_43]; exact zi_addc (by decide) (by omega) (by omega)
              refine lv_goto (tgt := 2) hx hb dX7_toldNames_72 (by decide) ?_
              have htl_44 : sp_tl gs gp gw gn_14 ar_13 (sp_tn gs gw 6 [] (Int32.toNatClampNeg pa)) (pf_tn gp gw 6 [] (Int32.toNatClampNeg pa)) (Int32.toInt x_43) (Int32.toNatClampNeg pa_29) := ⟨_, ln - 1, hq_21, by omega, hMq.trans (sp_tn_s (show (gs (Int32.toNatClampNeg lp)).toInt = 258 by have h9 : Int32.toInt 258 = 258 := (by decide); omega) (by omega) hlwd hq_10.2.1 hnpa_29), hMp.trans (pf_tn_s (by omega) hlwd hq_10.2.1 hnpa_29)⟩
              exact ih x_43 ar_13 pa_29 so_30 pl_31 wd_32 gn_14 gf_24 _ _ _ (by omega) (by omega) (by omega) (by omega) (by omega) hfo_26 hct_27 (by omega) (by omega) (by omega) (by omega) (by omega) (by omega) (by omega) (by omega) (by omega) hq_38 (by omega) hq_42 htl_44 (hP.sub [3, 10, 11, 12, 13, 5, 0, 1, 2, 4, 6, 7, 8, 9] rfl) (hD.sub [3, 10, 11, 12, 13, 5, 0, 1, 2, 4, 6, 7, 8, 9] (by decide) rfl) hS (lv_sub hl [0, 1] rfl)
            · have ic_11 : 6 ≤ i.toInt := zi_nlt c_11
              refine lv_aload_n hx hb dX7_toldNames_31 rfl (lv_at hl 1 rfl) ?_
              have hPc := hP.sub (ws' := [(h0, .inr (7, [.ref ptok, .ref pnee, .ref pnam, .int la, .ref pbui, .ref pdra, .int fu, .int fn, .int fp])), (ptok, .inr (10, [.ref ts, .ref tp, .ref tw, .int z, .int lp, .int ls_, .int ll, .long lw])), (ts, .inl (t1, 2001, .inl gs)), (tp, .inl (t2, 2001, .inl gp)), (tw, .inl (t3, 2001, .inr (.inl gw))), (pdra, .inr (9, [.ref gco, .ref gar, .ref gki, .ref gfu])), (gki, .inr (4, [.ref kw, .ref kf, .int kz])), (kw, .inl (k1, 20, .inr (.inl kgw))), (kf, .inl (k2, 20, .inl kgf))]) [4, 5, 6, 7, 8, 9, 10, 11, 12] rfl
              have hDc := hD.sub (ws' := [(h0, .inr (7, [.ref ptok, .ref pnee, .ref pnam, .int la, .ref pbui, .ref pdra, .int fu, .int fn, .int fp])), (ptok, .inr (10, [.ref ts, .ref tp, .ref tw, .int z, .int lp, .int ls_, .int ll, .long lw])), (ts, .inl (t1, 2001, .inl gs)), (tp, .inl (t2, 2001, .inl gp)), (tw, .inl (t3, 2001, .inr (.inl gw))), (pdra, .inr (9, [.ref gco, .ref gar, .ref gki, .ref gfu])), (gki, .inr (4, [.ref kw, .ref kf, .int kz])), (kw, .inl (k1, 20, .inr (.inl kgw))), (kf, .inl (k2, 20, .inl kgf))]) [4, 5, 6, 7, 8, 9, 10, 11, 12] (by decide) rfl
              have hKc := hK.sub (tys' := [(t1, .int), (t2, .int), (t3, .long), (k1, .long), (k2, .int)]) [3, 4, 5, 6, 7] rfl
              have hFc := va_free (wc := [(h0, .inr (7, [.ref ptok, .ref pnee, .ref pnam, .int la, .ref pbui, .ref pdra, .int fu, .int fn, .int fp])), (ptok, .inr (10, [.ref ts, .ref tp, .ref tw, .int z, .int lp, .int ls_, .int ll, .long lw])), (ts, .inl (t1, 2001, .inl gs)), (tp, .inl (t2, 2001, .inl gp)), (tw, .inl (t3, 2001, .inr (.inl gw))), (pdra, .inr (9, [.ref gco, .ref gar, .ref gki, .ref gfu])), (gki, .inr (4, [.ref kw, .ref kf, .int kz])), (kw, .inl (k1, 20, .inr (.inl kgw))), (kf, .inl (k2, 20, .inl kgf))]) hD hS hAA [4, 5, 6, 7, 8, 9, 10, 11, 12] rfl
              refine vy_callv (vy_runV (As := []) (rest := []) ⟨hx, hb, hml, hown, hA⟩ (c_X7_failMany l dC dI aK aV h0 ptok pnee pnam pbui pdra la fu fn fp ts tp tw t1 t2 t3 z lp ls_ ll lw gs gp gw gco gar gki gfu kw kf k1 k2 kz kgw kgf H.size hlt (by omega) (by omega) (by omega) (by omega) hgz (by omega) (by omega) hkf) (cwV 0 hA (zw_V wi_790 wi_792 wi_4 wi_136 (zw_good wi_793)) rfl rfl rfl (by decide +kernel) ⟨(Nat.le_of_ble_eq_true rfl), (Nat.le_of_ble_eq_true rfl)⟩) ⟨zP_blind, va_recv hKc hPc (ci := 7) (q0 := 0) rfl rfl, zz_pre hKc hPc hDc hN hT hS hFc⟩ rfl rfl hl.1 rfl (lv_room (Nat.le_of_ble_eq_true rfl)) dX7_toldNames_32 ⟨(Nat.le_of_ble_eq_true rfl), (Nat.le_of_ble_eq_true rfl)⟩) hS (fun q _ h => hFc q h) hFc (fun q _ h => hFc q h) (fun E9 ce9 q9 u t H1 locs ht hvm hw hB hz1 hk1 hS hcell hcv hcl => ?_) (fun u t H1 locs ht hvm hw hB hz1 hk1 hS => absurd hw id)
              obtain ⟨x_fn2_46, x_fp2_47⟩ := u
              obtain ⟨rfl, hP1, hK1, hD1⟩ := hB
              rw [ht] at hP1
              have hK1 := va_K.moved hvm.symm hK1
              obtain ⟨hP, hD⟩ := va_join (wr := [(gfu, .inr (3, [.ref fw, .ref fe, .ref ff, .int fz])), (fw, .inl (f1, 30, .inr (.inl fgw))), (fe, .inl (f2, 30, .inl fge)), (ff, .inl (f3, 150, .inl lf)), (pnam, .inl (nk, 24, .inr (.inl lg)))]) (w1 := [(h0, .inr (7, [.ref ptok, .ref pnee, .ref pnam, .int la, .ref pbui, .ref pdra, .int fu, .int x_fn2_46, .int x_fp2_47])), (ptok, .inr (10, [.ref ts, .ref tp, .ref tw, .int z, .int lp, .int ls_, .int ll, .long lw])), (ts, .inl (t1, 2001, .inl gs)), (tp, .inl (t2, 2001, .inl gp)), (tw, .inl (t3, 2001, .inr (.inl gw))), (pdra, .inr (9, [.ref gco, .ref gar, .ref gki, .ref gfu])), (gki, .inr (4, [.ref kw, .ref kf, .int kz])), (kw, .inl (k1, 20, .inr (.inl kgw))), (kf, .inl (k2, 20, .inl kgf))]) hP hD [4, 5, 6, 7, 8, 9, 10, 11, 12] [0, 1, 2, 3, 13] rfl rfl (by decide) (by decide) hk1 hFc hP1 hD1
              have hK := (hK.sub (tys' := [(f1, .long), (f2, .int), (f3, .int), (nk, .long)]) [0, 1, 2, 8] rfl).app hK1
              clear hPc hDc hFc hP1 hD1 hk1 hz1 ht hvm
              generalize H1 = H at hP hS hcell ⊢
              have hP : va_P (dC, dI) vwCl [(gfu, .inr (3, [.ref fw, .ref fe, .ref ff, .int fz])), (fw, .inl (f1, 30, .inr (.inl fgw))), (fe, .inl (f2, 30, .inl fge)), (ff, .inl (f3, 150, .inl lf)), (pnam, .inl (nk, 24, .inr (.inl lg))), (h0, .inr (7, [.ref ptok, .ref pnee, .ref pnam, .int la, .ref pbui, .ref pdra, .int fu, .int x_fn2_46, .int x_fp2_47])), (ptok, .inr (10, [.ref ts, .ref tp, .ref tw, .int z, .int lp, .int ls_, .int ll, .long lw])), (ts, .inl (t1, 2001, .inl gs)), (tp, .inl (t2, 2001, .inl gp)), (tw, .inl (t3, 2001, .inr (.inl gw))), (pdra, .inr (9, [.ref gco, .ref gar, .ref gki, .ref gfu])), (gki, .inr (4, [.ref kw, .ref kf, .int kz])), (kw, .inl (k1, 20, .inr (.inl kgw))), (kf, .inl (k2, 20, .inl kgf))] H := hP
              have hD : va_D A [(gfu, .inr (3, [.ref fw, .ref fe, .ref ff, .int fz])), (fw, .inl (f1, 30, .inr (.inl fgw))), (fe, .inl (f2, 30, .inl fge)), (ff, .inl (f3, 150, .inl lf)), (pnam, .inl (nk, 24, .inr (.inl lg))), (h0, .inr (7, [.ref ptok, .ref pnee, .ref pnam, .int la, .ref pbui, .ref pdra, .int fu, .int x_fn2_46, .int x_fp2_47])), (ptok, .inr (10, [.ref ts, .ref tp, .ref tw, .int z, .int lp, .int ls_, .int ll, .long lw])), (ts, .inl (t1, 2001, .inl gs)), (tp, .inl (t2, 2001, .inl gp)), (tw, .inl (t3, 2001, .inr (.inl gw))), (pdra, .inr (9, [.ref gco, .ref gar, .ref gki, .ref gfu])), (gki, .inr (4, [.ref kw, .ref kf, .int kz])), (kw, .inl (k1, 20, .inr (.inl kgw))), (kf, .inl (k2, 20, .inl kgf))] := hD
              have hK : va_K (dC, dI) vwCl [(f1, .long), (f2, .int), (f3, .int), (nk, .long), (t1, .int), (t2, .int), (t3, .long), (k1, .long), (k2, .int)] s := hK
              have hq_48 := hw
              try dsimp only at hq_48
              refine vx_widen (k := 1) (n := 6) (Nat.le_of_ble_eq_true rfl) (Nat.le_of_ble_eq_true rfl) ?_
              have hP9 := hP.sub (ws' := [(h0, .inr (7, [.ref ptok, .ref pnee, .ref pnam, .int la, .ref pbui, .ref pdra, .int fu, .int x_fn2_46, .int x_fp2_47])), (ptok, .inr (10, [.ref ts, .ref tp, .ref tw, .int z, .int lp, .int ls_, .int ll, .long lw])), (ts, .inl (t1, 2001, .inl gs)), (tp, .inl (t2, 2001, .inl gp)), (tw, .inl (t3, 2001, .inr (.inl gw))), (pdra, .inr (9, [.ref gco, .ref gar, .ref gki, .ref gfu])), (gki, .inr (4, [.ref kw, .ref kf, .int kz])), (kw, .inl (k1, 20, .inr (.inl kgw))), (kf, .inl (k2, 20, .inl kgf)), (pnam, .inl (nk, 24, .inr (.inl lg))), (gfu, .inr (3, [.ref fw, .ref fe, .ref ff, .int fz])), (fw, .inl (f1, 30, .inr (.inl fgw))), (fe, .inl (f2, 30, .inl fge)), (ff, .inl (f3, 150, .inl lf))]) [5, 6, 7, 8, 9, 10, 11, 12, 13, 4, 0, 1, 2, 3] rfl
              have hD9 := hD.sub (ws' := [(h0, .inr (7, [.ref ptok, .ref pnee, .ref pnam, .int la, .ref pbui, .ref pdra, .int fu, .int x_fn2_46, .int x_fp2_47])), (ptok, .inr (10, [.ref ts, .ref tp, .ref tw, .int z, .int lp, .int ls_, .int ll, .long lw])), (ts, .inl (t1, 2001, .inl gs)), (tp, .inl (t2, 2001, .inl gp)), (tw, .inl (t3, 2001, .inr (.inl gw))), (pdra, .inr (9, [.ref gco, .ref gar, .ref gki, .ref gfu])), (gki, .inr (4, [.ref kw, .ref kf, .int kz])), (kw, .inl (k1, 20, .inr (.inl kgw))), (kf, .inl (k2, 20, .inl kgf)), (pnam, .inl (nk, 24, .inr (.inl lg))), (gfu, .inr (3, [.ref fw, .ref fe, .ref ff, .int fz])), (fw, .inl (f1, 30, .inr (.inl fgw))), (fe, .inl (f2, 30, .inl fge)), (ff, .inl (f3, 150, .inl lf))]) [5, 6, 7, 8, 9, 10, 11, 12, 13, 4, 0, 1, 2, 3] (by decide) rfl
              have hK9 := hK.sub (tys' := [(t1, .int), (t2, .int), (t3, .long), (k1, .long), (k2, .int), (nk, .long), (f1, .long), (f2, .int), (f3, .int)]) [4, 5, 6, 7, 8, 3, 0, 1, 2] rfl
              exact vy_monoX vy_thr (vx_out (fun x hx => (hnh x hx).elim) hlocks hcell hcv hcl (fun t ht hvm => ⟨(lp, ls_, ll, lw, la, lg, lf, x_fn2_46, x_fp2_47), ⟨(show Int32.toInt x_fp2_47 = Int32.toInt (gp (Int32.toNatClampNeg lp)) by omega).trans (hMp.trans (by rw [show ln = 0 by omega]; rfl)).symm, hMq.trans (by rw [show ln = 0 by omega]; exact sp_tn_0 (show (gs (Int32.toNatClampNeg lp)).toInt = 258 by have h9 : Int32.toInt 258 = 258 := (by decide); omega))⟩, ⟨rfl, by rw [ht]; exact hP9, va_K.moved hvm hK9, hD9⟩, hS.F ht⟩) hS.2.2 (Nat.le_of_ble_eq_true rfl) (Nat.le_of_ble_eq_true rfl))
  have htl_49 : sp_tl gs gp gw gn ar (sp_tn gs gw 6 [] (Int32.toNatClampNeg pa)) (pf_tn gp gw 6 [] (Int32.toNatClampNeg pa)) (Int32.toInt 0) (Int32.toNatClampNeg pa) := ⟨[], 6, ⟨by show (0 : Int) = _; omega, fun k hk => nomatch hk⟩, by decide, rfl, rfl⟩
  exact loop_2 _ 0 ar pa so pl wd gn fgf _ _ _ (Nat.le_refl _) (by have h9_0 : Int32.toInt 0 = 0 := (by decide); omega) (by have h9_0 : Int32.toInt 0 = 0 := (by decide); omega) (by have h9_0 : Int32.toInt 0 = 0 := (by decide); omega) (by have h9_0 : Int32.toInt 0 = 0 := (by decide); omega) zfo_rf (cT_0 hnm0) (by have h9_0 : Int32.toInt 0 = 0 := (by decide); omega) (by have h9_0 : Int32.toInt 0 = 0 := (by decide); omega) (by have h9_0 : Int32.toInt 0 = 0 := (by decide); omega) (by have h9_0 : Int32.toInt 0 = 0 := (by decide); omega) (by have h9_0 : Int32.toInt 0 = 0 := (by decide); omega) (by have h9_0 : Int32.toInt 0 = 0 := (by decide); omega) (by have h9_0 : Int32.toInt 0 = 0 := (by decide); omega) (by have h9_0 : Int32.toInt 0 = 0 := (by decide); omega) (by have h9_0 : Int32.toInt 0 = 0 := (by decide); omega) hpt (by have h9_0 : Int32.toInt 0 = 0 := (by decide); omega) hwd htl_49 (hP.sub [0, 1, 2, 3, 4, 5, 6, 7, 8, 9, 10, 11, 12, 13] rfl) (hD.sub [0, 1, 2, 3, 4, 5, 6, 7, 8, 9, 10, 11, 12, 13] (by decide) rfl) hS (lv_sub hl [0, 1] rfl)

end
