/-- the calls that the code holds -/
def sp_cl (op a b : Nat → Int32) (V : Nat → Int64) (zz cz : Int32) (C : List (Int64 × Int)) : Prop := (∀ r : Nat, (r : Int) < cz.toInt → (op r).toInt = 6 ∨ (op r).toInt = 7 → (0 ≤ (a r).toInt ∧ (a r).toInt ≤ zz.toInt) ∧ (V (Int32.toNatClampNeg (a r)), (b r).toInt) ∈ C) ∧ ∀ q ∈ C, ∃ r : Nat, (r : Int) < cz.toInt ∧ ((op r).toInt = 6 ∨ (op r).toInt = 7) ∧ V (Int32.toNatClampNeg (a r)) = q.1 ∧ (b r).toInt = q.2
theorem sp_cl_up {op op2 a a2 b b2 : Nat → Int32} {V : Nat → Int64} {zz cz : Int32} {C : List (Int64 × Int)} (h : sp_cl op a b V zz cz C) (ho : ∀ r : Nat, (r : Int) < cz.toInt → op2 r = op r) (hu : ∀ r : Nat, (r : Int) < cz.toInt → (op r).toInt = 6 ∨ (op r).toInt = 7 → a2 r = a r ∧ b2 r = b r) : sp_cl op2 a2 b2 V zz cz C := by
  refine ⟨fun r hr g => ?_, fun q hq => ?_⟩
  · rw [ho r hr] at g
    rw [(hu r hr g).1, (hu r hr g).2]
    exact h.1 r hr g
  · obtain ⟨r, hr, g, e1, e2⟩ := h.2 q hq
    exact ⟨r, hr, by rw [ho r hr]; exact g, by rw [(hu r hr g).1]; exact e1, by rw [(hu r hr g).2]; exact e2⟩
theorem sp_cl_ap {op op2 a a2 b b2 : Nat → Int32} {V : Nat → Int64} {zz cz cz2 o x y : Int32} {C : List (Int64 × Int)} (h : sp_cl op a b V zz cz C) (h0 : 0 ≤ cz.toInt) (ez : cz2.toInt = cz.toInt + 1) (eo : op2 = upd op (Int32.toNatClampNeg cz) o) (ea : a2 = upd a (Int32.toNatClampNeg cz) x) (eb : b2 = upd b (Int32.toNatClampNeg cz) y) (ho : o.toInt ≠ 6 ∧ o.toInt ≠ 7) : sp_cl op2 a2 b2 V zz cz2 C := by
  have hn := zn_nat h0
  refine ⟨fun r hr g => ?_, fun q hq => ?_⟩
  · by_cases u : r = Int32.toNatClampNeg cz
    · rw [eo, u, zu_s] at g; omega
    · rw [eo, zu_n u] at g
      rw [ea, eb, zu_n u, zu_n u]
      exact h.1 r (by omega) g
  · obtain ⟨r, hr, g, e1, e2⟩ := h.2 q hq
    have u : r ≠ Int32.toNatClampNeg cz := by omega
    exact ⟨r, by omega, by rw [eo, zu_n u]; exact g, by rw [ea, zu_n u]; exact e1, by rw [eb, zu_n u]; exact e2⟩
theorem sp_cl_ca {op op2 a a2 b b2 : Nat → Int32} {V : Nat → Int64} {zz cz cz2 o x y y0 : Int32} {w : Int64} {n : Int} {C : List (Int64 × Int)} (h : sp_cl op a b V zz cz C) (h0 : 0 ≤ cz.toInt) (ez : cz2.toInt = cz.toInt + 1) (eo : op2 = upd op (Int32.toNatClampNeg cz) o) (ea : a2 = upd a (Int32.toNatClampNeg cz) x) (eb : b2 = upd (upd b (Int32.toNatClampNeg cz) y0) (Int32.toNatClampNeg cz) y) (ho : o.toInt = 6 ∨ o.toInt = 7) (hx : 0 ≤ x.toInt ∧ x.toInt ≤ zz.toInt) (ew : V (Int32.toNatClampNeg x) = w) (en : y.toInt = n) : sp_cl op2 a2 b2 V zz cz2 (C ++ [(w, n)]) := by
  have hn := zn_nat h0
  rw [zu_uu] at eb
  refine ⟨fun r hr g => ?_, fun q hq => ?_⟩
  · by_cases u : r = Int32.toNatClampNeg cz
    · rw [ea, eb, u, zu_s, zu_s, ew, en]; exact ⟨hx, List.mem_append.mpr (Or.inr List.mem_cons_self)⟩
    · rw [eo, zu_n u] at g
      rw [ea, eb, zu_n u, zu_n u]
      exact ⟨(h.1 r (by omega) g).1, List.mem_append.mpr (Or.inl (h.1 r (by omega) g).2)⟩
  · rcases List.mem_append.mp hq with g1 | g1
    · obtain ⟨r, hr, g, e1, e2⟩ := h.2 q g1
      have u : r ≠ Int32.toNatClampNeg cz := by omega
      exact ⟨r, by omega, by rw [eo, zu_n u]; exact g, by rw [ea, zu_n u]; exact e1, by rw [eb, zu_n u]; exact e2⟩
    · rw [List.mem_singleton.mp g1]
      exact ⟨Int32.toNatClampNeg cz, by omega, by rw [eo, zu_s]; exact ho, by rw [ea, zu_s]; exact ew, by rw [eb, zu_s]; exact en⟩
/-- what an expression made of the kinds, the calls; its tree -/
def sp_r (nop na nb : Nat → Int32) (V : Nat → Int64) (zz cz2 pa2 kz2 : Int32) (kw2 : Nat → Int64) (kf2 : Nat → Int32) (Z : Tm → Prop) (o : Option (Tm × sp_S)) : Prop := ∃ C2 t, sp_cl nop na nb V zz cz2 C2 ∧ o = some (t, (Int32.toNatClampNeg pa2, Int32.toNatClampNeg kz2, kw2, kf2, C2)) ∧ Z t
theorem sp_b1 {α β : Type} {x : Option α} {s : α} {f : α → Option β} (h : x = some s) : x.bind f = f s := by rw [h]; rfl
theorem sp_bx {α β : Type} {x : Option α} {f : α → Option β} (h : x = none) : x.bind f = none := by rw [h]; rfl
section
variable {T P : Nat → Int32} {V : Nat → Int64} {E : List Int64 → sp_S → Option (Tm × sp_S)} {L : List Int64} {K : Nat × (Nat → Int64) × (Nat → Int32) × List (Int64 × Int)} {gn : Nat → Int64} {so ar : Int32} {w : Int64} {a b c d e : Nat} {s1 s2 : Tm × sp_S} {o : Option (Tm × sp_S)}
theorem sp_le_x1 (hl : sp_nl gn ar L) (eb : b = a + 1) (ht : (T b).toInt = so.toInt) (ew : w = V b) (h : ¬ sp_nn so w ar L) : sp_le T P V E L (a, K) = none := by
  have := hl.1
  unfold sp_le
  exact if_neg (fun g => h ⟨by rw [← ht, eb]; exact g.1, by rw [ew, eb]; exact g.2.1, by have := g.2.2; omega⟩)
theorem sp_le_eq (hl : sp_nl gn ar L) (eb : b = a + 1) (ht : (T b).toInt = so.toInt) (ew : w = V b) (h : sp_nn so w ar L) (ec : c = b + 1) : sp_le T P V E L (a, K) = if (T c).toInt = 61 then (E L (c + 1, K)).bind fun s1 => if (T s1.2.1).toInt = 263 then (E (L ++ [w]) (sp_to s1.2 (s1.2.1 + 1))).bind fun s2 => some (.tlet (P a).toInt L.length s1.1 s2.1, s2.2) else none else none := by
  have := hl.1
  have e2 : c = a + 2 := by omega
  unfold sp_le
  rw [if_pos ⟨by show (T (a + 1)).toInt = 258; rw [← eb, ht]; exact h.1, by show V (a + 1) ∉ L; rw [← eb, ← ew]; exact h.2.1, by have := h.2.2; omega⟩]
  subst e2; subst eb; rw [ew]; rfl
theorem sp_le_x2 (hl : sp_nl gn ar L) (eb : b = a + 1) (ht : (T b).toInt = so.toInt) (ew : w = V b) (h : sp_nn so w ar L) (ec : c = b + 1) (h2 : (T c).toInt ≠ 61) : sp_le T P V E L (a, K) = none := by rw [sp_le_eq hl eb ht ew h ec, if_neg h2]
theorem sp_le_x3 (hl : sp_nl gn ar L) (eb : b = a + 1) (ht : (T b).toInt = so.toInt) (ew : w = V b) (h : sp_nn so w ar L) (ec : c = b + 1) (h2 : (T c).toInt = 61) (ed : d = c + 1) (q : E L (d, K) = none) : sp_le T P V E L (a, K) = none := by rw [sp_le_eq hl eb ht ew h ec, if_pos h2, ← ed, q]; rfl
theorem sp_le_x4 (hl : sp_nl gn ar L) (eb : b = a + 1) (ht : (T b).toInt = so.toInt) (ew : w = V b) (h : sp_nn so w ar L) (ec : c = b + 1) (h2 : (T c).toInt = 61) (ed : d = c + 1) (q : E L (d, K) = some s1) (h3 : (T s1.2.1).toInt ≠ 263) : sp_le T P V E L (a, K) = none := by rw [sp_le_eq hl eb ht ew h ec, if_pos h2, ← ed, q]; exact if_neg h3
theorem sp_le_y (hl : sp_nl gn ar L) (eb : b = a + 1) (ht : (T b).toInt = so.toInt) (ew : w = V b) (h : sp_nn so w ar L) (ec : c = b + 1) (h2 : (T c).toInt = 61) (ed : d = c + 1) (q : E L (d, K) = some s1) (h3 : (T s1.2.1).toInt = 263) (ee : e = s1.2.1 + 1) (q2 : E (L ++ [w]) (e, s1.2.2) = o) : sp_le T P V E L (a, K) = o.bind fun s2 => some (.tlet (P a).toInt L.length s1.1 s2.1, s2.2) := by rw [sp_le_eq hl eb ht ew h ec, if_pos h2, ← ed, q]; refine Eq.trans (if_pos h3) ?_; rw [← ee, ← q2]; rfl
theorem sp_if_1 (eb : b = a + 1) (q : E L (b, K) = some s1) : sp_if T P E L (a, K) = if (T s1.2.1).toInt = 265 then (E L (sp_to s1.2 (s1.2.1 + 1))).bind fun s2 => if (T s2.2.1).toInt = 266 then (E L (sp_to s2.2 (s2.2.1 + 1))).bind fun s3 => some (.ite (P a).toInt s1.1 s2.1 s3.1, s3.2) else none else none := by
  unfold sp_if; rw [show sp_to (a, K) ((a, K).1 + 1) = (b, K) by rw [eb]; rfl, q]; rfl
theorem sp_if_x0 (eb : b = a + 1) (q : E L (b, K) = none) : sp_if T P E L (a, K) = none := by
  unfold sp_if; rw [show sp_to (a, K) ((a, K).1 + 1) = (b, K) by rw [eb]; rfl, q]; rfl
theorem sp_if_x1 (eb : b = a + 1) (q : E L (b, K) = some s1) (h : (T s1.2.1).toInt ≠ 265) : sp_if T P E L (a, K) = none := by rw [sp_if_1 eb q, if_neg h]
theorem sp_if_x2 (eb : b = a + 1) (q : E L (b, K) = some s1) (h : (T s1.2.1).toInt = 265) (ec : c = s1.2.1 + 1) (q2 : E L (c, s1.2.2) = none) : sp_if T P E L (a, K) = none := by rw [sp_if_1 eb q, if_pos h, show sp_to s1.2 (s1.2.1 + 1) = (c, s1.2.2) by rw [ec]; rfl, q2]; rfl
theorem sp_if_x3 (eb : b = a + 1) (q : E L (b, K) = some s1) (h : (T s1.2.1).toInt = 265) (ec : c = s1.2.1 + 1) (q2 : E L (c, s1.2.2) = some s2) (h2 : (T s2.2.1).toInt ≠ 266) : sp_if T P E L (a, K) = none := by rw [sp_if_1 eb q, if_pos h, show sp_to s1.2 (s1.2.1 + 1) = (c, s1.2.2) by rw [ec]; rfl, q2]; exact if_neg h2
theorem sp_if_y (eb : b = a + 1) (q : E L (b, K) = some s1) (h : (T s1.2.1).toInt = 265) (ec : c = s1.2.1 + 1) (q2 : E L (c, s1.2.2) = some s2) (h2 : (T s2.2.1).toInt = 266) (ed : d = s2.2.1 + 1) (q3 : E L (d, s2.2.2) = o) : sp_if T P E L (a, K) = o.bind fun s3 => some (.ite (P a).toInt s1.1 s2.1 s3.1, s3.2) := by rw [sp_if_1 eb q, if_pos h, show sp_to s1.2 (s1.2.1 + 1) = (c, s1.2.2) by rw [ec]; rfl, q2]; refine Eq.trans (if_pos h2) ?_; rw [show sp_to s2.2 (s2.2.1 + 1) = (d, s2.2.2) by rw [ed]; rfl, ← q3]
/-- arguments -/
theorem sp_ar_t {most n : Nat} {m : Tm} (h : ¬ tm_ln m < most) : sp_ar T E most L n m (a, K) = none := by
  cases n with
  | zero => rfl
  | succ n => unfold sp_ar; rw [if_neg h]
theorem sp_ar_x {most n : Nat} {m : Tm} (eb : b = a + 1) (q : E L (b, K) = none) : sp_ar T E most L n m (a, K) = none := by
  cases n with
  | zero => rfl
  | succ n =>
    unfold sp_ar
    rw [show sp_to (a, K) ((a, K).1 + 1) = (b, K) by rw [eb]; rfl, q]
    split <;> rfl
theorem sp_ar_s {most n : Nat} {m : Tm} (h : tm_ln m < most) (eb : b = a + 1) (q : E L (b, K) = some s1) : sp_ar T E most L (n + 1) m (a, K) = if (T s1.2.1).toInt = 44 then sp_ar T E most L n (tm_sn m s1.1) s1.2 else if (T s1.2.1).toInt = 41 then some (tm_sn m s1.1, sp_to s1.2 (s1.2.1 + 1)) else none := by
  conv => lhs; unfold sp_ar
  rw [if_pos h, show sp_to (a, K) ((a, K).1 + 1) = (b, K) by rw [eb]; rfl, q]; rfl
theorem sp_E_nb {f : Nat} (h : ¬ ((T a).toInt = 262 ∨ (T a).toInt = 264 ∨ (T a).toInt = 267 ∨ (T a).toInt = 260 ∨ (T a).toInt = 258 ∨ (T a).toInt = 259 ∨ (T a).toInt = 40)) : sp_E T P V f L (a, K) = none := by
  cases f with
  | zero => rfl
  | succ f =>
    have h1 : (T a).toInt ≠ 262 := fun g => h (by omega)
    have h2 : (T a).toInt ≠ 264 := fun g => h (by omega)
    have h3 : (T a).toInt ≠ 267 := fun g => h (by omega)
    have h4 : (T a).toInt ≠ 260 := fun g => h (by omega)
    have h5 : (T a).toInt ≠ 258 := fun g => h (by omega)
    have h6 : (T a).toInt ≠ 259 := fun g => h (by omega)
    have h7 : (T a).toInt ≠ 40 := fun g => h (by omega)
    show sp_e T P V (sp_E T P V f) L (a, K) = none
    unfold sp_e sp_cm sp_sm sp_pt sp_at
    simp only [h1, h2, h3, h4, h5, h6, h7, if_false]
    rfl
end
theorem sp_cl_a {op a a2 b : Nat → Int32} {V : Nat → Int64} {zz cz x : Int32} {k : Nat} {C : List (Int64 × Int)} (h : sp_cl op a b V zz cz C) (e : a2 = upd a k x) (hk : (op k).toInt ≠ 6 ∧ (op k).toInt ≠ 7) : sp_cl op a2 b V zz cz C := sp_cl_up h (fun _ _ => rfl) (fun r _ g => ⟨by rw [e, zu_n (fun u => by subst u; omega)], rfl⟩)
theorem sp_cl_b {op a b b2 : Nat → Int32} {V : Nat → Int64} {zz cz x : Int32} {k : Nat} {C : List (Int64 × Int)} (h : sp_cl op a b V zz cz C) (e : b2 = upd b k x) (hk : (op k).toInt ≠ 6 ∧ (op k).toInt ≠ 7) : sp_cl op a b2 V zz cz C := sp_cl_up h (fun _ _ => rfl) (fun r _ g => ⟨rfl, by rw [e, zu_n (fun u => by subst u; omega)]⟩)
/-- a loop's rest -/
def sp_lp (op a b : Nat → Int32) (V : Nat → Int64) (zz cz pa kz : Int32) (kw : Nat → Int64) (kf : Nat → Int32) (Z : Tm → Prop) (o : Option (Tm × sp_S)) (F : Nat → Tm × sp_S → Option (Tm × sp_S)) (i : Int) : Prop := ∃ (C : List (Int64 × Int)) (n : Nat) (t : Tm), sp_cl op a b V zz cz C ∧ (n : Int) = 2001 - i ∧ o = F n (t, (Int32.toNatClampNeg pa, Int32.toNatClampNeg kz, kw, kf, C)) ∧ Z t
/-- arguments so far -/
def sp_la (T : Nat → Int32) (op a b : Nat → Int32) (V : Nat → Int64) (zz cz pa kz : Int32) (kw : Nat → Int64) (kf : Nat → Int32) (Z : Tm → Prop) (o : Option (Tm × sp_S)) (F : Nat → Tm → sp_S → Option (Tm × sp_S)) (cnt : Int32) (mr : Int) : Prop := ∃ (C : List (Int64 × Int)) (n : Nat) (t : Tm), sp_cl op a b V zz cz C ∧ (n : Int) = 2001 - cnt.toInt ∧ (tm_ln t : Int) = cnt.toInt ∧ Z t ∧ (mr ≠ 0 → o = F n t (Int32.toNatClampNeg pa, Int32.toNatClampNeg kz, kw, kf, C)) ∧ (mr = 0 → o = if (T (Int32.toNatClampNeg pa)).toInt = 41 then some (t, (Int32.toNatClampNeg pa + 1, Int32.toNatClampNeg kz, kw, kf, C)) else none)
def sp_ra (nop na nb : Nat → Int32) (V : Nat → Int64) (zz cz2 pa2 kz2 : Int32) (kw2 : Nat → Int64) (kf2 : Nat → Int32) (r : Int32) (Z : Tm → Prop) (o : Option (Tm × sp_S)) : Prop := ∃ C2 t, sp_cl nop na nb V zz cz2 C2 ∧ o = some (t, (Int32.toNatClampNeg pa2, Int32.toNatClampNeg kz2, kw2, kf2, C2)) ∧ (tm_ln t : Int) = r.toInt ∧ Z t
section
variable {T P : Nat → Int32} {V : Nat → Int64} {E : List Int64 → sp_S → Option (Tm × sp_S)} {L : List Int64} {K : Nat × (Nat → Int64) × (Nat → Int32) × List (Int64 × Int)} {a b c d e : Nat} {s1 s2 : Tm × sp_S} {o : Option (Tm × sp_S)} {t : Tm}
theorem sp_la_s {F0 : Option (Tm × sp_S)} {m t1 : Tm} {Z : Tm → Prop} {most n : Nat} {op al bl : Nat → Int32} {zz cz cnt cnt2 pa2 kz2 : Int32} {kw2 : Nat → Int64} {kf2 : Nat → Int32} {C2 : List (Int64 × Int)} {mr2 : Int} (hn : (n : Int) = 2001 - cnt.toInt) (h0 : 0 ≤ cnt.toInt) (hl : (tm_ln m : Int) = cnt.toInt) (hm : cnt.toInt < most) (hm2 : most ≤ 2000) (hr : F0 = sp_ar T E most L n m (a, K)) (eb : b = a + 1) (q : E L (b, K) = some (t1, (Int32.toNatClampNeg pa2, Int32.toNatClampNeg kz2, kw2, kf2, C2))) (hcl : sp_cl op al bl V zz cz C2) (hZ : Z (tm_sn m t1)) (ec : cnt2.toInt = cnt.toInt + 1) (hmr : mr2 ≠ 0 ∧ (T (Int32.toNatClampNeg pa2)).toInt = 44 ∨ mr2 = 0 ∧ (T (Int32.toNatClampNeg pa2)).toInt ≠ 44) : sp_la T op al bl V zz cz pa2 kz2 kw2 kf2 Z F0 (sp_ar T E most L) cnt2 mr2 := by
  have n1 := zn_nat h0
  obtain ⟨k, rfl⟩ : ∃ k, n = k + 1 := ⟨n - 1, by omega⟩
  rw [sp_ar_s (by omega) eb q] at hr
  exact ⟨C2, k, tm_sn m t1, hcl, by omega, by rw [tm_ln_sn]; omega, hZ, fun g => hr.trans (if_pos (by rcases hmr with u | u; exact u.2; exact absurd u.1 g)), fun g => hr.trans (if_neg (by rcases hmr with u | u; exact absurd g u.1; exact u.2))⟩
theorem sp_prL_n {n : Nat} (hn : 1 ≤ n) (h : (T a).toInt ≠ 42) : sp_prL T P V E L n (t, (a, K)) = some (t, (a, K)) := by
  obtain ⟨k, rfl⟩ : ∃ k, n = k + 1 := ⟨n - 1, by omega⟩
  unfold sp_prL; exact if_neg h
theorem sp_prL_s {n k : Nat} (hn : n = k + 1) (h : (T a).toInt = 42) (eb : b = a + 1) (q : sp_at T P V E L (b, K) = o) : sp_prL T P V E L n (t, (a, K)) = o.bind fun q => sp_prL T P V E L k (.bin (P a).toInt 42 t q.1, q.2) := by
  subst hn; subst eb; subst q
  conv => lhs; unfold sp_prL
  exact if_pos h
theorem sp_smL_n {n : Nat} (hn : 1 ≤ n) (h : (T a).toInt ≠ 43) (h2 : (T a).toInt ≠ 45) : sp_smL T P V E L n (t, (a, K)) = some (t, (a, K)) := by
  obtain ⟨k, rfl⟩ : ∃ k, n = k + 1 := ⟨n - 1, by omega⟩
  unfold sp_smL; exact if_neg (fun g => g.elim h h2)
theorem sp_smL_s {n k : Nat} (hn : n = k + 1) (h : (T a).toInt = 43 ∨ (T a).toInt = 45) (eb : b = a + 1) (q : sp_pt T P V E L (b, K) = o) : sp_smL T P V E L n (t, (a, K)) = o.bind fun q => sp_smL T P V E L k (.bin (P a).toInt (T a).toInt t q.1, q.2) := by
  subst hn; subst eb; subst q
  conv => lhs; unfold sp_smL
  exact if_pos h
theorem sp_cm_y (q : sp_sm T P V E L (a, K) = some s1) (h : (T s1.2.1).toInt = 60) (eb : b = s1.2.1 + 1) (q2 : sp_sm T P V E L (b, s1.2.2) = o) : sp_cm T P V E L (a, K) = o.bind fun q => some (.bin (P s1.2.1).toInt 60 s1.1 q.1, q.2) := by
  unfold sp_cm; rw [sp_b1 q, if_pos h, show sp_to s1.2 (s1.2.1 + 1) = (b, s1.2.2) by rw [eb]; rfl, ← q2]
theorem sp_cm_n (q : sp_sm T P V E L (a, K) = some s1) (h : (T s1.2.1).toInt ≠ 60) : sp_cm T P V E L (a, K) = some s1 := by
  unfold sp_cm; rw [sp_b1 q, if_neg h]
theorem sp_cm_x (q : sp_sm T P V E L (a, K) = none) : sp_cm T P V E L (a, K) = none := sp_bx q
theorem sp_at_num (h : (T a).toInt = 260) (eb : b = a + 1) : sp_at T P V E L (a, K) = some (.num (P a).toInt (Int64.toInt32 (V a)).toInt, (b, K)) := by
  subst eb; unfold sp_at; exact if_pos h
theorem sp_at_nm (h : (T a).toInt = 258) : sp_at T P V E L (a, K) = if (T (a + 1)).toInt = 40 then (sp_ar T E 2000 L 2001 .nil (a + 1, K)).bind fun q => some (.call (P a).toInt (V a) q.1, sp_ca q.2 (V a) (tm_ln q.1 : Int)) else if V a ∈ L then some (.use (P a).toInt (sp_ix L (V a)), (a + 1, K)) else some (.call (P a).toInt (V a) .nil, sp_ca (a + 1, K) (V a) 0) := by
  unfold sp_at
  rw [if_neg (by show ¬ (T a).toInt = 260; omega)]
  exact if_pos h
theorem sp_at_nmc {r : Tm} {s : sp_S} {n : Int} (h : (T a).toInt = 258) (eb : b = a + 1) (h2 : (T b).toInt = 40) (q : sp_ar T E 2000 L 2001 .nil (b, K) = some (r, s)) (hn : (tm_ln r : Int) = n) : sp_at T P V E L (a, K) = some (.call (P a).toInt (V a) r, sp_ca s (V a) n) := by
  subst hn; subst eb; rw [sp_at_nm h, if_pos h2, q]; rfl
theorem sp_at_nmx (h : (T a).toInt = 258) (eb : b = a + 1) (h2 : (T b).toInt = 40) (q : sp_ar T E 2000 L 2001 .nil (b, K) = none) : sp_at T P V E L (a, K) = none := by
  subst eb; rw [sp_at_nm h, if_pos h2, q]; rfl
theorem sp_at_nmu (h : (T a).toInt = 258) (eb : b = a + 1) (h2 : (T b).toInt ≠ 40) (hm : V a ∈ L) : sp_at T P V E L (a, K) = some (.use (P a).toInt (sp_ix L (V a)), (b, K)) := by
  subst eb; rw [sp_at_nm h, if_neg h2, if_pos hm]
theorem sp_at_nma (h : (T a).toInt = 258) (eb : b = a + 1) (h2 : (T b).toInt ≠ 40) (hm : V a ∉ L) : sp_at T P V E L (a, K) = some (.call (P a).toInt (V a) .nil, sp_ca (b, K) (V a) 0) := by
  subst eb; rw [sp_at_nm h, if_neg h2, if_neg hm]
theorem sp_at_kd (h : (T a).toInt = 259) : sp_at T P V E L (a, K) = (sp_ki V (a, K)).bind fun q => if (T (a + 1)).toInt = 40 then (sp_ar T E 3 L 2001 .nil (sp_to q.2 (a + 1))).bind fun q2 => (sp_te q.1 (tm_ln q2.1 : Int) q2.2).bind fun s3 => some (.made (P a).toInt q.1 q2.1, s3) else (sp_te q.1 0 (sp_to q.2 (a + 1))).bind fun s3 => some (.made (P a).toInt q.1 .nil, s3) := by
  unfold sp_at
  rw [if_neg (by show ¬ (T a).toInt = 260; omega), if_neg (by show ¬ (T a).toInt = 258; omega)]
  exact if_pos h
theorem sp_at_kdx {wd : Int64} {kz : Int32} {kw : Nat → Int64} {kf : Nat → Int32} {C : List (Int64 × Int)} (h : (T a).toInt = 259) (ew : V a = wd) (hk : sp_kh wd kz kw kf none) : sp_at T P V E L (a, Int32.toNatClampNeg kz, kw, kf, C) = none := by
  rw [sp_at_kd h, hk V a C ew]; rfl
theorem sp_at_kda {wd : Int64} {kz r kz2 fi : Int32} {kw kw2 : Nat → Int64} {kf kf2 : Nat → Int32} {o3 : Option (Nat → Int32)} {C : List (Int64 × Int)} (h : (T a).toInt = 259) (ew : V a = wd) (hk : sp_kh wd kz kw kf (some (r, kz2, kw2, kf2))) (eb : b = a + 1) (h2 : (T b).toInt ≠ 40) (hf : fi.toInt = 0) (ht : sp_td r fi kf2 o3) : sp_at T P V E L (a, Int32.toNatClampNeg kz, kw, kf, C) = o3.map (fun q => (.made (P a).toInt (Int32.toNatClampNeg r) .nil, (b, Int32.toNatClampNeg kz2, kw2, q, C))) := by
  subst eb
  have := ht (a + 1) (Int32.toNatClampNeg kz2) kw2 C
  rw [hf] at this
  rw [sp_at_kd h, hk V a C ew]
  show (if (T (a + 1)).toInt = 40 then _ else (sp_te (Int32.toNatClampNeg r) 0 (a + 1, Int32.toNatClampNeg kz2, kw2, kf2, C)).bind _) = _
  rw [if_neg h2, this]
  cases o3 <;> rfl
theorem sp_at_kdf {wd : Int64} {kz r kz2 : Int32} {kw kw2 : Nat → Int64} {kf kf2 : Nat → Int32} {C : List (Int64 × Int)} (h : (T a).toInt = 259) (ew : V a = wd) (hk : sp_kh wd kz kw kf (some (r, kz2, kw2, kf2))) (eb : b = a + 1) (h2 : (T b).toInt = 40) (q : sp_ar T E 3 L 2001 .nil (b, Int32.toNatClampNeg kz2, kw2, kf2, C) = none) : sp_at T P V E L (a, Int32.toNatClampNeg kz, kw, kf, C) = none := by
  subst eb
  rw [sp_at_kd h, hk V a C ew]
  show (if (T (a + 1)).toInt = 40 then (sp_ar T E 3 L 2001 .nil (a + 1, Int32.toNatClampNeg kz2, kw2, kf2, C)).bind _ else _) = _
  rw [if_pos h2, q]; rfl
theorem sp_at_kdt {wd : Int64} {kz r kz2 fi kz3 : Int32} {kw kw2 kw3 : Nat → Int64} {kf kf2 kf3 : Nat → Int32} {o3 : Option (Nat → Int32)} {C C3 : List (Int64 × Int)} {ta : Tm} (h : (T a).toInt = 259) (ew : V a = wd) (hk : sp_kh wd kz kw kf (some (r, kz2, kw2, kf2))) (eb : b = a + 1) (h2 : (T b).toInt = 40) (q : sp_ar T E 3 L 2001 .nil (b, Int32.toNatClampNeg kz2, kw2, kf2, C) = some (ta, (c, Int32.toNatClampNeg kz3, kw3, kf3, C3))) (hf : (tm_ln ta : Int) = fi.toInt) (ht : sp_td r fi kf3 o3) : sp_at T P V E L (a, Int32.toNatClampNeg kz, kw, kf, C) = o3.map (fun q => (.made (P a).toInt (Int32.toNatClampNeg r) ta, (c, Int32.toNatClampNeg kz3, kw3, q, C3))) := by
  subst eb
  have := ht c (Int32.toNatClampNeg kz3) kw3 C3
  rw [sp_at_kd h, hk V a C ew]
  show (if (T (a + 1)).toInt = 40 then (sp_ar T E 3 L 2001 .nil (a + 1, Int32.toNatClampNeg kz2, kw2, kf2, C)).bind _ else _) = _
  rw [if_pos h2, q]
  show (sp_te (Int32.toNatClampNeg r) (tm_ln ta : Int) (c, Int32.toNatClampNeg kz3, kw3, kf3, C3)).bind _ = _
  rw [hf, this]
  cases o3 <;> rfl
theorem sp_at_br (h : (T a).toInt = 40) : sp_at T P V E L (a, K) = (E L (a + 1, K)).bind fun q => if (T q.2.1).toInt = 41 then some (q.1, sp_to q.2 (q.2.1 + 1)) else none := by
  unfold sp_at
  rw [if_neg (by show ¬ (T a).toInt = 260; omega), if_neg (by show ¬ (T a).toInt = 258; omega), if_neg (by show ¬ (T a).toInt = 259; omega)]
  exact if_pos h
theorem sp_at_brx (h : (T a).toInt = 40) (eb : b = a + 1) (q : E L (b, K) = none) : sp_at T P V E L (a, K) = none := by subst eb; rw [sp_at_br h, q]; rfl
theorem sp_at_br1 (h : (T a).toInt = 40) (eb : b = a + 1) (q : E L (b, K) = some s1) (h2 : (T s1.2.1).toInt ≠ 41) : sp_at T P V E L (a, K) = none := by subst eb; rw [sp_at_br h, q]; exact if_neg h2
theorem sp_at_bry (h : (T a).toInt = 40) (eb : b = a + 1) (q : E L (b, K) = some s1) (h2 : (T s1.2.1).toInt = 41) (ec : c = s1.2.1 + 1) : sp_at T P V E L (a, K) = some (s1.1, (c, s1.2.2)) := by subst eb; rw [sp_at_br h, q]; refine (if_pos h2).trans ?_; rw [ec]; rfl
theorem sp_at_no (h1 : (T a).toInt ≠ 260) (h2 : (T a).toInt ≠ 258) (h3 : (T a).toInt ≠ 259) (h4 : (T a).toInt ≠ 40) : sp_at T P V E L (a, K) = none := by
  unfold sp_at
  rw [if_neg h1, if_neg h2, if_neg h3, if_neg h4]
end
