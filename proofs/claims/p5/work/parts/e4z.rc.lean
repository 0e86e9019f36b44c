section
/-! the reference's counted run: works, the rest -/
section
variable {B : Nat → Nat → Int32} {J : Nat → Int64 → Prop} {z zk : Nat} {fd us bh ma : Nat → Int32} {F : sp_F} {lim : Int} {al : Nat} {s0 : cm_S} {gi : Int} {tw tp w1 p1 w2 p2 w3 p3 : Nat → Int32} {ts : Nat} {va va2 : Nat → Int64} {vd : Nat} {sl : Nat → Int64} {pr pr2 : Nat → Int32} {o n : Nat} {ck gc gc2 : Nat → Int32} {cf : Nat → Int64} {fr : Nat → Int32} {fc : Int} {sh sa sq : Nat → Int32} {sc md ru : Nat} {mo : Int} {db db2 om : Nat} {k : Int32} {t : Tm} {K : List (Nat × Tm)} {V : List Int64} {e' : Nat → Int64} {E' : List (Nat → Int64)} {c : Nat} {ck' : Nat → Int32} {cf' : Nat → Int64} {S : List (Nat × Nat × Nat)} {ph : Nat → Nat} {lv : Nat → Bool} {gA gA2 : Nat → Int} {o' d : Nat}
/-- let, if -/
theorem rc_67 {x1 x2 : Int32} (h : rCO B J z zk fd bh ma F lim al s0 gi tw tp ts va vd sl pr o n ck gc cf fr fc sh sa sq sc md ru mo db om 0 k t K V e' E' c ck' cf' S ph lv gA o' d) (hb1 : ∀ (x t2 : Tm), rAt B J z x (B 3 (Int32.toNatClampNeg k)) → sy_x x → rAt B J z t2 k → sy_x t2 → (∀ i, tm_ub t i = (tm_ub x i || tm_dn t2 i)) → ∀ j, j < 32 → zbit (bh (Int32.toNatClampNeg (B 3 (Int32.toNatClampNeg k)))) j = (zbit (bh (Int32.toNatClampNeg k)) j || tm_dn t2 j)) (hn : n ≠ al) (hw : (B 0 (Int32.toNatClampNeg k)).toInt = 6 ∨ (B 0 (Int32.toNatClampNeg k)).toInt = 7) (hx1 : x1.toInt = 1) (hx2 : x2.toInt = 0) (a1 : zTa tw w1 ts x1) (b1 : zTa tp p1 ts k) (a2 : zTa w1 w2 (ts + 1) x2) (b2 : zTa p1 p2 (ts + 1) (B 3 (Int32.toNatClampNeg k))) : rCS B J z zk fd bh ma F lim al s0 gi w2 p2 (ts + 2) va vd sl pr o (n + 1) ck gc cf fr fc sh sa sq sc md ru mo db om := by
  obtain ⟨h1, ⟨h2, h3, h4⟩, ⟨h5, h6, h7, h8, h9⟩, h10, r1, r2, r3, r4, r5, r6⟩ := h
  obtain ⟨k0, kz, kp, kc⟩ := rA_c t h3 h2 rfl h7
  rcases kc with q | q | q | q | q | q
  · exact absurd q.1 (by omega)
  · exact absurd q.1 (by omega)
  · exact absurd q.1 (by omega)
  · exact absurd q.1 (by omega)
  · obtain ⟨-, x, t2, ⟨c1, c2, c3⟩, ⟨q4, q5, q6⟩, q8, q9⟩ := q
    have n2 : ∀ i, nF ((0, x) :: (1, t2) :: K) i = nF ((0, t) :: K) i := fun i => by rw [nF_0, nF_1, nF_0, q8 i, Bool.or_assoc]
    subst h5
    refine ⟨_, _, _, c, ck', cf', S, ph, lv, gA, d, cm_re_s h1 ((cm_st_0 hn).trans (q9 _ _ _ _ _ _ _ _)), ⟨h6, ?_⟩, rPb_n h10 (fun _ _ => rfl) (fun j hj => by rw [n2 j]; exact h10.1 j hj) rfl, ?_, r2, hZ_R r3 (fun w => ?_), r4, r5, ?_⟩
    · exact rNc_c (Or.inl rfl) c3 (fun i g => h8 i (by show tm_ub t i = true; rw [q8 i, show tm_ub x i = true from g]; rfl)) (rNc_c (Or.inr rfl) q6 (fun i g => h8 i (by show tm_ub t i = true; rw [q8 i, show tm_dn t2 i = true from g, Bool.or_true])) h9)
    · refine rTc_a (rTc_a r1 a1 b1 (Or.inl ⟨Or.inr ⟨rfl, hx1⟩, q4, q5, h4⟩)) a2 b2 (Or.inl ⟨Or.inl ⟨rfl, hx2⟩, c1, c2, fun i hi => ?_⟩)
      rw [hb1 x t2 c1 c2 q4 q5 q8 i hi, h4 i hi, nF_1, Bool.or_comm]
    · show mRv V w + mRn (e' :: E') _ w = mRv V w + mRn (e' :: E') ((0, t) :: K) w
      rw [mRn_e (K2 := (0, x) :: (1, t2) :: K) (K := (0, t) :: K) (e := e') (fun i _ => n2 i) rfl (fun _ _ _ => rfl)]
    · exact Or.inr (Or.inr ⟨by decide, by decide, Or.inr (Or.inr ⟨by decide, by decide, r6⟩)⟩)
  · exact absurd q.1 (by omega)
theorem rNc_as {K : List (Nat × Tm)} {e : Nat → Int64} {E' : List (Nat → Int64)} {o' d : Nat} (r : rNc ph zk fd sl K (e :: E') (o' + 1) d) : ∀ (x : Tm), tm_li x → tm_wf zk fd x d → (∀ i, tm_ub x i = true → vr ph (e i) (sl (24 * o' + i))) → rNc ph zk fd sl (pm_as x ++ K) (e :: E') (o' + 1) d
  | .leaf none, _, _, _ => r
  | .branch (_ + 3) x y, hl, hw, hu => rNc_c (j := 0) (t := x) (K := pm_as y ++ K) (Or.inl rfl) hw.1 (fun i hi => hu i (by show (tm_ub x i || tm_ub y i) = true; rw [show tm_ub x i = true from hi]; rfl)) (rNc_as r y hl hw.2 (fun i hi => hu i (by show (tm_ub x i || tm_ub y i) = true; rw [hi, Bool.or_true])))
  | .leaf (some (0, _, _, _, _, _)), g, _, _ => g.elim
  | .leaf (some (_ + 1, _, _, _, _, _)), g, _, _ => g.elim
  | .branch 0 (.leaf (some (0, _, _, _, _, _))) _, g, _, _ => g.elim
  | .branch 0 (.leaf (some (1, _, _, _, _, _))) _, g, _, _ => g.elim
  | .branch 1 (.leaf (some (0, _, _, _, _, _))) (.branch _ _ _), g, _, _ => g.elim
  | .branch 1 (.leaf (some (_ + 1, _, _, _, _, _))) (.branch _ _ _), g, _, _ => g.elim
  | .branch 2 (.leaf (some (_, _, _, _, _, _))) (.branch _ _ (.branch _ _ _)), g, _, _ => g.elim
  | .branch 0 (.leaf (some (2, _, _, _, _, _))) _, g, _, _ => g.elim
  | .branch 0 (.leaf (some (_ + 3, _, _, _, _, _))) _, g, _, _ => g.elim
  | .branch 0 (.leaf none) _, g, _, _ => g.elim
  | .branch 0 (.branch _ _ _) _, g, _, _ => g.elim
  | .branch 1 (.leaf none) _, g, _, _ => g.elim
  | .branch 1 (.branch _ _ _) _, g, _, _ => g.elim
  | .branch 1 (.leaf (some (0, _, _, _, _, _))) (.leaf _), g, _, _ => g.elim
  | .branch 1 (.leaf (some (_ + 1, _, _, _, _, _))) (.leaf _), g, _, _ => g.elim
  | .branch 2 (.leaf none) _, g, _, _ => g.elim
  | .branch 2 (.branch _ _ _) _, g, _, _ => g.elim
  | .branch 2 (.leaf (some (_, _, _, _, _, _))) (.leaf _), g, _, _ => g.elim
  | .branch 2 (.leaf (some (_, _, _, _, _, _))) (.branch _ _ (.leaf _)), g, _, _ => g.elim
theorem rSo_as {K : List (Nat × Tm)} {o : Nat} (r : rSo ph c K o S) : ∀ (x : Tm), tm_li x → rSo ph c (pm_as x ++ K) o S
  | .leaf none, _ => r
  | .branch (_ + 3) x y, hl => Or.inr (Or.inr ⟨by decide, by decide, rSo_as r y hl⟩)
  | .leaf (some (0, _, _, _, _, _)), g => g.elim
  | .leaf (some (_ + 1, _, _, _, _, _)), g => g.elim
  | .branch 0 (.leaf (some (0, _, _, _, _, _))) _, g => g.elim
  | .branch 0 (.leaf (some (1, _, _, _, _, _))) _, g => g.elim
  | .branch 1 (.leaf (some (0, _, _, _, _, _))) (.branch _ _ _), g => g.elim
  | .branch 1 (.leaf (some (_ + 1, _, _, _, _, _))) (.branch _ _ _), g => g.elim
  | .branch 2 (.leaf (some (_, _, _, _, _, _))) (.branch _ _ (.branch _ _ _)), g => g.elim
  | .branch 0 (.leaf (some (2, _, _, _, _, _))) _, g => g.elim
  | .branch 0 (.leaf (some (_ + 3, _, _, _, _, _))) _, g => g.elim
  | .branch 0 (.leaf none) _, g => g.elim
  | .branch 0 (.branch _ _ _) _, g => g.elim
  | .branch 1 (.leaf none) _, g => g.elim
  | .branch 1 (.branch _ _ _) _, g => g.elim
  | .branch 1 (.leaf (some (0, _, _, _, _, _))) (.leaf _), g => g.elim
  | .branch 1 (.leaf (some (_ + 1, _, _, _, _, _))) (.leaf _), g => g.elim
  | .branch 2 (.leaf none) _, g => g.elim
  | .branch 2 (.branch _ _ _) _, g => g.elim
  | .branch 2 (.leaf (some (_, _, _, _, _, _))) (.leaf _), g => g.elim
  | .branch 2 (.leaf (some (_, _, _, _, _, _))) (.branch _ _ (.leaf _)), g => g.elim
/-- arguments: tasks with what is needed behind each -/
theorem rTc_as {t0 : Nat} {b0 : Nat → Bool} (hu : ∀ (t : Tm) (k : Int32), sy_x t → rAt B J z t k → ∀ j, j < 32 → zbit (us (Int32.toNatClampNeg k)) j = tm_ub t j) (hK : rTc B J z bh ph tw tp K t0) (hb0 : ∀ i, i < 32 → b0 i = nF K i) : ∀ (x : Tm) {R : List Nat} {fr : Int32} {a b : Nat}, tm_li x → tm_sy x false → rI B J x fr a b → b ≤ z → zli (B 6) fr R → (∀ i, i < R.length → (tw (t0 + i)).toInt = 0 ∧ (tp (t0 + i)).toInt = ((R.getD (R.length - 1 - i) 0 : Nat) : Int)) → (∀ D r E, R = D ++ r :: E → ∀ j, j < 32 → zbit (bh r) j = (b0 j || E.any (zKf us j))) → rTc B J z bh ph tw tp (pm_as x ++ K) (t0 + R.length) ∧ ∀ j, j < 32 → R.any (zKf us j) = tm_ub x j
  | .leaf none, [], _, _, _, _, _, _, _, _, _, _ => ⟨hK, fun _ _ => rfl⟩
  | .leaf none, r :: R, fr, a, b, _, _, h, _, g, _, _ => absurd g.1 (by have := h.2; omega)
  | .branch (_ + 3) x y, [], fr, a, b, _, _, ⟨m, h1, h2, h3, h4⟩, _, g, _, _ => absurd (show fr.toInt = -1 from g) (by omega)
  | .branch (_ + 3) x y, r :: R, fr, a, b, hl, hs, ⟨m, h1, h2, h3, h4⟩, hb, g, hg, hbb => by
    have er : r = m - 1 := by have := g.1; omega
    have l := rI_le y h4
    obtain ⟨ih1, ih2⟩ := rTc_as hu hK hb0 y (R := R) hl hs.2 h4 hb (by rw [← er]; exact g.2) (fun i hi => by
      have u := hg i (by rw [List.length_cons]; omega)
      rw [List.length_cons, show R.length + 1 - 1 - i = (R.length - 1 - i) + 1 from by omega] at u
      exact u) (fun D r' E e => hbb (r :: D) r' E (by rw [e]; rfl))
    have u := hg R.length (by rw [List.length_cons]; omega)
    rw [List.length_cons, show R.length + 1 - 1 - R.length = 0 from by omega] at u
    have u2 : (tp (t0 + R.length)).toInt = ((r : Nat) : Int) := u.2
    have at_ : rAt B J z x (tp (t0 + R.length)) := ⟨a, m, by omega, by omega, by omega, h1, h2.2⟩
    have eN : Int32.toNatClampNeg (tp (t0 + R.length)) = r := zn_lit u2
    refine ⟨⟨t0 + R.length, rfl, ih1, Or.inl ⟨Or.inl ⟨rfl, u.1⟩, at_, hs.1, fun i hi => ?_⟩⟩, fun j hj => ?_⟩
    · show _ = nF (pm_as y ++ K) i
      rw [eN, hbb [] r R rfl i hi, ih2 i hi, nF_as y hl, hb0 i hi, Bool.or_comm]
    · rw [List.any_cons, ih2 j hj, show zKf us j r = tm_ub x j from by rw [← hu x _ hs.1 at_ j hj, eN]; rfl]; rfl
  | .leaf (some (0, _, _, _, _, _)), _, _, _, _, g, _, _, _, _, _, _ => g.elim
  | .leaf (some (_ + 1, _, _, _, _, _)), _, _, _, _, g, _, _, _, _, _, _ => g.elim
  | .branch 0 (.leaf (some (0, _, _, _, _, _))) _, _, _, _, _, g, _, _, _, _, _, _ => g.elim
  | .branch 0 (.leaf (some (1, _, _, _, _, _))) _, _, _, _, _, g, _, _, _, _, _, _ => g.elim
  | .branch 1 (.leaf (some (0, _, _, _, _, _))) (.branch _ _ _), _, _, _, _, g, _, _, _, _, _, _ => g.elim
  | .branch 1 (.leaf (some (_ + 1, _, _, _, _, _))) (.branch _ _ _), _, _, _, _, g, _, _, _, _, _, _ => g.elim
  | .branch 2 (.leaf (some (_, _, _, _, _, _))) (.branch _ _ (.branch _ _ _)), _, _, _, _, g, _, _, _, _, _, _ => g.elim
  | .branch 0 (.leaf (some (2, _, _, _, _, _))) _, _, _, _, _, g, _, _, _, _, _, _ => g.elim
  | .branch 0 (.leaf (some (_ + 3, _, _, _, _, _))) _, _, _, _, _, g, _, _, _, _, _, _ => g.elim
  | .branch 0 (.leaf none) _, _, _, _, _, g, _, _, _, _, _, _ => g.elim
  | .branch 0 (.branch _ _ _) _, _, _, _, _, g, _, _, _, _, _, _ => g.elim
  | .branch 1 (.leaf none) _, _, _, _, _, g, _, _, _, _, _, _ => g.elim
  | .branch 1 (.branch _ _ _) _, _, _, _, _, g, _, _, _, _, _, _ => g.elim
  | .branch 1 (.leaf (some (0, _, _, _, _, _))) (.leaf _), _, _, _, _, g, _, _, _, _, _, _ => g.elim
  | .branch 1 (.leaf (some (_ + 1, _, _, _, _, _))) (.leaf _), _, _, _, _, g, _, _, _, _, _, _ => g.elim
  | .branch 2 (.leaf none) _, _, _, _, _, g, _, _, _, _, _, _ => g.elim
  | .branch 2 (.branch _ _ _) _, _, _, _, _, g, _, _, _, _, _, _ => g.elim
  | .branch 2 (.leaf (some (_, _, _, _, _, _))) (.leaf _), _, _, _, _, g, _, _, _, _, _, _ => g.elim
  | .branch 2 (.leaf (some (_, _, _, _, _, _))) (.branch _ _ (.leaf _)), _, _, _, _, g, _, _, _, _, _, _ => g.elim
theorem rc_34 {R : List Nat} {x : Int32} (h : rCO B J z zk fd bh ma F lim al s0 gi tw tp ts va vd sl pr o n ck gc cf fr fc sh sa sq sc md ru mo db om 0 k t K V e' E' c ck' cf' S ph lv gA o' d) (hu : ∀ (t : Tm) (k : Int32), sy_x t → rAt B J z t k → ∀ j, j < 32 → zbit (us (Int32.toNatClampNeg k)) j = tm_ub t j) (hbb : ∀ D r E, R = D ++ r :: E → ∀ j, j < 32 → zbit (bh r) j = (zbit (bh (Int32.toNatClampNeg k)) j || E.any (zKf us j))) (hn : n ≠ al) (hw : (B 0 (Int32.toNatClampNeg k)).toInt = 3 ∨ (B 0 (Int32.toNatClampNeg k)).toInt = 4) (hx : x.toInt = 1) (a1 : zTa tw w1 ts x) (b1 : zTa tp p1 ts k) (hR : zli (B 6) (B 3 (Int32.toNatClampNeg k)) R) (hpu : (∀ i, i < ts + 1 → w2 i = w1 i ∧ p2 i = p1 i) ∧ ∀ i, i < R.length → (w2 (ts + 1 + i)).toInt = 0 ∧ (p2 (ts + 1 + i)).toInt = ((R.getD (R.length - 1 - i) 0 : Nat) : Int)) : rCS B J z zk fd bh ma F lim al s0 gi w2 p2 (ts + 1 + R.length) va vd sl pr o (n + 1) ck gc cf fr fc sh sa sq sc md ru mo db om := by
  obtain ⟨h1, ⟨h2, h3, h4⟩, ⟨h5, h6, h7, h8, h9⟩, h10, r1, r2, r3, r4, r5, r6⟩ := h
  obtain ⟨k0, kz, kp, kc⟩ := rA_c t h3 h2 rfl h7
  rcases kc with q | q | q | q | q | q
  · exact absurd q.1 (by omega)
  · exact absurd q.1 (by omega)
  · obtain ⟨-, y, t2, a, q1, q2, q3, ⟨q4, q5, q6, q7⟩, q8, q9, q10⟩ := q
    have n1 : ∀ i, nF ((1, t2) :: K) i = nF K i := fun i => by rw [nF_1, q7 i, Bool.false_or]
    have n2 : ∀ i, nF (pm_as y ++ (1, t2) :: K) i = nF ((0, t) :: K) i := fun i => by rw [nF_as y q1, n1 i, nF_0, q9 i]
    have hT : rTc B J z bh ph w2 p2 ((1, t2) :: K) (ts + 1) := rTc_cg (fun i hi => hpu.1 i hi) (rTc_a r1 a1 b1 (Or.inl ⟨Or.inr ⟨rfl, hx⟩, q4, q5, h4⟩))
    subst h5
    refine ⟨pm_as y ++ (1, t2) :: K, _, _, c, ck', cf', S, ph, lv, gA, d, cm_re_s h1 ((cm_st_0 hn).trans (q10 _ _ _ _ _ _ _ _)), ⟨h6, ?_⟩, rPb_n h10 (fun _ _ => rfl) (fun j hj => by rw [n2 j]; exact h10.1 j hj) (by rw [aF_as y q1]; rfl), ?_, r2, hZ_R r3 (fun w => ?_), r4, r5, ?_⟩
    · exact rNc_as (rNc_c (Or.inr rfl) q6 (fun i g => by have g : tm_dn t2 i = true := g; rw [q7 i] at g; cases g) h9) y q1 q8 (fun i g => h8 i (by show tm_ub t i = true; rw [q9 i]; exact g))
    · exact (rTc_as (us := us) (b0 := fun i => zbit (bh (Int32.toNatClampNeg k)) i) hu hT (fun i hi => by rw [h4 i hi, n1 i]) y q1 q2 q3 (by omega) hR hpu.2 hbb).1
    · show mRv V w + mRn (e' :: E') _ w = mRv V w + mRn (e' :: E') ((0, t) :: K) w
      rw [mRn_e (K2 := pm_as y ++ (1, t2) :: K) (K := (0, t) :: K) (e := e') (fun i _ => n2 i) (by rw [aF_as y q1]; rfl) (fun _ _ _ => rfl)]
    · exact rSo_as (show rSo ph c ((1, t2) :: K) (o' + 1) S from Or.inr (Or.inr ⟨by decide, by decide, r6⟩)) y q1
  · exact absurd q.1 (by omega)
  · exact absurd q.1 (by omega)
  · exact absurd q.1 (by omega)
end

end
section
/-! what is done behind operands, counted -/
section
variable {B : Nat → Nat → Int32} {J : Nat → Int64 → Prop} {z zk : Nat} {fd : Nat → Int32}
theorem rA_e {k : Int32} {n d : Nat} : ∀ (t : Tm), sy_x t → rAt B J z t k → n = Int32.toNatClampNeg k → tm_wf zk fd t d → 0 ≤ k.toInt ∧ n < z ∧
    (((B 0 n).toInt = 1 ∨ (B 0 n).toInt = 2 ∨ (B 0 n).toInt = 8) ∨
    ((B 0 n).toInt = 3 ∧ (∀ i, tm_dn t i = false) ∧ ∃ wd, J n wd ∧ ∀ (F : sp_F) (lim : Int) (K0 K : List (Nat × Tm)) (V : List Int64) (E : List (Nat → Int64)) (u c : Nat) (ck : Nat → Int32) (cf : Nat → Int64) (X : cm_X), cm_d F fd lim t K0 K V E u c ck cf X = if 100 ≤ E.length then .error (4, (B 1 n).toInt, ((K0, V, E, u, c, ck, cf), X)) else .ok (((0, F.2.2.2 (sp_fi F.2.1 wd F.1)) :: (2, Tm.nil) :: K, V.drop (F.2.2.1 (sp_fi F.2.1 wd F.1)).toNat, pm_ae V (F.2.2.1 (sp_fi F.2.1 wd F.1)).toNat :: E, u, c, ck, cf), (X.1, X.2.1, X.2.2.1, X.2.2.2.1, X.2.2.2.2.1, max X.2.2.2.2.2 (E.length + 1)))) ∨
    ((B 0 n).toInt = 4 ∧ (∀ i, tm_dn t i = false) ∧ ∃ (m q : Nat), (B 2 n).toInt = (q : Int) ∧ (B 7 n).toInt = (m : Int) ∧ q < zk ∧ (fd q).toInt = (m : Int) ∧ ∀ (F : sp_F) (lim : Int) (K0 K : List (Nat × Tm)) (V : List Int64) (E : List (Nat → Int64)) (u c : Nat) (ck : Nat → Int32) (cf : Nat → Int64) (X : cm_X), cm_d F fd lim t K0 K V E u c ck cf X = if m = 0 then .ok ((K, pv1 (B 2 n) :: V, E, u, c, ck, cf), X) else match sh_f E.length m X.1 with
      | some i => .ok ((K, pv2 (Int32.ofInt (c : Int)) :: V.drop m, E, u, c + 1, upd ck c (B 2 n), pm_cf cf V c m), (sh_r i X.1, X.2.1, X.2.2.1 + 1, X.2.2.2))
      | none => if lim ≤ cm_hl fd ((K0, V, E, u, c, ck, cf), X) then .error (3, (B 1 n).toInt, ((K0, V, E, u, c, ck, cf), X)) else .ok ((K, pv2 (Int32.ofInt (c : Int)) :: V.drop m, E, u, c + 1, upd ck c (B 2 n), pm_cf cf V c m), (X.1, X.2.1 + 1, X.2.2.1, max X.2.2.2.1 (cm_hl fd ((K0, V, E, u, c, ck, cf), X) + 1), X.2.2.2.2))) ∨
    ((B 0 n).toInt = 5 ∧ (∀ i, tm_dn t i = false) ∧ ∀ (F : sp_F) (lim : Int) (K0 K : List (Nat × Tm)) (V : List Int64) (E : List (Nat → Int64)) (u c : Nat) (ck : Nat → Int32) (cf : Nat → Int64) (X : cm_X), (zhs (V.getD 1 0) = 0 ∧ zhs (V.getD 0 0) = 0 → cm_d F fd lim t K0 K V E u c ck cf X = .ok ((K, pv0 (pm_op (B 2 n).toInt (V.getD 1 0).toInt32 (V.getD 0 0).toInt32) :: V.drop 2, E, u, c, ck, cf), X)) ∧ (¬ (zhs (V.getD 1 0) = 0 ∧ zhs (V.getD 0 0) = 0) → cm_d F fd lim t K0 K V E u c ck cf X = .error (2, (B 1 n).toInt, ((K0, V, E, u, c, ck, cf), X)))) ∨
    ((B 0 n).toInt = 6 ∧ (B 2 n).toInt = (d : Int) ∧ d < 24 ∧ ∃ y : Tm, rAt B J z y (B 4 n) ∧ sy_x y ∧ tm_wf zk fd y (d + 1) ∧ (∀ i, tm_dn t i = (tm_ub y i && !(i == d))) ∧ ∀ (F : sp_F) (lim : Int) (K0 K : List (Nat × Tm)) (V : List Int64) (E : List (Nat → Int64)) (u c : Nat) (ck : Nat → Int32) (cf : Nat → Int64) (X : cm_X), cm_d F fd lim t K0 K V E u c ck cf X = .ok (((0, y) :: K, V.drop 1, vp_updL (E.headD (fun _ => 0)) d (V.getD 0 0) :: E.tail, u, c, ck, cf), X)) ∨
    ((B 0 n).toInt = 7 ∧ ∃ y w : Tm, (rAt B J z y (B 4 n) ∧ sy_x y ∧ tm_wf zk fd y d) ∧ (rAt B J z w (B 5 n) ∧ sy_x w ∧ tm_wf zk fd w d) ∧ (∀ i, tm_dn t i = (tm_ub y i || tm_ub w i)) ∧ ∀ (F : sp_F) (lim : Int) (K0 K : List (Nat × Tm)) (V : List Int64) (E : List (Nat → Int64)) (u c : Nat) (ck : Nat → Int32) (cf : Nat → Int64) (X : cm_X), (zhs (V.getD 0 0) = 0 → cm_d F fd lim t K0 K V E u c ck cf X = .ok (((0, if (V.getD 0 0).toInt32 = 0 then w else y) :: K, V.drop 1, E, u, c, ck, cf), X)) ∧ (zhs (V.getD 0 0) ≠ 0 → cm_d F fd lim t K0 K V E u c ck cf X = .error (2, (B 1 n).toInt, ((K0, V, E, u, c, ck, cf), X)))))
  | .leaf (some (0, p, v, _, _, _)), _, ⟨a, b, h1, h2, h3, ⟨g1, g2, g3, g4⟩, h5⟩, e, _ => by
    have hn : n = a := by have := zn_nat (x := k) (by omega); omega
    subst hn
    exact ⟨by omega, by omega, Or.inl (Or.inl g2)⟩
  | .leaf (some (_ + 1, p, _, s, _, _)), _, ⟨a, b, h1, h2, h3, ⟨g1, g2, g3, g4⟩, h5⟩, e, _ => by
    have hn : n = a := by have := zn_nat (x := k) (by omega); omega
    subst hn
    exact ⟨by omega, by omega, Or.inl (Or.inr (Or.inl g2))⟩
  | .branch 0 (.leaf (some (0, p, _, _, _, w))) x, hs, ⟨a, b, h1, h2, h3, ⟨m, g1, g2, g3, g4, g5, g6⟩, h5⟩, e, hw => by
    have hn : n = m := by have := zn_nat (x := k) (by omega); omega
    subst hn
    exact ⟨by omega, by omega, Or.inr (Or.inl ⟨g3, fun _ => rfl, w, g5, fun _ _ _ _ _ _ _ _ _ _ _ => by rw [g4]; rfl⟩)⟩
  | .branch 0 (.leaf (some (1, p, _, c, _, _))) x, hs, ⟨a, b, h1, h2, h3, ⟨m, g1, g2, g3, g4, g5, g6⟩, h5⟩, e, hw => by
    have hn : n = m := by have := zn_nat (x := k) (by omega); omega
    subst hn
    exact ⟨by omega, by omega, Or.inr (Or.inr (Or.inl ⟨g3, fun _ => rfl, tm_ln x, c, g5, g6, hw.1.1, hw.1.2, fun _ _ _ _ _ _ _ _ _ _ _ => by rw [← pi_of g5, g4]; rfl⟩))⟩
  | .branch 1 (.leaf (some (0, p, o, _, _, _))) (.branch _ x y), hs, ⟨a, b, h1, h2, h3, ⟨m, q, g1, g2, g3, g4, g5, g6, g7, g8⟩, h5⟩, e, hw => by
    have hn : n = q := by have := zn_nat (x := k) (by omega); omega
    subst hn
    refine ⟨by omega, by omega, Or.inr (Or.inr (Or.inr (Or.inl ⟨g4, fun _ => rfl, fun F lim K0 K V E u c ck cf X => ⟨fun g => ?_, fun g => ?_⟩⟩)))⟩
    · show (match (if zhs (V.getD 1 0) = 0 ∧ zhs (V.getD 0 0) = 0 then (Except.ok (K, pv0 (pm_op o (V.getD 1 0).toInt32 (V.getD 0 0).toInt32) :: V.drop 2, E, u, c, ck, cf) : Except (Nat × Int) pm_S) else .error (2, p)) with | .ok s => (Except.ok (s, X) : Except (Nat × Int × cm_S) cm_S) | .error e => .error (e.1, e.2, ((K0, V, E, u, c, ck, cf), X))) = _
      rw [if_pos g, g6]
    · show (match (if zhs (V.getD 1 0) = 0 ∧ zhs (V.getD 0 0) = 0 then (Except.ok (K, pv0 (pm_op o (V.getD 1 0).toInt32 (V.getD 0 0).toInt32) :: V.drop 2, E, u, c, ck, cf) : Except (Nat × Int) pm_S) else .error (2, p)) with | .ok s => (Except.ok (s, X) : Except (Nat × Int × cm_S) cm_S) | .error e => .error (e.1, e.2, ((K0, V, E, u, c, ck, cf), X))) = _
      rw [if_neg g, g5]
  | .branch 1 (.leaf (some (_ + 1, p, _, s, _, _))) (.branch _ x y), hs, ⟨a, b, h1, h2, h3, ⟨m, q, g1, g2, g3, g4, g5, g6, g7, g8⟩, h5⟩, e, hw => by
    have hn : n = q := by have := zn_nat (x := k) (by omega); omega
    subst hn
    have l2 := rI_1s hs.2.2.1 g2
    obtain ⟨⟨rfl, w1⟩, w2, w3⟩ := hw
    exact ⟨by omega, by omega, Or.inr (Or.inr (Or.inr (Or.inr (Or.inl ⟨g4, g6, w1, y, ⟨m, n, g8, by omega, by omega, g2, l2.2⟩, hs.2.2, w3, fun _ => rfl, fun _ _ _ _ _ _ _ _ _ _ _ => rfl⟩))))⟩
  | .branch 2 (.leaf (some (_, p, _, _, _, _))) (.branch _ x (.branch _ y w)), hs, ⟨a, b, h1, h2, h3, ⟨m, o, q, g1, g2, g9, g3, g4, g5, g6, g7, g8⟩, h5⟩, e, hw => by
    have hn : n = q := by have := zn_nat (x := k) (by omega); omega
    subst hn
    have l2 := rI_1s hs.2.2.1.1 g2
    have l3 := rI_1s hs.2.2.2.1 g9
    refine ⟨by omega, by omega, Or.inr (Or.inr (Or.inr (Or.inr (Or.inr ⟨g4, y, w, ⟨⟨m, o, g7, by omega, by omega, g2, l2.2⟩, hs.2.2.1, hw.2.1⟩, ⟨⟨o, n, g8, by omega, by omega, g9, l3.2⟩, hs.2.2.2, hw.2.2⟩, fun _ => rfl, fun F lim K0 K V E u c ck cf X => ⟨fun g => ?_, fun g => ?_⟩⟩))))⟩
    · show (match (if zhs (V.getD 0 0) = 0 then (Except.ok ((0, if (V.getD 0 0).toInt32 = 0 then w else y) :: K, V.drop 1, E, u, c, ck, cf) : Except (Nat × Int) pm_S) else .error (2, p)) with | .ok s => (Except.ok (s, X) : Except (Nat × Int × cm_S) cm_S) | .error e => .error (e.1, e.2, ((K0, V, E, u, c, ck, cf), X))) = _
      rw [if_pos g]
    · show (match (if zhs (V.getD 0 0) = 0 then (Except.ok ((0, if (V.getD 0 0).toInt32 = 0 then w else y) :: K, V.drop 1, E, u, c, ck, cf) : Except (Nat × Int) pm_S) else .error (2, p)) with | .ok s => (Except.ok (s, X) : Except (Nat × Int × cm_S) cm_S) | .error e => .error (e.1, e.2, ((K0, V, E, u, c, ck, cf), X))) = _
      rw [if_neg g, g5]
  | .branch 0 (.leaf (some (2, p, _, s, _, _))) x, hs, ⟨a, b, h1, h2, h3, ⟨m, g1, g2, g3, g4, g5⟩, h5⟩, e, hw => by
    have hn : n = m := by have := zn_nat (x := k) (by omega); omega
    subst hn
    exact ⟨by omega, by omega, Or.inl (Or.inr (Or.inr g3))⟩
  | .leaf none, hs, _, _, _ => absurd hs.1 (by decide)
  | .branch (_ + 3) _ _, hs, _, _, _ => absurd hs.1 (fun g => nomatch (show (0 : Nat) = 1 from g))
  | .branch 0 (.leaf (some (_ + 3, _, _, _, _, _))) _, hs, _, _, _ => absurd hs.1 (fun g => nomatch (show (2 : Nat) = 1 from g))
  | .branch 0 (.leaf none) _, hs, _, _, _ => absurd hs.1 (fun g => nomatch (show (0 : Nat) = 1 from g))
  | .branch 0 (.branch _ _ _) _, hs, _, _, _ => absurd hs.1 (fun g => nomatch (show (0 : Nat) = 1 from g))
  | .branch 1 (.leaf none) _, hs, _, _, _ => absurd hs.1 (fun g => nomatch (show (0 : Nat) = 1 from g))
  | .branch 1 (.branch _ _ _) _, hs, _, _, _ => absurd hs.1 (fun g => nomatch (show (0 : Nat) = 1 from g))
  | .branch 1 (.leaf (some (0, _, _, _, _, _))) (.leaf _), hs, _, _, _ => absurd hs.1 (fun g => nomatch (show (0 : Nat) = 1 from g))
  | .branch 1 (.leaf (some (_ + 1, _, _, _, _, _))) (.leaf _), hs, _, _, _ => absurd hs.1 (fun g => nomatch (show (0 : Nat) = 1 from g))
  | .branch 2 (.leaf none) _, hs, _, _, _ => absurd hs.1 (fun g => nomatch (show (0 : Nat) = 1 from g))
  | .branch 2 (.branch _ _ _) _, hs, _, _, _ => absurd hs.1 (fun g => nomatch (show (0 : Nat) = 1 from g))
  | .branch 2 (.leaf (some (_, _, _, _, _, _))) (.leaf _), hs, _, _, _ => absurd hs.1 (fun g => nomatch (show (0 : Nat) = 1 from g))
  | .branch 2 (.leaf (some (_, _, _, _, _, _))) (.branch _ _ (.leaf _)), hs, _, _, _ => absurd hs.1 (fun g => nomatch (show (0 : Nat) = 1 from g))
end

end
section
/-! the reference's counted run: what is done -/
section
variable {B : Nat → Nat → Int32} {J : Nat → Int64 → Prop} {z zk : Nat} {fd us bh ma : Nat → Int32} {F : sp_F} {lim : Int} {al : Nat} {s0 : cm_S} {gi : Int} {tw tp w1 p1 w2 p2 w3 p3 : Nat → Int32} {ts : Nat} {va va2 : Nat → Int64} {vd : Nat} {sl : Nat → Int64} {pr pr2 : Nat → Int32} {o n : Nat} {ck gc gc2 : Nat → Int32} {cf : Nat → Int64} {fr : Nat → Int32} {fc : Int} {sh sa sq : Nat → Int32} {sc md ru : Nat} {mo : Int} {db db2 om : Nat} {k : Int32} {t : Tm} {K : List (Nat × Tm)} {V : List Int64} {e' : Nat → Int64} {E' : List (Nat → Int64)} {c : Nat} {ck' : Nat → Int32} {cf' : Nat → Int64} {S : List (Nat × Nat × Nat)} {ph : Nat → Nat} {lv : Nat → Bool} {gA gA2 : Nat → Int} {lv2 : Nat → Bool} {fr2 : Nat → Int32} {fc2 : Int} {sl2 : Nat → Int64} {h1 : Nat} {o' d : Nat}
theorem cm_st_1 {n c : Nat} {t : Tm} {K : List (Nat × Tm)} {V : List Int64} {E : List (Nat → Int64)} {ck : Nat → Int32} {cf : Nat → Int64} {X : cm_X} : cm_st F fd lim al (((1, t) :: K, V, E, n, c, ck, cf), X) = cm_d F fd lim t ((1, t) :: K) K V E n c ck cf X := rfl
theorem rVc_1 (h : rVc ph (h1 + 2) va V) : vr ph (V.getD 0 0) (va (h1 + 1)) ∧ vr ph (V.getD 1 0) (va h1) := by
  have a := h.2 h1 (by omega)
  have b := h.2 (h1 + 1) (by omega)
  rw [show h1 + 2 - 1 - h1 = 1 from by omega] at a
  rw [show h1 + 2 - 1 - (h1 + 1) = 0 from by omega] at b
  exact ⟨b, a⟩
theorem rVc_0 (h : rVc ph (h1 + 1) va V) : vr ph (V.getD 0 0) (va h1) := by
  have a := h.2 h1 (by omega)
  rw [show h1 + 1 - 1 - h1 = 0 from by omega] at a
  exact a
theorem rcd_5x (h : rCO B J z zk fd bh ma F lim al s0 gi tw tp ts va (h1 + 2) sl pr o n ck gc cf fr fc sh sa sq sc md ru mo db om 1 k t K V e' E' c ck' cf' S ph lv gA o' d) (hw : (B 0 (Int32.toNatClampNeg k)).toInt = 5) (ea : ¬ (zhs (va h1) = 0 ∧ zhs (va (h1 + 1)) = 0)) : cm_ou F fd lim al s0 (2, (B 1 (Int32.toNatClampNeg k)).toInt, (((1, t) :: K, V, e' :: E', n, c, ck', cf'), (S, md, ru, mo, db, om))) := by
  obtain ⟨g1, ⟨g2, g3, g4⟩, ⟨g5, g6, g7, g8, g9⟩, g10, r1, r2, r3, r4, r5, r6⟩ := h
  obtain ⟨k0, kz, kc⟩ := rA_e t g3 g2 rfl g7
  rcases kc with q | q | q | q | q | q
  · exact absurd q (by omega)
  · exact absurd q.1 (by omega)
  · exact absurd q.1 (by omega)
  · have ev := rVc_1 r2
    exact cm_ou_s g1 (cm_st_1.trans ((q.2.2 F lim _ K V _ n c ck' cf' _).2 (fun u => ea ⟨(vr_h ev.2).trans u.1, (vr_h ev.1).trans u.2⟩)))
  · exact absurd q.1 (by omega)
  · exact absurd q.1 (by omega)
theorem rcd_5 (h : rCO B J z zk fd bh ma F lim al s0 gi tw tp ts va (h1 + 2) sl pr o n ck gc cf fr fc sh sa sq sc md ru mo db om 1 k t K V e' E' c ck' cf' S ph lv gA o' d) (hw : (B 0 (Int32.toNatClampNeg k)).toInt = 5) (ea : zhs (va h1) = 0) (eb : zhs (va (h1 + 1)) = 0) (hp : zTl va va2 h1 (pv0 (pm_op (B 2 (Int32.toNatClampNeg k)).toInt (va h1).toInt32 (va (h1 + 1)).toInt32))) : rCS B J z zk fd bh ma F lim al s0 gi tw tp ts va2 (h1 + 1) sl pr o n ck gc cf fr fc sh sa sq sc md ru mo db om := by
  obtain ⟨g1, ⟨g2, g3, g4⟩, ⟨g5, g6, g7, g8, g9⟩, g10, r1, r2, r3, r4, r5, r6⟩ := h
  obtain ⟨k0, kz, kc⟩ := rA_e t g3 g2 rfl g7
  rcases kc with q | q | q | q | q | q
  · exact absurd q (by omega)
  · exact absurd q.1 (by omega)
  · exact absurd q.1 (by omega)
  · have ev := rVc_1 r2
    obtain ⟨e1, n1⟩ := vr_n ev.1 (by rw [eb]; decide)
    obtain ⟨e2, n2⟩ := vr_n ev.2 (by rw [ea]; decide)
    have hs := (q.2.2 F lim ((1, t) :: K) K V (e' :: E') n c ck' cf' (S, md, ru, mo, db, om)).1 ⟨by rw [← e2]; exact ea, by rw [← e1]; exact eb⟩
    rw [← e1, ← e2] at hs
    have hv := (rVc_dr (q := 2) r2 (by omega)).1
    rw [Nat.add_sub_cancel] at hv
    have hv0 : zhs (pv0 (pm_op (B 2 (Int32.toNatClampNeg k)).toInt (va h1).toInt32 (va (h1 + 1)).toInt32)) ≠ 2 := by unfold pv0; rw [(zof_int _).1]; decide
    have hnf : ∀ i, nF K i = nF ((1, t) :: K) i := fun i => by rw [nF_1, q.2.1 i, Bool.false_or]
    have hl := r2.1
    subst g5
    refine ⟨K, _, _, c, ck', cf', S, ph, lv, gA, d, cm_re_s g1 (cm_st_1.trans hs), ⟨g6, g9⟩, rPb_n g10 (fun _ _ => rfl) (fun j hj => by rw [hnf j]; exact g10.1 j hj) rfl, r1, rVc_pu hv hp (Or.inl ⟨hv0, rfl⟩), hZ_R r3 (fun x => ?_), r4, r5, r6⟩
    show (zr _ x + mRv (V.drop 2) x) + mRn (e' :: E') K x = mRv V x + mRn (e' :: E') ((1, t) :: K) x
    have hm := mRv_d (x := x) (n := 2) (V := V) (by omega)
    have z2 : zs 2 (fun k => zr (V.getD (2 - 1 - k) 0) x) = 0 := by
      show 0 + zr (V.getD 1 0) x + zr (V.getD 0 0) x = 0
      rw [zr_n n1, zr_n n2]; rfl
    rw [z2] at hm
    rw [zr_n hv0, hm, mRn_e (K2 := K) (K := (1, t) :: K) (e := e') (fun i _ => hnf i) rfl (fun _ _ _ => rfl)]; omega
  · exact absurd q.1 (by omega)
  · exact absurd q.1 (by omega)
theorem rcd_7x (h : rCO B J z zk fd bh ma F lim al s0 gi tw tp ts va (h1 + 1) sl pr o n ck gc cf fr fc sh sa sq sc md ru mo db om 1 k t K V e' E' c ck' cf' S ph lv gA o' d) (hw : (B 0 (Int32.toNatClampNeg k)).toInt = 7) (ea : zhs (va h1) ≠ 0) : cm_ou F fd lim al s0 (2, (B 1 (Int32.toNatClampNeg k)).toInt, (((1, t) :: K, V, e' :: E', n, c, ck', cf'), (S, md, ru, mo, db, om))) := by
  obtain ⟨g1, ⟨g2, g3, g4⟩, ⟨g5, g6, g7, g8, g9⟩, g10, r1, r2, r3, r4, r5, r6⟩ := h
  obtain ⟨k0, kz, kc⟩ := rA_e t g3 g2 rfl g7
  rcases kc with q | q | q | q | q | q
  · exact absurd q (by omega)
  · exact absurd q.1 (by omega)
  · exact absurd q.1 (by omega)
  · exact absurd q.1 (by omega)
  · exact absurd q.1 (by omega)
  · obtain ⟨-, y, w, -, -, -, q7⟩ := q
    exact cm_ou_s g1 (cm_st_1.trans ((q7 F lim _ K V _ n c ck' cf' _).2 (fun u => ea ((vr_h (rVc_0 r2)).trans u))))
theorem rcd_3x (h : rCO B J z zk fd bh ma F lim al s0 gi tw tp ts va vd sl pr o n ck gc cf fr fc sh sa sq sc md ru mo db om 1 k t K V e' E' c ck' cf' S ph lv gA o' d) (hw : (B 0 (Int32.toNatClampNeg k)).toInt = 3) (ho : 100 ≤ o) : cm_ou F fd lim al s0 (4, (B 1 (Int32.toNatClampNeg k)).toInt, (((1, t) :: K, V, e' :: E', n, c, ck', cf'), (S, md, ru, mo, db, om))) := by
  obtain ⟨g1, ⟨g2, g3, g4⟩, ⟨g5, g6, g7, g8, g9⟩, g10, r1, r2, r3, r4, r5, r6⟩ := h
  obtain ⟨k0, kz, kc⟩ := rA_e t g3 g2 rfl g7
  rcases kc with q | q | q | q | q | q
  · exact absurd q (by omega)
  · obtain ⟨-, -, wd, q1, q2⟩ := q
    have hs := q2 F lim ((1, t) :: K) K V (e' :: E') n c ck' cf' (S, md, ru, mo, db, om)
    rw [if_pos (by rw [rNc_len g9]; omega)] at hs
    exact cm_ou_s g1 (cm_st_1.trans hs)
  · exact absurd q.1 (by omega)
  · exact absurd q.1 (by omega)
  · exact absurd q.1 (by omega)
  · exact absurd q.1 (by omega)
end

end
section
/-! let, counted -/
section
variable {B : Nat → Nat → Int32} {J : Nat → Int64 → Prop} {z zk : Nat} {fd us bh ma : Nat → Int32} {F : sp_F} {lim : Int} {al : Nat} {s0 : cm_S} {gi : Int} {tw tp w1 p1 w2 p2 w3 p3 : Nat → Int32} {ts : Nat} {va va2 : Nat → Int64} {vd : Nat} {sl : Nat → Int64} {pr pr2 : Nat → Int32} {o n : Nat} {ck gc gc2 : Nat → Int32} {cf : Nat → Int64} {fr : Nat → Int32} {fc : Int} {sh sa sq : Nat → Int32} {sc md ru : Nat} {mo : Int} {db db2 om : Nat} {k : Int32} {t : Tm} {K : List (Nat × Tm)} {V : List Int64} {e' : Nat → Int64} {E' : List (Nat → Int64)} {c : Nat} {ck' : Nat → Int32} {cf' : Nat → Int64} {S : List (Nat × Nat × Nat)} {ph : Nat → Nat} {lv : Nat → Bool} {gA gA2 : Nat → Int} {lv2 : Nat → Bool} {fr2 : Nat → Int32} {fc2 : Int} {sl2 : Nat → Int64} {h1 : Nat} {o' d : Nat}
theorem nF_wf : ∀ {K : List (Nat × Tm)} {E : List (Nat → Int64)} {o d i : Nat}, rNc ph zk fd sl K E o d → nF K i = true → i < d
  | [], _, _, _, _, _, h => by cases h
  | (j, t) :: K, E, o, d, i, ⟨e, E', o', h1, h2, h3⟩, h => by
    rcases h3 with ⟨a, -⟩ | ⟨a, r⟩ | ⟨a, d2, b, w, q, r⟩
    · subst a; rw [nF_2] at h; cases h
    · subst a; rw [nF_3] at h; exact nF_wf r h
    · have h : (pm_nd j t i || nF K i) = true := by
        rcases a with a | a
        · subst a; exact h
        · subst a; exact h
      rw [Bool.or_eq_true] at h
      rcases h with h | h
      · have := nd_wf w h; omega
      · have := nF_wf r h; omega
theorem mRn_l {K K0 K2 : List (Nat × Tm)} {y : Tm} {v : Int64} {x d : Nat} (h0 : ∀ i, nF K0 i = ((tm_ub y i && !(i == d)) || nF K i)) (h2 : ∀ i, nF K2 i = (tm_ub y i || nF K i)) (ha : aF K2 = aF K0) (hd : d < 24) (hn : nF K d = false) : mRn (vp_updL e' d v :: E') K2 x = mRn (e' :: E') K0 x + if tm_ub y d = true then zr v x else 0 := by
  have := zs_up (f := fun i => if nF K0 i = true then zr (e' i) x else 0) (g := fun i => if nF K2 i = true then zr (vp_updL e' d v i) x else 0) (n := 24) (x := d) (fun i _ hi => by
    show (if nF K2 i = true then zr (vp_updL e' d v i) x else 0) = (if nF K0 i = true then zr (e' i) x else 0)
    rw [h2 i, h0 i, beq_false_of_ne hi, zul_n hi, show (!false) = true from rfl, Bool.and_true]) hd
  have e1 : (if nF K0 d = true then zr (e' d) x else 0 : Int) = 0 := if_neg (by rw [h0 d, hn, beq_self_eq_true, show (!true) = false from rfl, Bool.and_false]; decide)
  have e2 : (if nF K2 d = true then zr (vp_updL e' d v d) x else 0 : Int) = if tm_ub y d = true then zr v x else 0 := by rw [h2 d, hn, Bool.or_false, zul_s]
  rw [e1, e2] at this
  show zs 24 _ + mRn E' (aF K2) x = zs 24 _ + mRn E' (aF K0) x + _
  rw [ha, this]; omega
/-- let: its name gets the value, or the value is dropped -/
theorem rcd_6 {x : Int32} (h : rCO B J z zk fd bh ma F lim al s0 gi tw tp ts va (h1 + 1) sl pr o n ck gc cf fr fc sh sa sq sc md ru mo db om 1 k t K V e' E' c ck' cf' S ph lv gA o' d) (hu : ∀ (t : Tm) (k : Int32), sy_x t → rAt B J z t k → ∀ j, j < 32 → zbit (us (Int32.toNatClampNeg k)) j = tm_ub t j) (hb2 : bh (Int32.toNatClampNeg (B 4 (Int32.toNatClampNeg k))) = bh (Int32.toNatClampNeg k)) (hw : (B 0 (Int32.toNatClampNeg k)).toInt = 6) (hx : x.toInt = 0) (a1 : zTa tw w2 ts x) (b1 : zTa tp p2 ts (B 4 (Int32.toNatClampNeg k))) (hz : hZ ph lv2 gA2 c (cWd fd ck') ck' cf' (fun w => (mRv (V.drop 1) w + mRn (e' :: E') ((1, t) :: K) w) + if zbit (us (Int32.toNatClampNeg (B 4 (Int32.toNatClampNeg k)))) (Int32.toNatClampNeg (B 2 (Int32.toNatClampNeg k))) = true then zr (V.getD 0 0) w else 0) (sIs S) ck gc2 cf) (hF : hF ph lv2 c (sIs S) fr2 fc2 gi) (hsl : zbit (us (Int32.toNatClampNeg (B 4 (Int32.toNatClampNeg k)))) (Int32.toNatClampNeg (B 2 (Int32.toNatClampNeg k))) = true ∧ sl2 = vp_updL sl (24 * (o - 1) + Int32.toNatClampNeg (B 2 (Int32.toNatClampNeg k))) (va h1) ∨ zbit (us (Int32.toNatClampNeg (B 4 (Int32.toNatClampNeg k)))) (Int32.toNatClampNeg (B 2 (Int32.toNatClampNeg k))) = false ∧ sl2 = sl) (hpx : ∀ i, i ≠ o - 1 → pr2 i = pr i) (hpb : ∀ j, j < 32 → zbit (pr2 (o - 1)) j = (zbit (pr (o - 1)) j || (zbit (us (Int32.toNatClampNeg (B 4 (Int32.toNatClampNeg k)))) (Int32.toNatClampNeg (B 2 (Int32.toNatClampNeg k))) && (j == Int32.toNatClampNeg (B 2 (Int32.toNatClampNeg k)))))) : rCS B J z zk fd bh ma F lim al s0 gi w2 p2 (ts + 1) va h1 sl2 pr2 o n ck gc2 cf fr2 fc2 sh sa sq sc md ru mo db om := by
  obtain ⟨g1, ⟨g2, g3, g4⟩, ⟨g5, g6, g7, g8, g9⟩, g10, r1, r2, r3, r4, r5, r6⟩ := h
  obtain ⟨k0, kz, kc⟩ := rA_e t g3 g2 rfl g7
  rcases kc with q | q | q | q | q | q
  · exact absurd q (by omega)
  · exact absurd q.1 (by omega)
  · exact absurd q.1 (by omega)
  · exact absurd q.1 (by omega)
  · obtain ⟨-, q1, q2, y, q3, q4, q5, q6, q7⟩ := q
    have hv := (rVc_dr (q := 1) r2 (by omega)).1
    rw [Nat.add_sub_cancel] at hv
    have vv := rVc_0 r2
    have hs := q7 F lim ((1, t) :: K) K V (e' :: E') n c ck' cf' (S, md, ru, mo, db, om)
    subst g5
    rw [Nat.add_sub_cancel] at hsl hpx hpb
    rw [zn_lit q1] at hsl hpb hz
    have hub : zbit (us (Int32.toNatClampNeg (B 4 (Int32.toNatClampNeg k)))) d = tm_ub y d := hu y _ q4 q3 d (by omega)
    rw [hub] at hsl hpb hz
    have hKd : nF K d = false := by
      cases g : nF K d with
      | false => rfl
      | true => exact absurd (nF_wf g9 g) (Nat.lt_irrefl _)
    have n0 : ∀ i, nF ((1, t) :: K) i = ((tm_ub y i && !(i == d)) || nF K i) := fun i => by rw [nF_1, q6 i]
    have hoth : ∀ i, i ≠ 24 * o' + d → sl2 i = sl i := fun i hi => by
      rcases hsl with ⟨-, e⟩ | ⟨-, e⟩
      · rw [e, zul_n hi]
      · rw [e]
    refine ⟨_, _, _, c, ck', cf', S, ph, lv2, gA2, d + 1, cm_re_s g1 (cm_st_1.trans hs), ⟨by omega, ?_⟩, ?_, rTc_a r1 a1 b1 (Or.inl ⟨Or.inl ⟨rfl, hx⟩, q3, q4, fun i hi => by rw [hb2, g4 i hi]⟩), hv, hZ_R hz (fun w => ?_), hF, r5, Or.inr (Or.inr ⟨by decide, by decide, r6⟩)⟩
    · show rNc ph zk fd sl2 ((0, y) :: K) (vp_updL e' d (V.getD 0 0) :: E') (o' + 1) (d + 1)
      refine rNc_c (Or.inl rfl) q5 (fun i hi => ?_) (rNc_mo (Nat.le_succ _) (rNc_hd (fun i hi => hoth i (by omega)) g6 (fun i hi => ⟨hoth _ (by omega), zul_n (by omega)⟩) g9))
      have hi2 : tm_ub y i = true := hi
      by_cases u : i = d
      · rw [u] at hi2 ⊢
        rw [zul_s]
        rcases hsl with ⟨-, e⟩ | ⟨b, -⟩
        · rw [e, zul_s]; exact vv
        · rw [hi2] at b; cases b
      · rw [hoth _ (by omega), zul_n u]
        exact g8 i (by show tm_dn t i = true; rw [q6 i, hi2, beq_false_of_ne u]; rfl)
    · refine rPb_n g10 (fun i hi => hpx i (by omega)) (fun j hj => ?_) rfl
      rw [hpb j hj, g10.1 j hj, n0 j, nF_0]
      by_cases u : j = d
      · rw [u, hKd, beq_self_eq_true]; cases tm_ub y d <;> rfl
      · rw [beq_false_of_ne u, Bool.and_false, Bool.or_false]; cases tm_ub y j <;> rfl
    · show mRv (V.drop 1) w + mRn (vp_updL e' d (V.getD 0 0) :: E') ((0, y) :: K) w = _
      rw [mRn_l (K0 := (1, t) :: K) (K2 := (0, y) :: K) (K := K) (y := y) n0 (fun i => nF_0) rfl q2 hKd]; omega
  · exact absurd q.1 (by omega)
end

end
section
/-! if, counted -/
section
variable {B : Nat → Nat → Int32} {J : Nat → Int64 → Prop} {z zk : Nat} {fd us bh ma : Nat → Int32} {F : sp_F} {lim : Int} {al : Nat} {s0 : cm_S} {gi : Int} {tw tp w1 p1 w2 p2 w3 p3 : Nat → Int32} {ts : Nat} {va va2 : Nat → Int64} {vd : Nat} {sl : Nat → Int64} {pr pr2 : Nat → Int32} {o n : Nat} {ck gc gc2 : Nat → Int32} {cf : Nat → Int64} {fr : Nat → Int32} {fc : Int} {sh sa sq : Nat → Int32} {sc md ru : Nat} {mo : Int} {db db2 om : Nat} {k : Int32} {t : Tm} {K : List (Nat × Tm)} {V : List Int64} {e' : Nat → Int64} {E' : List (Nat → Int64)} {c : Nat} {ck' : Nat → Int32} {cf' : Nat → Int64} {S : List (Nat × Nat × Nat)} {ph : Nat → Nat} {lv : Nat → Bool} {gA gA2 : Nat → Int} {lv2 : Nat → Bool} {fr2 : Nat → Int32} {fc2 : Int} {sl2 : Nat → Int64} {h1 : Nat} {o' d : Nat}
/-- names that are needed no more go -/
theorem mRn_k {K K0 : List (Nat × Tm)} {p : Int32} {x : Nat} (hp : ∀ i, i < 24 → zbit p i = nF K i) (ha : aF K = aF K0) : zN24 p e' x + mRn E' (aF K0) x = mRn (e' :: E') K x := by
  rw [mRn_p (e := e') (E := E') (x := x) hp, ha]
/-- if: a way begins -/
theorem rcd_7 {x y : Int32} (h : rCO B J z zk fd bh ma F lim al s0 gi tw tp ts va (h1 + 1) sl pr o n ck gc cf fr fc sh sa sq sc md ru mo db om 1 k t K V e' E' c ck' cf' S ph lv gA o' d) (hu : ∀ (t : Tm) (k : Int32), sy_x t → rAt B J z t k → ∀ j, j < 32 → zbit (us (Int32.toNatClampNeg k)) j = tm_ub t j) (hb2 : bh (Int32.toNatClampNeg (B 4 (Int32.toNatClampNeg k))) = bh (Int32.toNatClampNeg k)) (hb3 : bh (Int32.toNatClampNeg (B 5 (Int32.toNatClampNeg k))) = bh (Int32.toNatClampNeg k)) (hw : (B 0 (Int32.toNatClampNeg k)).toInt = 7) (ea : zhs (va h1) = 0) (hx : x.toInt = 0) (hy : va h1 ≠ 0 ∧ y = B 4 (Int32.toNatClampNeg k) ∨ va h1 = 0 ∧ y = B 5 (Int32.toNatClampNeg k)) (a1 : zTa tw w2 ts x) (b1 : zTa tp p2 ts y) (hpx : ∀ i, i ≠ o - 1 → pr2 i = pr i) (hpb : pr2 (o - 1) = pr (o - 1) &&& (us (Int32.toNatClampNeg y) ||| bh (Int32.toNatClampNeg y))) (hz : hZ ph lv2 gA2 c (cWd fd ck') ck' cf' (fun w => zN24 (pr2 (o - 1)) e' w + (mRv V w + mRn E' (aF K) w)) (sIs S) ck gc2 cf) (hF : hF ph lv2 c (sIs S) fr2 fc2 gi) : rCS B J z zk fd bh ma F lim al s0 gi w2 p2 (ts + 1) va h1 sl pr2 o n ck gc2 cf fr2 fc2 sh sa sq sc md ru mo db om := by
  obtain ⟨g1, ⟨g2, g3, g4⟩, ⟨g5, g6, g7, g8, g9⟩, g10, r1, r2, r3, r4, r5, r6⟩ := h
  obtain ⟨k0, kz, kc⟩ := rA_e t g3 g2 rfl g7
  rcases kc with q | q | q | q | q | q
  · exact absurd q (by omega)
  · exact absurd q.1 (by omega)
  · exact absurd q.1 (by omega)
  · exact absurd q.1 (by omega)
  · exact absurd q.1 (by omega)
  · obtain ⟨-, a, b, ⟨c1, c2, c3⟩, ⟨d1, d2, d3⟩, q6, q7⟩ := q
    have hv := (rVc_dr (q := 1) r2 (by omega)).1
    rw [Nat.add_sub_cancel] at hv
    obtain ⟨e1, n1⟩ := vr_n (rVc_0 r2) (by rw [ea]; decide)
    have hs := (q7 F lim ((1, t) :: K) K V (e' :: E') n c ck' cf' (S, md, ru, mo, db, om)).1 (by rw [← e1]; exact ea)
    rw [← e1] at hs
    have hl := r2.1
    subst g5
    rw [Nat.add_sub_cancel] at hpx hpb hz
    -- the way
    have key : ∀ (u : Tm), rAt B J z u y → sy_x u → tm_wf zk fd u d → bh (Int32.toNatClampNeg y) = bh (Int32.toNatClampNeg k) → (∀ i, tm_ub u i = true → tm_dn t i = true) → (if (va h1).toInt32 = 0 then b else a) = u → rCS B J z zk fd bh ma F lim al s0 gi w2 p2 (ts + 1) va h1 sl pr2 (o' + 1) n ck gc2 cf fr2 fc2 sh sa sq sc md ru mo db om := fun u u1 u2 u3 u4 u5 u6 => by
      rw [u6] at hs
      have hbit : ∀ j, j < 32 → zbit (pr2 o') j = nF ((0, u) :: K) j := fun j hj => by
        rw [hpb, zbit_and, zbit_or, hu u y u2 u1 j hj, u4, g4 j hj, g10.1 j hj, nF_1, nF_0]
        cases g : tm_ub u j with
        | true => rw [u5 j g]; rfl
        | false => rw [Bool.false_or]; cases tm_dn t j <;> cases nF K j <;> rfl
      refine ⟨_, _, _, c, ck', cf', S, ph, lv2, gA2, d, cm_re_s g1 (cm_st_1.trans hs), ⟨g6, rNc_c (Or.inl rfl) u3 (fun i hi => g8 i (u5 i hi)) g9⟩, rPb_n g10 (fun i hi => hpx i (by omega)) hbit rfl, rTc_a r1 a1 b1 (Or.inl ⟨Or.inl ⟨rfl, hx⟩, u1, u2, fun i hi => by rw [u4, g4 i hi]⟩), hv, hZ_R hz (fun w => ?_), hF, r5, Or.inr (Or.inr ⟨by decide, by decide, r6⟩)⟩
      show mRv (V.drop 1) w + mRn (e' :: E') ((0, u) :: K) w = zN24 (pr2 o') e' w + (mRv V w + mRn E' (aF K) w)
      have hm := mRv_d (x := w) (n := 1) (V := V) (by omega)
      have z1 : zs 1 (fun k => zr (V.getD (1 - 1 - k) 0) w) = 0 := by
        show 0 + zr (V.getD 0 0) w = 0
        rw [zr_n n1]; rfl
      rw [z1] at hm
      rw [← mRn_k (e' := e') (E' := E') (K := (0, u) :: K) (K0 := K) (p := pr2 o') (x := w) (fun i hi => hbit i (by omega)) rfl]; omega
    rcases hy with ⟨u, rfl⟩ | ⟨u, rfl⟩
    · exact key a c1 c2 c3 hb2 (fun i g => by rw [q6 i, g]; rfl) (if_neg (fun e : (va h1).toInt32 = 0 => u (zv_ext (ea.trans (show (0 : Int64) = zhs 0 from by decide)) (e.trans (by decide)))))
    · exact key b d1 d2 d3 hb3 (fun i g => by rw [q6 i, g, Bool.or_true]) (if_pos (by rw [u]; decide))
end

end
section
/-! call, counted -/
section
variable {B : Nat → Nat → Int32} {J : Nat → Int64 → Prop} {z zk : Nat} {fd us bh ma : Nat → Int32} {F : sp_F} {lim : Int} {al : Nat} {s0 : cm_S} {gi : Int} {tw tp w1 p1 w2 p2 w3 p3 : Nat → Int32} {ts : Nat} {va va2 : Nat → Int64} {vd : Nat} {sl : Nat → Int64} {pr pr2 : Nat → Int32} {o n : Nat} {ck gc gc2 : Nat → Int32} {cf : Nat → Int64} {fr : Nat → Int32} {fc : Int} {sh sa sq : Nat → Int32} {sc md ru : Nat} {mo : Int} {db db2 om : Nat} {k : Int32} {t : Tm} {K : List (Nat × Tm)} {V : List Int64} {e' : Nat → Int64} {E' : List (Nat → Int64)} {c : Nat} {ck' : Nat → Int32} {cf' : Nat → Int64} {S : List (Nat × Nat × Nat)} {ph : Nat → Nat} {lv : Nat → Bool} {gA gA2 : Nat → Int} {lv2 : Nat → Bool} {fr2 : Nat → Int32} {fc2 : Int} {sl2 : Nat → Int64} {h1 : Nat} {o' d : Nat}
theorem rcd_3 {bo to : Nat → Int32} {x1 x2 y1 : Int32} (h : rCO B J z zk fd bh ma F lim al s0 gi tw tp ts va vd sl pr o n ck gc cf fr fc sh sa sq sc md ru mo db om 1 k t K V e' E' c ck' cf' S ph lv gA o' d) (hQ : rQ B J z zk fd us bo to F) (hbh : ∀ f, f < F.1 → ∀ j, j < 32 → zbit (bh (Int32.toNatClampNeg (bo f))) j = false) (hw : (B 0 (Int32.toNatClampNeg k)).toInt = 3) (ho : o < 100) (hvd : (vd : Int) = (h1 : Int) + (to (Int32.toNatClampNeg (B 2 (Int32.toNatClampNeg k)))).toInt) (hx1 : x1.toInt = 3) (hx2 : x2.toInt = 0) (a1 : zTa tw w1 ts x1) (b1 : zTa tp p1 ts y1) (a2 : zTa w1 w2 (ts + 1) x2) (b2 : zTa p1 p2 (ts + 1) (bo (Int32.toNatClampNeg (B 2 (Int32.toNatClampNeg k))))) (hl : ∀ i, i < 24 * o → sl2 i = sl i) (hu : ∀ j : Nat, j < 32 → (j : Int) < (to (Int32.toNatClampNeg (B 2 (Int32.toNatClampNeg k)))).toInt → zbit (us (Int32.toNatClampNeg (bo (Int32.toNatClampNeg (B 2 (Int32.toNatClampNeg k)))))) j = true → sl2 (24 * o + j) = va (h1 + j)) (hpx : ∀ i, i < o → pr2 i = pr i) (hpb : ∀ j : Nat, j < 32 → zbit (pr2 o) j = (decide ((j : Int) < (to (Int32.toNatClampNeg (B 2 (Int32.toNatClampNeg k)))).toInt) && zbit (us (Int32.toNatClampNeg (bo (Int32.toNatClampNeg (B 2 (Int32.toNatClampNeg k)))))) j)) (hz : hZ ph lv2 gA2 c (cWd fd ck') ck' cf' (fun w => (mRv (V.drop (to (Int32.toNatClampNeg (B 2 (Int32.toNatClampNeg k)))).toInt.toNat) w + mRn (e' :: E') ((1, t) :: K) w) + zN24 (pr2 o) (pm_ae V (to (Int32.toNatClampNeg (B 2 (Int32.toNatClampNeg k)))).toInt.toNat) w) (sIs S) ck gc2 cf) (hF : hF ph lv2 c (sIs S) fr2 fc2 gi) : rCS B J z zk fd bh ma F lim al s0 gi w2 p2 (ts + 2) va h1 sl2 pr2 (o + 1) n ck gc2 cf fr2 fc2 sh sa sq sc md ru mo db (max om (o + 1)) := by
  obtain ⟨g1, ⟨g2, g3, g4⟩, ⟨g5, g6, g7, g8, g9⟩, g10, r1, r2, r3, r4, r5, r6⟩ := h
  obtain ⟨k0, kz, kc⟩ := rA_e t g3 g2 rfl g7
  rcases kc with q | q | q | q | q | q
  · exact absurd q (by omega)
  · obtain ⟨-, q0, wd, q1, q2⟩ := q
    have hs := q2 F lim ((1, t) :: K) K V (e' :: E') n c ck' cf' (S, md, ru, mo, db, om)
    obtain ⟨f1, f2⟩ := hQ.2.2 _ wd kz hw q1
    rw [zn_lit f1] at hvd b2 hu hpb hz
    obtain ⟨c1, c2, m, c3, c4, c5, c6⟩ := hQ.2.1 _ f2
    have hlen : (e' :: E').length = o := by rw [rNc_len g9, g5]
    rw [if_neg (by rw [hlen]; omega), c3, Int.toNat_natCast, hlen] at hs
    rw [c5, Int.toNat_natCast] at hz
    obtain ⟨v1, v2⟩ := rVc_dr (q := m) r2 (by omega)
    rw [show vd - m = h1 from by omega] at v1 v2
    have nK : ∀ i, nF ((1, t) :: K) i = nF K i := fun i => by rw [nF_1, q0 i, Bool.false_or]
    have hbit : ∀ j, j < 32 → zbit (pr2 o) j = nF ((0, F.2.2.2 (sp_fi F.2.1 wd F.1)) :: (2, Tm.nil) :: K) j := fun j hj => by
      rw [hpb j hj, hQ.1 _ _ c2 c1 j hj, nF_0, nF_2, Bool.or_false, c5]
      cases g : tm_ub (F.2.2.2 (sp_fi F.2.1 wd F.1)) j with
      | false => rw [Bool.and_false]
      | true =>
        have := wf_ub _ c6 g
        rw [decide_eq_true (show (j : Int) < (m : Int) by omega)]; rfl
    refine ⟨_, _, _, c, ck', cf', S, ph, lv2, gA2, m, cm_re_s g1 (cm_st_1.trans hs), ⟨c4, rNc_c (Or.inl rfl) c6 (fun i hi => ?_) ⟨_, _, o, rfl, rfl, Or.inl ⟨rfl, d, g6, rNc_lo hl g6 (by rw [g5]; exact g9)⟩⟩⟩, ⟨hbit, ?_⟩, rTc_a (rTc_a r1 a1 b1 (Or.inr (Or.inl ⟨rfl, hx1⟩))) a2 b2 (Or.inl ⟨Or.inl ⟨rfl, hx2⟩, c1, c2, fun i hi => by rw [hbh _ f2 i hi, nF_2]⟩), v1, hZ_R hz (fun w => ?_), hF, r5, Or.inr (Or.inr ⟨by decide, by decide, Or.inl ⟨rfl, o, rfl, r6⟩⟩)⟩
    · have hi2 : tm_ub (F.2.2.2 (sp_fi F.2.1 wd F.1)) i = true := hi
      have il := wf_ub _ c6 hi2
      rw [hu i (by omega) (by omega) (by rw [hQ.1 _ _ c2 c1 i (by omega)]; exact hi2)]
      unfold pm_ae
      rw [if_pos il]
      exact v2 i il
    · show rPb pr2 o K
      subst g5
      exact ⟨fun j hj => by rw [hpx o' (by omega), g10.1 j hj, nK j], rPb_x (fun i hi => hpx i (by omega)) g10.2⟩
    · show mRv (V.drop m) w + mRn (pm_ae V m :: e' :: E') ((0, F.2.2.2 (sp_fi F.2.1 wd F.1)) :: (2, Tm.nil) :: K) w = _
      rw [mRn_p (e := pm_ae V m) (E := e' :: E') (x := w) (fun i hi => hbit i (by omega)), show aF ((0, F.2.2.2 (sp_fi F.2.1 wd F.1)) :: (2, Tm.nil) :: K) = K from rfl, mRn_e (K2 := (1, t) :: K) (K := K) (e := e') (x := w) (fun i _ => nK i) rfl (fun _ _ _ => rfl)]; omega
  · exact absurd q.1 (by omega)
  · exact absurd q.1 (by omega)
  · exact absurd q.1 (by omega)
  · exact absurd q.1 (by omega)
end

end
section
/-! an arm ends, counted -/
section
variable {B : Nat → Nat → Int32} {J : Nat → Int64 → Prop} {z zk : Nat} {fd us bh ma : Nat → Int32} {F : sp_F} {lim : Int} {al : Nat} {s0 : cm_S} {gi : Int} {tw tp w1 p1 w2 p2 w3 p3 : Nat → Int32} {ts : Nat} {va va2 : Nat → Int64} {vd : Nat} {sl : Nat → Int64} {pr pr2 : Nat → Int32} {o n : Nat} {ck gc gc2 : Nat → Int32} {cf : Nat → Int64} {fr : Nat → Int32} {fc : Int} {sh sa sq sh2 sa2 sq2 : Nat → Int32} {sc2 : Nat} {E : List (Nat → Int64)} {ce : Int32} {sc md ru : Nat} {mo : Int} {db db2 om : Nat} {k : Int32} {t : Tm} {K : List (Nat × Tm)} {V : List Int64} {e' : Nat → Int64} {E' : List (Nat → Int64)} {c : Nat} {ck' : Nat → Int32} {cf' : Nat → Int64} {S : List (Nat × Nat × Nat)} {ph : Nat → Nat} {lv : Nat → Bool} {gA gA2 : Nat → Int} {lv2 : Nat → Bool} {fr2 : Nat → Int32} {fc2 : Int} {sl2 : Nat → Int64} {h1 : Nat} {o' d : Nat}
/-- an arm's end is taken off the tasks, all names said -/
theorem rc_e {m : Nat} (h : rCS B J z zk fd bh ma F lim al s0 gi tw tp (m + 1) va vd sl pr o n ck gc cf fr fc sh sa sq sc md ru mo db om) (hw : (tw m).toInt = 2) : ∃ (t : Tm) (K : List (Nat × Tm)) (V : List Int64) (E : List (Nat → Int64)) (c : Nat) (ck' : Nat → Int32) (cf' : Nat → Int64) (S : List (Nat × Nat × Nat)) (ph : Nat → Nat) (lv : Nat → Bool) (gA : Nat → Int) (d : Nat), cm_re F fd lim al s0 (((3, t) :: K, V, E, n, c, ck', cf'), (S, md, ru, mo, db, om)) ∧ (tp m).toInt = (ph (tm_id t) : Int) ∧ (d ≤ 24 ∧ rNc ph zk fd sl K E o d) ∧ rPb pr o K ∧ rTc B J z bh ph tw tp K m ∧ rVc ph vd va V ∧ hZ ph lv gA c (cWd fd ck') ck' cf' (mRt K V E) (sIs S) ck gc cf ∧ hF ph lv c (sIs S) fr fc gi ∧ rSl ph ma sh sa sq S sc ∧ ((∃ (w : Nat) (S' : List (Nat × Nat × Nat)), S = (o, tm_id t, w) :: S' ∧ rSo ph c K o S') ∨ (rSo ph c K o S ∧ ∀ a, a ∈ S → ph a.2.1 ≠ ph (tm_id t))) := by
  obtain ⟨K, V, E, c, ck', cf', S, ph, lv, gA, d, h1, ⟨h2, h3⟩, h4, h5, h6, h7, h8, h9, h10⟩ := h
  match K, h1, h3, h4, h5, h7, h10 with
  | [], _, _, _, h5, _, _ => exact absurd h5 (Nat.succ_ne_zero _)
  | (j, t) :: K, h1, h3, h4, h5, h7, h10 =>
    obtain ⟨m', e, r, g⟩ := h5
    obtain rfl : m' = m := by omega
    have g2 : j = 3 ∧ (tp m').toInt = (ph (tm_id t) : Int) := by
      rcases g with ⟨g, -⟩ | g | g
      · omega
      · omega
      · exact ⟨g.1, g.2.2⟩
    obtain ⟨rfl, g3⟩ := g2
    have nK : ∀ i, nF K i = nF ((3, t) :: K) i := fun i => by rw [nF_3]
    obtain ⟨e, E', o', q1, q2, q3⟩ := h3
    have q4 : rNc ph zk fd sl K E o d := by
      rcases q3 with q | q | q
      · exact absurd q.1 (by decide)
      · exact q.2
      · exact absurd q.1 (by decide)
    subst q1
    subst q2
    refine ⟨t, K, V, _, c, ck', cf', S, ph, lv, gA, d, h1, g3, ⟨h2, q4⟩, rPb_n h4 (fun _ _ => rfl) (fun j hj => by rw [nK j]; exact h4.1 j hj) rfl, r, h6, hZ_R h7 (fun x => ?_), h8, h9, ?_⟩
    · show mRv V x + mRn (e :: E') K x = mRv V x + mRn (e :: E') ((3, t) :: K) x
      rw [mRn_e (K2 := K) (K := (3, t) :: K) (e := e) (fun i _ => nK i) rfl (fun _ _ _ => rfl)]
    · rcases h10 with ⟨q, -⟩ | ⟨-, -, q⟩ | ⟨-, q, -⟩
      · exact absurd q (by decide)
      · exact q
      · exact absurd rfl q
end

end
section
/-- the arm fits -/
def zMt (gk : Nat → Int32) (v : Int64) (x : Int32) : Prop := zhs v = 2 ∧ x.toInt = (gk (Int32.toNatClampNeg v.toInt32)).toInt ∨ zhs v ≠ 0 ∧ zhs v ≠ 2 ∧ x.toInt = v.toInt32.toInt
theorem zBT_a {tw tw2 : Nat → Int32} {t w : Int32} {ts2 : Int32} (h : ∀ i : Nat, (i : Int) < Int32.toInt t → zbt (tw i)) (ht : 0 ≤ t.toInt) (ea : zTa tw tw2 (Int32.toNatClampNeg t) w) (hw : zbt w) (e : ts2.toInt = t.toInt + 1) : ∀ i : Nat, (i : Int) < Int32.toInt ts2 → zbt (tw2 i) := fun i hi => by
  have := zn_nat ht
  by_cases g : i = Int32.toNatClampNeg t
  · rw [g, ea.1]; exact hw
  · rw [ea.2 i (by omega)]; exact h i (by omega)
theorem zmany0 {kz own many : Int32} {fd : Nat → Int32} {gk : Nat → Int32} {v : Int64} (hv : zHv kz fd v) (h2 : zhs v ≠ 2) (hm : own.toInt = -1 ∨ zMt gk v own) (ho : own.toInt = -1 ∧ many.toInt = 0 ∨ 0 ≤ own.toInt ∧ own.toInt < kz.toInt ∧ fd (Int32.toNatClampNeg own) = many) : many.toInt = 0 := by
  rcases ho with g | ⟨g1, g2, g3⟩
  · exact g.2
  · rcases hm with g | g | ⟨a, -, b⟩
    · omega
    · exact absurd g.1 h2
    · rcases hv with w | w | w
      · exact absurd w a
      · have e : own = v.toInt32 := Int32.toInt_inj.mp b
        rw [← g3, e]; exact w.2.2.2
      · exact absurd w.1 h2

end
section
theorem zfa_y {ow : Nat → Int32} {kd : Int} {a : Nat} {R : List Nat} (h : (ow a).toInt = -1 ∨ (ow a).toInt = kd) : zfa ow kd (a :: R) = some a := if_pos h
theorem zfa_n {ow : Nat → Int32} {kd : Int} {a : Nat} {R : List Nat} (h : ¬ ((ow a).toInt = -1 ∨ (ow a).toInt = kd)) : zfa ow kd (a :: R) = zfa ow kd R := if_neg h
theorem pkd_0 {ck : Nat → Int32} {v : Int64} (h : zhs v = 0) : pm_kd ck v = -1 := if_pos h
theorem pkd_n {ck : Nat → Int32} {v : Int64} {kd : Int32} (h : (zhs v = 2 → kd = ck (Int32.toNatClampNeg v.toInt32)) ∧ (zhs v ≠ 2 → zhs v ≠ 0 → kd = v.toInt32)) (h0 : zhs v ≠ 0) : pm_kd ck v = kd.toInt := by
  unfold pm_kd
  rw [if_neg h0]
  by_cases u : zhs v = 2
  · rw [if_pos u, h.1 u]
  · rw [if_neg u, h.2 u h0]
theorem zMs_0 {sl cf : Nat → Int64} {b n : Nat} {u : Int32} {h q : Nat} (e : n = 0) : zMs sl sl b n u h cf q := ⟨fun _ _ => rfl, fun i hi => absurd hi (by omega)⟩
theorem zMs_u {sl l l2 cf : Nat → Int64} {b n n2 : Nat} {u : Int32} {h q : Nat} (a : zMs sl l b n u h cf q) (e : l2 = vp_updL l (b + n) (cf (q + n))) (e2 : n2 = n + 1) : zMs sl l2 b n2 u h cf q := by
  subst e2
  refine ⟨fun j hj => ?_, fun i hi g => ?_⟩
  · rw [e, zul_n (hj n (by omega))]; exact a.1 j (fun i hi => hj i (by omega))
  · by_cases w : i = n
    · rw [e, w, zul_s]
    · rw [e, zul_n (by omega)]; exact a.2 i (by omega) g
theorem zMs_n {sl l cf : Nat → Int64} {b n n2 : Nat} {u : Int32} {h q : Nat} (a : zMs sl l b n u h cf q) (g : zbit u (h + n) = false) (e2 : n2 = n + 1) : zMs sl l b n2 u h cf q := by
  subst e2
  refine ⟨fun j hj => a.1 j (fun i hi => hj i (by omega)), fun i hi g2 => ?_⟩
  by_cases w : i = n
  · rw [w, g] at g2; cases g2
  · exact a.2 i (by omega) g2
theorem zH_pl {pl kz : Int32} {fd gk gc : Nat → Int32} {gv : Nat → Int64} {lv : Nat → Bool} {R : Nat → Int} {db : Int} {fr sh : Nat → Int32} {fc sc np : Int} (h : zH pl kz fd gk gc gv lv R db fr sh fc sc np) (hp : pl.toInt ≠ 0) {x : Nat} (hx : lv x = true) : (x : Int) < np := by
  rcases h.2.2.2.2.2.2 with ⟨p, -⟩ | ⟨-, -, -, g, -⟩
  · exact absurd p hp
  · exact (g x).mp hx
theorem zH_3 {pl kz : Int32} {fd gk gc : Nat → Int32} {gv : Nat → Int64} {lv : Nat → Bool} {R : Nat → Int} {db : Int} {fr sh : Nat → Int32} {fc sc : Int} {np : Int32} (h : zH pl kz fd gk gc gv lv R db fr sh fc sc np.toInt) (hp : pl.toInt ≠ 0) : ∀ i, i < Int32.toNatClampNeg np → (fd (Int32.toNatClampNeg (gk i))).toInt ≤ 3 := fun i hi => by
  rcases h.2.2.2.2.2.2 with ⟨p, -⟩ | ⟨-, g0, -, g, -⟩
  · exact absurd p hp
  · have := zn_nat g0
    exact (h.1 i ((g i).mpr (by omega))).2.2.2.1
/-- how it ends, and where -/
def rXo (F : sp_F) (al : Nat) (s0 : pm_S) (k q : Int32) : Prop := ∃ (n : Nat) (p : Int), k.toInt = (n : Int) ∧ q.toInt = p ∧ pm_ou F al s0 (n, p)
theorem xou {F : sp_F} {al : Nat} {s0 : pm_S} {n : Nat} {p : Int} {k q : Int32} (h : pm_ou F al s0 (n, p)) (hk : k.toInt = (n : Int)) (hq : q.toInt = p) : rXo F al s0 k q := ⟨n, p, hk, hq, h⟩
theorem zlc_0 {r : Int32} {x : Int64} (h : r = lg_cmp x 0) (hr : r.toInt = 0) : x = 0 := by
  by_cases u : x = 0
  · exact u
  · exfalso
    rw [h] at hr
    unfold lg_cmp at hr
    split at hr
    · exact absurd hr (by decide)
    · exact absurd hr (by decide)
theorem zlc_n {r : Int32} {x : Int64} (h : r = lg_cmp x 0) (hr : r.toInt ≠ 0) : x ≠ 0 := fun u => hr (by rw [h, u]; decide)
theorem pop_1 {o : Int} {x y : Int32} (h : o = 43) : pm_op o x y = x + y := if_pos h
theorem pop_2 {o : Int} {x y : Int32} (h : o = 45) : pm_op o x y = x - y := by unfold pm_op; rw [if_neg (by omega), if_pos h]
theorem pop_3 {o : Int} {x y : Int32} (h : o = 42) : pm_op o x y = x * y := by unfold pm_op; rw [if_neg (by omega), if_neg (by omega), if_pos h]
theorem pop_4 {o : Int} {x y : Int32} (h1 : o ≠ 43) (h2 : o ≠ 45) (h3 : o ≠ 42) (h : x.toInt < y.toInt) : pm_op o x y = 1 := by unfold pm_op; rw [if_neg h1, if_neg h2, if_neg h3, if_pos h]
theorem pop_5 {o : Int} {x y : Int32} (h1 : o ≠ 43) (h2 : o ≠ 45) (h3 : o ≠ 42) (h : y.toInt ≤ x.toInt) : pm_op o x y = 0 := by unfold pm_op; rw [if_neg h1, if_neg h2, if_neg h3, if_neg (by omega)]

set_option maxHeartbeats 4000000 in
set_option maxRecDepth 100000 in
theorem c_X14_gets_1p (l : Launch) (dC : Nat → ClassId) (dI : Nat → Nat → Nat) (aK aV : Nat → Nat) (h0 : Nat) (m_thrown : Int32) (m_stop : Nat) (m_tape : Nat) (m_taped : Int32) (m_length : Int32) (m_at : Int32) (m_sort : Int32) (m_place : Int32) (m_sign : Int32) (m_letters : Int64) (m_p : Nat) (m_spare : Nat) (m_isTaken : Int32) (m_scope : Nat) (m_scoped : Int32) (m_deep : Int32) (m_counted : Int32) (m_fault : Int32) (m_where : Int32) (m_cellKind : Nat) (m_cellCount : Nat) (m_free : Nat) (m_pile : Nat) (m_cellField : Nat) (m_freeCount : Int32) (m_given : Int32) (m_nextPlain : Int32) (m_otherKind : Nat) (m_otherField : Nat) (m_isPlain : Int32) (m_hasRun : Int32) (m_hasValue : Int32) (m_hasOther : Int32) (m_value : Int64) (m_other : Int64) (m_steps : Int32) (m_made : Int32) (m_reused : Int32) (m_freed : Int32) (m_most : Int32) (m_doubled : Int32) (m_openMost : Int32) (m_taskWhat : Nat) (m_taskPart : Nat) (m_values : Nat) (m_tasks : Int32) (m_valued : Int32) (m_open : Int32) (m_slots : Nat) (m_present : Nat) (m_shell : Nat) (m_shellArm : Nat) (m_shellCall : Nat) (m_shells : Int32) (m_keptCounts : Nat) (m_asideKind : Nat) (m_asideCount : Nat) (m_asideField : Nat) (m_out : Nat) (m_side : Nat) (m_outs : Int32) (m_sides : Int32) (m_saying : Nat) (ak_slots : ClassId) (ak_present : ClassId) (gsl : Nat → Int64) (gpr : Nat → Int32) (sl : Int32) (va : Int64) (pr_kinds : Int32) (rg_fields : Nat → Int32) (gck : Nat → Int32) (gcc : Nat → Int32) (gfr : Nat → Int32) (gsh : Nat → Int32) (gcf : Nat → Int64) (lv : Nat → Bool) (Rv : Nat → Int) (sz : Nat) (ho0 : 1 ≤ m_open.toInt) (ho1 : m_open.toInt ≤ 100) (hsl0 : 0 ≤ sl.toInt) (hsl1 : sl.toInt < 24) (hH : zH m_isPlain pr_kinds rg_fields gck gcc gcf lv (fun c => zRS 2400 gsl (zpp (Int32.toInt m_open) gpr) c + Rv c + zr va c) (Int32.toInt m_doubled) gfr gsh (Int32.toInt m_freeCount) (Int32.toInt m_shells) (Int32.toInt m_nextPlain)) (hRv : ∀ c, 0 ≤ Rv c) (hva : zHv pr_kinds rg_fields va) (hso : zSO pr_kinds rg_fields gsl (zpp (Int32.toInt m_open) gpr)) : Met l yX14_gets (Cond.code yX14_gets cX14_gets 5 none :: zw) ({ frames := 12, cells := 0, slots := 0, locals := 400 }) (va_Pc [.ref h0, .int sl, .long va, .int 1] (zP dC dI aK aV sz [(ak_slots, .long), (ak_present, .int)] [(h0, .inr (14, [.int m_thrown, .ref m_stop, .ref m_tape, .int m_taped, .int m_length, .int m_at, .int m_sort, .int m_place, .int m_sign, .long m_letters, .ref m_p, .ref m_spare, .int m_isTaken, .ref m_scope, .int m_scoped, .int m_deep, .int m_counted, .int m_fault, .int m_where, .ref m_cellKind, .ref m_cellCount, .ref m_free, .ref m_pile, .ref m_cellField, .int m_freeCount, .int m_given, .int m_nextPlain, .ref m_otherKind, .ref m_otherField, .int m_isPlain, .int m_hasRun, .int m_hasValue, .int m_hasOther, .long m_value, .long m_other, .int m_steps, .int m_made, .int m_reused, .int m_freed, .int m_most, .int m_doubled, .int m_openMost, .ref m_taskWhat, .ref m_taskPart, .ref m_values, .int m_tasks, .int m_valued, .int m_open, .ref m_slots, .ref m_present, .ref m_shell, .ref m_shellArm, .ref m_shellCall, .int m_shells, .ref m_keptCounts, .ref m_asideKind, .ref m_asideCount, .ref m_asideField, .ref m_out, .ref m_side, .int m_outs, .int m_sides, .ref m_saying])), (m_slots, .inl (ak_slots, 2400, .inr (.inl gsl))), (m_present, .inl (ak_present, 100, .inl gpr))])) (va_Qv (fun u : (Nat → Int32) × (Nat → Int64) => match u with | (gpr2, gsl2) => (zH m_isPlain pr_kinds rg_fields gck gcc gcf lv (fun c => zRS 2400 gsl2 (zpp (Int32.toInt m_open) gpr2) c + Rv c) (Int32.toInt m_doubled) gfr gsh (Int32.toInt m_freeCount) (Int32.toInt m_shells) (Int32.toInt m_nextPlain)) ∧ (zSO pr_kinds rg_fields gsl2 (zpp (Int32.toInt m_open) gpr2)) ∧ (zGp gpr gpr2 (Int32.toNatClampNeg m_open - 1) (Int32.toNatClampNeg sl) 1) ∧ (gsl2 = vp_updL gsl (24 * (Int32.toNatClampNeg m_open - 1) + Int32.toNatClampNeg sl) va)) (fun u => match u with | (gpr2, gsl2) => zQ dC dI (va_A [(h0, .inr (14, [.int m_thrown, .ref m_stop, .ref m_tape, .int m_taped, .int m_length, .int m_at, .int m_sort, .int m_place, .int m_sign, .long m_letters, .ref m_p, .ref m_spare, .int m_isTaken, .ref m_scope, .int m_scoped, .int m_deep, .int m_counted, .int m_fault, .int m_where, .ref m_cellKind, .ref m_cellCount, .ref m_free, .ref m_pile, .ref m_cellField, .int m_freeCount, .int m_given, .int m_nextPlain, .ref m_otherKind, .ref m_otherField, .int m_isPlain, .int m_hasRun, .int m_hasValue, .int m_hasOther, .long m_value, .long m_other, .int m_steps, .int m_made, .int m_reused, .int m_freed, .int m_most, .int m_doubled, .int m_openMost, .ref m_taskWhat, .ref m_taskPart, .ref m_values, .int m_tasks, .int m_valued, .int m_open, .ref m_slots, .ref m_present, .ref m_shell, .ref m_shellArm, .ref m_shellCall, .int m_shells, .ref m_keptCounts, .ref m_asideKind, .ref m_asideCount, .ref m_asideField, .ref m_out, .ref m_side, .int m_outs, .int m_sides, .ref m_saying])), (m_slots, .inl (ak_slots, 2400, .inr (.inl gsl))), (m_present, .inl (ak_present, 100, .inl gpr))] sz) [(ak_slots, .long), (ak_present, .int)] [(h0, .inr (14, [.int m_thrown, .ref m_stop, .ref m_tape, .int m_taped, .int m_length, .int m_at, .int m_sort, .int m_place, .int m_sign, .long m_letters, .ref m_p, .ref m_spare, .int m_isTaken, .ref m_scope, .int m_scoped, .int m_deep, .int m_counted, .int m_fault, .int m_where, .ref m_cellKind, .ref m_cellCount, .ref m_free, .ref m_pile, .ref m_cellField, .int m_freeCount, .int m_given, .int m_nextPlain, .ref m_otherKind, .ref m_otherField, .int m_isPlain, .int m_hasRun, .int m_hasValue, .int m_hasOther, .long m_value, .long m_other, .int m_steps, .int m_made, .int m_reused, .int m_freed, .int m_most, .int m_doubled, .int m_openMost, .ref m_taskWhat, .ref m_taskPart, .ref m_values, .int m_tasks, .int m_valued, .int m_open, .ref m_slots, .ref m_present, .ref m_shell, .ref m_shellArm, .ref m_shellCall, .int m_shells, .ref m_keptCounts, .ref m_asideKind, .ref m_asideCount, .ref m_asideField, .ref m_out, .ref m_side, .int m_outs, .int m_sides, .ref m_saying])), (m_slots, .inl (ak_slots, 2400, .inr (.inl gsl2))), (m_present, .inl (ak_present, 100, .inl gpr2))]) (va_A [(h0, .inr (14, [.int m_thrown, .ref m_stop, .ref m_tape, .int m_taped, .int m_length, .int m_at, .int m_sort, .int m_place, .int m_sign, .long m_letters, .ref m_p, .ref m_spare, .int m_isTaken, .ref m_scope, .int m_scoped, .int m_deep, .int m_counted, .int m_fault, .int m_where, .ref m_cellKind, .ref m_cellCount, .ref m_free, .ref m_pile, .ref m_cellField, .int m_freeCount, .int m_given, .int m_nextPlain, .ref m_otherKind, .ref m_otherField, .int m_isPlain, .int m_hasRun, .int m_hasValue, .int m_hasOther, .long m_value, .long m_other, .int m_steps, .int m_made, .int m_reused, .int m_freed, .int m_most, .int m_doubled, .int m_openMost, .ref m_taskWhat, .ref m_taskPart, .ref m_values, .int m_tasks, .int m_valued, .int m_open, .ref m_slots, .ref m_present, .ref m_shell, .ref m_shellArm, .ref m_shellCall, .int m_shells, .ref m_keptCounts, .ref m_asideKind, .ref m_asideCount, .ref m_asideField, .ref m_out, .ref m_side, .int m_outs, .int m_sides, .ref m_saying])), (m_slots, .inl (ak_slots, 2400, .inr (.inl gsl))), (m_present, .inl (ak_present, 100, .inl gpr))] sz)) 0 0 (va_A [(h0, .inr (14, [.int m_thrown, .ref m_stop, .ref m_tape, .int m_taped, .int m_length, .int m_at, .int m_sort, .int m_place, .int m_sign, .long m_letters, .ref m_p, .ref m_spare, .int m_isTaken, .ref m_scope, .int m_scoped, .int m_deep, .int m_counted, .int m_fault, .int m_where, .ref m_cellKind, .ref m_cellCount, .ref m_free, .ref m_pile, .ref m_cellField, .int m_freeCount, .int m_given, .int m_nextPlain, .ref m_otherKind, .ref m_otherField, .int m_isPlain, .int m_hasRun, .int m_hasValue, .int m_hasOther, .long m_value, .long m_other, .int m_steps, .int m_made, .int m_reused, .int m_freed, .int m_most, .int m_doubled, .int m_openMost, .ref m_taskWhat, .ref m_taskPart, .ref m_values, .int m_tasks, .int m_valued, .int m_open, .ref m_slots, .ref m_present, .ref m_shell, .ref m_shellArm, .ref m_shellCall, .int m_shells, .ref m_keptCounts, .ref m_asideKind, .ref m_asideCount, .ref m_asideField, .ref m_out, .ref m_side, .int m_outs, .int m_sides, .ref m_saying])), (m_slots, .inl (ak_slots, 2400, .inr (.inl gsl))), (m_present, .inl (ak_present, 100, .inl gpr))] sz) := by
  refine Met.ofW (cc := cX14_gets) (maxL := 5) (ret := none) (by decide) rfl ?_
  intro p e s m args below meth c s₁ B hml hv
  obtain ⟨rfl, hsz, hP, hK, hD0, hN, hT⟩ := hv
  have hx := B.exec
  have hb := B.bytes
  have hr := B.returns
  have hts := atoms_spec (ws := Cond.code yX14_gets cX14_gets 5 none :: zw) B.pre
  have hA : ∀ w ∈ zw, w.before _ s = true := fun w h => hts w (List.mem_cons_of_mem _ h)
  have hown : s.vm.findClass RX14 = some m.cls := findClass_of_methodNamed B.named
  have hlocks := B.notSynchronized
  subst hsz
  have hD := hD0.self (sz := s.heap.size)
  generalize hAe : va_A [(h0, .inr (14, [.int m_thrown, .ref m_stop, .ref m_tape, .int m_taped, .int m_length, .int m_at, .int m_sort, .int m_place, .int m_sign, .long m_letters, .ref m_p, .ref m_spare, .int m_isTaken, .ref m_scope, .int m_scoped, .int m_deep, .int m_counted, .int m_fault, .int m_where, .ref m_cellKind, .ref m_cellCount, .ref m_free, .ref m_pile, .ref m_cellField, .int m_freeCount, .int m_given, .int m_nextPlain, .ref m_otherKind, .ref m_otherField, .int m_isPlain, .int m_hasRun, .int m_hasValue, .int m_hasOther, .long m_value, .long m_other, .int m_steps, .int m_made, .int m_reused, .int m_freed, .int m_most, .int m_doubled, .int m_openMost, .ref m_taskWhat, .ref m_taskPart, .ref m_values, .int m_tasks, .int m_valued, .int m_open, .ref m_slots, .ref m_present, .ref m_shell, .ref m_shellArm, .ref m_shellCall, .int m_shells, .ref m_keptCounts, .ref m_asideKind, .ref m_asideCount, .ref m_asideField, .ref m_out, .ref m_side, .int m_outs, .int m_sides, .ref m_saying])), (m_slots, .inl (ak_slots, 2400, .inr (.inl gsl))), (m_present, .inl (ak_present, 100, .inl gpr))] s.heap.size = A at hD hT ⊢
  have hAA : ∀ q : Nat, s.heap.size ≤ q → A q := fun q h => by rw [← hAe]; exact Or.inr h
  have hS : va_S A s.heap s.heap [] := va_S.rf
  have hl := lv_entry ([.ref h0, .int sl, .long va, .int 1]) (n := 5) (Nat.le_of_ble_eq_true rfl)
  rw [lg_entry_eq]
  generalize (lg_sl ([.ref h0, .int sl, .long va, .int 1]) ++ List.replicate (5 - (lg_sl ([.ref h0, .int sl, .long va, .int 1])).length) Slot.unset).toArray = ls at hl ⊢
  have hl : lv_has ls 5 [(0, .ref h0), (1, .int sl), (2, .long va), (4, .int 1)] := hl
  refine lv_iload hx hb dX14_gets_0 (lv_at hl 3 rfl) ?_
  refine lv_if_ne (tgt := 11) hx hb dX14_gets_2 (by decide) (fun _ => ?_) (fun c_0 => absurd c_0 (by decide))
  refine lv_aload_n hx hb dX14_gets_11 rfl (lv_at hl 0 rfl) ?_
  refine va_get (D := (dC, dI)) (ci := 14) (v := .ref m_slots) (C := RX14) (T := TX14) (N := 63) hx hb hA zin_X14 hown hK hP 0 rfl rfl 48 (by decide) (hA _ wi_1545) (fun _ h9 => h9) rfl dX14_gets_12 ?_
  refine lv_bipush (v := 24) hx hb dX14_gets_15 (by decide) ?_
  refine lv_aload_n hx hb dX14_gets_17 rfl (lv_at hl 0 rfl) ?_
  have hPc := hP.sub (ws' := [(h0, .inr (14, [.int m_thrown, .ref m_stop, .ref m_tape, .int m_taped, .int m_length, .int m_at, .int m_sort, .int m_place, .int m_sign, .long m_letters, .ref m_p, .ref m_spare, .int m_isTaken, .ref m_scope, .int m_scoped, .int m_deep, .int m_counted, .int m_fault, .int m_where, .ref m_cellKind, .ref m_cellCount, .ref m_free, .ref m_pile, .ref m_cellField, .int m_freeCount, .int m_given, .int m_nextPlain, .ref m_otherKind, .ref m_otherField, .int m_isPlain, .int m_hasRun, .int m_hasValue, .int m_hasOther, .long m_value, .long m_other, .int m_steps, .int m_made, .int m_reused, .int m_freed, .int m_most, .int m_doubled, .int m_openMost, .ref m_taskWhat, .ref m_taskPart, .ref m_values, .int m_tasks, .int m_valued, .int m_open, .ref m_slots, .ref m_present, .ref m_shell, .ref m_shellArm, .ref m_shellCall, .int m_shells, .ref m_keptCounts, .ref m_asideKind, .ref m_asideCount, .ref m_asideField, .ref m_out, .ref m_side, .int m_outs, .int m_sides, .ref m_saying]))]) [0] rfl
  have hDc := hD.sub (ws' := [(h0, .inr (14, [.int m_thrown, .ref m_stop, .ref m_tape, .int m_taped, .int m_length, .int m_at, .int m_sort, .int m_place, .int m_sign, .long m_letters, .ref m_p, .ref m_spare, .int m_isTaken, .ref m_scope, .int m_scoped, .int m_deep, .int m_counted, .int m_fault, .int m_where, .ref m_cellKind, .ref m_cellCount, .ref m_free, .ref m_pile, .ref m_cellField, .int m_freeCount, .int m_given, .int m_nextPlain, .ref m_otherKind, .ref m_otherField, .int m_isPlain, .int m_hasRun, .int m_hasValue, .int m_hasOther, .long m_value, .long m_other, .int m_steps, .int m_made, .int m_reused, .int m_freed, .int m_most, .int m_doubled, .int m_openMost, .ref m_taskWhat, .ref m_taskPart, .ref m_values, .int m_tasks, .int m_valued, .int m_open, .ref m_slots, .ref m_present, .ref m_shell, .ref m_shellArm, .ref m_shellCall, .int m_shells, .ref m_keptCounts, .ref m_asideKind, .ref m_asideCount, .ref m_asideField, .ref m_out, .ref m_side, .int m_outs, .int m_sides, .ref m_saying]))]) [0] (by decide) rfl
  have hKc := hK.sub (tys' := []) [] rfl
  have hFc := va_free (wc := [(h0, .inr (14, [.int m_thrown, .ref m_stop, .ref m_tape, .int m_taped, .int m_length, .int m_at, .int m_sort, .int m_place, .int m_sign, .long m_letters, .ref m_p, .ref m_spare, .int m_isTaken, .ref m_scope, .int m_scoped, .int m_deep, .int m_counted, .int m_fault, .int m_where, .ref m_cellKind, .ref m_cellCount, .ref m_free, .ref m_pile, .ref m_cellField, .int m_freeCount, .int m_given, .int m_nextPlain, .ref m_otherKind, .ref m_otherField, .int m_isPlain, .int m_hasRun, .int m_hasValue, .int m_hasOther, .long m_value, .long m_other, .int m_steps, .int m_made, .int m_reused, .int m_freed, .int m_most, .int m_doubled, .int m_openMost, .ref m_taskWhat, .ref m_taskPart, .ref m_values, .int m_tasks, .int m_valued, .int m_open, .ref m_slots, .ref m_present, .ref m_shell, .ref m_shellArm, .ref m_shellCall, .int m_shells, .ref m_keptCounts, .ref m_asideKind, .ref m_asideCount, .ref m_asideField, .ref m_out, .ref m_side, .int m_outs, .int m_sides, .ref m_saying]))]) hD hS hAA [0] rfl
  refine va_calli (va_runV (As := []) (rest := [.int 24, .ref m_slots]) ⟨hx, hb, hml, hown, hA⟩ (c_X14_call_x l dC dI aK aV h0 m_thrown m_stop m_tape m_taped m_length m_at m_sort m_place m_sign m_letters m_p m_spare m_isTaken m_scope m_scoped m_deep m_counted m_fault m_where m_cellKind m_cellCount m_free m_pile m_cellField m_freeCount m_given m_nextPlain m_otherKind m_otherField m_isPlain m_hasRun m_hasValue m_hasOther m_value m_other m_steps m_made m_reused m_freed m_most m_doubled m_openMost m_taskWhat m_taskPart m_values m_tasks m_valued m_open m_slots m_present m_shell m_shellArm m_shellCall m_shells m_keptCounts m_asideKind m_asideCount m_asideField m_out m_side m_outs m_sides m_saying s.heap.size (by omega) (by omega)) (cwV 0 hA (zw_V wi_1905 wi_1907 wi_107 wi_143 (zw_good wi_1908)) rfl rfl rfl (by decide +kernel) ⟨(Nat.le_of_ble_eq_true rfl), (Nat.le_of_ble_eq_true rfl)⟩) ⟨zP_blind, va_recv hKc hPc (ci := 14) (q0 := 0) rfl rfl, zz_pre hKc hPc hDc hN hT hS hFc⟩ rfl rfl hl.1 rfl (lv_room (Nat.le_of_ble_eq_true rfl)) dX14_gets_18 ⟨(Nat.le_of_ble_eq_true rfl), (Nat.le_of_ble_eq_true rfl)⟩) hS (fun q _ h => hFc q h) hFc (fun r_1 u t H1 locs ht hvm hw hB hz1 hk1 hS => ?_)
  obtain ⟨hP1, hK1, hD1⟩ := hB
  rw [ht] at hP1
  have hK1 := va_K.moved hvm.symm hK1
  obtain ⟨hP, hD⟩ := va_join (wr := [(m_slots, .inl (ak_slots, 2400, .inr (.inl gsl))), (m_present, .inl (ak_present, 100, .inl gpr))]) (w1 := [(h0, .inr (14, [.int m_thrown, .ref m_stop, .ref m_tape, .int m_taped, .int m_length, .int m_at, .int m_sort, .int m_place, .int m_sign, .long m_letters, .ref m_p, .ref m_spare, .int m_isTaken, .ref m_scope, .int m_scoped, .int m_deep, .int m_counted, .int m_fault, .int m_where, .ref m_cellKind, .ref m_cellCount, .ref m_free, .ref m_pile, .ref m_cellField, .int m_freeCount, .int m_given, .int m_nextPlain, .ref m_otherKind, .ref m_otherField, .int m_isPlain, .int m_hasRun, .int m_hasValue, .int m_hasOther, .long m_value, .long m_other, .int m_steps, .int m_made, .int m_reused, .int m_freed, .int m_most, .int m_doubled, .int m_openMost, .ref m_taskWhat, .ref m_taskPart, .ref m_values, .int m_tasks, .int m_valued, .int m_open, .ref m_slots, .ref m_present, .ref m_shell, .ref m_shellArm, .ref m_shellCall, .int m_shells, .ref m_keptCounts, .ref m_asideKind, .ref m_asideCount, .ref m_asideField, .ref m_out, .ref m_side, .int m_outs, .int m_sides, .ref m_saying]))]) hP hD [0] [1, 2] rfl rfl (by decide) (by decide) hk1 hFc hP1 hD1
  have hK := (hK.sub (tys' := [(ak_slots, .long), (ak_present, .int)]) [0, 1] rfl).app hK1
  generalize H1 = H at hP hS ⊢
  have hP : va_P (dC, dI) vwCl [(m_slots, .inl (ak_slots, 2400, .inr (.inl gsl))), (m_present, .inl (ak_present, 100, .inl gpr)), (h0, .inr (14, [.int m_thrown, .ref m_stop, .ref m_tape, .int m_taped, .int m_length, .int m_at, .int m_sort, .int m_place, .int m_sign, .long m_letters, .ref m_p, .ref m_spare, .int m_isTaken, .ref m_scope, .int m_scoped, .int m_deep, .int m_counted, .int m_fault, .int m_where, .ref m_cellKind, .ref m_cellCount, .ref m_free, .ref m_pile, .ref m_cellField, .int m_freeCount, .int m_given, .int m_nextPlain, .ref m_otherKind, .ref m_otherField, .int m_isPlain, .int m_hasRun, .int m_hasValue, .int m_hasOther, .long m_value, .long m_other, .int m_steps, .int m_made, .int m_reused, .int m_freed, .int m_most, .int m_doubled, .int m_openMost, .ref m_taskWhat, .ref m_taskPart, .ref m_values, .int m_tasks, .int m_valued, .int m_open, .ref m_slots, .ref m_present, .ref m_shell, .ref m_shellArm, .ref m_shellCall, .int m_shells, .ref m_keptCounts, .ref m_asideKind, .ref m_asideCount, .ref m_asideField, .ref m_out, .ref m_side, .int m_outs, .int m_sides, .ref m_saying]))] H := hP
  have hD : va_D A [(m_slots, .inl (ak_slots, 2400, .inr (.inl gsl))), (m_present, .inl (ak_present, 100, .inl gpr)), (h0, .inr (14, [.int m_thrown, .ref m_stop, .ref m_tape, .int m_taped, .int m_length, .int m_at, .int m_sort, .int m_place, .int m_sign, .long m_letters, .ref m_p, .ref m_spare, .int m_isTaken, .ref m_scope, .int m_scoped, .int m_deep, .int m_counted, .int m_fault, .int m_where, .ref m_cellKind, .ref m_cellCount, .ref m_free, .ref m_pile, .ref m_cellField, .int m_freeCount, .int m_given, .int m_nextPlain, .ref m_otherKind, .ref m_otherField, .int m_isPlain, .int m_hasRun, .int m_hasValue, .int m_hasOther, .long m_value, .long m_other, .int m_steps, .int m_made, .int m_reused, .int m_freed, .int m_most, .int m_doubled, .int m_openMost, .ref m_taskWhat, .ref m_taskPart, .ref m_values, .int m_tasks, .int m_valued, .int m_open, .ref m_slots, .ref m_present, .ref m_shell, .ref m_shellArm, .ref m_shellCall, .int m_shells, .ref m_keptCounts, .ref m_asideKind, .ref m_asideCount, .ref m_asideField, .ref m_out, .ref m_side, .int m_outs, .int m_sides, .ref m_saying]))] := hD
  have hK : va_K (dC, dI) vwCl [(ak_slots, .long), (ak_present, .int)] s := hK
  have hw_r_1 := hw
  try dsimp only at hw_r_1
  have hq_2 := hw
  refine lv_imul hx hb dX14_gets_21 ?_
  refine lv_topi (fun x_3 ex_3 => ?_)
  have ix_3 : x_3.toInt = 24 * r_1.toInt := by rw [ex_3]; exact zi_mull (by decide) (by omega) (by omega)
  refine lv_iload_n hx hb dX14_gets_22 rfl (lv_at hl 1 rfl) ?_
  refine lv_iadd hx hb dX14_gets_23 ?_
  refine lv_topi (fun x_4 ex_4 => ?_)
  have ix_4 : x_4.toInt = x_3.toInt + sl.toInt := by rw [ex_4]; exact zi_addc rfl (by omega) (by omega)
  refine lv_lload_n hx hb dX14_gets_24 rfl (lv_at hl 2 rfl) ?_
  refine va_last hx hb hK hP hD hS 0 0 rfl rfl (vp_in_iff.mpr ⟨by omega, by omega⟩) dX14_gets_25 (fun H locs hP hD hS => ?_)
  obtain ⟨f_5, ef_5⟩ : ∃ gz9 : Nat → Int64, gz9 = vp_updL gsl (Int32.toNatClampNeg x_4) va := ⟨_, rfl⟩
  rw [← ef_5] at hP hD
  have hP : va_P (dC, dI) vwCl [(m_slots, .inl (ak_slots, 2400, .inr (.inl f_5))), (m_present, .inl (ak_present, 100, .inl gpr)), (h0, .inr (14, [.int m_thrown, .ref m_stop, .ref m_tape, .int m_taped, .int m_length, .int m_at, .int m_sort, .int m_place, .int m_sign, .long m_letters, .ref m_p, .ref m_spare, .int m_isTaken, .ref m_scope, .int m_scoped, .int m_deep, .int m_counted, .int m_fault, .int m_where, .ref m_cellKind, .ref m_cellCount, .ref m_free, .ref m_pile, .ref m_cellField, .int m_freeCount, .int m_given, .int m_nextPlain, .ref m_otherKind, .ref m_otherField, .int m_isPlain, .int m_hasRun, .int m_hasValue, .int m_hasOther, .long m_value, .long m_other, .int m_steps, .int m_made, .int m_reused, .int m_freed, .int m_most, .int m_doubled, .int m_openMost, .ref m_taskWhat, .ref m_taskPart, .ref m_values, .int m_tasks, .int m_valued, .int m_open, .ref m_slots, .ref m_present, .ref m_shell, .ref m_shellArm, .ref m_shellCall, .int m_shells, .ref m_keptCounts, .ref m_asideKind, .ref m_asideCount, .ref m_asideField, .ref m_out, .ref m_side, .int m_outs, .int m_sides, .ref m_saying]))] H := hP
  have hD : va_D A [(m_slots, .inl (ak_slots, 2400, .inr (.inl f_5))), (m_present, .inl (ak_present, 100, .inl gpr)), (h0, .inr (14, [.int m_thrown, .ref m_stop, .ref m_tape, .int m_taped, .int m_length, .int m_at, .int m_sort, .int m_place, .int m_sign, .long m_letters, .ref m_p, .ref m_spare, .int m_isTaken, .ref m_scope, .int m_scoped, .int m_deep, .int m_counted, .int m_fault, .int m_where, .ref m_cellKind, .ref m_cellCount, .ref m_free, .ref m_pile, .ref m_cellField, .int m_freeCount, .int m_given, .int m_nextPlain, .ref m_otherKind, .ref m_otherField, .int m_isPlain, .int m_hasRun, .int m_hasValue, .int m_hasOther, .long m_value, .long m_other, .int m_steps, .int m_made, .int m_reused, .int m_freed, .int m_most, .int m_doubled, .int m_openMost, .ref m_taskWhat, .ref m_taskPart, .ref m_values, .int m_tasks, .int m_valued, .int m_open, .ref m_slots, .ref m_present, .ref m_shell, .ref m_shellArm, .ref m_shellCall, .int m_shells, .ref m_keptCounts, .ref m_asideKind, .ref m_asideCount, .ref m_asideField, .ref m_out, .ref m_side, .int m_outs, .int m_sides, .ref m_saying]))] := hD
  refine lv_aload_n hx hb dX14_gets_26 rfl (lv_at hl 0 rfl) ?_
  refine va_get (D := (dC, dI)) (ci := 14) (v := .ref m_present) (C := RX14) (T := TX14) (N := 63) hx hb hA zin_X14 hown hK hP 2 rfl rfl 49 (by decide) (hA _ wi_1546) (fun _ h9 => h9) rfl dX14_gets_27 ?_
  refine lv_aload_n hx hb dX14_gets_30 rfl (lv_at hl 0 rfl) ?_
  have hPc := hP.sub (ws' := [(h0, .inr (14, [.int m_thrown, .ref m_stop, .ref m_tape, .int m_taped, .int m_length, .int m_at, .int m_sort, .int m_place, .int m_sign, .long m_letters, .ref m_p, .ref m_spare, .int m_isTaken, .ref m_scope, .int m_scoped, .int m_deep, .int m_counted, .int m_fault, .int m_where, .ref m_cellKind, .ref m_cellCount, .ref m_free, .ref m_pile, .ref m_cellField, .int m_freeCount, .int m_given, .int m_nextPlain, .ref m_otherKind, .ref m_otherField, .int m_isPlain, .int m_hasRun, .int m_hasValue, .int m_hasOther, .long m_value, .long m_other, .int m_steps, .int m_made, .int m_reused, .int m_freed, .int m_most, .int m_doubled, .int m_openMost, .ref m_taskWhat, .ref m_taskPart, .ref m_values, .int m_tasks, .int m_valued, .int m_open, .ref m_slots, .ref m_present, .ref m_shell, .ref m_shellArm, .ref m_shellCall, .int m_shells, .ref m_keptCounts, .ref m_asideKind, .ref m_asideCount, .ref m_asideField, .ref m_out, .ref m_side, .int m_outs, .int m_sides, .ref m_saying]))]) [2] rfl
  have hDc := hD.sub (ws' := [(h0, .inr (14, [.int m_thrown, .ref m_stop, .ref m_tape, .int m_taped, .int m_length, .int m_at, .int m_sort, .int m_place, .int m_sign, .long m_letters, .ref m_p, .ref m_spare, .int m_isTaken, .ref m_scope, .int m_scoped, .int m_deep, .int m_counted, .int m_fault, .int m_where, .ref m_cellKind, .ref m_cellCount, .ref m_free, .ref m_pile, .ref m_cellField, .int m_freeCount, .int m_given, .int m_nextPlain, .ref m_otherKind, .ref m_otherField, .int m_isPlain, .int m_hasRun, .int m_hasValue, .int m_hasOther, .long m_value, .long m_other, .int m_steps, .int m_made, .int m_reused, .int m_freed, .int m_most, .int m_doubled, .int m_openMost, .ref m_taskWhat, .ref m_taskPart, .ref m_values, .int m_tasks, .int m_valued, .int m_open, .ref m_slots, .ref m_present, .ref m_shell, .ref m_shellArm, .ref m_shellCall, .int m_shells, .ref m_keptCounts, .ref m_asideKind, .ref m_asideCount, .ref m_asideField, .ref m_out, .ref m_side, .int m_outs, .int m_sides, .ref m_saying]))]) [2] (by decide) rfl
  have hKc := hK.sub (tys' := []) [] rfl
  have hFc := va_free (wc := [(h0, .inr (14, [.int m_thrown, .ref m_stop, .ref m_tape, .int m_taped, .int m_length, .int m_at, .int m_sort, .int m_place, .int m_sign, .long m_letters, .ref m_p, .ref m_spare, .int m_isTaken, .ref m_scope, .int m_scoped, .int m_deep, .int m_counted, .int m_fault, .int m_where, .ref m_cellKind, .ref m_cellCount, .ref m_free, .ref m_pile, .ref m_cellField, .int m_freeCount, .int m_given, .int m_nextPlain, .ref m_otherKind, .ref m_otherField, .int m_isPlain, .int m_hasRun, .int m_hasValue, .int m_hasOther, .long m_value, .long m_other, .int m_steps, .int m_made, .int m_reused, .int m_freed, .int m_most, .int m_doubled, .int m_openMost, .ref m_taskWhat, .ref m_taskPart, .ref m_values, .int m_tasks, .int m_valued, .int m_open, .ref m_slots, .ref m_present, .ref m_shell, .ref m_shellArm, .ref m_shellCall, .int m_shells, .ref m_keptCounts, .ref m_asideKind, .ref m_asideCount, .ref m_asideField, .ref m_out, .ref m_side, .int m_outs, .int m_sides, .ref m_saying]))]) hD hS hAA [2] rfl
  refine va_calli (va_runV (As := []) (rest := [.ref m_present]) ⟨hx, hb, hml, hown, hA⟩ (c_X14_call_x l dC dI aK aV h0 m_thrown m_stop m_tape m_taped m_length m_at m_sort m_place m_sign m_letters m_p m_spare m_isTaken m_scope m_scoped m_deep m_counted m_fault m_where m_cellKind m_cellCount m_free m_pile m_cellField m_freeCount m_given m_nextPlain m_otherKind m_otherField m_isPlain m_hasRun m_hasValue m_hasOther m_value m_other m_steps m_made m_reused m_freed m_most m_doubled m_openMost m_taskWhat m_taskPart m_values m_tasks m_valued m_open m_slots m_present m_shell m_shellArm m_shellCall m_shells m_keptCounts m_asideKind m_asideCount m_asideField m_out m_side m_outs m_sides m_saying H.size (by omega) (by omega)) (cwV 0 hA (zw_V wi_1905 wi_1907 wi_107 wi_143 (zw_good wi_1908)) rfl rfl rfl (by decide +kernel) ⟨(Nat.le_of_ble_eq_true rfl), (Nat.le_of_ble_eq_true rfl)⟩) ⟨zP_blind, va_recv hKc hPc (ci := 14) (q0 := 0) rfl rfl, zz_pre hKc hPc hDc hN hT hS hFc⟩ rfl rfl hl.1 rfl (lv_room (Nat.le_of_ble_eq_true rfl)) dX14_gets_31 ⟨(Nat.le_of_ble_eq_true rfl), (Nat.le_of_ble_eq_true rfl)⟩) hS (fun q _ h => hFc q h) hFc (fun r_6 u t H1 locs ht hvm hw hB hz1 hk1 hS => ?_)
  obtain ⟨hP1, hK1, hD1⟩ := hB
  rw [ht] at hP1
  have hK1 := va_K.moved hvm.symm hK1
  obtain ⟨hP, hD⟩ := va_join (wr := [(m_slots, .inl (ak_slots, 2400, .inr (.inl f_5))), (m_present, .inl (ak_present, 100, .inl gpr))]) (w1 := [(h0, .inr (14, [.int m_thrown, .ref m_stop, .ref m_tape, .int m_taped, .int m_length, .int m_at, .int m_sort, .int m_place, .int m_sign, .long m_letters, .ref m_p, .ref m_spare, .int m_isTaken, .ref m_scope, .int m_scoped, .int m_deep, .int m_counted, .int m_fault, .int m_where, .ref m_cellKind, .ref m_cellCount, .ref m_free, .ref m_pile, .ref m_cellField, .int m_freeCount, .int m_given, .int m_nextPlain, .ref m_otherKind, .ref m_otherField, .int m_isPlain, .int m_hasRun, .int m_hasValue, .int m_hasOther, .long m_value, .long m_other, .int m_steps, .int m_made, .int m_reused, .int m_freed, .int m_most, .int m_doubled, .int m_openMost, .ref m_taskWhat, .ref m_taskPart, .ref m_values, .int m_tasks, .int m_valued, .int m_open, .ref m_slots, .ref m_present, .ref m_shell, .ref m_shellArm, .ref m_shellCall, .int m_shells, .ref m_keptCounts, .ref m_asideKind, .ref m_asideCount, .ref m_asideField, .ref m_out, .ref m_side, .int m_outs, .int m_sides, .ref m_saying]))]) hP hD [2] [0, 1] rfl rfl (by decide) (by decide) hk1 hFc hP1 hD1
  have hK := (hK.sub (tys' := [(ak_slots, .long), (ak_present, .int)]) [0, 1] rfl).app hK1
  generalize H1 = H at hP hS ⊢
  have hP : va_P (dC, dI) vwCl [(m_slots, .inl (ak_slots, 2400, .inr (.inl f_5))), (m_present, .inl (ak_present, 100, .inl gpr)), (h0, .inr (14, [.int m_thrown, .ref m_stop, .ref m_tape, .int m_taped, .int m_length, .int m_at, .int m_sort, .int m_place, .int m_sign, .long m_letters, .ref m_p, .ref m_spare, .int m_isTaken, .ref m_scope, .int m_scoped, .int m_deep, .int m_counted, .int m_fault, .int m_where, .ref m_cellKind, .ref m_cellCount, .ref m_free, .ref m_pile, .ref m_cellField, .int m_freeCount, .int m_given, .int m_nextPlain, .ref m_otherKind, .ref m_otherField, .int m_isPlain, .int m_hasRun, .int m_hasValue, .int m_hasOther, .long m_value, .long m_other, .int m_steps, .int m_made, .int m_reused, .int m_freed, .int m_most, .int m_doubled, .int m_openMost, .ref m_taskWhat, .ref m_taskPart, .ref m_values, .int m_tasks, .int m_valued, .int m_open, .ref m_slots, .ref m_present, .ref m_shell, .ref m_shellArm, .ref m_shellCall, .int m_shells, .ref m_keptCounts, .ref m_asideKind, .ref m_asideCount, .ref m_asideField, .ref m_out, .ref m_side, .int m_outs, .int m_sides, .ref m_saying]))] H := hP
  have hD : va_D A [(m_slots, .inl (ak_slots, 2400, .inr (.inl f_5))), (m_present, .inl (ak_present, 100, .inl gpr)), (h0, .inr (14, [.int m_thrown, .ref m_stop, .ref m_tape, .int m_taped, .int m_length, .int m_at, .int m_sort, .int m_place, .int m_sign, .long m_letters, .ref m_p, .ref m_spare, .int m_isTaken, .ref m_scope, .int m_scoped, .int m_deep, .int m_counted, .int m_fault, .int m_where, .ref m_cellKind, .ref m_cellCount, .ref m_free, .ref m_pile, .ref m_cellField, .int m_freeCount, .int m_given, .int m_nextPlain, .ref m_otherKind, .ref m_otherField, .int m_isPlain, .int m_hasRun, .int m_hasValue, .int m_hasOther, .long m_value, .long m_other, .int m_steps, .int m_made, .int m_reused, .int m_freed, .int m_most, .int m_doubled, .int m_openMost, .ref m_taskWhat, .ref m_taskPart, .ref m_values, .int m_tasks, .int m_valued, .int m_open, .ref m_slots, .ref m_present, .ref m_shell, .ref m_shellArm, .ref m_shellCall, .int m_shells, .ref m_keptCounts, .ref m_asideKind, .ref m_asideCount, .ref m_asideField, .ref m_out, .ref m_side, .int m_outs, .int m_sides, .ref m_saying]))] := hD
  have hK : va_K (dC, dI) vwCl [(ak_slots, .long), (ak_present, .int)] s := hK
  have hw_r_6 := hw
  try dsimp only at hw_r_6
  have hq_7 := hw
  refine lv_dup2_11 hx hb dX14_gets_34 rfl rfl ?_
  refine va_iald hx hb hK hP 1 1 rfl rfl (vp_in_iff.mpr ⟨by omega, by omega⟩) dX14_gets_35 ?_
  refine lv_topi (fun x_8 ex_8 => ?_)
  refine lv_iload_n hx hb dX14_gets_36 rfl (lv_at hl 1 rfl) ?_
  have hPc := hP.sub (ws' := []) [] rfl
  have hDc := hD.sub (ws' := []) [] (by decide) rfl
  have hKc := hK.sub (tys' := []) [] rfl
  have hFc := va_free (wc := []) hD hS hAA [] rfl
  refine va_calli (va_runS (As := [.int sl]) (rest := [.int x_8, .int r_6, .ref m_present]) ⟨hx, hb, hml, hown, hA⟩ (c_X14_bit_x l dC dI aK aV sl H.size) (va_cwS 1 hA (zw_S wi_1855 wi_1856 wi_143 (zw_good wi_1857)) rfl rfl rfl (by decide +kernel) ⟨(Nat.le_of_ble_eq_true rfl), (Nat.le_of_ble_eq_true rfl)⟩) ⟨zP_blind, zz_pre hKc hPc hDc hN hT hS hFc⟩ rfl rfl hl.1 rfl (lv_room (Nat.le_of_ble_eq_true rfl)) dX14_gets_37 ⟨(Nat.le_of_ble_eq_true rfl), (Nat.le_of_ble_eq_true rfl)⟩) hS (fun q _ h => hFc q h) hFc (fun r_9 u t H1 locs ht hvm hw hB hz1 hk1 hS => ?_)
  obtain ⟨hP1, hK1, hD1⟩ := hB
  rw [ht] at hP1
  have hK1 := va_K.moved hvm.symm hK1
  obtain ⟨hP, hD⟩ := va_join (wr := [(m_slots, .inl (ak_slots, 2400, .inr (.inl f_5))), (m_present, .inl (ak_present, 100, .inl gpr)), (h0, .inr (14, [.int m_thrown, .ref m_stop, .ref m_tape, .int m_taped, .int m_length, .int m_at, .int m_sort, .int m_place, .int m_sign, .long m_letters, .ref m_p, .ref m_spare, .int m_isTaken, .ref m_scope, .int m_scoped, .int m_deep, .int m_counted, .int m_fault, .int m_where, .ref m_cellKind, .ref m_cellCount, .ref m_free, .ref m_pile, .ref m_cellField, .int m_freeCount, .int m_given, .int m_nextPlain, .ref m_otherKind, .ref m_otherField, .int m_isPlain, .int m_hasRun, .int m_hasValue, .int m_hasOther, .long m_value, .long m_other, .int m_steps, .int m_made, .int m_reused, .int m_freed, .int m_most, .int m_doubled, .int m_openMost, .ref m_taskWhat, .ref m_taskPart, .ref m_values, .int m_tasks, .int m_valued, .int m_open, .ref m_slots, .ref m_present, .ref m_shell, .ref m_shellArm, .ref m_shellCall, .int m_shells, .ref m_keptCounts, .ref m_asideKind, .ref m_asideCount, .ref m_asideField, .ref m_out, .ref m_side, .int m_outs, .int m_sides, .ref m_saying]))]) (w1 := []) hP hD [] [0, 1, 2] rfl rfl (by decide) (by decide) hk1 hFc hP1 hD1
  have hK := (hK.sub (tys' := [(ak_slots, .long), (ak_present, .int)]) [0, 1] rfl).app hK1
  generalize H1 = H at hP hS ⊢
  have hP : va_P (dC, dI) vwCl [(m_slots, .inl (ak_slots, 2400, .inr (.inl f_5))), (m_present, .inl (ak_present, 100, .inl gpr)), (h0, .inr (14, [.int m_thrown, .ref m_stop, .ref m_tape, .int m_taped, .int m_length, .int m_at, .int m_sort, .int m_place, .int m_sign, .long m_letters, .ref m_p, .ref m_spare, .int m_isTaken, .ref m_scope, .int m_scoped, .int m_deep, .int m_counted, .int m_fault, .int m_where, .ref m_cellKind, .ref m_cellCount, .ref m_free, .ref m_pile, .ref m_cellField, .int m_freeCount, .int m_given, .int m_nextPlain, .ref m_otherKind, .ref m_otherField, .int m_isPlain, .int m_hasRun, .int m_hasValue, .int m_hasOther, .long m_value, .long m_other, .int m_steps, .int m_made, .int m_reused, .int m_freed, .int m_most, .int m_doubled, .int m_openMost, .ref m_taskWhat, .ref m_taskPart, .ref m_values, .int m_tasks, .int m_valued, .int m_open, .ref m_slots, .ref m_present, .ref m_shell, .ref m_shellArm, .ref m_shellCall, .int m_shells, .ref m_keptCounts, .ref m_asideKind, .ref m_asideCount, .ref m_asideField, .ref m_out, .ref m_side, .int m_outs, .int m_sides, .ref m_saying]))] H := hP
  have hD : va_D A [(m_slots, .inl (ak_slots, 2400, .inr (.inl f_5))), (m_present, .inl (ak_present, 100, .inl gpr)), (h0, .inr (14, [.int m_thrown, .ref m_stop, .ref m_tape, .int m_taped, .int m_length, .int m_at, .int m_sort, .int m_place, .int m_sign, .long m_letters, .ref m_p, .ref m_spare, .int m_isTaken, .ref m_scope, .int m_scoped, .int m_deep, .int m_counted, .int m_fault, .int m_where, .ref m_cellKind, .ref m_cellCount, .ref m_free, .ref m_pile, .ref m_cellField, .int m_freeCount, .int m_given, .int m_nextPlain, .ref m_otherKind, .ref m_otherField, .int m_isPlain, .int m_hasRun, .int m_hasValue, .int m_hasOther, .long m_value, .long m_other, .int m_steps, .int m_made, .int m_reused, .int m_freed, .int m_most, .int m_doubled, .int m_openMost, .ref m_taskWhat, .ref m_taskPart, .ref m_values, .int m_tasks, .int m_valued, .int m_open, .ref m_slots, .ref m_present, .ref m_shell, .ref m_shellArm, .ref m_shellCall, .int m_shells, .ref m_keptCounts, .ref m_asideKind, .ref m_asideCount, .ref m_asideField, .ref m_out, .ref m_side, .int m_outs, .int m_sides, .ref m_saying]))] := hD
  have hK : va_K (dC, dI) vwCl [(ak_slots, .long), (ak_present, .int)] s := hK
  have hw_r_9 := hw
  try dsimp only at hw_r_9
  have hq_10 := hw
  refine lv_ior hx hb dX14_gets_40 ?_
  refine lv_topi (fun x_11 ex_11 => ?_)
  refine va_iast hx hb hK hP hD hS 1 1 rfl rfl (vp_in_iff.mpr ⟨by omega, by omega⟩) dX14_gets_41 (fun H locs hP hD hS => ?_)
  obtain ⟨f_12, ef_12⟩ : ∃ gz9 : Nat → Int32, gz9 = upd gpr (Int32.toNatClampNeg r_6) x_11 := ⟨_, rfl⟩
  rw [← ef_12] at hP hD
  have hP : va_P (dC, dI) vwCl [(m_slots, .inl (ak_slots, 2400, .inr (.inl f_5))), (m_present, .inl (ak_present, 100, .inl f_12)), (h0, .inr (14, [.int m_thrown, .ref m_stop, .ref m_tape, .int m_taped, .int m_length, .int m_at, .int m_sort, .int m_place, .int m_sign, .long m_letters, .ref m_p, .ref m_spare, .int m_isTaken, .ref m_scope, .int m_scoped, .int m_deep, .int m_counted, .int m_fault, .int m_where, .ref m_cellKind, .ref m_cellCount, .ref m_free, .ref m_pile, .ref m_cellField, .int m_freeCount, .int m_given, .int m_nextPlain, .ref m_otherKind, .ref m_otherField, .int m_isPlain, .int m_hasRun, .int m_hasValue, .int m_hasOther, .long m_value, .long m_other, .int m_steps, .int m_made, .int m_reused, .int m_freed, .int m_most, .int m_doubled, .int m_openMost, .ref m_taskWhat, .ref m_taskPart, .ref m_values, .int m_tasks, .int m_valued, .int m_open, .ref m_slots, .ref m_present, .ref m_shell, .ref m_shellArm, .ref m_shellCall, .int m_shells, .ref m_keptCounts, .ref m_asideKind, .ref m_asideCount, .ref m_asideField, .ref m_out, .ref m_side, .int m_outs, .int m_sides, .ref m_saying]))] H := hP
  have hD : va_D A [(m_slots, .inl (ak_slots, 2400, .inr (.inl f_5))), (m_present, .inl (ak_present, 100, .inl f_12)), (h0, .inr (14, [.int m_thrown, .ref m_stop, .ref m_tape, .int m_taped, .int m_length, .int m_at, .int m_sort, .int m_place, .int m_sign, .long m_letters, .ref m_p, .ref m_spare, .int m_isTaken, .ref m_scope, .int m_scoped, .int m_deep, .int m_counted, .int m_fault, .int m_where, .ref m_cellKind, .ref m_cellCount, .ref m_free, .ref m_pile, .ref m_cellField, .int m_freeCount, .int m_given, .int m_nextPlain, .ref m_otherKind, .ref m_otherField, .int m_isPlain, .int m_hasRun, .int m_hasValue, .int m_hasOther, .long m_value, .long m_other, .int m_steps, .int m_made, .int m_reused, .int m_freed, .int m_most, .int m_doubled, .int m_openMost, .ref m_taskWhat, .ref m_taskPart, .ref m_values, .int m_tasks, .int m_valued, .int m_open, .ref m_slots, .ref m_present, .ref m_shell, .ref m_shellArm, .ref m_shellCall, .int m_shells, .ref m_keptCounts, .ref m_asideKind, .ref m_asideCount, .ref m_asideField, .ref m_out, .ref m_side, .int m_outs, .int m_sides, .ref m_saying]))] := hD
  have hon := zn_nat (x := m_open) (by omega)
  have hsn := zn_nat hsl0
  have hx9 : Int32.toNatClampNeg x_4 = 24 * (Int32.toNatClampNeg m_open - 1) + Int32.toNatClampNeg sl := by have := zn_nat (x := x_4) (by omega); omega
  have hi9 : Int32.toNatClampNeg r_6 = (Int32.toNatClampNeg m_open - 1) := by have := zn_nat (x := r_6) (by omega); omega
  have hb9 : ∀ i, i < 32 → zbit r_9 i = (i == Int32.toNatClampNeg sl) := fun i hi => by rw [hq_10]; exact zbit_sh hsl0 (by omega) hi
  have he9 : f_12 = upd gpr (Int32.toNatClampNeg m_open - 1) (gpr (Int32.toNatClampNeg m_open - 1) ||| r_9) := by rw [ef_12, ex_11, ex_8, hi9]
  have hP9 := hP.sub (ws' := [(h0, .inr (14, [.int m_thrown, .ref m_stop, .ref m_tape, .int m_taped, .int m_length, .int m_at, .int m_sort, .int m_place, .int m_sign, .long m_letters, .ref m_p, .ref m_spare, .int m_isTaken, .ref m_scope, .int m_scoped, .int m_deep, .int m_counted, .int m_fault, .int m_where, .ref m_cellKind, .ref m_cellCount, .ref m_free, .ref m_pile, .ref m_cellField, .int m_freeCount, .int m_given, .int m_nextPlain, .ref m_otherKind, .ref m_otherField, .int m_isPlain, .int m_hasRun, .int m_hasValue, .int m_hasOther, .long m_value, .long m_other, .int m_steps, .int m_made, .int m_reused, .int m_freed, .int m_most, .int m_doubled, .int m_openMost, .ref m_taskWhat, .ref m_taskPart, .ref m_values, .int m_tasks, .int m_valued, .int m_open, .ref m_slots, .ref m_present, .ref m_shell, .ref m_shellArm, .ref m_shellCall, .int m_shells, .ref m_keptCounts, .ref m_asideKind, .ref m_asideCount, .ref m_asideField, .ref m_out, .ref m_side, .int m_outs, .int m_sides, .ref m_saying])), (m_slots, .inl (ak_slots, 2400, .inr (.inl f_5))), (m_present, .inl (ak_present, 100, .inl f_12))]) [2, 0, 1] rfl
  have hD9 := hD.sub (ws' := [(h0, .inr (14, [.int m_thrown, .ref m_stop, .ref m_tape, .int m_taped, .int m_length, .int m_at, .int m_sort, .int m_place, .int m_sign, .long m_letters, .ref m_p, .ref m_spare, .int m_isTaken, .ref m_scope, .int m_scoped, .int m_deep, .int m_counted, .int m_fault, .int m_where, .ref m_cellKind, .ref m_cellCount, .ref m_free, .ref m_pile, .ref m_cellField, .int m_freeCount, .int m_given, .int m_nextPlain, .ref m_otherKind, .ref m_otherField, .int m_isPlain, .int m_hasRun, .int m_hasValue, .int m_hasOther, .long m_value, .long m_other, .int m_steps, .int m_made, .int m_reused, .int m_freed, .int m_most, .int m_doubled, .int m_openMost, .ref m_taskWhat, .ref m_taskPart, .ref m_values, .int m_tasks, .int m_valued, .int m_open, .ref m_slots, .ref m_present, .ref m_shell, .ref m_shellArm, .ref m_shellCall, .int m_shells, .ref m_keptCounts, .ref m_asideKind, .ref m_asideCount, .ref m_asideField, .ref m_out, .ref m_side, .int m_outs, .int m_sides, .ref m_saying])), (m_slots, .inl (ak_slots, 2400, .inr (.inl f_5))), (m_present, .inl (ak_present, 100, .inl f_12))]) [2, 0, 1] (by decide) rfl
  have hK9 := hK.sub (tys' := [(ak_slots, .long), (ak_present, .int)]) [0, 1] rfl
  exact W.vret hx hb hr (fun t ht hW => ⟨⟨(f_12, f_5), rfl, ⟨(zH_in (t := 24 * (Int32.toNatClampNeg m_open - 1) + Int32.toNatClampNeg sl) hH (by rw [ef_5, hx9]) (fun j hj => zpp_set he9 hb9 hj) hRv), (zSO_in (t := 24 * (Int32.toNatClampNeg m_open - 1) + Int32.toNatClampNeg sl) hso hva (by rw [ef_5, hx9]) (fun j hj => zpp_set he9 hb9 hj)), (zGp_1 (by decide) he9 hb9), (by rw [ef_5, hx9])⟩, by rw [ht]; exact hP9, va_K.moved hW.alike hK9, hD9⟩, hS.F ht⟩) hS.2.2 dX14_gets_42

end
section
theorem wi_1947 : Cond.code yX14_wayBegins cX14_wayBegins 5 none ∈ zw := zw_in (List.mem_of_getElem? (i := 1947) (by decide +kernel)) (by decide +kernel)
theorem wi_1944 : Cond.methodLink RX14 457 yX14_wayBegins ∈ zw := zw_in (List.mem_of_getElem? (i := 1944) (by decide +kernel)) (by decide +kernel)
theorem wi_1946 : Cond.instanceMethod yX14_wayBegins ∈ zw := zw_in (List.mem_of_getElem? (i := 1946) (by decide +kernel)) (by decide +kernel)
theorem wi_115 : Cond.selects RX14 yX14_wayBegins yX14_wayBegins ∈ zw := zw_in (List.mem_of_getElem? (i := 115) (by decide +kernel)) (by decide +kernel)
theorem wi_1936 : Cond.code yX14_doubles cX14_doubles 3 none ∈ zw := zw_in (List.mem_of_getElem? (i := 1936) (by decide +kernel)) (by decide +kernel)
theorem wi_1933 : Cond.methodLink RX14 441 yX14_doubles ∈ zw := zw_in (List.mem_of_getElem? (i := 1933) (by decide +kernel)) (by decide +kernel)
theorem wi_1935 : Cond.instanceMethod yX14_doubles ∈ zw := zw_in (List.mem_of_getElem? (i := 1935) (by decide +kernel)) (by decide +kernel)
theorem wi_113 : Cond.selects RX14 yX14_doubles yX14_doubles ∈ zw := zw_in (List.mem_of_getElem? (i := 113) (by decide +kernel)) (by decide +kernel)
theorem dX14_matches_0 : decode cX14_matches 0 = .ok (.aload_n 0, 1) := by decide +kernel
theorem dX14_matches_1 : decode cX14_matches 1 = .ok (.getfield 23, 3) := by decide +kernel
theorem dX14_matches_4 : decode cX14_matches 4 = .ok (.getfield 199, 3) := by decide +kernel
theorem dX14_matches_7 : decode cX14_matches 7 = .ok (.iload_n 1, 1) := by decide +kernel
theorem dX14_matches_8 : decode cX14_matches 8 = .ok (.iaload, 1) := by decide +kernel
theorem dX14_matches_9 : decode cX14_matches 9 = .ok (.istore_n 2, 1) := by decide +kernel
theorem dX14_matches_10 : decode cX14_matches 10 = .ok (.aload_n 0, 1) := by decide +kernel
theorem dX14_matches_11 : decode cX14_matches 11 = .ok (.getfield 69, 3) := by decide +kernel
theorem dX14_matches_14 : decode cX14_matches 14 = .ok (.bipush 24, 2) := by decide +kernel
theorem dX14_matches_16 : decode cX14_matches 16 = .ok (.aload_n 0, 1) := by decide +kernel
theorem dX14_matches_17 : decode cX14_matches 17 = .ok (.invokevirtual 417, 3) := by decide +kernel
theorem dX14_matches_20 : decode cX14_matches 20 = .ok (.imul, 1) := by decide +kernel
theorem dX14_matches_21 : decode cX14_matches 21 = .ok (.iload_n 2, 1) := by decide +kernel
theorem dX14_matches_22 : decode cX14_matches 22 = .ok (.iadd, 1) := by decide +kernel
theorem dX14_matches_23 : decode cX14_matches 23 = .ok (.laload, 1) := by decide +kernel
theorem dX14_matches_24 : decode cX14_matches 24 = .ok (.lstore_n 3, 1) := by decide +kernel
theorem dX14_matches_25 : decode cX14_matches 25 = .ok (.lload_n 3, 1) := by decide +kernel
theorem dX14_matches_26 : decode cX14_matches 26 = .ok (.invokestatic 395, 3) := by decide +kernel
theorem dX14_matches_29 : decode cX14_matches 29 = .ok (.ifCond .eq 13, 3) := by decide +kernel
theorem dX14_matches_32 : decode cX14_matches 32 = .ok (.aload_n 0, 1) := by decide +kernel
theorem dX14_matches_33 : decode cX14_matches 33 = .ok (.getfield 38, 3) := by decide +kernel
theorem dX14_matches_36 : decode cX14_matches 36 = .ok (.lload_n 3, 1) := by decide +kernel
theorem dX14_matches_37 : decode cX14_matches 37 = .ok (.l2i, 1) := by decide +kernel
theorem dX14_matches_38 : decode cX14_matches 38 = .ok (.iaload, 1) := by decide +kernel
theorem dX14_matches_39 : decode cX14_matches 39 = .ok (.goto 16, 3) := by decide +kernel
theorem dX14_matches_42 : decode cX14_matches 42 = .ok (.lload_n 3, 1) := by decide +kernel
theorem dX14_matches_43 : decode cX14_matches 43 = .ok (.invokestatic 454, 3) := by decide +kernel
theorem dX14_matches_46 : decode cX14_matches 46 = .ok (.ifCond .eq 7, 3) := by decide +kernel
theorem dX14_matches_49 : decode cX14_matches 49 = .ok (.iconst (-1), 1) := by decide +kernel
theorem dX14_matches_50 : decode cX14_matches 50 = .ok (.goto 5, 3) := by decide +kernel
theorem dX14_matches_53 : decode cX14_matches 53 = .ok (.lload_n 3, 1) := by decide +kernel
theorem dX14_matches_54 : decode cX14_matches 54 = .ok (.l2i, 1) := by decide +kernel
theorem dX14_matches_55 : decode cX14_matches 55 = .ok (.istore 5, 2) := by decide +kernel
theorem dX14_matches_57 : decode cX14_matches 57 = .ok (.aload_n 0, 1) := by decide +kernel
theorem dX14_matches_58 : decode cX14_matches 58 = .ok (.getfield 23, 3) := by decide +kernel
theorem dX14_matches_61 : decode cX14_matches 61 = .ok (.getfield 202, 3) := by decide +kernel
theorem dX14_matches_64 : decode cX14_matches 64 = .ok (.iload_n 1, 1) := by decide +kernel
theorem dX14_matches_65 : decode cX14_matches 65 = .ok (.iaload, 1) := by decide +kernel
theorem dX14_matches_66 : decode cX14_matches 66 = .ok (.istore 6, 2) := by decide +kernel
theorem dX14_matches_68 : decode cX14_matches 68 = .ok (.iload 6, 2) := by decide +kernel
theorem dX14_matches_70 : decode cX14_matches 70 = .ok (.iconst (-1), 1) := by decide +kernel
theorem dX14_matches_71 : decode cX14_matches 71 = .ok (.if_icmp .eq 54, 3) := by decide +kernel
theorem dX14_matches_74 : decode cX14_matches 74 = .ok (.aload_n 0, 1) := by decide +kernel
theorem dX14_matches_75 : decode cX14_matches 75 = .ok (.getfield 23, 3) := by decide +kernel
theorem dX14_matches_78 : decode cX14_matches 78 = .ok (.getfield 199, 3) := by decide +kernel
theorem dX14_matches_81 : decode cX14_matches 81 = .ok (.iload 6, 2) := by decide +kernel
theorem dX14_matches_83 : decode cX14_matches 83 = .ok (.iaload, 1) := by decide +kernel
theorem dX14_matches_84 : decode cX14_matches 84 = .ok (.iconst (-1), 1) := by decide +kernel
theorem dX14_matches_85 : decode cX14_matches 85 = .ok (.if_icmp .eq 40, 3) := by decide +kernel
theorem dX14_matches_88 : decode cX14_matches 88 = .ok (.lload_n 3, 1) := by decide +kernel
theorem dX14_matches_89 : decode cX14_matches 89 = .ok (.invokestatic 454, 3) := by decide +kernel
theorem dX14_matches_92 : decode cX14_matches 92 = .ok (.ifCond .ne 18, 3) := by decide +kernel
theorem dX14_matches_95 : decode cX14_matches 95 = .ok (.aload_n 0, 1) := by decide +kernel
theorem dX14_matches_96 : decode cX14_matches 96 = .ok (.getfield 23, 3) := by decide +kernel
theorem dX14_matches_99 : decode cX14_matches 99 = .ok (.getfield 199, 3) := by decide +kernel
theorem dX14_matches_102 : decode cX14_matches 102 = .ok (.iload 6, 2) := by decide +kernel
theorem dX14_matches_104 : decode cX14_matches 104 = .ok (.iaload, 1) := by decide +kernel
theorem dX14_matches_105 : decode cX14_matches 105 = .ok (.iload 5, 2) := by decide +kernel
theorem dX14_matches_107 : decode cX14_matches 107 = .ok (.if_icmp .eq 18, 3) := by decide +kernel
theorem dX14_matches_110 : decode cX14_matches 110 = .ok (.aload_n 0, 1) := by decide +kernel
theorem dX14_matches_111 : decode cX14_matches 111 = .ok (.getfield 23, 3) := by decide +kernel
theorem dX14_matches_114 : decode cX14_matches 114 = .ok (.getfield 211, 3) := by decide +kernel
theorem dX14_matches_117 : decode cX14_matches 117 = .ok (.iload 6, 2) := by decide +kernel
theorem dX14_matches_119 : decode cX14_matches 119 = .ok (.iaload, 1) := by decide +kernel
theorem dX14_matches_120 : decode cX14_matches 120 = .ok (.istore 6, 2) := by decide +kernel
theorem dX14_matches_122 : decode cX14_matches 122 = .ok (.goto (-54), 3) := by decide +kernel
theorem dX14_matches_125 : decode cX14_matches 125 = .ok (.iload 6, 2) := by decide +kernel
theorem dX14_matches_127 : decode cX14_matches 127 = .ok (.iconst (-1), 1) := by decide +kernel
theorem dX14_matches_128 : decode cX14_matches 128 = .ok (.if_icmp .ne 18, 3) := by decide +kernel
theorem dX14_matches_131 : decode cX14_matches 131 = .ok (.aload_n 0, 1) := by decide +kernel
theorem dX14_matches_132 : decode cX14_matches 132 = .ok (.iconst 2, 1) := by decide +kernel
theorem dX14_matches_133 : decode cX14_matches 133 = .ok (.aload_n 0, 1) := by decide +kernel
theorem dX14_matches_134 : decode cX14_matches 134 = .ok (.getfield 23, 3) := by decide +kernel
theorem dX14_matches_137 : decode cX14_matches 137 = .ok (.getfield 197, 3) := by decide +kernel
theorem dX14_matches_140 : decode cX14_matches 140 = .ok (.iload_n 1, 1) := by decide +kernel
theorem dX14_matches_141 : decode cX14_matches 141 = .ok (.iaload, 1) := by decide +kernel
theorem dX14_matches_142 : decode cX14_matches 142 = .ok (.invokevirtual 181, 3) := by decide +kernel
theorem dX14_matches_145 : decode cX14_matches 145 = .ok (.athrow, 1) := by decide +kernel
theorem dX14_matches_146 : decode cX14_matches 146 = .ok (.aload_n 0, 1) := by decide +kernel
theorem dX14_matches_147 : decode cX14_matches 147 = .ok (.iload_n 1, 1) := by decide +kernel
theorem dX14_matches_148 : decode cX14_matches 148 = .ok (.iload 6, 2) := by decide +kernel
theorem dX14_matches_150 : decode cX14_matches 150 = .ok (.invokevirtual 372, 3) := by decide +kernel
theorem dX14_matches_153 : decode cX14_matches 153 = .ok (.istore 7, 2) := by decide +kernel
theorem dX14_matches_155 : decode cX14_matches 155 = .ok (.aload_n 0, 1) := by decide +kernel
theorem dX14_matches_156 : decode cX14_matches 156 = .ok (.getfield 23, 3) := by decide +kernel
theorem dX14_matches_159 : decode cX14_matches 159 = .ok (.getfield 202, 3) := by decide +kernel
theorem dX14_matches_162 : decode cX14_matches 162 = .ok (.iload 6, 2) := by decide +kernel
theorem dX14_matches_164 : decode cX14_matches 164 = .ok (.iaload, 1) := by decide +kernel
theorem dX14_matches_165 : decode cX14_matches 165 = .ok (.istore 8, 2) := by decide +kernel
theorem dX14_matches_167 : decode cX14_matches 167 = .ok (.iload 7, 2) := by decide +kernel
theorem dX14_matches_169 : decode cX14_matches 169 = .ok (.ifCond .ne 21, 3) := by decide +kernel
theorem dX14_matches_172 : decode cX14_matches 172 = .ok (.aload_n 0, 1) := by decide +kernel
theorem dX14_matches_173 : decode cX14_matches 173 = .ok (.getfield 72, 3) := by decide +kernel
theorem dX14_matches_176 : decode cX14_matches 176 = .ok (.aload_n 0, 1) := by decide +kernel
theorem dX14_matches_177 : decode cX14_matches 177 = .ok (.invokevirtual 417, 3) := by decide +kernel
theorem dX14_matches_180 : decode cX14_matches 180 = .ok (.dup2, 1) := by decide +kernel
theorem dX14_matches_181 : decode cX14_matches 181 = .ok (.iaload, 1) := by decide +kernel
theorem dX14_matches_182 : decode cX14_matches 182 = .ok (.iload_n 2, 1) := by decide +kernel
theorem dX14_matches_183 : decode cX14_matches 183 = .ok (.invokestatic 334, 3) := by decide +kernel
theorem dX14_matches_186 : decode cX14_matches 186 = .ok (.iconst (-1), 1) := by decide +kernel
theorem dX14_matches_187 : decode cX14_matches 187 = .ok (.ixor, 1) := by decide +kernel
theorem dX14_matches_188 : decode cX14_matches 188 = .ok (.iand, 1) := by decide +kernel
theorem dX14_matches_189 : decode cX14_matches 189 = .ok (.iastore, 1) := by decide +kernel
theorem dX14_matches_190 : decode cX14_matches 190 = .ok (.aload_n 0, 1) := by decide +kernel
theorem dX14_matches_191 : decode cX14_matches 191 = .ok (.getfield 23, 3) := by decide +kernel
theorem dX14_matches_194 : decode cX14_matches 194 = .ok (.getfield 199, 3) := by decide +kernel
theorem dX14_matches_197 : decode cX14_matches 197 = .ok (.iload 6, 2) := by decide +kernel
theorem dX14_matches_199 : decode cX14_matches 199 = .ok (.iaload, 1) := by decide +kernel
theorem dX14_matches_200 : decode cX14_matches 200 = .ok (.iconst (-1), 1) := by decide +kernel
theorem dX14_matches_201 : decode cX14_matches 201 = .ok (.if_icmp .eq 10, 3) := by decide +kernel
theorem dX14_matches_204 : decode cX14_matches 204 = .ok (.lload_n 3, 1) := by decide +kernel
theorem dX14_matches_205 : decode cX14_matches 205 = .ok (.invokestatic 395, 3) := by decide +kernel
theorem dX14_matches_208 : decode cX14_matches 208 = .ok (.ifCond .ne 20, 3) := by decide +kernel
theorem dX14_matches_211 : decode cX14_matches 211 = .ok (.iload 7, 2) := by decide +kernel
theorem dX14_matches_213 : decode cX14_matches 213 = .ok (.ifCond .ne 8, 3) := by decide +kernel
theorem dX14_matches_216 : decode cX14_matches 216 = .ok (.aload_n 0, 1) := by decide +kernel
theorem dX14_matches_217 : decode cX14_matches 217 = .ok (.lload_n 3, 1) := by decide +kernel
theorem dX14_matches_218 : decode cX14_matches 218 = .ok (.invokevirtual 413, 3) := by decide +kernel
theorem dX14_matches_221 : decode cX14_matches 221 = .ok (.aload_n 0, 1) := by decide +kernel
theorem dX14_matches_222 : decode cX14_matches 222 = .ok (.iload 8, 2) := by decide +kernel
theorem dX14_matches_224 : decode cX14_matches 224 = .ok (.invokevirtual 457, 3) := by decide +kernel
theorem dX14_matches_227 : decode cX14_matches 227 = .ok (.return_, 1) := by decide +kernel
theorem dX14_matches_228 : decode cX14_matches 228 = .ok (.lload_n 3, 1) := by decide +kernel
theorem dX14_matches_229 : decode cX14_matches 229 = .ok (.l2i, 1) := by decide +kernel
theorem dX14_matches_230 : decode cX14_matches 230 = .ok (.istore 9, 2) := by decide +kernel
theorem dX14_matches_232 : decode cX14_matches 232 = .ok (.aload_n 0, 1) := by decide +kernel
theorem dX14_matches_233 : decode cX14_matches 233 = .ok (.getfield 23, 3) := by decide +kernel
theorem dX14_matches_236 : decode cX14_matches 236 = .ok (.getfield 214, 3) := by decide +kernel
theorem dX14_matches_239 : decode cX14_matches 239 = .ok (.iload 6, 2) := by decide +kernel
theorem dX14_matches_241 : decode cX14_matches 241 = .ok (.iaload, 1) := by decide +kernel
theorem dX14_matches_242 : decode cX14_matches 242 = .ok (.istore 10, 2) := by decide +kernel
theorem dX14_matches_244 : decode cX14_matches 244 = .ok (.iload 7, 2) := by decide +kernel
theorem dX14_matches_246 : decode cX14_matches 246 = .ok (.ifCond .ne 25, 3) := by decide +kernel
theorem dX14_matches_249 : decode cX14_matches 249 = .ok (.aload_n 0, 1) := by decide +kernel
theorem dX14_matches_250 : decode cX14_matches 250 = .ok (.getfield 392, 3) := by decide +kernel
theorem dX14_matches_253 : decode cX14_matches 253 = .ok (.ifCond .ne 18, 3) := by decide +kernel
theorem dX14_matches_256 : decode cX14_matches 256 = .ok (.aload_n 0, 1) := by decide +kernel
theorem dX14_matches_257 : decode cX14_matches 257 = .ok (.getfield 42, 3) := by decide +kernel
theorem dX14_matches_260 : decode cX14_matches 260 = .ok (.iload 9, 2) := by decide +kernel
theorem dX14_matches_262 : decode cX14_matches 262 = .ok (.iaload, 1) := by decide +kernel
theorem dX14_matches_263 : decode cX14_matches 263 = .ok (.iconst 1, 1) := by decide +kernel
theorem dX14_matches_264 : decode cX14_matches 264 = .ok (.if_icmp .ne 7, 3) := by decide +kernel
theorem dX14_matches_267 : decode cX14_matches 267 = .ok (.iconst 1, 1) := by decide +kernel
theorem dX14_matches_268 : decode cX14_matches 268 = .ok (.goto 4, 3) := by decide +kernel
theorem dX14_matches_271 : decode cX14_matches 271 = .ok (.iconst 0, 1) := by decide +kernel
theorem dX14_matches_272 : decode cX14_matches 272 = .ok (.istore 11, 2) := by decide +kernel
theorem dX14_matches_274 : decode cX14_matches 274 = .ok (.iconst 0, 1) := by decide +kernel
theorem dX14_matches_275 : decode cX14_matches 275 = .ok (.istore 12, 2) := by decide +kernel
theorem dX14_matches_277 : decode cX14_matches 277 = .ok (.iload 12, 2) := by decide +kernel
theorem dX14_matches_279 : decode cX14_matches 279 = .ok (.iload 10, 2) := by decide +kernel
theorem dX14_matches_281 : decode cX14_matches 281 = .ok (.if_icmp .ge 110, 3) := by decide +kernel
theorem dX14_matches_284 : decode cX14_matches 284 = .ok (.aload_n 0, 1) := by decide +kernel
theorem dX14_matches_285 : decode cX14_matches 285 = .ok (.getfield 51, 3) := by decide +kernel
theorem dX14_matches_288 : decode cX14_matches 288 = .ok (.iconst 3, 1) := by decide +kernel
theorem dX14_matches_289 : decode cX14_matches 289 = .ok (.iload 9, 2) := by decide +kernel
theorem dX14_matches_291 : decode cX14_matches 291 = .ok (.imul, 1) := by decide +kernel
theorem dX14_matches_292 : decode cX14_matches 292 = .ok (.iload 12, 2) := by decide +kernel
theorem dX14_matches_294 : decode cX14_matches 294 = .ok (.iadd, 1) := by decide +kernel
theorem dX14_matches_295 : decode cX14_matches 295 = .ok (.laload, 1) := by decide +kernel
theorem dX14_matches_296 : decode cX14_matches 296 = .ok (.lstore 13, 2) := by decide +kernel
theorem dX14_matches_298 : decode cX14_matches 298 = .ok (.aload_n 0, 1) := by decide +kernel
theorem dX14_matches_299 : decode cX14_matches 299 = .ok (.getfield 23, 3) := by decide +kernel
theorem dX14_matches_302 : decode cX14_matches 302 = .ok (.getfield 337, 3) := by decide +kernel
theorem dX14_matches_305 : decode cX14_matches 305 = .ok (.iload 8, 2) := by decide +kernel
theorem dX14_matches_307 : decode cX14_matches 307 = .ok (.iaload, 1) := by decide +kernel
theorem dX14_matches_308 : decode cX14_matches 308 = .ok (.aload_n 0, 1) := by decide +kernel
theorem dX14_matches_309 : decode cX14_matches 309 = .ok (.getfield 23, 3) := by decide +kernel
theorem dX14_matches_312 : decode cX14_matches 312 = .ok (.getfield 205, 3) := by decide +kernel
theorem dX14_matches_315 : decode cX14_matches 315 = .ok (.iload 6, 2) := by decide +kernel
theorem dX14_matches_317 : decode cX14_matches 317 = .ok (.iaload, 1) := by decide +kernel
theorem dX14_matches_318 : decode cX14_matches 318 = .ok (.iload 12, 2) := by decide +kernel
theorem dX14_matches_320 : decode cX14_matches 320 = .ok (.iadd, 1) := by decide +kernel
theorem dX14_matches_321 : decode cX14_matches 321 = .ok (.ishr, 1) := by decide +kernel
theorem dX14_matches_322 : decode cX14_matches 322 = .ok (.iconst 1, 1) := by decide +kernel
theorem dX14_matches_323 : decode cX14_matches 323 = .ok (.iand, 1) := by decide +kernel
theorem dX14_matches_324 : decode cX14_matches 324 = .ok (.iconst 1, 1) := by decide +kernel
theorem dX14_matches_325 : decode cX14_matches 325 = .ok (.if_icmp .ne 7, 3) := by decide +kernel
theorem dX14_matches_328 : decode cX14_matches 328 = .ok (.iconst 1, 1) := by decide +kernel
theorem dX14_matches_329 : decode cX14_matches 329 = .ok (.goto 4, 3) := by decide +kernel
theorem dX14_matches_332 : decode cX14_matches 332 = .ok (.iconst 0, 1) := by decide +kernel
theorem dX14_matches_333 : decode cX14_matches 333 = .ok (.istore 15, 2) := by decide +kernel
theorem dX14_matches_335 : decode cX14_matches 335 = .ok (.iload 15, 2) := by decide +kernel
theorem dX14_matches_337 : decode cX14_matches 337 = .ok (.ifCond .eq 37, 3) := by decide +kernel
theorem dX14_matches_340 : decode cX14_matches 340 = .ok (.iload 11, 2) := by decide +kernel
theorem dX14_matches_342 : decode cX14_matches 342 = .ok (.ifCond .ne 9, 3) := by decide +kernel
theorem dX14_matches_345 : decode cX14_matches 345 = .ok (.aload_n 0, 1) := by decide +kernel
theorem dX14_matches_346 : decode cX14_matches 346 = .ok (.lload 13, 2) := by decide +kernel
theorem dX14_matches_348 : decode cX14_matches 348 = .ok (.invokevirtual 441, 3) := by decide +kernel
theorem dX14_matches_351 : decode cX14_matches 351 = .ok (.aload_n 0, 1) := by decide +kernel
theorem dX14_matches_352 : decode cX14_matches 352 = .ok (.aload_n 0, 1) := by decide +kernel
theorem dX14_matches_353 : decode cX14_matches 353 = .ok (.getfield 23, 3) := by decide +kernel
theorem dX14_matches_356 : decode cX14_matches 356 = .ok (.getfield 205, 3) := by decide +kernel
theorem dX14_matches_359 : decode cX14_matches 359 = .ok (.iload 6, 2) := by decide +kernel
theorem dX14_matches_361 : decode cX14_matches 361 = .ok (.iaload, 1) := by decide +kernel
theorem dX14_matches_362 : decode cX14_matches 362 = .ok (.iload 12, 2) := by decide +kernel
theorem dX14_matches_364 : decode cX14_matches 364 = .ok (.iadd, 1) := by decide +kernel
theorem dX14_matches_365 : decode cX14_matches 365 = .ok (.lload 13, 2) := by decide +kernel
theorem dX14_matches_367 : decode cX14_matches 367 = .ok (.iconst 1, 1) := by decide +kernel
theorem dX14_matches_368 : decode cX14_matches 368 = .ok (.invokevirtual 427, 3) := by decide +kernel
theorem dX14_matches_371 : decode cX14_matches 371 = .ok (.goto 14, 3) := by decide +kernel
theorem dX14_matches_374 : decode cX14_matches 374 = .ok (.iload 11, 2) := by decide +kernel
theorem dX14_matches_376 : decode cX14_matches 376 = .ok (.ifCond .eq 9, 3) := by decide +kernel
theorem dX14_matches_379 : decode cX14_matches 379 = .ok (.aload_n 0, 1) := by decide +kernel
theorem dX14_matches_380 : decode cX14_matches 380 = .ok (.lload 13, 2) := by decide +kernel
theorem dX14_matches_382 : decode cX14_matches 382 = .ok (.invokevirtual 413, 3) := by decide +kernel
theorem dX14_matches_385 : decode cX14_matches 385 = .ok (.iinc 12 1, 3) := by decide +kernel
theorem dX14_matches_388 : decode cX14_matches 388 = .ok (.goto (-111), 3) := by decide +kernel
theorem dX14_matches_391 : decode cX14_matches 391 = .ok (.iload 11, 2) := by decide +kernel
theorem dX14_matches_393 : decode cX14_matches 393 = .ok (.ifCond .eq 84, 3) := by decide +kernel
theorem dX14_matches_396 : decode cX14_matches 396 = .ok (.aload_n 0, 1) := by decide +kernel
theorem dX14_matches_397 : decode cX14_matches 397 = .ok (.getfield 42, 3) := by decide +kernel
theorem dX14_matches_400 : decode cX14_matches 400 = .ok (.iload 9, 2) := by decide +kernel
theorem dX14_matches_402 : decode cX14_matches 402 = .ok (.iconst 0, 1) := by decide +kernel
theorem dX14_matches_403 : decode cX14_matches 403 = .ok (.iastore, 1) := by decide +kernel
theorem dX14_matches_404 : decode cX14_matches 404 = .ok (.aload_n 0, 1) := by decide +kernel
theorem dX14_matches_405 : decode cX14_matches 405 = .ok (.iload 6, 2) := by decide +kernel
theorem dX14_matches_407 : decode cX14_matches 407 = .ok (.invokevirtual 376, 3) := by decide +kernel
theorem dX14_matches_410 : decode cX14_matches 410 = .ok (.ifCond .eq 58, 3) := by decide +kernel
theorem dX14_matches_413 : decode cX14_matches 413 = .ok (.aload_n 0, 1) := by decide +kernel
theorem dX14_matches_414 : decode cX14_matches 414 = .ok (.getfield 75, 3) := by decide +kernel
theorem dX14_matches_417 : decode cX14_matches 417 = .ok (.aload_n 0, 1) := by decide +kernel
theorem dX14_matches_418 : decode cX14_matches 418 = .ok (.getfield 478, 3) := by decide +kernel
theorem dX14_matches_421 : decode cX14_matches 421 = .ok (.iload 9, 2) := by decide +kernel
theorem dX14_matches_423 : decode cX14_matches 423 = .ok (.iastore, 1) := by decide +kernel
theorem dX14_matches_424 : decode cX14_matches 424 = .ok (.aload_n 0, 1) := by decide +kernel
theorem dX14_matches_425 : decode cX14_matches 425 = .ok (.getfield 78, 3) := by decide +kernel
theorem dX14_matches_428 : decode cX14_matches 428 = .ok (.aload_n 0, 1) := by decide +kernel
theorem dX14_matches_429 : decode cX14_matches 429 = .ok (.getfield 478, 3) := by decide +kernel
theorem dX14_matches_432 : decode cX14_matches 432 = .ok (.iload 6, 2) := by decide +kernel
theorem dX14_matches_434 : decode cX14_matches 434 = .ok (.iastore, 1) := by decide +kernel
theorem dX14_matches_435 : decode cX14_matches 435 = .ok (.aload_n 0, 1) := by decide +kernel
theorem dX14_matches_436 : decode cX14_matches 436 = .ok (.getfield 81, 3) := by decide +kernel
theorem dX14_matches_439 : decode cX14_matches 439 = .ok (.aload_n 0, 1) := by decide +kernel
theorem dX14_matches_440 : decode cX14_matches 440 = .ok (.getfield 478, 3) := by decide +kernel
theorem dX14_matches_443 : decode cX14_matches 443 = .ok (.aload_n 0, 1) := by decide +kernel
theorem dX14_matches_444 : decode cX14_matches 444 = .ok (.invokevirtual 417, 3) := by decide +kernel
theorem dX14_matches_447 : decode cX14_matches 447 = .ok (.iastore, 1) := by decide +kernel
theorem dX14_matches_448 : decode cX14_matches 448 = .ok (.aload_n 0, 1) := by decide +kernel
theorem dX14_matches_449 : decode cX14_matches 449 = .ok (.dup, 1) := by decide +kernel
theorem dX14_matches_450 : decode cX14_matches 450 = .ok (.getfield 478, 3) := by decide +kernel
theorem dX14_matches_453 : decode cX14_matches 453 = .ok (.iconst 1, 1) := by decide +kernel
theorem dX14_matches_454 : decode cX14_matches 454 = .ok (.iadd, 1) := by decide +kernel
theorem dX14_matches_455 : decode cX14_matches 455 = .ok (.putfield 478, 3) := by decide +kernel
theorem dX14_matches_458 : decode cX14_matches 458 = .ok (.aload_n 0, 1) := by decide +kernel
theorem dX14_matches_459 : decode cX14_matches 459 = .ok (.iconst 2, 1) := by decide +kernel
theorem dX14_matches_460 : decode cX14_matches 460 = .ok (.iload 9, 2) := by decide +kernel
theorem dX14_matches_462 : decode cX14_matches 462 = .ok (.invokevirtual 420, 3) := by decide +kernel
theorem dX14_matches_465 : decode cX14_matches 465 = .ok (.goto 35, 3) := by decide +kernel
theorem dX14_matches_468 : decode cX14_matches 468 = .ok (.aload_n 0, 1) := by decide +kernel
theorem dX14_matches_469 : decode cX14_matches 469 = .ok (.iload 9, 2) := by decide +kernel
theorem dX14_matches_471 : decode cX14_matches 471 = .ok (.invokevirtual 401, 3) := by decide +kernel
theorem dX14_matches_474 : decode cX14_matches 474 = .ok (.goto 26, 3) := by decide +kernel
theorem dX14_matches_477 : decode cX14_matches 477 = .ok (.iload 7, 2) := by decide +kernel
theorem dX14_matches_479 : decode cX14_matches 479 = .ok (.ifCond .ne 21, 3) := by decide +kernel
theorem dX14_matches_482 : decode cX14_matches 482 = .ok (.aload_n 0, 1) := by decide +kernel
theorem dX14_matches_483 : decode cX14_matches 483 = .ok (.getfield 392, 3) := by decide +kernel
theorem dX14_matches_486 : decode cX14_matches 486 = .ok (.ifCond .ne 14, 3) := by decide +kernel
theorem dX14_matches_489 : decode cX14_matches 489 = .ok (.aload_n 0, 1) := by decide +kernel
theorem dX14_matches_490 : decode cX14_matches 490 = .ok (.getfield 42, 3) := by decide +kernel
theorem dX14_matches_493 : decode cX14_matches 493 = .ok (.iload 9, 2) := by decide +kernel
theorem dX14_matches_495 : decode cX14_matches 495 = .ok (.dup2, 1) := by decide +kernel
theorem dX14_matches_496 : decode cX14_matches 496 = .ok (.iaload, 1) := by decide +kernel
theorem dX14_matches_497 : decode cX14_matches 497 = .ok (.iconst 1, 1) := by decide +kernel
theorem dX14_matches_498 : decode cX14_matches 498 = .ok (.isub, 1) := by decide +kernel
theorem dX14_matches_499 : decode cX14_matches 499 = .ok (.iastore, 1) := by decide +kernel
theorem dX14_matches_500 : decode cX14_matches 500 = .ok (.aload_n 0, 1) := by decide +kernel
theorem dX14_matches_501 : decode cX14_matches 501 = .ok (.iload 8, 2) := by decide +kernel
theorem dX14_matches_503 : decode cX14_matches 503 = .ok (.invokevirtual 457, 3) := by decide +kernel
theorem dX14_matches_506 : decode cX14_matches 506 = .ok (.return_, 1) := by decide +kernel

end
section
/-! a match, counted: what the reference does to names, cells and shells -/
/-- how many of the fields that are wanted are cells -/
def zdk (u : Int32) (h : Nat) (cf : Nat → Int64) (q : Nat) : Nat → Nat
  | 0 => 0
  | k + 1 => zdk u h cf q k + if zbit u (h + k) = true ∧ zhs (cf (q + k)) = 2 then 1 else 0
/-- the slots of the first n fields -/
def mzF (h n j : Nat) : Bool := decide (h ≤ j) && decide (j < h + n)
theorem mzF_0 {h j : Nat} : mzF h 0 j = false := by
  unfold mzF
  by_cases g : h ≤ j
  · rw [decide_eq_false (show ¬ j < h + 0 by omega), Bool.and_false]
  · rw [decide_eq_false g, Bool.false_and]
theorem mzF_s {h k j : Nat} : mzF h (k + 1) j = (mzF h k j || (j == h + k)) := by
  unfold mzF
  by_cases g : j = h + k
  · rw [g, beq_self_eq_true, Bool.or_true, decide_eq_true (by omega), decide_eq_true (by omega)]; rfl
  · rw [beq_false_of_ne g, Bool.or_false]
    by_cases q : j < h + k
    · rw [decide_eq_true q, decide_eq_true (show j < h + (k + 1) by omega)]
    · rw [decide_eq_false q, decide_eq_false (show ¬ j < h + (k + 1) by omega)]
theorem mzF_n {h k : Nat} : mzF h k (h + k) = false := by
  unfold mzF
  rw [decide_eq_false (show ¬ h + k < h + k by omega), Bool.and_false]
/-- bits: a field's is set -/
theorem mz_bu {p p2 q0 u : Int32} {h k : Nat} (hp : ∀ j, j < 32 → zbit p j = (zbit q0 j || (mzF h k j && zbit u j))) (h2 : ∀ j, j < 32 → zbit p2 j = (zbit p j || (j == h + k))) (hu : zbit u (h + k) = true) : ∀ j, j < 32 → zbit p2 j = (zbit q0 j || (mzF h (k + 1) j && zbit u j)) := fun j hj => by
  rw [h2 j hj, hp j hj, mzF_s]
  by_cases g : j = h + k
  · rw [g, hu, beq_self_eq_true]; cases zbit q0 (h + k) <;> cases mzF h k (h + k) <;> rfl
  · rw [beq_false_of_ne g]; cases zbit q0 j <;> cases mzF h k j <;> cases zbit u j <;> rfl
theorem mz_bn {p q0 u : Int32} {h k : Nat} (hp : ∀ j, j < 32 → zbit p j = (zbit q0 j || (mzF h k j && zbit u j))) (hu : zbit u (h + k) = false) : ∀ j, j < 32 → zbit p j = (zbit q0 j || (mzF h (k + 1) j && zbit u j)) := fun j hj => by
  rw [hp j hj, mzF_s]
  by_cases g : j = h + k
  · rw [g, hu, Bool.and_false, Bool.and_false]
  · rw [beq_false_of_ne g]; cases zbit q0 j <;> cases mzF h k j <;> cases zbit u j <;> rfl
theorem mz_bf {p q0 u : Int32} {h k : Nat} (hp : ∀ j, j < 32 → zbit p j = (zbit q0 j || (mzF h k j && zbit u j))) (hl : h + k < 32) (h0 : zbit q0 (h + k) = false) : zbit p (h + k) = false := by
  rw [hp _ hl, h0, mzF_n]; rfl
theorem pbd_s {e : Nat → Int64} {cf : Nat → Int64} {X h k : Nat} : pm_bd e cf X h (k + 1) = hUpd (pm_bd e cf X h k) (h + k) (cf (3 * X + k)) := funext (fun i => by
  unfold pm_bd
  by_cases g : i = h + k
  · rw [g, hU_s, if_pos ⟨by omega, by omega⟩, show h + k - h = k from by omega]
  · rw [hU_n g]
    by_cases q : h ≤ i ∧ i < h + k
    · rw [if_pos q, if_pos ⟨q.1, by omega⟩]
    · rw [if_neg q, if_neg (fun u => q ⟨u.1, by omega⟩)])
theorem pbd_0 {e : Nat → Int64} {cf : Nat → Int64} {X h k : Nat} (hk : k = 0) : pm_bd e cf X h k = e := funext (fun i => by unfold pm_bd; rw [if_neg (by omega)])
theorem zN_bn {p : Int32} {e cf : Nat → Int64} {X h k x : Nat} (hb : zbit p (h + k) = false) : zN24 p (pm_bd e cf X h (k + 1)) x = zN24 p (pm_bd e cf X h k) x := zN24_e (fun _ _ => rfl) (fun i _ hi => by rw [pbd_s, hU_n (fun g => by rw [g, hb] at hi; cases hi)])
theorem zN_bs {p q : Int32} {e cf : Nat → Int64} {X h k x : Nat} (hs : h + k < 24) (hb : zbit p (h + k) = false) (hq : ∀ j, j < 32 → zbit q j = (zbit p j || (j == h + k))) : zN24 q (pm_bd e cf X h (k + 1)) x = zN24 p (pm_bd e cf X h k) x + zr (cf (3 * X + k)) x := by
  rw [pbd_s]; exact zN24_in hs hb (fun i hi => hq i (by omega))
theorem zN_rm {p q : Int32} {e : Nat → Int64} {s x : Nat} (hs : s < 24) (hp : zbit p s = true) (hq : ∀ i, i < 32 → zbit q i = (zbit p i && !(i == s))) : zN24 p e x = zN24 q e x + zr (e s) x :=
  zN24_i hs (by rw [hq s (by omega), beq_self_eq_true]; cases zbit p s <;> rfl) (fun i hi => by
    rw [hq i (by omega)]
    by_cases g : i = s
    · rw [g, hp, beq_self_eq_true]; rfl
    · rw [beq_false_of_ne g]; cases zbit p i <;> rfl)
theorem zN_ge {p : Int32} {e : Nat → Int64} {s x : Nat} (hs : s < 24) (hp : zbit p s = true) : zr (e s) x ≤ zN24 p e x := by
  have := zs_ge (f := fun i => if zbit p i = true then zr (e i) x else 0) (n := 24) (x := s) (fun d _ => by show (0 : Int) ≤ if zbit p d = true then zr (e d) x else 0; split; exact zr_0 _ _; exact Int.le_refl _) hs
  have e2 : (if zbit p s = true then zr (e s) x else 0) = zr (e s) x := if_pos hp
  rw [e2] at this
  exact this
/-- the names' values, fields too -/
theorem mz_sv {φ : Nat → Nat} {p0 q0 p u : Int32} {en cA : Nat → Int64} {sl sl2 cf : Nat → Int64} {b h n X q : Nat} (hsv : ∀ i, i < 24 → zbit p0 i = true → vr φ (en i) (sl (b + i))) (hp : ∀ j, j < 32 → zbit p j = (zbit q0 j || (mzF h n j && zbit u j))) (hq : ∀ j, j < 32 → zbit q0 j = true → zbit p0 j = true) (hnb : ∀ i, h ≤ i → i < 24 → zbit p0 i = false) (hm : zMs sl sl2 (b + h) n u h cf q) (hv : ∀ k, k < n → vr φ (cA (3 * X + k)) (cf (q + k))) : ∀ i, i < 24 → zbit p i = true → vr φ (pm_bd en cA X h n i) (sl2 (b + i)) := fun i hi g => by
  rw [hp i (by omega)] at g
  by_cases w : h ≤ i ∧ i < h + n
  · have z0 : zbit q0 i = false := by
      cases z : zbit q0 i with
      | false => rfl
      | true => have := hq i (by omega) z; rw [hnb i w.1 hi] at this; cases this
    rw [z0, Bool.false_or, Bool.and_eq_true] at g
    have e1 := hm.2 (i - h) (by omega) (by rw [show h + (i - h) = i from by omega]; exact g.2)
    rw [show b + h + (i - h) = b + i from by omega] at e1
    unfold pm_bd
    rw [if_pos w, e1]
    exact hv _ (by omega)
  · have z1 : mzF h n i = false := by
      unfold mzF
      by_cases y : h ≤ i
      · rw [decide_eq_false (show ¬ i < h + n from fun y2 => w ⟨y, y2⟩), Bool.and_false]
      · rw [decide_eq_false y, Bool.false_and]
    rw [z1, Bool.false_and, Bool.or_false] at g
    unfold pm_bd
    rw [if_neg w, hm.1 _ (fun j hj => by omega)]
    exact hsv i hi (hq i (by omega) g)
section
variable {φ : Nat → Nat} {lv : Nat → Bool} {gA : Nat → Int} {c : Nat} {w : Nat → Nat} {kA : Nat → Int32} {cA : Nat → Int64} {R R2 : Nat → Int} {SI : List Nat} {gk gc gc2 : Nat → Int32} {gv : Nat → Int64} {fr fr2 : Nat → Int32} {fc fc2 gi : Int} {x k : Nat} {ki : Int32}
/-- a field of a cell that lives lives -/
theorem hZ_fl (h : hZ φ lv gA c w kA cA R SI gk gc gv) (hx : lv x = true) (hk : k < w x) (h2 : zhs (gv (3 * φ x + k)) = 2) : lv (Int32.toNatClampNeg (cA (3 * x + k)).toInt32) = true := by
  obtain ⟨⟨db, hI, -⟩, -, hL, -⟩ := h
  have v := vr_c ((hL x hx).2.2.2.2 k hk) h2
  cases g : lv (Int32.toNatClampNeg (cA (3 * x + k)).toInt32) with
  | true => rfl
  | false =>
    have a := (hI.2.1 _ g).2
    have b := zct_ge (zr := zr) zr_0 (lv := lv) (wd := w) (gv := cA) (c := Int32.toNatClampNeg (cA (3 * x + k)).toInt32) (hI.1 x hx).1 hx
    have d := zcf_1 (w := w) (cA := cA) hk v.1 v.2.1 rfl
    omega
/-- the last reference is let go, and the cell stays held -/
theorem hZ_dsh (h : hZ φ lv gA c w kA cA R SI gk gc gv) (hR : ∀ y, R y = R2 y + if y = x then 1 else 0) (h2 : ∀ y, 0 ≤ R2 y) (hx : lv x = true) (h1 : (gc (φ x)).toInt ≤ 1) : hZ φ (hUpd lv x false) gA c w kA cA (fun y => R2 y + zcf zr w cA x y) (x :: SI) gk gc gv ∧ x ∉ SI := by
  obtain ⟨a, b⟩ := hZ_die (gc2 := gc) h hR h2 hx h1 (fun _ _ => rfl)
  have at_ := hZ_at h hx
  refine ⟨hZ_sh a at_.1 at_.2.1 b (fun y hy e => ?_), b⟩
  have hj := h.2.2.2.2.2
  rcases hy with g | g
  · by_cases q : y = x
    · rw [q, hU_s] at g; cases g
    · rw [hU_n q] at g
      exact q (hj y x (Or.inl g) (Or.inl hx) e)
  · have q := hj y x (Or.inr g) (Or.inl hx) e
    exact b (by rw [← q]; exact g)
theorem hF_dsh (hz : hZ φ lv gA c w kA cA R SI gk gc gv) (h : hF φ lv c SI fr fc gi) (hx : lv x = true) : hF φ (hUpd lv x false) c (x :: SI) fr fc gi := by
  refine hF_sh h (fun y hy => ?_) (by rw [hN_die (hZ_at hz hx).1 hx, List.length_cons]; omega)
  rcases hy with g | g
  · by_cases q : y = x
    · rw [q, hU_s] at g; cases g
    · rw [hU_n q] at g; exact Or.inl g
  · rcases List.mem_cons.mp g with q | q
    · rw [q]; exact Or.inl hx
    · exact Or.inr q
/-- a count of one that is only held -/
theorem hZ_g0 (h : hZ φ lv gA c w kA cA R (x :: SI) gk gc gv) (e2 : ∀ y, y ≠ φ x → gc2 y = gc y) : hZ φ lv gA c w kA cA R (x :: SI) gk gc2 gv := by
  obtain ⟨hI, ha, hL, hS, hN, hj⟩ := h
  refine ⟨hI, ha, fun y hy => ?_, hS, hN, hj⟩
  obtain ⟨a, b, d, e, f⟩ := hL y hy
  refine ⟨a, b, ?_, e, f⟩
  rw [e2 _ (fun q => ?_)]
  · exact d
  · have g := hj y x (Or.inl hy) (Or.inr List.mem_cons_self) q
    have := (hS x List.mem_cons_self).2.1
    rw [← g, hy] at this; cases this
/-- .. is freed -/
theorem hZ_fr (h : hZ φ lv gA c w kA cA R (x :: SI) gk gc gv) : hZ φ lv gA c w kA cA R SI gk gc gv := hZ_un h (fun _ hy => List.mem_cons_of_mem _ hy) (List.nodup_cons.mp h.2.2.2.2.1).2
theorem hF_fr (hz : hZ φ lv gA c w kA cA R (x :: SI) gk gc gv) (h : hF φ lv c (x :: SI) fr fc gi) (e : fr2 = upd fr fc.toNat ki) (ek : ki.toInt = (φ x : Int)) (ef : fc2 = fc + 1) : hF φ lv c SI fr2 fc2 gi := by
  obtain ⟨-, -, -, hS, hN, hj⟩ := hz
  refine hF_add h e ek (hS x List.mem_cons_self).2.2 ef (Or.inr List.mem_cons_self) (fun y hy => ?_) (by rw [List.length_cons]; omega)
  refine ⟨hy.imp id (List.mem_cons_of_mem _), fun q => ?_⟩
  have g := hj y x (hy.imp id (List.mem_cons_of_mem _)) (Or.inr List.mem_cons_self) q
  rcases hy with u | u
  · have := (hS x List.mem_cons_self).2.1
    rw [← g, u] at this; cases this
  · exact (List.nodup_cons.mp hN).1 (by rw [← g]; exact u)
end
/-- a shell more -/
theorem rSl_c {ph : Nat → Nat} {ma sh sa sq sh2 sa2 sq2 : Nat → Int32} {q i w n n2 : Nat} {S : List (Nat × Nat × Nat)} {ce ar cl : Int32} (h : rSl ph ma sh sa sq S n) (e1 : sh2 = upd sh n ce) (e2 : sa2 = upd sa n ar) (e3 : sq2 = upd sq n cl) (hc : ce.toInt = (ph i : Int)) (hw : (ma (Int32.toNatClampNeg ar)).toInt = (w : Int)) (hq : cl.toInt = (q : Int) - 1) (hn : n2 = n + 1) : rSl ph ma sh2 sa2 sq2 ((q, i, w) :: S) n2 :=
  ⟨n, hn, rSl_x (fun j hj => by rw [e1, e2, e3, zu_n (by omega), zu_n (by omega), zu_n (by omega)]; exact ⟨rfl, rfl, rfl⟩) h, by rw [e1, zu_s]; exact hc, by rw [e2, zu_s]; exact hw, by rw [e3, zu_s]; exact hq⟩
/-- what is needed in the arm or behind: the bits in the end -/
theorem mz_fin {p q0 r u b nd : Int32} {s h n : Nat} (hp : ∀ j, j < 32 → zbit p j = (zbit q0 j && !(decide (nd.toInt = 0) && (j == s)))) (hr : ∀ j, j < 32 → zbit r j = (zbit p j || (mzF h n j && zbit u j))) {r2 : Int32} (e : r2 = r &&& (u ||| b)) (hnd : nd.toInt = 1 ∧ (zbit u s = true ∨ zbit b s = true) ∨ nd.toInt = 0 ∧ zbit u s = false ∧ zbit b s = false) : ∀ j, j < 32 → zbit r2 j = (((zbit q0 j && !(!(zbit u s || zbit b s) && (j == s))) || (mzF h n j && zbit u j)) && (zbit u j || zbit b j)) := fun j hj => by
  rw [e, zbit_and, zbit_or, hr j hj, hp j hj]
  have : decide (nd.toInt = 0) = !(zbit u s || zbit b s) := by
    rcases hnd with ⟨g, g2⟩ | ⟨g, g2, g3⟩
    · rw [decide_eq_false (by omega)]
      rcases g2 with g2 | g2
      · rw [g2]; rfl
      · rw [g2, Bool.or_true]; rfl
    · rw [decide_eq_true g, g2, g3]; rfl
  rw [this]
theorem mz_ex {P : Nat → Prop} {a b : Nat} (h : a = b) (p : P a) : P b := h ▸ p

end
section
/-! a match, counted: the reference's against the machine's -/
section
variable {B : Nat → Nat → Int32} {J : Nat → Int64 → Prop} {z zk : Nat} {fd : Nat → Int32}
theorem rA_8 {k : Int32} {n d : Nat} : ∀ (t : Tm), sy_x t → rAt B J z t k → n = Int32.toNatClampNeg k → tm_wf zk fd t d → (B 0 n).toInt = 8 → n < z ∧ 0 ≤ (B 2 n).toInt ∧ ∃ (x t2 : Tm) (a : Nat), tm_li x ∧ tm_sy x true ∧ rI B J x (B 3 n) a n ∧ tm_wf zk fd x d ∧ (∀ i, tm_ub t i = ((i == Int32.toNatClampNeg (B 2 n)) || tm_ub x i)) ∧ (∀ i, tm_dn t2 i = tm_ub t i) ∧ (∀ (K : List (Nat × Tm)) (V : List Int64) (E : List (Nat → Int64)) (m c : Nat) (ck : Nat → Int32) (cf : Nat → Int64) (X : cm_X), cm_w t K V E m c ck cf X = .ok (((1, t2) :: K, V, E, m, c, ck, cf), X)) ∧ ∀ (F : sp_F) (lim : Int) (K0 K : List (Nat × Tm)) (V : List Int64) (E : List (Nat → Int64)) (m c : Nat) (ck : Nat → Int32) (cf : Nat → Int64) (X : cm_X), cm_d F fd lim t2 K0 K V E m c ck cf X = cm_mt fd (B 1 n).toInt (Int32.toNatClampNeg (B 2 n)) x K0 K V E m c ck cf X
  | .leaf (some (0, p, v, _, _, _)), _, ⟨a, b, h1, h2, h3, ⟨g1, g2, g3, g4⟩, h5⟩, e, _, h8 => by
    have hn : n = a := by have := zn_nat (x := k) (by omega); omega
    subst hn; omega
  | .leaf (some (_ + 1, p, _, s, _, _)), _, ⟨a, b, h1, h2, h3, ⟨g1, g2, g3, g4⟩, h5⟩, e, _, h8 => by
    have hn : n = a := by have := zn_nat (x := k) (by omega); omega
    subst hn; omega
  | .branch 0 (.leaf (some (0, p, _, _, _, w))) x, hs, ⟨a, b, h1, h2, h3, ⟨m, g1, g2, g3, g4, g5, g6⟩, h5⟩, e, hw, h8 => by
    have hn : n = m := by have := zn_nat (x := k) (by omega); omega
    subst hn; omega
  | .branch 0 (.leaf (some (1, p, _, c, _, _))) x, hs, ⟨a, b, h1, h2, h3, ⟨m, g1, g2, g3, g4, g5, g6⟩, h5⟩, e, hw, h8 => by
    have hn : n = m := by have := zn_nat (x := k) (by omega); omega
    subst hn; omega
  | .branch 1 (.leaf (some (0, p, o, _, _, _))) (.branch _ x y), hs, ⟨a, b, h1, h2, h3, ⟨m, q, g1, g2, g3, g4, g5, g6, g7, g8⟩, h5⟩, e, hw, h8 => by
    have hn : n = q := by have := zn_nat (x := k) (by omega); omega
    subst hn; omega
  | .branch 1 (.leaf (some (_ + 1, p, _, s, _, _))) (.branch _ x y), hs, ⟨a, b, h1, h2, h3, ⟨m, q, g1, g2, g3, g4, g5, g6, g7, g8⟩, h5⟩, e, hw, h8 => by
    have hn : n = q := by have := zn_nat (x := k) (by omega); omega
    subst hn; omega
  | .branch 2 (.leaf (some (_, p, _, _, _, _))) (.branch _ x (.branch _ y w)), hs, ⟨a, b, h1, h2, h3, ⟨m, o, q, g1, g2, g9, g3, g4, g5, g6, g7, g8⟩, h5⟩, e, hw, h8 => by
    have hn : n = q := by have := zn_nat (x := k) (by omega); omega
    subst hn; omega
  | .branch 0 (.leaf (some (2, p, _, s, _, _))) x, hs, ⟨a, b, h1, h2, h3, ⟨m, g1, g2, g3, g4, g5⟩, h5⟩, e, hw, _ => by
    have hn : n = m := by have := zn_nat (x := k) (by omega); omega
    subst hn
    have es : Int32.toNatClampNeg (B 2 n) = s := by have := zn_nat (x := B 2 n) (by omega); omega
    exact ⟨by omega, by omega, x, Tm.mat p s x, a, hs.2.1, hs.2.2, g1, hw.2, fun i => by rw [es]; rfl, fun i => rfl, fun _ _ _ _ _ _ _ _ => rfl, fun _ _ _ _ _ _ _ _ _ _ _ => by rw [es, g4]; rfl⟩
  | .leaf none, hs, _, _, _, _ => absurd hs.1 (by decide)
  | .branch (_ + 3) _ _, hs, _, _, _, _ => absurd hs.1 (fun g => nomatch (show (0 : Nat) = 1 from g))
  | .branch 0 (.leaf (some (_ + 3, _, _, _, _, _))) _, hs, _, _, _, _ => absurd hs.1 (fun g => nomatch (show (2 : Nat) = 1 from g))
  | .branch 0 (.leaf none) _, hs, _, _, _, _ => absurd hs.1 (fun g => nomatch (show (0 : Nat) = 1 from g))
  | .branch 0 (.branch _ _ _) _, hs, _, _, _, _ => absurd hs.1 (fun g => nomatch (show (0 : Nat) = 1 from g))
  | .branch 1 (.leaf none) _, hs, _, _, _, _ => absurd hs.1 (fun g => nomatch (show (0 : Nat) = 1 from g))
  | .branch 1 (.branch _ _ _) _, hs, _, _, _, _ => absurd hs.1 (fun g => nomatch (show (0 : Nat) = 1 from g))
  | .branch 1 (.leaf (some (0, _, _, _, _, _))) (.leaf _), hs, _, _, _, _ => absurd hs.1 (fun g => nomatch (show (0 : Nat) = 1 from g))
  | .branch 1 (.leaf (some (_ + 1, _, _, _, _, _))) (.leaf _), hs, _, _, _, _ => absurd hs.1 (fun g => nomatch (show (0 : Nat) = 1 from g))
  | .branch 2 (.leaf none) _, hs, _, _, _, _ => absurd hs.1 (fun g => nomatch (show (0 : Nat) = 1 from g))
  | .branch 2 (.branch _ _ _) _, hs, _, _, _, _ => absurd hs.1 (fun g => nomatch (show (0 : Nat) = 1 from g))
  | .branch 2 (.leaf (some (_, _, _, _, _, _))) (.leaf _), hs, _, _, _, _ => absurd hs.1 (fun g => nomatch (show (0 : Nat) = 1 from g))
  | .branch 2 (.leaf (some (_, _, _, _, _, _))) (.branch _ _ (.leaf _)), hs, _, _, _, _ => absurd hs.1 (fun g => nomatch (show (0 : Nat) = 1 from g))
end
/-- how a run ends: how, where, its counts -/
def rXs (F : sp_F) (fd : Nat → Int32) (lim : Int) (al : Nat) (s0 : cm_S) (gi : Int) (hw : Nat) (p : Int) (n md ru : Nat) (mo : Int) (db om : Nat) (fc : Int) : Prop := ∃ (K : List (Nat × Tm)) (V : List Int64) (E : List (Nat → Int64)) (c : Nat) (ck : Nat → Int32) (cf : Nat → Int64) (S : List (Nat × Nat × Nat)), cm_ou F fd lim al s0 (hw, p, ((K, V, E, n, c, ck, cf), (S, md, ru, mo, db, om))) ∧ cm_hl fd ((K, V, E, n, c, ck, cf), (S, md, ru, mo, db, om)) = gi - fc
section
variable {φ : Nat → Nat} {lv : Nat → Bool} {gA : Nat → Int} {c : Nat} {kA : Nat → Int32} {cA : Nat → Int64} {R : Nat → Int} {SI : List Nat} {gk gc : Nat → Int32} {gv : Nat → Int64} {fd : Nat → Int32} {w : Nat → Nat}
/-- a value's kind is the machine's -/
theorem hZ_kd (h : hZ φ lv gA c w kA cA R SI gk gc gv) {v u : Int64} (hv : vr φ v u) (hl : zhs u = 2 → lv (Int32.toNatClampNeg v.toInt32) = true) : pm_kd kA v = pm_kd gk u := by
  unfold pm_kd
  rw [vr_h hv]
  by_cases h0 : zhs v = 0
  · rw [if_pos h0, if_pos h0]
  · rw [if_neg h0, if_neg h0]
    by_cases h2 : zhs v = 2
    · have u2 : zhs u = 2 := by rw [vr_h hv]; exact h2
      rw [if_pos h2, if_pos h2, (vr_c hv u2).2.2, (h.2.2.1 _ (hl u2)).2.1]
    · rw [if_neg h2, if_neg h2]
      rw [(vr_n hv (by rw [vr_h hv]; exact h2)).1]
theorem rc_hl {K0 : List (Nat × Tm)} {V : List Int64} {E : List (Nat → Int64)} {n : Nat} {S : List (Nat × Nat × Nat)} {X : Nat × Nat × Int × Nat × Nat} {fr : Nat → Int32} {fc gi : Int} (r3 : hZ φ lv gA c (cWd fd kA) kA cA (mRt K0 V E) (sIs S) gk gc gv) (r4 : hF φ lv c (sIs S) fr fc gi) : cm_hl fd ((K0, V, E, n, c, kA, cA), (S, X)) = gi - fc := by
  show nLv c (cWd fd kA) cA (mRt K0 V E) + (S.length : Int) = gi - fc
  have a := hZ_nl r3
  have b := r4.2.2.1
  rw [show (sIs S).length = S.length from List.length_map ..] at b
  omega
end
/-- bits: what is left is what the arm and what is behind it need -/
theorem mz_nF {P2 P0 u b : Int32} {s h m j : Nat} {ax x K : Nat → Bool} (hb : zbit P2 j = (((zbit P0 j && !(!(zbit u s || zbit b s) && (j == s))) || (mzF h m j && zbit u j)) && (zbit u j || zbit b j))) (h0 : zbit P0 j = (((j == s) || x j) || K j)) (hu : zbit u j = ax j) (hk : zbit b j = K j) (hx : ax j = true → j < h → x j = true) (hm : ax j = true → j < h + m) : zbit P2 j = (ax j || K j) := by
  rw [hb, h0, ← hu, ← hk]
  cases e1 : zbit b j with
  | true =>
    by_cases g : j = s
    · rw [← g, e1, beq_self_eq_true, Bool.or_true]; cases zbit u j <;> cases mzF h m j <;> cases x j <;> rfl
    · rw [beq_false_of_ne g]; cases zbit u j <;> cases mzF h m j <;> cases x j <;> cases zbit u s <;> cases zbit b s <;> rfl
  | false =>
    cases e2 : zbit u j with
    | false => rw [show (false || false) = false from rfl, Bool.and_false]
    | true =>
      have a := hu.symm.trans e2
      by_cases g : j < h
      · rw [hx a g]
        by_cases q : j = s
        · rw [← q, e1, e2]; cases (j == j) <;> cases mzF h m j <;> rfl
        · rw [beq_false_of_ne q]; cases mzF h m j <;> cases zbit u s <;> cases zbit b s <;> rfl
      · have q : mzF h m j = true := by unfold mzF; rw [decide_eq_true (by omega), decide_eq_true (hm a)]; rfl
        rw [q]; cases (j == s) <;> cases x j <;> cases zbit u s <;> cases zbit b s <;> rfl
section
variable {B : Nat → Nat → Int32} {J : Nat → Int64 → Prop} {z zk : Nat} {fd us bh ma mk : Nat → Int32} {F : sp_F} {lim : Int} {al : Nat} {s0 : cm_S} {gi : Int} {tw tp w1 p1 w2 p2 : Nat → Int32} {ts t2 : Nat} {va : Nat → Int64} {vd : Nat} {sl sl2 : Nat → Int64} {pr pr2 : Nat → Int32} {o n : Nat} {ck gc gc2 : Nat → Int32} {cf : Nat → Int64} {fr fr2 : Nat → Int32} {fc fc2 : Int} {sh sa sq sh2 sa2 sq2 : Nat → Int32} {sc sc2 md ru : Nat} {mo : Int} {db db2 om : Nat} {k kz : Int32} {t : Tm} {K : List (Nat × Tm)} {V : List Int64} {e' : Nat → Int64} {E' : List (Nat → Int64)} {c : Nat} {ck' : Nat → Int32} {cf' : Nat → Int64} {S : List (Nat × Nat × Nat)} {ph : Nat → Nat} {lv : Nat → Bool} {gA : Nat → Int} {o' d a : Nat} {R : List Nat} {v : Int64}
/-- what a match's part and its arm are -/
theorem rc_8f (h : rCO B J z zk fd bh ma F lim al s0 gi tw tp ts va vd sl pr o n ck gc cf fr fc sh sa sq sc md ru mo db om 0 k t K V e' E' c ck' cf' S ph lv gA o' d) (hn : n ≠ al) (hw : (B 0 (Int32.toNatClampNeg k)).toInt = 8) (hs : Int32.toNatClampNeg (B 2 (Int32.toNatClampNeg k)) < 24) (ev : v = sl (24 * (o - 1) + Int32.toNatClampNeg (B 2 (Int32.toNatClampNeg k)))) (hR : zli (B 6) (B 3 (Int32.toNatClampNeg k)) R) : ∃ (x u2 : Tm), (∀ i, tm_ub t i = ((i == Int32.toNatClampNeg (B 2 (Int32.toNatClampNeg k))) || tm_ub x i)) ∧ (∀ i, nF ((1, u2) :: K) i = nF ((0, t) :: K) i) ∧ vr ph (e' (Int32.toNatClampNeg (B 2 (Int32.toNatClampNeg k)))) v ∧ (zhs v = 2 → lv (Int32.toNatClampNeg (e' (Int32.toNatClampNeg (B 2 (Int32.toNatClampNeg k)))).toInt32) = true) ∧ cm_re F fd lim al s0 (((1, u2) :: K, V, e' :: E', n + 1, c, ck', cf'), (S, md, ru, mo, db, om)) ∧ cm_st F fd lim al (((1, u2) :: K, V, e' :: E', n + 1, c, ck', cf'), (S, md, ru, mo, db, om)) = cm_mt fd (B 1 (Int32.toNatClampNeg k)).toInt (Int32.toNatClampNeg (B 2 (Int32.toNatClampNeg k))) x ((1, u2) :: K) K V (e' :: E') (n + 1) c ck' cf' (S, md, ru, mo, db, om) ∧ ((pm_fi (pm_kd ck' (e' (Int32.toNatClampNeg (B 2 (Int32.toNatClampNeg k))))) x = none ∧ zfa (B 2) (pm_kd ck v) R = none) ∨ ∃ (y : Tm) (r : Nat), pm_fi (pm_kd ck' (e' (Int32.toNatClampNeg (B 2 (Int32.toNatClampNeg k))))) x = some y ∧ zfa (B 2) (pm_kd ck v) R = some r ∧ (am_k y = -1 ∨ am_k y = pm_kd ck v) ∧ (rAt B J z (am_x y) (B 3 r) ∧ sy_x (am_x y)) ∧ ((B 4 r).toInt = (d : Int) ∧ am_h y = d ∧ (B 7 r).toInt = (am_m y : Int) ∧ (B 2 r).toInt = am_k y ∧ d + am_m y ≤ 24) ∧ (am_k y = -1 ∧ am_m y = 0 ∨ ∃ j : Nat, am_k y = (j : Int) ∧ j < zk ∧ (fd j).toInt = (am_m y : Int)) ∧ tm_wf zk fd (am_x y) (d + am_m y) ∧ ∀ i, tm_ub (am_x y) i = true → i < d → tm_ub x i = true) := by
  obtain ⟨h1, ⟨h2, h3, h4⟩, ⟨h5, h6, h7, h8, h9⟩, h10, r1, r2, r3, r4, r5, r6⟩ := h
  obtain ⟨kz, q0, x, u2, a, q1, q2, q3, q4, q5, q6, q7, q8⟩ := rA_8 t h3 h2 rfl h7 hw
  have nt : ∀ i, nF ((0, t) :: K) i = (((i == Int32.toNatClampNeg (B 2 (Int32.toNatClampNeg k))) || tm_ub x i) || nF K i) := fun i => by rw [nF_0, q5 i]
  subst h5
  rw [Nat.add_sub_cancel] at ev
  have hs0 : tm_ub t (Int32.toNatClampNeg (B 2 (Int32.toNatClampNeg k))) = true := by rw [q5 _, beq_self_eq_true]; rfl
  have hv : vr ph (e' (Int32.toNatClampNeg (B 2 (Int32.toNatClampNeg k)))) v := by rw [ev]; exact h8 _ hs0
  have hl : zhs v = 2 → lv (Int32.toNatClampNeg (e' (Int32.toNatClampNeg (B 2 (Int32.toNatClampNeg k)))).toInt32) = true := fun g => by
    refine hZ_lv r3 ?_
    have a := zr_w hv g (Int32.toNatClampNeg (e' (Int32.toNatClampNeg (B 2 (Int32.toNatClampNeg k)))).toInt32)
    rw [if_pos rfl] at a
    have b := zs_ge (f := fun i => if nF ((0, t) :: K) i = true then zr (e' i) (Int32.toNatClampNeg (e' (Int32.toNatClampNeg (B 2 (Int32.toNatClampNeg k)))).toInt32) else 0) (n := 24) (x := Int32.toNatClampNeg (B 2 (Int32.toNatClampNeg k))) (fun d _ => by show (0 : Int) ≤ if nF ((0, t) :: K) d = true then _ else 0; split; exact zr_0 _ _; exact Int.le_refl _) hs
    have b2 : (if nF ((0, t) :: K) (Int32.toNatClampNeg (B 2 (Int32.toNatClampNeg k))) = true then zr (e' (Int32.toNatClampNeg (B 2 (Int32.toNatClampNeg k)))) (Int32.toNatClampNeg (e' (Int32.toNatClampNeg (B 2 (Int32.toNatClampNeg k)))).toInt32) else 0) = zr (e' (Int32.toNatClampNeg (B 2 (Int32.toNatClampNeg k)))) (Int32.toNatClampNeg (e' (Int32.toNatClampNeg (B 2 (Int32.toNatClampNeg k)))).toInt32) := if_pos (by rw [nF_0, hs0]; rfl)
    rw [b2, a] at b
    have e := mRv_0 (V := V) (x := Int32.toNatClampNeg (e' (Int32.toNatClampNeg (B 2 (Int32.toNatClampNeg k)))).toInt32)
    have f := mRn_0 (E := E') (K := aF ((0, t) :: K)) (x := Int32.toNatClampNeg (e' (Int32.toNatClampNeg (B 2 (Int32.toNatClampNeg k)))).toInt32)
    show 1 ≤ mRv V _ + (zs 24 _ + mRn E' (aF ((0, t) :: K)) _)
    omega
  have ek := hZ_kd r3 hv hl
  refine ⟨x, u2, q5, fun i => by rw [nF_1, q6 i, nF_0], hv, hl, cm_re_s h1 ((cm_st_0 hn).trans (q7 _ _ _ _ _ _ _ _)), cm_st_1.trans (q8 _ _ _ _ _ _ _ _ _ _ _), ?_⟩
  rw [ek]
  exact rfi (z := z) (kd := pm_kd ck v) x q1 q2 q4 q3 (by omega) hR
/-- no arm fits -/
theorem rc_8x (h : rCO B J z zk fd bh ma F lim al s0 gi tw tp ts va vd sl pr o n ck gc cf fr fc sh sa sq sc md ru mo db om 0 k t K V e' E' c ck' cf' S ph lv gA o' d) (hn : n ≠ al) (hw : (B 0 (Int32.toNatClampNeg k)).toInt = 8) (hs : Int32.toNatClampNeg (B 2 (Int32.toNatClampNeg k)) < 24) (ev : v = sl (24 * (o - 1) + Int32.toNatClampNeg (B 2 (Int32.toNatClampNeg k)))) (hR : zli (B 6) (B 3 (Int32.toNatClampNeg k)) R) (hf : zfa (B 2) (pm_kd ck v) R = none) : rXs F fd lim al s0 gi 2 (B 1 (Int32.toNatClampNeg k)).toInt (n + 1) md ru mo db om fc := by
  obtain ⟨x, u2, nt, n2, hv, hl, hre, hst, hc⟩ := rc_8f h hn hw hs ev hR
  obtain ⟨h1, ⟨h2, h3, h4⟩, ⟨h5, h6, h7, h8, h9⟩, h10, r1, r2, r3, r4, r5, r6⟩ := h
  have g : pm_fi (pm_kd ck' (e' (Int32.toNatClampNeg (B 2 (Int32.toNatClampNeg k))))) x = none := by
    rcases hc with g | ⟨y, r, -, g2, -⟩
    · exact g.1
    · rw [hf] at g2; cases g2
  refine ⟨(1, u2) :: K, V, e' :: E', c, ck', cf', S, cm_ou_s hre (hst.trans ?_), rc_hl (hZ_R r3 (fun w => ?_)) r4⟩
  · unfold cm_mt
    rw [show (e' :: E').headD (fun _ => 0) = e' from rfl, g]
  · show mRv V w + mRn (e' :: E') ((1, u2) :: K) w = mRv V w + mRn (e' :: E') ((0, t) :: K) w
    rw [mRn_e (K2 := (1, u2) :: K) (K := (0, t) :: K) (e := e') (fun i _ => n2 i) rfl (fun _ _ _ => rfl)]
/-- the arm begins: all that is kept -/
theorem rc_8g {x y : Tm} {r t1 : Nat} {e2 : Nat → Int64} {K3 : List (Nat × Tm)} {S2 : List (Nat × Nat × Nat)} {lv2 : Nat → Bool} {gA2 : Nat → Int} {x0 : Int32} (h : rCO B J z zk fd bh ma F lim al s0 gi tw tp ts va vd sl pr o n ck gc cf fr fc sh sa sq sc md ru mo db om 0 k t K V e' E' c ck' cf' S ph lv gA o' d) (hu : ∀ (t : Tm) (k : Int32), sy_x t → rAt B J z t k → ∀ j, j < 32 → zbit (us (Int32.toNatClampNeg k)) j = tm_ub t j) (q5 : ∀ i, tm_ub t i = ((i == Int32.toNatClampNeg (B 2 (Int32.toNatClampNeg k))) || tm_ub x i)) (hv : vr ph (e' (Int32.toNatClampNeg (B 2 (Int32.toNatClampNeg k)))) v) (hl : zhs v = 2 → lv (Int32.toNatClampNeg (e' (Int32.toNatClampNeg (B 2 (Int32.toNatClampNeg k)))).toInt32) = true) (g3 : am_k y = -1 ∨ am_k y = pm_kd ck v) (g4 : rAt B J z (am_x y) (B 3 r)) (g5 : sy_x (am_x y)) (g6 : (B 4 r).toInt = (d : Int)) (g8 : (B 7 r).toInt = (am_m y : Int)) (g10 : d + am_m y ≤ 24) (g11 : am_k y = -1 ∧ am_m y = 0 ∨ ∃ j : Nat, am_k y = (j : Int) ∧ j < zk ∧ (fd j).toInt = (am_m y : Int)) (g12 : tm_wf zk fd (am_x y) (d + am_m y)) (g13 : ∀ i, tm_ub (am_x y) i = true → i < d → tm_ub x i = true)
    (hbr : bh r = bh (Int32.toNatClampNeg k) ∧ bh (Int32.toNatClampNeg (B 3 r)) = bh (Int32.toNatClampNeg k)) (hbt : (∀ i : Nat, i ≠ o - 1 → pr2 i = pr i) ∧ ∀ j : Nat, j < 32 → zbit (pr2 (o - 1)) j = (((zbit (pr (o - 1)) j && !(!(zbit (us (Int32.toNatClampNeg (B 3 r))) (Int32.toNatClampNeg (B 2 (Int32.toNatClampNeg k))) || zbit (bh r) (Int32.toNatClampNeg (B 2 (Int32.toNatClampNeg k)))) && (j == Int32.toNatClampNeg (B 2 (Int32.toNatClampNeg k))))) || (mzF (Int32.toNatClampNeg (B 4 r)) (Int32.toNatClampNeg (B 7 r)) j && zbit (us (Int32.toNatClampNeg (B 3 r))) j)) && (zbit (us (Int32.toNatClampNeg (B 3 r))) j || zbit (bh r) j)))
    (hre : cm_re F fd lim al s0 (((0, am_x y) :: K3, V, e2 :: E', n + 1, c, ck', cf'), (S2, md, ru, mo, db2, om))) (hE : (zhs v = 2 ∧ am_k y ≠ -1 ∧ e2 = pm_bd e' cf' (Int32.toNatClampNeg (e' (Int32.toNatClampNeg (B 2 (Int32.toNatClampNeg k)))).toInt32) d (am_m y) ∧ zMs sl sl2 (24 * (o - 1) + Int32.toNatClampNeg (B 4 r)) (Int32.toNatClampNeg (B 7 r)) (us (Int32.toNatClampNeg (B 3 r))) (Int32.toNatClampNeg (B 4 r)) cf (3 * Int32.toNatClampNeg v.toInt32)) ∨ (am_m y = 0 ∧ e2 = e' ∧ sl2 = sl))
    (hn3 : ∀ i, nF K3 i = nF K i) (ha3 : aF K3 = aF K) (hN3 : ∀ {sl2 : Nat → Int64} {e2 : Nat → Int64} {dd : Nat}, rNc ph zk fd sl2 K (e2 :: E') (o' + 1) dd → rNc ph zk fd sl2 K3 (e2 :: E') (o' + 1) dd) (hT : rTc B J z bh ph w1 p1 K3 t1) (hx0 : x0.toInt = 0) (a1 : zTa w1 w2 t1 x0) (b1 : zTa p1 p2 t1 (B 3 r)) (ht2 : t2 = t1 + 1) (hz : hZ ph lv2 gA2 c (cWd fd ck') ck' cf' (fun x => zN24 (pr2 (o - 1)) e2 x + (mRv V x + mRn E' (aF K) x)) (sIs S2) ck gc2 cf) (hF : hF ph lv2 c (sIs S2) fr2 fc2 gi) (hSl : rSl ph ma sh2 sa2 sq2 S2 sc2) (hSo : rSo ph c K3 o S2) : rCS B J z zk fd bh ma F lim al s0 gi w2 p2 t2 va vd sl2 pr2 o (n + 1) ck gc2 cf fr2 fc2 sh2 sa2 sq2 sc2 md ru mo db2 om := by
  obtain ⟨h1, ⟨h2, h3, h4⟩, ⟨h5, h6, h7, h8, h9⟩, h10, r1, r2, r3, r4, r5, r6⟩ := h
  subst h5
  rw [Nat.add_sub_cancel] at hbt hE hz
  have hub : ∀ j, j < 32 → zbit (us (Int32.toNatClampNeg (B 3 r))) j = tm_ub (am_x y) j := hu _ _ g5 g4
  have eh : Int32.toNatClampNeg (B 4 r) = d := zn_lit g6
  have em : Int32.toNatClampNeg (B 7 r) = am_m y := zn_lit g8
  rw [eh, em] at hbt hE
  have hbits : ∀ j, j < 32 → zbit (pr2 o') j = nF ((0, am_x y) :: K3) j := fun j hj => by
    rw [nF_0, hn3]
    exact mz_nF (hbt.2 j hj) (by rw [h10.1 j hj, nF_0, q5 j]) (hub j hj) (by rw [hbr.1]; exact h4 j hj) (g13 j) (fun g => wf_ub _ g12 g)
  subst ht2
  refine ⟨_, _, _, c, ck', cf', S2, ph, lv2, gA2, d + am_m y, hre, ⟨g10, ?_⟩, rPb_n (K := (0, t) :: K) h10 (fun i hi => hbt.1 i (by omega)) hbits (by show aF K3 = aF K; exact ha3), ?_, r2, hZ_R hz (fun w => ?_), hF, hSl, ?_⟩
  · refine rNc_c (Or.inl rfl) g12 (fun i hi => ?_) (hN3 ?_)
    · have hi : tm_ub (am_x y) i = true := hi
      have il := wf_ub _ g12 hi
      rcases hE with ⟨c2, ck1, rfl, s1, s2⟩ | ⟨m0, rfl, rfl⟩
      · unfold pm_bd
        by_cases w : i < d
        · rw [if_neg (by omega), s1 _ (fun j hj => by omega)]
          exact h8 i (by show tm_ub t i = true; rw [q5 i, g13 i hi w, Bool.or_true])
        · rw [if_pos (by omega)]
          have b1 := s2 (i - d) (by omega) (by rw [show d + (i - d) = i from by omega, hub i (by omega)]; exact hi)
          rw [show 24 * o' + d + (i - d) = 24 * o' + i from by omega] at b1
          rw [b1]
          have hlx := hl c2
          have hcc := r3.2.2.1 _ hlx
          have hph := (vr_c hv c2).2.2
          rw [hph]
          refine hcc.2.2.2.2 (i - d) ?_
          obtain ⟨j, j1, j2, j3⟩ := g11.resolve_left (fun g => ck1 g.1)
          have ek : (ck' (Int32.toNatClampNeg (e' (Int32.toNatClampNeg (B 2 (Int32.toNatClampNeg k)))).toInt32)).toInt = (j : Int) := by
            rw [← hcc.2.1, ← hph, ← j1, g3.resolve_left ck1]
            unfold pm_kd
            rw [if_neg (by rw [c2]; decide), if_pos c2]
          unfold cWd
          rw [zn_lit ek, j3]
          omega
      · rw [m0] at il
        exact h8 i (by show tm_ub t i = true; rw [q5 i, g13 i hi (by omega), Bool.or_true])
    · rcases hE with ⟨c2, ck1, rfl, s1, s2⟩ | ⟨m0, rfl, rfl⟩
      · exact rNc_mo (Nat.le_add_right _ _) (rNc_hd (fun i hi => s1 _ (fun j hj => by omega)) h6 (fun i hi => ⟨s1 _ (fun j hj => by omega), by unfold pm_bd; rw [if_neg (by omega)]⟩) h9)
      · exact rNc_mo (Nat.le_add_right _ _) h9
  · exact rTc_a hT a1 b1 (Or.inl ⟨Or.inl ⟨rfl, hx0⟩, g4, g5, fun i hi => by rw [hbr.2, h4 i hi, hn3]⟩)
  · show mRv V w + mRn (e2 :: E') ((0, am_x y) :: K3) w = zN24 (pr2 o') e2 w + (mRv V w + mRn E' (aF K) w)
    rw [mRn_p (p := pr2 o') (fun i hi => hbits i (by omega)), show aF ((0, am_x y) :: K3) = aF K from ha3]; omega
  · exact Or.inr (Or.inr ⟨by decide, by decide, hSo⟩)
/-- a value that is no cell, or any arm -/
theorem rc_8A (h : rCO B J z zk fd bh ma F lim al s0 gi tw tp ts va vd sl pr o n ck gc cf fr fc sh sa sq sc md ru mo db om 0 k t K V e' E' c ck' cf' S ph lv gA o' d) (hu : ∀ (t : Tm) (k : Int32), sy_x t → rAt B J z t k → ∀ j, j < 32 → zbit (us (Int32.toNatClampNeg k)) j = tm_ub t j) (hn : n ≠ al) (hw : (B 0 (Int32.toNatClampNeg k)).toInt = 8) (hs : Int32.toNatClampNeg (B 2 (Int32.toNatClampNeg k)) < 24) (ev : v = sl (24 * (o - 1) + Int32.toNatClampNeg (B 2 (Int32.toNatClampNeg k)))) (hvv : zHv kz fd v) (hR : zli (B 6) (B 3 (Int32.toNatClampNeg k)) R) (hf : zfa (B 2) (pm_kd ck v) R = some a)
    (hbr : bh a = bh (Int32.toNatClampNeg k) ∧ bh (Int32.toNatClampNeg (B 3 a)) = bh (Int32.toNatClampNeg k)) (hbt : (∀ i : Nat, i ≠ o - 1 → pr2 i = pr i) ∧ ∀ j : Nat, j < 32 → zbit (pr2 (o - 1)) j = (((zbit (pr (o - 1)) j && !(!(zbit (us (Int32.toNatClampNeg (B 3 a))) (Int32.toNatClampNeg (B 2 (Int32.toNatClampNeg k))) || zbit (bh a) (Int32.toNatClampNeg (B 2 (Int32.toNatClampNeg k)))) && (j == Int32.toNatClampNeg (B 2 (Int32.toNatClampNeg k))))) || (mzF (Int32.toNatClampNeg (B 4 a)) (Int32.toNatClampNeg (B 7 a)) j && zbit (us (Int32.toNatClampNeg (B 3 a))) j)) && (zbit (us (Int32.toNatClampNeg (B 3 a))) j || zbit (bh a) j)))
    (hcx : ¬ (zhs v = 2 ∧ (B 2 a).toInt ≠ -1)) (hz : ∃ (lA2 : Nat → Bool) (gA2 : Nat → Int), hZ ph lA2 gA2 c (cWd fd ck') ck' cf' (fun x => zN24 (pr2 (o - 1)) e' x + (mRv V x + mRn E' (aF K) x)) (sIs S) ck gc2 cf ∧ hF ph lA2 c (sIs S) fr2 fc2 gi) (ht : t2 = ts + 1 ∧ (∃ x : Int32, x.toInt = 0 ∧ zTa tw w2 ts x) ∧ zTa tp p2 ts (B 3 a)) : rCS B J z zk fd bh ma F lim al s0 gi w2 p2 t2 va vd sl pr2 o (n + 1) ck gc2 cf fr2 fc2 sh sa sq sc md ru mo db om := by
  obtain ⟨x, u2, q5, n2, hv, hl, hre, hst, hc⟩ := rc_8f h hn hw hs ev hR
  rcases hc with g | ⟨y, r, g1, g2, g3, ⟨g4, g5⟩, ⟨g6, g7, g8, g9, g10⟩, g11, g12, g13⟩
  · rw [hf] at g; cases g.2
  obtain rfl : r = a := Option.some.inj (g2.symm.trans hf)
  obtain ⟨lA2, gA2, hz, hF⟩ := hz
  obtain ⟨ht, ⟨x0, hx0, a1⟩, b1⟩ := ht
  have hc2 : ¬ (zhs (e' (Int32.toNatClampNeg (B 2 (Int32.toNatClampNeg k)))) = 2 ∧ am_k y ≠ -1) := fun g => hcx ⟨by rw [vr_h hv]; exact g.1, by rw [g9]; exact g.2⟩
  have m0 : am_m y = 0 := by
    rcases g11 with g | ⟨j, j1, j2, j3⟩
    · exact g.2
    · have hk := g3.resolve_left (by omega)
      unfold pm_kd at hk
      rcases hvv with v1 | ⟨v1, v2, v3, v4⟩ | ⟨v1, v2⟩
      · rw [if_pos v1] at hk; omega
      · rw [if_neg (by rw [v1]; decide), if_neg (by rw [v1]; decide)] at hk
        have : Int32.toNatClampNeg v.toInt32 = j := zn_lit (by omega)
        rw [this] at v4
        omega
      · exact absurd ⟨v1, by omega⟩ hcx
  have hst2 : cm_mt fd (B 1 (Int32.toNatClampNeg k)).toInt (Int32.toNatClampNeg (B 2 (Int32.toNatClampNeg k))) x ((1, u2) :: K) K V (e' :: E') (n + 1) c ck' cf' (S, md, ru, mo, db, om) = .ok (((0, am_x y) :: K, V, e' :: E', n + 1, c, ck', cf'), (S, md, ru, mo, db, om)) := by
    unfold cm_mt
    rw [show (e' :: E').headD (fun _ => 0) = e' from rfl, g1]
    show (if zhs (e' (Int32.toNatClampNeg (B 2 (Int32.toNatClampNeg k)))) = 2 ∧ am_k y ≠ -1 then _ else _) = _
    rw [if_neg hc2]
  have h' := h
  obtain ⟨h1, ⟨h2, h3, h4⟩, ⟨h5, h6, h7, h8, h9⟩, h10, r1, r2, r3, r4, r5, r6⟩ := h
  exact rc_8g (x := x) (y := y) (r := r) h' hu q5 hv hl g3 g4 g5 g6 g8 g10 g11 g12 g13 hbr hbt (cm_re_s hre (hst.trans hst2)) (Or.inr ⟨m0, rfl, rfl⟩) (fun _ => rfl) rfl (fun q => q) r1 hx0 a1 b1 ht hz hF r5 r6
/-- how a cell is matched: what the machine does -/
theorem rc_8c {x y u2 : Tm} {s : Nat} {X : cm_X} {p : Int} (g1 : pm_fi (pm_kd ck' (e' s)) x = some y) (h2 : zhs (e' s) = 2) (hk : am_k y ≠ -1) : cm_mt fd p s x ((1, u2) :: K) K V (e' :: E') n c ck' cf' X = if nF ((0, am_x y) :: K) s = false ∧ cCt c (cWd fd ck') cf' (mRt ((1, u2) :: K) V (e' :: E')) (Int32.toNatClampNeg (e' s).toInt32) = 1 then
        if tm_mk (am_x y) (am_m y) = true then
          .ok (((0, am_x y) :: (3, Tm.use 0 (Int32.toNatClampNeg (e' s).toInt32)) :: K, V, pm_bd e' cf' (Int32.toNatClampNeg (e' s).toInt32) (am_h y) (am_m y) :: E', n, c, ck', cf'), ((E'.length + 1, Int32.toNatClampNeg (e' s).toInt32, am_m y) :: X.1, X.2))
        else .ok (((0, am_x y) :: K, V, pm_bd e' cf' (Int32.toNatClampNeg (e' s).toInt32) (am_h y) (am_m y) :: E', n, c, ck', cf'), X)
      else .ok (((0, am_x y) :: K, V, pm_bd e' cf' (Int32.toNatClampNeg (e' s).toInt32) (am_h y) (am_m y) :: E', n, c, ck', cf'), (X.1, X.2.1, X.2.2.1, X.2.2.2.1, X.2.2.2.2.1 + cm_fd cf' ((0, am_x y) :: K) (Int32.toNatClampNeg (e' s).toInt32) (am_h y) (am_m y), X.2.2.2.2.2)) := by
  unfold cm_mt
  rw [show (e' :: E').headD (fun _ => 0) = e' from rfl, g1]
  show (if zhs (e' s) = 2 ∧ am_k y ≠ -1 then _ else _) = _
  rw [if_pos ⟨h2, hk⟩]
  rfl
/-- a cell: all that its cases share -/
theorem rc_8s (h : rCO B J z zk fd bh ma F lim al s0 gi tw tp ts va vd sl pr o n ck gc cf fr fc sh sa sq sc md ru mo db om 0 k t K V e' E' c ck' cf' S ph lv gA o' d) (hu : ∀ (t : Tm) (k : Int32), sy_x t → rAt B J z t k → ∀ j, j < 32 → zbit (us (Int32.toNatClampNeg k)) j = tm_ub t j) (hmk : ∀ (t : Tm) (k : Int32), sy_x t → rAt B J z t k → ∀ j, j < 8 → zbit (mk (Int32.toNatClampNeg k)) j = tm_mk t j) (hn : n ≠ al) (hw : (B 0 (Int32.toNatClampNeg k)).toInt = 8) (hs : Int32.toNatClampNeg (B 2 (Int32.toNatClampNeg k)) < 24) (ev : v = sl (24 * (o - 1) + Int32.toNatClampNeg (B 2 (Int32.toNatClampNeg k)))) (hR : zli (B 6) (B 3 (Int32.toNatClampNeg k)) R) (hf : zfa (B 2) (pm_kd ck v) R = some a) (hbr : bh a = bh (Int32.toNatClampNeg k) ∧ bh (Int32.toNatClampNeg (B 3 a)) = bh (Int32.toNatClampNeg k)) (hcx : zhs v = 2 ∧ (B 2 a).toInt ≠ -1) :
    ∃ (x y u2 : Tm), ((∀ i, tm_ub t i = ((i == Int32.toNatClampNeg (B 2 (Int32.toNatClampNeg k))) || tm_ub x i)) ∧ vr ph (e' (Int32.toNatClampNeg (B 2 (Int32.toNatClampNeg k)))) v ∧ (zhs v = 2 → lv (Int32.toNatClampNeg (e' (Int32.toNatClampNeg (B 2 (Int32.toNatClampNeg k)))).toInt32) = true)) ∧ (am_k y = -1 ∨ am_k y = pm_kd ck v) ∧ (rAt B J z (am_x y) (B 3 a) ∧ sy_x (am_x y)) ∧ ((B 4 a).toInt = (d : Int) ∧ am_h y = d ∧ (B 7 a).toInt = (am_m y : Int) ∧ am_k y ≠ -1 ∧ d + am_m y ≤ 24) ∧ (am_k y = -1 ∧ am_m y = 0 ∨ ∃ j : Nat, am_k y = (j : Int) ∧ j < zk ∧ (fd j).toInt = (am_m y : Int)) ∧ tm_wf zk fd (am_x y) (d + am_m y) ∧ (∀ i, tm_ub (am_x y) i = true → i < d → tm_ub x i = true) ∧ cm_re F fd lim al s0 (((1, u2) :: K, V, e' :: E', n + 1, c, ck', cf'), (S, md, ru, mo, db, om)) ∧ cm_st F fd lim al (((1, u2) :: K, V, e' :: E', n + 1, c, ck', cf'), (S, md, ru, mo, db, om)) = (if (zbit (us (Int32.toNatClampNeg (B 3 a))) (Int32.toNatClampNeg (B 2 (Int32.toNatClampNeg k))) = false ∧ zbit (bh a) (Int32.toNatClampNeg (B 2 (Int32.toNatClampNeg k))) = false) ∧ (gc (Int32.toNatClampNeg v.toInt32)).toInt = 1 then
        if zbit (mk (Int32.toNatClampNeg (B 3 a))) (Int32.toNatClampNeg (B 7 a)) = true then
          .ok (((0, am_x y) :: (3, Tm.use 0 (Int32.toNatClampNeg (e' (Int32.toNatClampNeg (B 2 (Int32.toNatClampNeg k)))).toInt32)) :: K, V, pm_bd e' cf' (Int32.toNatClampNeg (e' (Int32.toNatClampNeg (B 2 (Int32.toNatClampNeg k)))).toInt32) d (am_m y) :: E', n + 1, c, ck', cf'), ((o, Int32.toNatClampNeg (e' (Int32.toNatClampNeg (B 2 (Int32.toNatClampNeg k)))).toInt32, am_m y) :: S, md, ru, mo, db, om))
        else .ok (((0, am_x y) :: K, V, pm_bd e' cf' (Int32.toNatClampNeg (e' (Int32.toNatClampNeg (B 2 (Int32.toNatClampNeg k)))).toInt32) d (am_m y) :: E', n + 1, c, ck', cf'), (S, md, ru, mo, db, om))
      else .ok (((0, am_x y) :: K, V, pm_bd e' cf' (Int32.toNatClampNeg (e' (Int32.toNatClampNeg (B 2 (Int32.toNatClampNeg k)))).toInt32) d (am_m y) :: E', n + 1, c, ck', cf'), (S, md, ru, mo, db + zdk (us (Int32.toNatClampNeg (B 3 a))) (Int32.toNatClampNeg (B 4 a)) cf (3 * Int32.toNatClampNeg v.toInt32) (Int32.toNatClampNeg (B 7 a)), om))) := by
  obtain ⟨x, u2, q5, n2, hv, hl, hre, hst, hc⟩ := rc_8f h hn hw hs ev hR
  rcases hc with g | ⟨y, r, g1, g2, g3, ⟨g4, g5⟩, ⟨g6, g7, g8, g9, g10⟩, g11, g12, g13⟩
  · rw [hf] at g; cases g.2
  obtain rfl : r = a := Option.some.inj (g2.symm.trans hf)
  obtain ⟨h1, ⟨h2, h3, h4⟩, ⟨h5, h6, h7, h8, h9⟩, h10, r1, r2, r3, r4, r5, r6⟩ := h
  have hk : am_k y ≠ -1 := by rw [← g9]; exact hcx.2
  have h2e : zhs (e' (Int32.toNatClampNeg (B 2 (Int32.toNatClampNeg k)))) = 2 := by rw [← vr_h hv]; exact hcx.1
  have hub : ∀ j, j < 32 → zbit (us (Int32.toNatClampNeg (B 3 r))) j = tm_ub (am_x y) j := hu _ _ g5 g4
  have hbk : ∀ j, j < 32 → zbit (bh r) j = nF K j := fun j hj => by rw [hbr.1]; exact h4 j hj
  have eh : Int32.toNatClampNeg (B 4 r) = d := zn_lit g6
  have em : Int32.toNatClampNeg (B 7 r) = am_m y := zn_lit g8
  have hlx := hl hcx.1
  have hph := (vr_c hv hcx.1).2.2
  have hcc := r3.2.2.1 _ hlx
  have m13 : 1 ≤ am_m y ∧ am_m y ≤ 3 ∧ cWd fd ck' (Int32.toNatClampNeg (e' (Int32.toNatClampNeg (B 2 (Int32.toNatClampNeg k)))).toInt32) = am_m y ∨ am_m y = 0 := by
    obtain ⟨j, j1, j2, j3⟩ := g11.resolve_left (fun g => hk g.1)
    have ek : (ck' (Int32.toNatClampNeg (e' (Int32.toNatClampNeg (B 2 (Int32.toNatClampNeg k)))).toInt32)).toInt = (j : Int) := by
      rw [← hcc.2.1, ← hph, ← j1, g3.resolve_left hk]
      unfold pm_kd
      rw [if_neg (by rw [hcx.1]; decide), if_pos hcx.1]
    have ew : cWd fd ck' (Int32.toNatClampNeg (e' (Int32.toNatClampNeg (B 2 (Int32.toNatClampNeg k)))).toInt32) = am_m y := by unfold cWd; rw [zn_lit ek, j3]; omega
    have := hcc.2.2.2.1
    omega
  have r3' : hZ ph lv gA c (cWd fd ck') ck' cf' (mRt ((1, u2) :: K) V (e' :: E')) (sIs S) ck gc cf := hZ_R r3 (fun w => by
    show mRv V w + mRn (e' :: E') ((1, u2) :: K) w = mRv V w + mRn (e' :: E') ((0, t) :: K) w
    rw [mRn_e (K2 := (1, u2) :: K) (K := (0, t) :: K) (e := e') (fun i _ => n2 i) rfl (fun _ _ _ => rfl)])
  have hct : cCt c (cWd fd ck') cf' (mRt ((1, u2) :: K) V (e' :: E')) (Int32.toNatClampNeg (e' (Int32.toNatClampNeg (B 2 (Int32.toNatClampNeg k)))).toInt32) = (gc (Int32.toNatClampNeg v.toInt32)).toInt := by rw [hph]; exact (hZ_ct r3' hlx).1.symm
  have hal : (nF ((0, am_x y) :: K) (Int32.toNatClampNeg (B 2 (Int32.toNatClampNeg k))) = false ∧ cCt c (cWd fd ck') cf' (mRt ((1, u2) :: K) V (e' :: E')) (Int32.toNatClampNeg (e' (Int32.toNatClampNeg (B 2 (Int32.toNatClampNeg k)))).toInt32) = 1) = ((zbit (us (Int32.toNatClampNeg (B 3 r))) (Int32.toNatClampNeg (B 2 (Int32.toNatClampNeg k))) = false ∧ zbit (bh r) (Int32.toNatClampNeg (B 2 (Int32.toNatClampNeg k))) = false) ∧ (gc (Int32.toNatClampNeg v.toInt32)).toInt = 1) := by
    rw [hct, nF_0, hub _ (by omega), hbk _ (by omega), Bool.or_eq_false_iff]
  have hmy : zbit (mk (Int32.toNatClampNeg (B 3 r))) (am_m y) = tm_mk (am_x y) (am_m y) := hmk _ _ g5 g4 _ (by omega)
  have hlen : E'.length + 1 = o := by have := rNc_len h9; rw [List.length_cons] at this; omega
  have hfd : cm_fd cf' ((0, am_x y) :: K) (Int32.toNatClampNeg (e' (Int32.toNatClampNeg (B 2 (Int32.toNatClampNeg k)))).toInt32) d (am_m y) = zdk (us (Int32.toNatClampNeg (B 3 r))) d cf (3 * Int32.toNatClampNeg v.toInt32) (am_m y) := by
    rcases m13 with ⟨-, -, ew⟩ | m0
    · have : ∀ q, q ≤ am_m y → cm_fd cf' ((0, am_x y) :: K) (Int32.toNatClampNeg (e' (Int32.toNatClampNeg (B 2 (Int32.toNatClampNeg k)))).toInt32) d q = zdk (us (Int32.toNatClampNeg (B 3 r))) d cf (3 * Int32.toNatClampNeg v.toInt32) q := fun q => by
        induction q with
        | zero => intro _; rfl
        | succ q ih =>
          intro hq
          show cm_fd _ _ _ _ q + (if _ ∧ _ then 1 else 0) = zdk _ _ _ _ q + (if _ ∧ _ then 1 else 0)
          have hf := hcc.2.2.2.2 q (by omega)
          have e0 : nF K (d + q) = false := by
            cases e : nF K (d + q) with
            | false => rfl
            | true => have := nF_wf h9 e; omega
          rw [ih (by omega), nF_0, e0, Bool.or_false, hub _ (by omega), hph, vr_h hf]
      exact this _ (Nat.le_refl _)
    · rw [m0]; rfl
  refine ⟨x, y, u2, ⟨q5, hv, hl⟩, g3, ⟨g4, g5⟩, ⟨g6, g7, g8, hk, g10⟩, g11, g12, g13, hre, ?_⟩
  rw [hst, rc_8c g1 h2e hk, g7, hfd, eh, em, hlen, hmy]
  by_cases c1 : ((zbit (us (Int32.toNatClampNeg (B 3 r))) (Int32.toNatClampNeg (B 2 (Int32.toNatClampNeg k))) = false ∧ zbit (bh r) (Int32.toNatClampNeg (B 2 (Int32.toNatClampNeg k))) = false) ∧ (gc (Int32.toNatClampNeg v.toInt32)).toInt = 1)
  · rw [if_pos c1, if_pos (by rw [hal]; exact c1)]
  · rw [if_neg c1, if_neg (by rw [hal]; exact c1)]
/-- a cell that is matched and stays, or is held by others too -/
theorem rc_8D (h : rCO B J z zk fd bh ma F lim al s0 gi tw tp ts va vd sl pr o n ck gc cf fr fc sh sa sq sc md ru mo db om 0 k t K V e' E' c ck' cf' S ph lv gA o' d) (hu : ∀ (t : Tm) (k : Int32), sy_x t → rAt B J z t k → ∀ j, j < 32 → zbit (us (Int32.toNatClampNeg k)) j = tm_ub t j) (hmk : ∀ (t : Tm) (k : Int32), sy_x t → rAt B J z t k → ∀ j, j < 8 → zbit (mk (Int32.toNatClampNeg k)) j = tm_mk t j) (hn : n ≠ al) (hw : (B 0 (Int32.toNatClampNeg k)).toInt = 8) (hs : Int32.toNatClampNeg (B 2 (Int32.toNatClampNeg k)) < 24) (ev : v = sl (24 * (o - 1) + Int32.toNatClampNeg (B 2 (Int32.toNatClampNeg k)))) (hR : zli (B 6) (B 3 (Int32.toNatClampNeg k)) R) (hf : zfa (B 2) (pm_kd ck v) R = some a)
    (hbr : bh a = bh (Int32.toNatClampNeg k) ∧ bh (Int32.toNatClampNeg (B 3 a)) = bh (Int32.toNatClampNeg k)) (hbt : (∀ i : Nat, i ≠ o - 1 → pr2 i = pr i) ∧ ∀ j : Nat, j < 32 → zbit (pr2 (o - 1)) j = (((zbit (pr (o - 1)) j && !(!(zbit (us (Int32.toNatClampNeg (B 3 a))) (Int32.toNatClampNeg (B 2 (Int32.toNatClampNeg k))) || zbit (bh a) (Int32.toNatClampNeg (B 2 (Int32.toNatClampNeg k)))) && (j == Int32.toNatClampNeg (B 2 (Int32.toNatClampNeg k))))) || (mzF (Int32.toNatClampNeg (B 4 a)) (Int32.toNatClampNeg (B 7 a)) j && zbit (us (Int32.toNatClampNeg (B 3 a))) j)) && (zbit (us (Int32.toNatClampNeg (B 3 a))) j || zbit (bh a) j)))
    (hcx : zhs v = 2 ∧ (B 2 a).toInt ≠ -1) (hna : ¬ ((zbit (us (Int32.toNatClampNeg (B 3 a))) (Int32.toNatClampNeg (B 2 (Int32.toNatClampNeg k))) = false ∧ zbit (bh a) (Int32.toNatClampNeg (B 2 (Int32.toNatClampNeg k))) = false) ∧ (gc (Int32.toNatClampNeg v.toInt32)).toInt = 1)) (hz : ∃ (lA2 : Nat → Bool) (gA2 : Nat → Int), hZ ph lA2 gA2 c (cWd fd ck') ck' cf' (fun x => zN24 (pr2 (o - 1)) (pm_bd e' cf' (Int32.toNatClampNeg (e' (Int32.toNatClampNeg (B 2 (Int32.toNatClampNeg k)))).toInt32) (Int32.toNatClampNeg (B 4 a)) (Int32.toNatClampNeg (B 7 a))) x + (mRv V x + mRn E' (aF K) x)) (sIs S) ck gc2 cf ∧ hF ph lA2 c (sIs S) fr2 fc2 gi) (hms : zMs sl sl2 (24 * (o - 1) + Int32.toNatClampNeg (B 4 a)) (Int32.toNatClampNeg (B 7 a)) (us (Int32.toNatClampNeg (B 3 a))) (Int32.toNatClampNeg (B 4 a)) cf (3 * Int32.toNatClampNeg v.toInt32)) (hdb : db2 = db + zdk (us (Int32.toNatClampNeg (B 3 a))) (Int32.toNatClampNeg (B 4 a)) cf (3 * Int32.toNatClampNeg v.toInt32) (Int32.toNatClampNeg (B 7 a))) (ht : t2 = ts + 1 ∧ (∃ x : Int32, x.toInt = 0 ∧ zTa tw w2 ts x) ∧ zTa tp p2 ts (B 3 a)) : rCS B J z zk fd bh ma F lim al s0 gi w2 p2 t2 va vd sl2 pr2 o (n + 1) ck gc2 cf fr2 fc2 sh sa sq sc md ru mo db2 om := by
  obtain ⟨x, y, u2, ⟨q5, hv, hl⟩, g3, ⟨g4, g5⟩, ⟨g6, g7, g8, hk, g10⟩, g11, g12, g13, hre, hst⟩ := rc_8s h hu hmk hn hw hs ev hR hf hbr hcx
  obtain ⟨lA2, gA2, hz, hF⟩ := hz
  have h' := h
  obtain ⟨h1, ⟨h2, h3, h4⟩, ⟨h5, h6, h7, h8, h9⟩, h10, r1, r2, r3, r4, r5, r6⟩ := h
  have eh : Int32.toNatClampNeg (B 4 a) = d := zn_lit g6
  have em : Int32.toNatClampNeg (B 7 a) = am_m y := zn_lit g8
  have hz' := hz
  rw [eh, em] at hz'
  obtain ⟨ht, ⟨x0, hx0, a1⟩, b1⟩ := ht
  rw [if_neg hna] at hst
  rw [← hdb] at hst
  exact rc_8g (x := x) (y := y) (r := a) h' hu q5 hv hl g3 g4 g5 g6 g8 g10 g11 g12 g13 hbr hbt (cm_re_s hre hst) (Or.inl ⟨hcx.1, hk, rfl, hms⟩) (fun _ => rfl) rfl (fun q => q) r1 hx0 a1 b1 ht hz' hF r5 r6
/-- .. that is used up alone, and freed -/
theorem rc_8C (h : rCO B J z zk fd bh ma F lim al s0 gi tw tp ts va vd sl pr o n ck gc cf fr fc sh sa sq sc md ru mo db om 0 k t K V e' E' c ck' cf' S ph lv gA o' d) (hu : ∀ (t : Tm) (k : Int32), sy_x t → rAt B J z t k → ∀ j, j < 32 → zbit (us (Int32.toNatClampNeg k)) j = tm_ub t j) (hmk : ∀ (t : Tm) (k : Int32), sy_x t → rAt B J z t k → ∀ j, j < 8 → zbit (mk (Int32.toNatClampNeg k)) j = tm_mk t j) (hn : n ≠ al) (hw : (B 0 (Int32.toNatClampNeg k)).toInt = 8) (hs : Int32.toNatClampNeg (B 2 (Int32.toNatClampNeg k)) < 24) (ev : v = sl (24 * (o - 1) + Int32.toNatClampNeg (B 2 (Int32.toNatClampNeg k)))) (hR : zli (B 6) (B 3 (Int32.toNatClampNeg k)) R) (hf : zfa (B 2) (pm_kd ck v) R = some a)
    (hbr : bh a = bh (Int32.toNatClampNeg k) ∧ bh (Int32.toNatClampNeg (B 3 a)) = bh (Int32.toNatClampNeg k)) (hbt : (∀ i : Nat, i ≠ o - 1 → pr2 i = pr i) ∧ ∀ j : Nat, j < 32 → zbit (pr2 (o - 1)) j = (((zbit (pr (o - 1)) j && !(!(zbit (us (Int32.toNatClampNeg (B 3 a))) (Int32.toNatClampNeg (B 2 (Int32.toNatClampNeg k))) || zbit (bh a) (Int32.toNatClampNeg (B 2 (Int32.toNatClampNeg k)))) && (j == Int32.toNatClampNeg (B 2 (Int32.toNatClampNeg k))))) || (mzF (Int32.toNatClampNeg (B 4 a)) (Int32.toNatClampNeg (B 7 a)) j && zbit (us (Int32.toNatClampNeg (B 3 a))) j)) && (zbit (us (Int32.toNatClampNeg (B 3 a))) j || zbit (bh a) j)))
    (hcx : zhs v = 2 ∧ (B 2 a).toInt ≠ -1) (hna : ((zbit (us (Int32.toNatClampNeg (B 3 a))) (Int32.toNatClampNeg (B 2 (Int32.toNatClampNeg k))) = false ∧ zbit (bh a) (Int32.toNatClampNeg (B 2 (Int32.toNatClampNeg k))) = false) ∧ (gc (Int32.toNatClampNeg v.toInt32)).toInt = 1)) (hmf : zbit (mk (Int32.toNatClampNeg (B 3 a))) (Int32.toNatClampNeg (B 7 a)) = false) (hz : ∃ (lA2 : Nat → Bool) (gA2 : Nat → Int), hZ ph lA2 gA2 c (cWd fd ck') ck' cf' (fun x => zN24 (pr2 (o - 1)) (pm_bd e' cf' (Int32.toNatClampNeg (e' (Int32.toNatClampNeg (B 2 (Int32.toNatClampNeg k)))).toInt32) (Int32.toNatClampNeg (B 4 a)) (Int32.toNatClampNeg (B 7 a))) x + (mRv V x + mRn E' (aF K) x)) (sIs S) ck gc2 cf ∧ hF ph lA2 c (sIs S) fr2 fc2 gi) (hms : zMs sl sl2 (24 * (o - 1) + Int32.toNatClampNeg (B 4 a)) (Int32.toNatClampNeg (B 7 a)) (us (Int32.toNatClampNeg (B 3 a))) (Int32.toNatClampNeg (B 4 a)) cf (3 * Int32.toNatClampNeg v.toInt32)) (ht : t2 = ts + 1 ∧ (∃ x : Int32, x.toInt = 0 ∧ zTa tw w2 ts x) ∧ zTa tp p2 ts (B 3 a)) : rCS B J z zk fd bh ma F lim al s0 gi w2 p2 t2 va vd sl2 pr2 o (n + 1) ck gc2 cf fr2 fc2 sh sa sq sc md ru mo db om := by
  obtain ⟨x, y, u2, ⟨q5, hv, hl⟩, g3, ⟨g4, g5⟩, ⟨g6, g7, g8, hk, g10⟩, g11, g12, g13, hre, hst⟩ := rc_8s h hu hmk hn hw hs ev hR hf hbr hcx
  obtain ⟨lA2, gA2, hz, hF⟩ := hz
  have h' := h
  obtain ⟨h1, ⟨h2, h3, h4⟩, ⟨h5, h6, h7, h8, h9⟩, h10, r1, r2, r3, r4, r5, r6⟩ := h
  have eh : Int32.toNatClampNeg (B 4 a) = d := zn_lit g6
  have em : Int32.toNatClampNeg (B 7 a) = am_m y := zn_lit g8
  have hz' := hz
  rw [eh, em] at hz'
  obtain ⟨ht, ⟨x0, hx0, a1⟩, b1⟩ := ht
  rw [if_pos hna, if_neg (by rw [hmf]; decide)] at hst
  exact rc_8g (x := x) (y := y) (r := a) h' hu q5 hv hl g3 g4 g5 g6 g8 g10 g11 g12 g13 hbr hbt (cm_re_s hre hst) (Or.inl ⟨hcx.1, hk, rfl, hms⟩) (fun _ => rfl) rfl (fun q => q) r1 hx0 a1 b1 ht hz' hF r5 r6
/-- .. or kept as a shell -/
theorem rc_8B (h : rCO B J z zk fd bh ma F lim al s0 gi tw tp ts va vd sl pr o n ck gc cf fr fc sh sa sq sc md ru mo db om 0 k t K V e' E' c ck' cf' S ph lv gA o' d) (hu : ∀ (t : Tm) (k : Int32), sy_x t → rAt B J z t k → ∀ j, j < 32 → zbit (us (Int32.toNatClampNeg k)) j = tm_ub t j) (hmk : ∀ (t : Tm) (k : Int32), sy_x t → rAt B J z t k → ∀ j, j < 8 → zbit (mk (Int32.toNatClampNeg k)) j = tm_mk t j) (hn : n ≠ al) (hw : (B 0 (Int32.toNatClampNeg k)).toInt = 8) (hs : Int32.toNatClampNeg (B 2 (Int32.toNatClampNeg k)) < 24) (ev : v = sl (24 * (o - 1) + Int32.toNatClampNeg (B 2 (Int32.toNatClampNeg k)))) (hR : zli (B 6) (B 3 (Int32.toNatClampNeg k)) R) (hf : zfa (B 2) (pm_kd ck v) R = some a)
    (hbr : bh a = bh (Int32.toNatClampNeg k) ∧ bh (Int32.toNatClampNeg (B 3 a)) = bh (Int32.toNatClampNeg k)) (hbt : (∀ i : Nat, i ≠ o - 1 → pr2 i = pr i) ∧ ∀ j : Nat, j < 32 → zbit (pr2 (o - 1)) j = (((zbit (pr (o - 1)) j && !(!(zbit (us (Int32.toNatClampNeg (B 3 a))) (Int32.toNatClampNeg (B 2 (Int32.toNatClampNeg k))) || zbit (bh a) (Int32.toNatClampNeg (B 2 (Int32.toNatClampNeg k)))) && (j == Int32.toNatClampNeg (B 2 (Int32.toNatClampNeg k))))) || (mzF (Int32.toNatClampNeg (B 4 a)) (Int32.toNatClampNeg (B 7 a)) j && zbit (us (Int32.toNatClampNeg (B 3 a))) j)) && (zbit (us (Int32.toNatClampNeg (B 3 a))) j || zbit (bh a) j)))
    (hcx : zhs v = 2 ∧ (B 2 a).toInt ≠ -1) (hna : ((zbit (us (Int32.toNatClampNeg (B 3 a))) (Int32.toNatClampNeg (B 2 (Int32.toNatClampNeg k))) = false ∧ zbit (bh a) (Int32.toNatClampNeg (B 2 (Int32.toNatClampNeg k))) = false) ∧ (gc (Int32.toNatClampNeg v.toInt32)).toInt = 1)) (hmf : zbit (mk (Int32.toNatClampNeg (B 3 a))) (Int32.toNatClampNeg (B 7 a)) = true) (hz : ∃ (lA2 : Nat → Bool) (gA2 : Nat → Int), hZ ph lA2 gA2 c (cWd fd ck') ck' cf' (fun x => zN24 (pr2 (o - 1)) (pm_bd e' cf' (Int32.toNatClampNeg (e' (Int32.toNatClampNeg (B 2 (Int32.toNatClampNeg k)))).toInt32) (Int32.toNatClampNeg (B 4 a)) (Int32.toNatClampNeg (B 7 a))) x + (mRv V x + mRn E' (aF K) x)) ((Int32.toNatClampNeg (e' (Int32.toNatClampNeg (B 2 (Int32.toNatClampNeg k)))).toInt32) :: sIs S) ck gc2 cf ∧ hF ph lA2 c ((Int32.toNatClampNeg (e' (Int32.toNatClampNeg (B 2 (Int32.toNatClampNeg k)))).toInt32) :: sIs S) fr2 fc2 gi) (hms : zMs sl sl2 (24 * (o - 1) + Int32.toNatClampNeg (B 4 a)) (Int32.toNatClampNeg (B 7 a)) (us (Int32.toNatClampNeg (B 3 a))) (Int32.toNatClampNeg (B 4 a)) cf (3 * Int32.toNatClampNeg v.toInt32)) (hSl : rSl ph ma sh2 sa2 sq2 ((o, (Int32.toNatClampNeg (e' (Int32.toNatClampNeg (B 2 (Int32.toNatClampNeg k)))).toInt32), Int32.toNatClampNeg (B 7 a)) :: S) sc2) (ht : ∃ (w9 p9 : Nat → Int32) (ce9 : Int32), t2 = ts + 2 ∧ (∃ x : Int32, x.toInt = 2 ∧ zTa tw w9 ts x) ∧ zTa tp p9 ts ce9 ∧ ce9.toInt = (ph (Int32.toNatClampNeg (e' (Int32.toNatClampNeg (B 2 (Int32.toNatClampNeg k)))).toInt32) : Int) ∧ (∃ x : Int32, x.toInt = 0 ∧ zTa w9 w2 (ts + 1) x) ∧ zTa p9 p2 (ts + 1) (B 3 a)) : rCS B J z zk fd bh ma F lim al s0 gi w2 p2 t2 va vd sl2 pr2 o (n + 1) ck gc2 cf fr2 fc2 sh2 sa2 sq2 sc2 md ru mo db om := by
  obtain ⟨x, y, u2, ⟨q5, hv, hl⟩, g3, ⟨g4, g5⟩, ⟨g6, g7, g8, hk, g10⟩, g11, g12, g13, hre, hst⟩ := rc_8s h hu hmk hn hw hs ev hR hf hbr hcx
  obtain ⟨lA2, gA2, hz, hF⟩ := hz
  have h' := h
  obtain ⟨h1, ⟨h2, h3, h4⟩, ⟨h5, h6, h7, h8, h9⟩, h10, r1, r2, r3, r4, r5, r6⟩ := h
  have eh : Int32.toNatClampNeg (B 4 a) = d := zn_lit g6
  have em : Int32.toNatClampNeg (B 7 a) = am_m y := zn_lit g8
  have hz' := hz
  rw [eh, em] at hz'
  obtain ⟨w9, p9, ce9, ht, ⟨x2, hx2, a2⟩, b2, hce, ⟨x0, hx0, a1⟩, b1⟩ := ht
  rw [if_pos hna, if_pos hmf] at hst
  rw [em] at hSl
  have hX := hl hcx.1
  have hXc := (hZ_at r3 hX).1
  refine rc_8g (x := x) (y := y) (r := a) (K3 := (3, Tm.use 0 (Int32.toNatClampNeg (e' (Int32.toNatClampNeg (B 2 (Int32.toNatClampNeg k)))).toInt32)) :: K) (S2 := (o, (Int32.toNatClampNeg (e' (Int32.toNatClampNeg (B 2 (Int32.toNatClampNeg k)))).toInt32), am_m y) :: S) h' hu q5 hv hl g3 g4 g5 g6 g8 g10 g11 g12 g13 hbr hbt (cm_re_s hre hst) (Or.inl ⟨hcx.1, hk, rfl, hms⟩) (fun _ => rfl) rfl (fun q => ?_) (rTc_a r1 a2 b2 (Or.inr (Or.inr ⟨rfl, hx2, hce⟩))) hx0 a1 b1 (by omega) hz' hF hSl (Or.inr (Or.inl ⟨rfl, hXc, Or.inl ⟨am_m y, S, rfl, r6⟩⟩))
  exact ⟨_, _, _, rfl, rfl, Or.inr (Or.inl ⟨rfl, q⟩)⟩
end

end
