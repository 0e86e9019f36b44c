section
/-! an arm's end; a KIND; bounds; the start and the end: counted -/
section
variable {B : Nat → Nat → Int32} {J : Nat → Int64 → Prop} {z zk : Nat} {fd us bh ma mk : Nat → Int32} {F : sp_F} {lim : Int} {al : Nat} {s0 : cm_S} {gi : Int} {tw tp w1 p1 w2 p2 : Nat → Int32} {ts t2 : Nat} {va va2 : Nat → Int64} {vd : Nat} {sl sl2 : Nat → Int64} {pr pr2 : Nat → Int32} {o n : Nat} {ck ck2 gc gc2 : Nat → Int32} {cf cf2 : Nat → Int64} {fr fr2 : Nat → Int32} {fc fc2 : Int} {sh sa sq sh2 sa2 sq2 : Nat → Int32} {sc sc2 md ru md2 ru2 : Nat} {mo mo2 : Int} {db db2 om : Nat} {k kz ce : Int32} {t : Tm} {K : List (Nat × Tm)} {V : List Int64} {e' : Nat → Int64} {E E' : List (Nat → Int64)} {c : Nat} {ck' : Nat → Int32} {cf' : Nat → Int64} {S : List (Nat × Nat × Nat)} {ph : Nat → Nat} {lv : Nat → Bool} {gA : Nat → Int} {o' d a h1 m : Nat} {R : List Nat} {v : Int64}
/-- no shell ahead of the first call -/
theorem rSo_1 : ∀ {K : List (Nat × Tm)} {E : List (Nat → Int64)} {o d : Nat} {S : List (Nat × Nat × Nat)}, rNc ph zk fd sl K E o d → rSo ph c K o S → ∀ a, a ∈ S → 1 ≤ a.1
  | [], E, o, d, S, _, h, a, ha => by rw [show S = [] from h] at ha; cases ha
  | (j, t) :: K, E, o, d, S, ⟨e, E', o', h1, h2, h3⟩, h, a, ha => by
    rcases h with ⟨ej, o2, e2, h⟩ | ⟨ej, -, h⟩ | ⟨n2, n3, h⟩
    · obtain rfl : o2 = o' := by omega
      rcases h3 with ⟨-, d2, -, q⟩ | ⟨q, -⟩ | ⟨q, -⟩
      · exact rSo_1 q h a ha
      · omega
      · omega
    · have q : rNc ph zk fd sl K E o d := by
        rcases h3 with ⟨q, -⟩ | ⟨-, q⟩ | ⟨q, -⟩
        · omega
        · exact q
        · omega
      rcases h with ⟨w, S', e, h⟩ | ⟨h, -⟩
      · rw [e] at ha
        rcases List.mem_cons.mp ha with g | g
        · rw [g]; show 1 ≤ o; omega
        · exact rSo_1 q h a g
      · exact rSo_1 q h a ha
    · rcases h3 with ⟨q, -⟩ | ⟨q, -⟩ | ⟨-, d2, -, -, -, q⟩
      · omega
      · omega
      · exact rSo_1 q h a ha
theorem rSo_lt : ∀ {K : List (Nat × Tm)} {o : Nat} {S : List (Nat × Nat × Nat)}, rSo ph c K o S → ∀ t, (3, t) ∈ K → tm_id t < c
  | [], _, _, _, t, ht => by cases ht
  | (j, u) :: K, o, S, h, t, ht => by
    rcases h with ⟨ej, o2, e2, h⟩ | ⟨ej, b, h⟩ | ⟨n2, n3, h⟩
    · rcases List.mem_cons.mp ht with g | g
      · cases g; omega
      · exact rSo_lt h t g
    · rcases List.mem_cons.mp ht with g | g
      · cases g; exact b
      · rcases h with ⟨w, S', e, h⟩ | ⟨h, -⟩
        · exact rSo_lt h t g
        · exact rSo_lt h t g
    · rcases List.mem_cons.mp ht with g | g
      · cases g; omega
      · exact rSo_lt h t g
/-- an arm ends -/
theorem rc_e2 (h1 : cm_re F fd lim al s0 (((3, t) :: K, V, E, n, c, ck', cf'), (S, md, ru, mo, db, om))) (hce : ce.toInt = (ph (tm_id t) : Int)) (h2 : d ≤ 24 ∧ rNc ph zk fd sl K E o d) (h3 : rPb pr o K) (h4 : rTc B J z bh ph tw tp K ts) (h5 : rVc ph vd va V) (h6 : hZ ph lv gA c (cWd fd ck') ck' cf' (mRt K V E) (sIs S) ck gc cf) (h7 : hF ph lv c (sIs S) fr fc gi) (h8 : rSl ph ma sh sa sq S sc) (h9 : (∃ (w : Nat) (S' : List (Nat × Nat × Nat)), S = (o, tm_id t, w) :: S' ∧ rSo ph c K o S') ∨ (rSo ph c K o S ∧ ∀ a, a ∈ S → ph a.2.1 ≠ ph (tm_id t))) (h0 : 0 ≤ fc)
    (hx : (∃ (A9 B9 : List (Nat × Nat × Nat)) (q9 i9 w9 : Nat), S = A9 ++ (q9, i9, w9) :: B9 ∧ q9 = o ∧ (ph i9 : Int) = ce.toInt ∧ rSl ph ma sh2 sa2 sq2 (A9 ++ B9) sc2 ∧ fr2 = upd fr fc.toNat ce ∧ fc2 = fc + 1) ∨ ((∀ a, a ∈ S → a.1 = o → (ph a.2.1 : Int) ≠ ce.toInt) ∧ sh2 = sh ∧ sa2 = sa ∧ sq2 = sq ∧ sc2 = sc ∧ fr2 = fr ∧ fc2 = fc)) : rCS B J z zk fd bh ma F lim al s0 gi tw tp ts va vd sl pr o n ck gc cf fr2 fc2 sh2 sa2 sq2 sc2 md ru mo db om := by
  have hst := cm_re_s h1 cm_st_3
  rcases hx with ⟨A9, B9, q9, i9, w9, e1, e2, e3, e4, e5, e6⟩ | ⟨e1, rfl, rfl, rfl, rfl, rfl, rfl⟩
  · have mem : (q9, i9, w9) ∈ S := by rw [e1]; exact List.mem_append.mpr (Or.inr List.mem_cons_self)
    rcases h9 with ⟨w, S', e, r⟩ | ⟨-, g⟩
    · have i1 : i9 ∈ sIs S := List.mem_map.mpr ⟨_, mem, rfl⟩
      have i2 : tm_id t ∈ sIs S := by rw [e]; exact List.mem_cons_self
      obtain rfl : i9 = tm_id t := h6.2.2.2.2.2 _ _ (Or.inr i1) (Or.inr i2) (by omega)
      have nd := h6.2.2.2.2.1
      have nA : tm_id t ∉ sIs A9 := fun g => by rw [e1, sIs_ap] at nd; exact (List.nodup_append.mp nd).2.2 _ g _ List.mem_cons_self rfl
      have es : sh_r (tm_id t) S = A9 ++ B9 := by rw [e1]; exact sh_r_ap nA
      have es2 : sh_r (tm_id t) S = S' := by rw [e]; show (if tm_id t = tm_id t then S' else _) = S'; rw [if_pos rfl]
      rw [← es, es2] at e4
      rw [show (S, md, ru, mo, db, om).1 = S from rfl, es2] at hst
      subst e
      exact ⟨K, V, E, c, ck', cf', S', ph, lv, gA, d, hst, h2, h3, h4, h5, hZ_fr h6, hF_fr h6 h7 e5 hce e6, e4, r⟩
    · exact absurd (show ph i9 = ph (tm_id t) by omega) (g _ mem)
  · rcases h9 with ⟨w, S', e, r⟩ | ⟨r, g⟩
    · exact absurd hce.symm (e1 (o, tm_id t, w) (by rw [e]; exact List.mem_cons_self) rfl)
    · have ni : tm_id t ∉ sIs S := fun q => by
        obtain ⟨a, ha, e⟩ := List.mem_map.mp q
        exact g a ha (by rw [show a.2.1 = tm_id t from e])
      rw [show (S, md, ru, mo, db, om).1 = S from rfl, sh_r_no ni] at hst
      exact ⟨K, V, E, c, ck', cf', S, ph, lv, gA, d, hst, h2, h3, h4, h5, h6, h7, h8, r⟩
/-- what is needed in what is behind is needed -/
theorem mRn_le {j : Nat} {e : Nat → Int64} {x : Nat} (hj : j ≠ 2) : mRn (e :: E') K x ≤ mRn (e :: E') ((j, t) :: K) x := by
  have ha : aF ((j, t) :: K) = aF K := by show (if j = 2 then K else aF K) = aF K; rw [if_neg hj]
  have := zs_le (n := 24) (f := fun i => if nF K i = true then zr (e i) x else 0) (g := fun i => if nF ((j, t) :: K) i = true then zr (e i) x else 0) (fun i _ => by
    show (if nF K i = true then zr (e i) x else 0) ≤ (if nF ((j, t) :: K) i = true then zr (e i) x else 0)
    by_cases g : nF K i = true
    · have g2 : nF ((j, t) :: K) i = true := by
        show (if j = 2 then false else if j = 3 then nF K i else pm_nd j t i || nF K i) = true
        rw [if_neg hj, g]; split
        · rfl
        · rw [Bool.or_true]
      rw [if_pos g, if_pos g2]; exact Int.le_refl _
    · rw [if_neg g]; split
      · exact zr_0 _ _
      · exact Int.le_refl _)
  show zs 24 _ + mRn E' (aF K) x ≤ zs 24 _ + mRn E' (aF ((j, t) :: K)) x
  rw [ha]; omega
/-- names' values under another numbering -/
theorem rNc_p {ph2 : Nat → Nat} : ∀ {K : List (Nat × Tm)} {E : List (Nat → Int64)} {o d : Nat}, d ≤ 24 → (∀ x, 1 ≤ mRn E K x → ph2 x = ph x) → rNc ph zk fd sl K E o d → rNc ph2 zk fd sl K E o d
  | [], _, _, _, _, _, h => h
  | (j, t) :: K, E, o, d, hd, hp, ⟨e, E', o', h1, h2, h3⟩ => by
    subst h1
    refine ⟨e, E', o', rfl, h2, ?_⟩
    rcases h3 with ⟨ej, d2, hd2, r⟩ | ⟨ej, r⟩ | ⟨ej, d2, hd2, w, q, r⟩
    · subst ej
      exact Or.inl ⟨rfl, d2, hd2, rNc_p hd2 (fun x hx => hp x (by rw [mRn_2]; exact hx)) r⟩
    · exact Or.inr (Or.inl ⟨ej, rNc_p hd (fun x hx => hp x (Int.le_trans hx (mRn_le (by omega)))) r⟩)
    · refine Or.inr (Or.inr ⟨ej, d2, hd2, w, fun i hi => ?_, rNc_p (by omega) (fun x hx => hp x (Int.le_trans hx (mRn_le (by omega)))) r⟩)
      have il := nd_wf w hi
      have hv := q i hi
      refine vr_x hv (fun g => ?_)
      refine hp _ ?_
      have g2 : zhs (sl (24 * o' + i)) = 2 := (vr_h hv).trans g
      have a := zr_w hv g2 (Int32.toNatClampNeg (e i).toInt32)
      rw [if_pos rfl] at a
      have b := zs_ge (f := fun i' => if nF ((j, t) :: K) i' = true then zr (e i') (Int32.toNatClampNeg (e i).toInt32) else 0) (n := 24) (x := i) (fun d _ => by show (0 : Int) ≤ if nF ((j, t) :: K) d = true then _ else 0; split; exact zr_0 _ _; exact Int.le_refl _) (by omega)
      have b2 : (if nF ((j, t) :: K) i = true then zr (e i) (Int32.toNatClampNeg (e i).toInt32) else 0) = zr (e i) (Int32.toNatClampNeg (e i).toInt32) := if_pos (by
        show (if j = 2 then false else if j = 3 then nF K i else pm_nd j t i || nF K i) = true
        rw [if_neg (by omega), if_neg (by omega), hi]; rfl)
      rw [b2, a] at b
      have f := mRn_0 (E := E') (K := aF ((j, t) :: K)) (x := Int32.toNatClampNeg (e i).toInt32)
      show 1 ≤ zs 24 _ + mRn E' (aF ((j, t) :: K)) _
      omega
/-- values under another numbering -/
theorem mRv_ge : ∀ {V : List Int64} {i x : Nat}, i < V.length → zr (V.getD i 0) x ≤ mRv V x
  | [], i, _, h => absurd h (Nat.not_lt_zero _)
  | v :: V, 0, x, _ => by
    have := mRv_0 (V := V) (x := x)
    show zr v x ≤ zr v x + mRv V x
    omega
  | v :: V, i + 1, x, h => by
    have := mRv_ge (V := V) (i := i) (x := x) (by have : (v :: V).length = V.length + 1 := rfl; omega)
    have := zr_0 v x
    show zr (V.getD i 0) x ≤ zr v x + mRv V x
    omega
theorem rVc_p {ph2 : Nat → Nat} (h : rVc ph vd va V) (hp : ∀ x, 1 ≤ mRv V x → ph2 x = ph x) : rVc ph2 vd va V := ⟨h.1, fun i hi => by
  have hv := h.2 i hi
  refine vr_x hv (fun g => hp _ ?_)
  have g2 : zhs (va i) = 2 := (vr_h hv).trans g
  have a := zr_w hv g2 (Int32.toNatClampNeg (V.getD (vd - 1 - i) 0).toInt32)
  rw [if_pos rfl] at a
  have := mRv_ge (V := V) (i := vd - 1 - i) (x := Int32.toNatClampNeg (V.getD (vd - 1 - i) 0).toInt32) (by have := h.1; omega)
  omega⟩
/-! a KIND -/
theorem rcd_4k (h : rCO B J z zk fd bh ma F lim al s0 gi tw tp ts va vd sl pr o n ck gc cf fr fc sh sa sq sc md ru mo db om 1 k t K V e' E' c ck' cf' S ph lv gA o' d) (hw : (B 0 (Int32.toNatClampNeg k)).toInt = 4) (hm : (B 7 (Int32.toNatClampNeg k)).toInt = 0) (hp : zTl va va2 vd (pv1 (B 2 (Int32.toNatClampNeg k)))) : rCS B J z zk fd bh ma F lim al s0 gi tw tp ts va2 (vd + 1) sl pr o n ck gc cf fr fc sh sa sq sc md ru mo db om := by
  obtain ⟨g1, ⟨g2, g3, g4⟩, ⟨g5, g6, g7, g8, g9⟩, g10, r1, r2, r3, r4, r5, r6⟩ := h
  obtain ⟨k0, kz, kc⟩ := rA_e t g3 g2 rfl g7
  rcases kc with q | q | q | q | q | q
  · exact absurd q (by omega)
  · exact absurd q.1 (by omega)
  · obtain ⟨-, q1, m, qk, q2, q3, q4, q5, q6⟩ := q
    have hs := q6 F lim ((1, t) :: K) K V (e' :: E') n c ck' cf' (S, md, ru, mo, db, om)
    rw [if_pos (show m = 0 by omega)] at hs
    have hnf : ∀ i, nF K i = nF ((1, t) :: K) i := fun i => by rw [nF_1, q1 i, Bool.false_or]
    have hv0 : zhs (pv1 (B 2 (Int32.toNatClampNeg k))) ≠ 2 := by unfold pv1; rw [(zof_kind _).1]; decide
    subst g5
    refine ⟨K, _, _, c, ck', cf', S, ph, lv, gA, d, cm_re_s g1 (cm_st_1.trans hs), ⟨g6, g9⟩, rPb_n g10 (fun _ _ => rfl) (fun j hj => by rw [hnf j]; exact g10.1 j hj) rfl, r1, rVc_pu r2 hp (Or.inl ⟨hv0, rfl⟩), hZ_R r3 (fun x => ?_), r4, r5, r6⟩
    show (zr _ x + mRv V x) + mRn (e' :: E') K x = mRv V x + mRn (e' :: E') ((1, t) :: K) x
    rw [zr_n hv0, mRn_e (K2 := K) (K := (1, t) :: K) (e := e') (fun i _ => hnf i) rfl (fun _ _ _ => rfl)]; omega
  · exact absurd q.1 (by omega)
  · exact absurd q.1 (by omega)
  · exact absurd q.1 (by omega)
theorem rcd_4x (h : rCO B J z zk fd bh ma F lim al s0 gi tw tp ts va vd sl pr o n ck gc cf fr fc sh sa sq sc md ru mo db om 1 k t K V e' E' c ck' cf' S ph lv gA o' d) (hw : (B 0 (Int32.toNatClampNeg k)).toInt = 4) (hm : (B 7 (Int32.toNatClampNeg k)).toInt ≠ 0) (hlm : lim = gi) (hf : fc = 0) (hs : sh_f o (Int32.toNatClampNeg (B 7 (Int32.toNatClampNeg k))) S = none) : rXs F fd lim al s0 gi 3 (B 1 (Int32.toNatClampNeg k)).toInt n md ru mo db om fc := by
  obtain ⟨g1, ⟨g2, g3, g4⟩, ⟨g5, g6, g7, g8, g9⟩, g10, r1, r2, r3, r4, r5, r6⟩ := h
  obtain ⟨k0, kz, kc⟩ := rA_e t g3 g2 rfl g7
  rcases kc with q | q | q | q | q | q
  · exact absurd q (by omega)
  · exact absurd q.1 (by omega)
  · obtain ⟨-, q1, m, qk, q2, q3, q4, q5, q6⟩ := q
    have hst := q6 F lim ((1, t) :: K) K V (e' :: E') n c ck' cf' (S, md, ru, mo, db, om)
    have hh := rc_hl (n := n) (X := (md, ru, mo, db, om)) r3 r4
    rw [if_neg (show ¬ m = 0 by omega), show (e' :: E').length = o from by rw [rNc_len g9, g5]] at hst
    rw [zn_lit q3] at hs
    rw [show (S, md, ru, mo, db, om).1 = S from rfl, hs] at hst
    have hst : cm_d F fd lim t ((1, t) :: K) K V (e' :: E') n c ck' cf' (S, md, ru, mo, db, om) = (if lim ≤ cm_hl fd (((1, t) :: K, V, e' :: E', n, c, ck', cf'), (S, md, ru, mo, db, om)) then .error (3, (B 1 (Int32.toNatClampNeg k)).toInt, (((1, t) :: K, V, e' :: E', n, c, ck', cf'), (S, md, ru, mo, db, om))) else _) := hst
    rw [if_pos (by rw [hh]; omega)] at hst
    exact ⟨_, _, _, _, _, _, _, cm_ou_s g1 (cm_st_1.trans hst), hh⟩
  · exact absurd q.1 (by omega)
  · exact absurd q.1 (by omega)
  · exact absurd q.1 (by omega)
end

end
section
/-! a KIND with fields; bounds; the start, the end: counted -/
/-- tasks that are to be done -/
def cN1 : List (Nat × Tm) → Nat
  | [] => 0
  | (j, _) :: K => cN1 K + if j = 1 then 1 else 0
theorem cN1_as {K : List (Nat × Tm)} : ∀ x : Tm, cN1 (pm_as x ++ K) = cN1 K
  | .branch (_ + 3) x y => (Nat.add_zero _).trans (cN1_as y)
  | .leaf none => rfl
  | .leaf (some (0, _, _, _, _, _)) => rfl
  | .leaf (some (_ + 1, _, _, _, _, _)) => rfl
  | .branch 0 (.leaf (some (0, _, _, _, _, _))) _ => rfl
  | .branch 0 (.leaf (some (1, _, _, _, _, _))) _ => rfl
  | .branch 1 (.leaf (some (0, _, _, _, _, _))) (.branch _ _ _) => rfl
  | .branch 1 (.leaf (some (_ + 1, _, _, _, _, _))) (.branch _ _ _) => rfl
  | .branch 2 (.leaf (some (_, _, _, _, _, _))) (.branch _ _ (.branch _ _ _)) => rfl
  | .branch 0 (.leaf (some (2, _, _, _, _, _))) _ => rfl
  | .branch 0 (.leaf (some (_ + 3, _, _, _, _, _))) _ => rfl
  | .branch 0 (.leaf none) _ => rfl
  | .branch 0 (.branch _ _ _) _ => rfl
  | .branch 1 (.leaf none) _ => rfl
  | .branch 1 (.branch _ _ _) _ => rfl
  | .branch 1 (.leaf (some (0, _, _, _, _, _))) (.leaf _) => rfl
  | .branch 1 (.leaf (some (_ + 1, _, _, _, _, _))) (.leaf _) => rfl
  | .branch 2 (.leaf none) _ => rfl
  | .branch 2 (.branch _ _ _) _ => rfl
  | .branch 2 (.leaf (some (_, _, _, _, _, _))) (.leaf _) => rfl
  | .branch 2 (.leaf (some (_, _, _, _, _, _))) (.branch _ _ (.leaf _)) => rfl
section
variable {F : sp_F} {fd : Nat → Int32} {lim : Int} {al : Nat}
def cm_bd (al : Nat) : cm_S → Prop
  | ((K, _, _, n, c, _, _), (_, md, ru, _)) => c + cN1 K ≤ n ∧ n ≤ al ∧ c = md + ru
theorem pm_w_bd {K : List (Nat × Tm)} {V : List Int64} {E : List (Nat → Int64)} {n c : Nat} {ck : Nat → Int32} {cf : Nat → Int64} {s : pm_S} : ∀ t : Tm, pm_w t K V E n c ck cf = .ok s → s.2.2.2.1 = n ∧ s.2.2.2.2.1 = c ∧ cN1 s.1 ≤ cN1 K + 1
  | .leaf (some (0, _, _, _, _, _)), h => by cases h; exact ⟨rfl, rfl, Nat.le_succ _⟩
  | .leaf (some (_ + 1, _, _, _, _, _)), h => by cases h; exact ⟨rfl, rfl, Nat.le_succ _⟩
  | .branch 0 (.leaf (some (0, p, _, _, _, w))) a, h => by cases h; exact ⟨rfl, rfl, by show cN1 (pm_as a ++ (1, _) :: K) ≤ _; rw [cN1_as a]; exact Nat.le_refl _⟩
  | .branch 0 (.leaf (some (1, p, _, k, _, _))) a, h => by cases h; exact ⟨rfl, rfl, by show cN1 (pm_as a ++ (1, _) :: K) ≤ _; rw [cN1_as a]; exact Nat.le_refl _⟩
  | .branch 0 (.leaf (some (2, _, _, _, _, _))) _, h => by cases h; exact ⟨rfl, rfl, Nat.le_refl _⟩
  | .branch 1 (.leaf (some (0, _, _, _, _, _))) (.branch _ _ _), h => by cases h; exact ⟨rfl, rfl, Nat.le_refl _⟩
  | .branch 1 (.leaf (some (_ + 1, _, _, _, _, _))) (.branch _ _ _), h => by cases h; exact ⟨rfl, rfl, Nat.le_refl _⟩
  | .branch 2 (.leaf (some (_, _, _, _, _, _))) (.branch _ _ (.branch _ _ _)), h => by cases h; exact ⟨rfl, rfl, Nat.le_refl _⟩
  | .leaf none, h => by cases h
  | .branch (_ + 3) _ _, h => by cases h
  | .branch 0 (.leaf (some (_ + 3, _, _, _, _, _))) _, h => by cases h
  | .branch 0 (.leaf none) _, h => by cases h
  | .branch 0 (.branch _ _ _) _, h => by cases h
  | .branch 1 (.leaf none) _, h => by cases h
  | .branch 1 (.branch _ _ _) _, h => by cases h
  | .branch 1 (.leaf (some (0, _, _, _, _, _))) (.leaf _), h => by cases h
  | .branch 1 (.leaf (some (_ + 1, _, _, _, _, _))) (.leaf _), h => by cases h
  | .branch 2 (.leaf none) _, h => by cases h
  | .branch 2 (.branch _ _ _) _, h => by cases h
  | .branch 2 (.leaf (some (_, _, _, _, _, _))) (.leaf _), h => by cases h
  | .branch 2 (.leaf (some (_, _, _, _, _, _))) (.branch _ _ (.leaf _)), h => by cases h
theorem cm_w_bd {K : List (Nat × Tm)} {V : List Int64} {E : List (Nat → Int64)} {n c : Nat} {ck : Nat → Int32} {cf : Nat → Int64} {X : cm_X} {s : cm_S} {t : Tm} (h : cm_w t K V E (n + 1) c ck cf X = .ok s) (h1 : c + cN1 K ≤ n) (h2 : n + 1 ≤ al) (h3 : c = X.2.1 + X.2.2.1) : cm_bd al s := by
  unfold cm_w at h
  cases e : pm_w t K V E (n + 1) c ck cf with
  | ok q =>
    rw [e] at h
    cases h
    obtain ⟨a, b, d⟩ := pm_w_bd t e
    obtain ⟨K', V', E', n', c', ck', cf'⟩ := q
    have a : n' = n + 1 := a
    have b : c' = c := b
    have d : cN1 K' ≤ cN1 K + 1 := d
    show c' + cN1 K' ≤ n' ∧ n' ≤ al ∧ c' = X.2.1 + X.2.2.1
    omega
  | error q => rw [e] at h; cases h
theorem cm_mt_bd {p : Int} {q : Nat} {a : Tm} {K0 K : List (Nat × Tm)} {V : List Int64} {E : List (Nat → Int64)} {n c : Nat} {ck : Nat → Int32} {cf : Nat → Int64} {X : cm_X} {s : cm_S} (h : cm_mt fd p q a K0 K V E n c ck cf X = .ok s) (h1 : c + cN1 K ≤ n) (h2 : n ≤ al) (h3 : c = X.2.1 + X.2.2.1) : cm_bd al s := by
  unfold cm_mt at h
  cases e : pm_fi (pm_kd ck (E.headD (fun _ => 0) q)) a with
  | none => rw [e] at h; cases h
  | some y =>
    rw [e] at h
    simp only at h
    split at h
    · split at h
      · split at h
        · cases h; exact ⟨h1, h2, h3⟩
        · cases h; exact ⟨h1, h2, h3⟩
      · cases h; exact ⟨h1, h2, h3⟩
    · cases h; exact ⟨h1, h2, h3⟩
theorem cm_d_bd {K0 K : List (Nat × Tm)} {V : List Int64} {E : List (Nat → Int64)} {n c : Nat} {ck : Nat → Int32} {cf : Nat → Int64} {X : cm_X} {s : cm_S} (h1 : c + (cN1 K + 1) ≤ n) (h2 : n ≤ al) (h3 : c = X.2.1 + X.2.2.1) : ∀ t : Tm, cm_d F fd lim t K0 K V E n c ck cf X = .ok s → cm_bd al s
  | .branch 0 (.leaf (some (0, p, _, _, _, w))) a, h => by
    have h : (if 100 ≤ E.length then _ else _) = Except.ok s := h
    split at h
    · cases h
    · cases h; exact ⟨by show c + cN1 K ≤ n; omega, h2, h3⟩
  | .branch 0 (.leaf (some (1, p, _, k, _, _))) a, h => by
    have h : (if tm_ln a = 0 then _ else match sh_f E.length (tm_ln a) X.1 with | some i => _ | none => if lim ≤ cm_hl fd ((K0, V, E, n, c, ck, cf), X) then _ else _) = Except.ok s := h
    split at h
    · cases h; exact ⟨by show c + cN1 K ≤ n; omega, h2, h3⟩
    · split at h
      · cases h; exact ⟨by show c + 1 + cN1 K ≤ n; omega, h2, by show c + 1 = X.2.1 + (X.2.2.1 + 1); omega⟩
      · split at h
        · cases h
        · cases h; exact ⟨by show c + 1 + cN1 K ≤ n; omega, h2, by show c + 1 = X.2.1 + 1 + X.2.2.1; omega⟩
  | .branch 0 (.leaf (some (2, p, _, q, _, _))) a, h => cm_mt_bd (show cm_mt fd p q a K0 K V E n c ck cf X = .ok s from h) (by omega) h2 h3
  | .branch 1 (.leaf (some (0, p, o, _, _, _))) (.branch _ x y), h => by
    have h : (match (if zhs (V.getD 1 0) = 0 ∧ zhs (V.getD 0 0) = 0 then (Except.ok (K, pv0 (pm_op o (V.getD 1 0).toInt32 (V.getD 0 0).toInt32) :: V.drop 2, E, n, c, ck, cf) : Except (Nat × Int) pm_S) else .error (2, p)) with | .ok s => (Except.ok (s, X) : Except (Nat × Int × cm_S) cm_S) | .error e => .error (e.1, e.2, ((K0, V, E, n, c, ck, cf), X))) = Except.ok s := h
    split at h
    · rename_i q hq
      split at hq
      · cases hq; cases h; exact ⟨by show c + cN1 K ≤ n; omega, h2, h3⟩
      · cases hq
    · cases h
  | .branch 1 (.leaf (some (_ + 1, p, _, q, _, _))) (.branch _ x y), h => by
    have h : (Except.ok (((0, y) :: K, V.drop 1, vp_updL (E.headD (fun _ => 0)) q (V.getD 0 0) :: E.tail, n, c, ck, cf), X) : Except (Nat × Int × cm_S) cm_S) = Except.ok s := h
    cases h; exact ⟨by show c + cN1 K ≤ n; omega, h2, h3⟩
  | .branch 2 (.leaf (some (_, p, _, _, _, _))) (.branch _ x (.branch _ y w)), h => by
    have h : (match (if zhs (V.getD 0 0) = 0 then (Except.ok ((0, if (V.getD 0 0).toInt32 = 0 then w else y) :: K, V.drop 1, E, n, c, ck, cf) : Except (Nat × Int) pm_S) else .error (2, p)) with | .ok s => (Except.ok (s, X) : Except (Nat × Int × cm_S) cm_S) | .error e => .error (e.1, e.2, ((K0, V, E, n, c, ck, cf), X))) = Except.ok s := h
    split at h
    · rename_i q hq
      split at hq
      · cases hq; cases h; exact ⟨by show c + cN1 K ≤ n; omega, h2, h3⟩
      · cases hq
    · cases h
  | .leaf (some (0, _, _, _, _, _)), h => by cases h
  | .leaf (some (_ + 1, _, _, _, _, _)), h => by cases h
  | .leaf none, h => by cases h
  | .branch (_ + 3) _ _, h => by cases h
  | .branch 0 (.leaf (some (_ + 3, _, _, _, _, _))) _, h => by cases h
  | .branch 0 (.leaf none) _, h => by cases h
  | .branch 0 (.branch _ _ _) _, h => by cases h
  | .branch 1 (.leaf none) _, h => by cases h
  | .branch 1 (.branch _ _ _) _, h => by cases h
  | .branch 1 (.leaf (some (0, _, _, _, _, _))) (.leaf _), h => by cases h
  | .branch 1 (.leaf (some (_ + 1, _, _, _, _, _))) (.leaf _), h => by cases h
  | .branch 2 (.leaf none) _, h => by cases h
  | .branch 2 (.branch _ _ _) _, h => by cases h
  | .branch 2 (.leaf (some (_, _, _, _, _, _))) (.leaf _), h => by cases h
  | .branch 2 (.leaf (some (_, _, _, _, _, _))) (.branch _ _ (.leaf _)), h => by cases h
theorem cm_st_bd : ∀ {s s2 : cm_S}, cm_bd al s → cm_st F fd lim al s = .ok s2 → cm_bd al s2
  | (([], V, E, n, c, ck, cf), X), s2, _, h => by cases h
  | (((j, t) :: K, V, E, n, c, ck, cf), X), s2, hb, h => by
    obtain ⟨S, md, ru, Y⟩ := X
    have hb : c + (cN1 K + if j = 1 then 1 else 0) ≤ n ∧ n ≤ al ∧ c = md + ru := hb
    have h : (if j = 0 then (if n = al then .error (5, pm_pl t, (((j, t) :: K, V, E, n, c, ck, cf), (S, md, ru, Y))) else cm_w t K V E (n + 1) c ck cf (S, md, ru, Y)) else if j = 1 then cm_d F fd lim t ((j, t) :: K) K V E n c ck cf (S, md, ru, Y) else if j = 3 then .ok ((K, V, E, n, c, ck, cf), (sh_r (tm_id t) S, md, ru, Y)) else .ok ((K, V, E.tail, n, c, ck, cf), (S, md, ru, Y))) = Except.ok s2 := h
    split at h
    · rename_i j0
      rw [if_neg (show ¬ j = 1 by omega)] at hb
      split at h
      · cases h
      · rename_i na
        exact cm_w_bd h (by omega) (by omega) hb.2.2
    · split at h
      · rename_i j1
        rw [if_pos j1] at hb
        exact cm_d_bd hb.1 hb.2.1 hb.2.2 t h
      · rename_i j1
        rw [if_neg j1] at hb
        split at h
        · cases h; exact ⟨by show c + cN1 K ≤ n; omega, hb.2.1, hb.2.2⟩
        · cases h; exact ⟨by show c + cN1 K ≤ n; omega, hb.2.1, hb.2.2⟩
theorem cm_it_bd : ∀ {m : Nat} {s s2 : cm_S}, cm_bd al s → cm_it F fd lim al m s = .ok s2 → cm_bd al s2
  | 0, s, s2, hb, h => by cases h; exact hb
  | m + 1, s, s2, hb, h => by
    unfold cm_it at h
    cases e : cm_st F fd lim al s with
    | ok q => rw [e] at h; exact cm_it_bd (cm_st_bd hb e) h
    | error q => rw [e] at h; cases h
theorem cm_re_bd {s s2 : cm_S} (hb : cm_bd al s) (h : cm_re F fd lim al s s2) : cm_bd al s2 := by
  obtain ⟨m, h⟩ := h
  exact cm_it_bd hb h
theorem cm_bd_0 {f : Nat} {a b c d : Int32} : cm_bd al (cm_s0 F f a b c d) := ⟨Nat.le_refl 0, Nat.zero_le _, rfl⟩
end

end
section
/-! a KIND with fields; the start, the end: counted -/
section
variable {B : Nat → Nat → Int32} {J : Nat → Int64 → Prop} {z zk : Nat} {fd us bh ma mk bo to : Nat → Int32} {F : sp_F} {lim : Int} {al : Nat} {s0 : cm_S} {gi : Int} {tw tp w1 p1 w2 p2 : Nat → Int32} {ts t2 : Nat} {va va2 : Nat → Int64} {vd : Nat} {sl sl2 : Nat → Int64} {pr pr2 : Nat → Int32} {o n : Nat} {ck ck2 gc gc2 : Nat → Int32} {cf cf2 : Nat → Int64} {fr fr2 : Nat → Int32} {fc fc2 : Int} {sh sa sq sh2 sa2 sq2 : Nat → Int32} {sc sc2 md ru md2 ru2 : Nat} {mo mo2 : Int} {db db2 om : Nat} {k kz ce y9 : Int32} {t : Tm} {K : List (Nat × Tm)} {V : List Int64} {e' : Nat → Int64} {E E' : List (Nat → Int64)} {c : Nat} {ck' : Nat → Int32} {cf' : Nat → Int64} {S S2 : List (Nat × Nat × Nat)} {ph : Nat → Nat} {lv : Nat → Bool} {gA : Nat → Int} {o' d a h1 m : Nat} {R : List Nat} {v : Int64} {R' : Nat → Int}
theorem of_nat {c : Nat} (h : c ≤ 1000000) : (Int32.ofInt (c : Int)).toInt = (c : Int) := by
  rw [Int32.toInt_ofInt_of_le] <;> omega
theorem pm_cf_s {V : List Int64} {j : Nat} (hj : j < m) : pm_cf cf' V c m (3 * c + j) = V.getD (m - 1 - j) 0 := by
  unfold pm_cf; rw [if_pos (by omega), show 3 * c + j - 3 * c = j from by omega]
/-- a cell is built: all that its cases share -/
theorem rcd_4g {md2 ru2 : Nat} {mo2 : Int} (h : rCO B J z zk fd bh ma F lim al s0 gi tw tp ts va vd sl pr o n ck gc cf fr fc sh sa sq sc md ru mo db om 1 k t K V e' E' c ck' cf' S ph lv gA o' d) (hw : (B 0 (Int32.toNatClampNeg k)).toInt = 4) (hm : (B 7 (Int32.toNatClampNeg k)).toInt = (m : Int)) (hm3 : m ≤ 3) (hvd : vd = h1 + m) (hcb : c ≤ 1000000) (hy0 : 0 ≤ y9.toInt) (hkk : ck2 = upd ck (Int32.toNatClampNeg y9) (B 2 (Int32.toNatClampNeg k))) (hgc : gc2 = upd gc (Int32.toNatClampNeg y9) 1) (hc1 : ∀ i, i < m → cf2 (3 * Int32.toNatClampNeg y9 + i) = va (h1 + i)) (hc2 : ∀ j : Nat, j < 3 * Int32.toNatClampNeg y9 ∨ 3 * Int32.toNatClampNeg y9 + 3 ≤ j → cf2 j = cf j) (hp : zTl va va2 h1 (pv2 y9))
    (hre : cm_re F fd lim al s0 ((K, pv2 (Int32.ofInt (c : Int)) :: V.drop m, e' :: E', n, c + 1, upd ck' c (B 2 (Int32.toNatClampNeg k)), pm_cf cf' V c m), (S2, md2, ru2, mo2, db, om))) (hsub : ∀ y, y ∈ sIs S2 → y ∈ sIs S) (hnd : (sIs S2).Nodup) (hy4 : Int32.toNatClampNeg y9 < 400) (hyn : ∀ x, (lv x = true ∨ x ∈ sIs S2) → ph x ≠ Int32.toNatClampNeg y9) (hF2 : hF (hUpd ph c (Int32.toNatClampNeg y9)) (hUpd lv c true) (c + 1) (sIs S2) fr fc2 gi) (hSl : rSl ph ma sh2 sa2 sq2 S2 sc2) (hSo : rSo ph c K o S2) : rCS B J z zk fd bh ma F lim al s0 gi tw tp ts va2 (h1 + 1) sl pr o n ck2 gc2 cf2 fr fc2 sh2 sa2 sq2 sc2 md2 ru2 mo2 db om := by
  obtain ⟨g1, ⟨g2, g3, g4⟩, ⟨g5, g6, g7, g8, g9⟩, g10, r1, r2, r3, r4, r5, r6⟩ := h
  obtain ⟨k0, kz, kc⟩ := rA_e t g3 g2 rfl g7
  rcases kc with q | q | q | q | q | q
  · exact absurd q (by omega)
  · exact absurd q.1 (by omega)
  · obtain ⟨-, q1, m', qk, q2, q3, q4, q5, q6⟩ := q
    obtain rfl : m' = m := by omega
    have hnf : ∀ i, nF K i = nF ((1, t) :: K) i := fun i => by rw [nF_1, q1 i, Bool.false_or]
    have hlt : ∀ x, lv x = true → x < c := fun x hx => (hZ_at r3 hx).1
    have hS : ∀ x, x ∈ sIs S → x < c := fun x hx => (r3.2.2.2.1 x hx).1
    have hR1 : ∀ x, 1 ≤ mRt ((1, t) :: K) V (e' :: E') x → x < c := fun x hx => hlt x (hZ_lv r3 hx)
    have mn : ∀ x, mRn (e' :: E') K x = mRn (e' :: E') ((1, t) :: K) x := fun x => mRn_e (K2 := K) (K := (1, t) :: K) (e := e') (fun i _ => hnf i) rfl (fun _ _ _ => rfl)
    have hpo : ∀ x, x < c → hUpd ph c (Int32.toNatClampNeg y9) x = ph x := fun x hx => hU_n (by omega)
    obtain ⟨v1, v2⟩ := rVc_dr (q := m') r2 (by omega)
    rw [show vd - m' = h1 from by omega] at v1 v2
    have hlv := r2.1
    have mv : ∀ x, mRv V x = mRv (V.drop m') x + zs m' (fun j => zr (V.getD (m' - 1 - j) 0) x) := fun x => mRv_d (by omega)
    have hzf := hZ_fill (φ := ph) (w := cWd fd ck') (w2 := cWd fd (upd ck' c (B 2 (Int32.toNatClampNeg k)))) (cA2 := pm_cf cf' V c m') (kA2 := upd ck' c (B 2 (Int32.toNatClampNeg k))) (ki := B 2 (Int32.toNatClampNeg k)) (gk2 := ck2) (gc2 := gc2) (gv2 := cf2) (m := m') (R2 := fun x => mRv (V.drop m') x + mRn (e' :: E') K x) (hZ_un r3 hsub hnd) hy4 hyn hm3 (by unfold cWd; rw [zu_s, zn_lit q2, q5]; omega) (fun d hd => by unfold cWd; rw [zu_n hd]) (fun d hd hl j hj => by
        have := (r3.2.2.1 d hl).2.2.2.1
        unfold pm_cf
        rw [if_neg (by omega)]) rfl (by rw [hkk, zu_s]) (fun y hy => by rw [hkk, zu_n hy]) (by rw [hgc, zu_s]; decide) (fun y hy => by rw [hgc, zu_n hy]) (fun j hj => by rw [pm_cf_s hj, hc1 j hj]; exact v2 j hj) (fun y hy j hj => hc2 _ (by omega)) (fun x => by
        show mRv V x + mRn (e' :: E') ((1, t) :: K) x = mRv (V.drop m') x + mRn (e' :: E') K x + zs (cWd fd (upd ck' c (B 2 (Int32.toNatClampNeg k))) c) (fun j => zr (pm_cf cf' V c m' (3 * c + j)) x)
        rw [show cWd fd (upd ck' c (B 2 (Int32.toNatClampNeg k))) c = m' from by unfold cWd; rw [zu_s, zn_lit q2, q5]; omega, mn x, mv x, zs_ext (f := fun j => zr (pm_cf cf' V c m' (3 * c + j)) x) (g := fun j => zr (V.getD (m' - 1 - j) 0) x) (fun j hj => by show zr (pm_cf cf' V c m' (3 * c + j)) x = _; rw [pm_cf_s hj])]
        omega) (fun x => by have := mRv_0 (V := V.drop m') (x := x); have := mRn_0 (E := e' :: E') (K := K) (x := x); omega)
    have eo := of_nat hcb
    have en : Int32.toNatClampNeg (Int32.ofInt (c : Int)) = c := zn_lit eo
    have z2 : zhs (pv2 (Int32.ofInt (c : Int))) = 2 ∧ (pv2 (Int32.ofInt (c : Int))).toInt32 = Int32.ofInt (c : Int) := zof_cell _
    have z3 : zhs (pv2 y9) = 2 ∧ (pv2 y9).toInt32 = y9 := zof_cell _
    have hvr : vr (hUpd ph c (Int32.toNatClampNeg y9)) (pv2 (Int32.ofInt (c : Int))) (pv2 y9) := Or.inr ⟨z2.1, z3.1, by rw [z2.2]; omega, by rw [z2.2, z3.2, en, hU_s]; exact (zn_nat hy0).symm⟩
    subst g5
    refine ⟨K, _, _, c + 1, _, _, S2, hUpd ph c (Int32.toNatClampNeg y9), hUpd lv c true, hUpd gA c 1, d, hre, ⟨g6, rNc_p g6 (fun x hx => hpo x (hR1 x ?_)) g9⟩, rPb_n g10 (fun _ _ => rfl) (fun j hj => by rw [hnf j]; exact g10.1 j hj) rfl, rTc_p (fun u hu => hpo _ (rSo_lt r6 u hu)) r1, rVc_pu (rVc_p v1 (fun x hx => hpo x (hR1 x ?_))) hp hvr, hZ_R hzf (fun x => ?_), hF2, rSl_p (fun a ha => hpo _ (hS _ (hsub _ (List.mem_map.mpr ⟨a, ha, rfl⟩)))) hSl, rSo_p (Nat.le_succ _) (fun i hi => hpo i hi) (fun a ha => hS _ (hsub _ (List.mem_map.mpr ⟨a, ha, rfl⟩))) hSo⟩
    · have := mRv_0 (V := V) (x := x)
      show 1 ≤ mRv V x + mRn (e' :: E') ((1, t) :: K) x
      rw [← mn x]; omega
    · have := mRn_0 (E := e' :: E') (K := (1, t) :: K) (x := x)
      have := zs_0 (n := m') (f := fun j => zr (V.getD (m' - 1 - j) 0) x) (fun _ _ => zr_0 _ _)
      show 1 ≤ mRv V x + mRn (e' :: E') ((1, t) :: K) x
      rw [mv x]; omega
    · show (zr (pv2 (Int32.ofInt (c : Int))) x + mRv (V.drop m') x) + mRn (e' :: E') K x = mRv (V.drop m') x + mRn (e' :: E') K x + if x = c then 1 else 0
      rw [zr_c z2.1 (by rw [z2.2]; omega), z2.2, en]; omega
  · exact absurd q.1 (by omega)
  · exact absurd q.1 (by omega)
  · exact absurd q.1 (by omega)
theorem rcd_4c (h : rCO B J z zk fd bh ma F lim al s0 gi tw tp ts va vd sl pr o n ck gc cf fr fc sh sa sq sc md ru mo db om 1 k t K V e' E' c ck' cf' S ph lv gA o' d) (hw : (B 0 (Int32.toNatClampNeg k)).toInt = 4) (hm : (B 7 (Int32.toNatClampNeg k)).toInt = (m : Int)) (hm0 : m ≠ 0) (hm3 : m ≤ 3) (hvd : vd = h1 + m) (hcb : c ≤ 1000000) (hlm : lim = gi) (hy0 : 0 ≤ y9.toInt) (hkk : ck2 = upd ck (Int32.toNatClampNeg y9) (B 2 (Int32.toNatClampNeg k))) (hgc : gc2 = upd gc (Int32.toNatClampNeg y9) 1) (hc1 : ∀ i, i < m → cf2 (3 * Int32.toNatClampNeg y9 + i) = va (h1 + i)) (hc2 : ∀ j : Nat, j < 3 * Int32.toNatClampNeg y9 ∨ 3 * Int32.toNatClampNeg y9 + 3 ≤ j → cf2 j = cf j) (hp : zTl va va2 h1 (pv2 y9))
    (hx : (∃ i9 : Nat, sh_f o m S = some i9 ∧ i9 ∈ sIs S ∧ y9.toInt = (ph i9 : Int) ∧ rSl ph ma sh2 sa2 sq2 (sh_r i9 S) sc2 ∧ fc2 = fc ∧ md2 = md ∧ mo2 = mo ∧ ru2 = ru + 1) ∨ (sh_f o m S = none ∧ 1 ≤ fc ∧ fc2 = fc - 1 ∧ y9 = fr fc2.toNat ∧ sh2 = sh ∧ sa2 = sa ∧ sq2 = sq ∧ sc2 = sc ∧ ru2 = ru ∧ md2 = md + 1 ∧ mo2 = max mo (gi - fc2))) : rCS B J z zk fd bh ma F lim al s0 gi tw tp ts va2 (h1 + 1) sl pr o n ck2 gc2 cf2 fr fc2 sh2 sa2 sq2 sc2 md2 ru2 mo2 db om := by
  have h' := h
  obtain ⟨g1, ⟨g2, g3, g4⟩, ⟨g5, g6, g7, g8, g9⟩, g10, r1, r2, r3, r4, r5, r6⟩ := h
  obtain ⟨k0, kz, kc⟩ := rA_e t g3 g2 rfl g7
  rcases kc with q | q | q | q | q | q
  · exact absurd q (by omega)
  · exact absurd q.1 (by omega)
  · obtain ⟨-, q1, m', qk, q2, q3, q4, q5, q6⟩ := q
    obtain rfl : m' = m := by omega
    have hst := q6 F lim ((1, t) :: K) K V (e' :: E') n c ck' cf' (S, md, ru, mo, db, om)
    have hh := rc_hl (n := n) (X := (md, ru, mo, db, om)) r3 r4
    rw [if_neg hm0, show (e' :: E').length = o from by rw [rNc_len g9, g5]] at hst
    have hlt : ∀ x, lv x = true → x < c := fun x hx => (hZ_at r3 hx).1
    have hS : ∀ x, x ∈ sIs S → x < c := fun x hx => (r3.2.2.2.1 x hx).1
    rcases hx with ⟨i9, e1, e2, e3, e4, rfl, rfl, rfl, rfl⟩ | ⟨e1, e2, e3, e4, rfl, rfl, rfl, rfl, rfl, rfl, e5⟩
    · rw [show (S, md2, ru, mo2, db, om).1 = S from rfl, e1] at hst
      have ey : Int32.toNatClampNeg y9 = ph i9 := zn_lit e3
      have nd := r3.2.2.2.2.1
      obtain ⟨A9, b9, B9, hS9, hb9⟩ : ∃ (A9 : List (Nat × Nat × Nat)) (b9 : Nat × Nat × Nat) (B9 : List (Nat × Nat × Nat)), S = A9 ++ b9 :: B9 ∧ b9.2.1 = i9 := by
        obtain ⟨b9, hb, e⟩ := List.mem_map.mp e2
        obtain ⟨A9, B9, hS9⟩ := List.append_of_mem hb
        exact ⟨A9, b9, B9, hS9, e⟩
      obtain ⟨qq, ii, ww⟩ := b9
      obtain rfl : ii = i9 := hb9
      have nA : ii ∉ sIs A9 := fun g => by rw [hS9, sIs_ap] at nd; exact (List.nodup_append.mp nd).2.2 _ g _ List.mem_cons_self rfl
      have es : sh_r ii S = A9 ++ B9 := by rw [hS9]; exact sh_r_ap nA
      have nd2 : (sIs (A9 ++ B9)).Nodup ∧ ii ∉ sIs (A9 ++ B9) := by
        rw [hS9, sIs_ap] at nd
        obtain ⟨n1, n2, n3⟩ := List.nodup_append.mp nd
        have n2 : ii ∉ sIs B9 ∧ (sIs B9).Nodup := List.nodup_cons.mp n2
        rw [sIs_ap]
        refine ⟨List.nodup_append.mpr ⟨n1, n2.2, fun x hx y hy => n3 x hx y (List.mem_cons_of_mem _ hy)⟩, fun g => ?_⟩
        rcases List.mem_append.mp g with g | g
        · exact nA g
        · exact n2.1 g
      have sub : ∀ y, y ∈ sIs (A9 ++ B9) → y ∈ sIs S := fun y hy => by
        rw [hS9, sIs_ap]
        rw [sIs_ap] at hy
        rcases List.mem_append.mp hy with g | g
        · exact List.mem_append.mpr (Or.inl g)
        · exact List.mem_append.mpr (Or.inr (List.mem_cons_of_mem _ g))
      have inj := r3.2.2.2.2.2
      have so := rSo_r (i := ii) nd (fun a b ha hb e => inj _ _ (Or.inr (List.mem_map.mpr ⟨a, ha, rfl⟩)) (Or.inr (List.mem_map.mpr ⟨b, hb, rfl⟩)) e) r6
      rw [es] at e4 so
      have hst : cm_d F fd lim t ((1, t) :: K) K V (e' :: E') n c ck' cf' (S, md2, ru, mo2, db, om) = .ok ((K, pv2 (Int32.ofInt (c : Int)) :: V.drop m', e' :: E', n, c + 1, upd ck' c (B 2 (Int32.toNatClampNeg k)), pm_cf cf' V c m'), (sh_r ii S, md2, ru + 1, mo2, db, om)) := hst
      rw [es] at hst
      refine rcd_4g h' hw hm hm3 hvd hcb hy0 hkk hgc hc1 hc2 hp (cm_re_s g1 (cm_st_1.trans hst)) sub nd2.1 (by rw [ey]; exact (r3.2.2.2.1 ii e2).2.2) (fun x hx e => ?_) (by rw [ey]; exact hF_re r4 e2 hS sub (by rw [hS9, sIs_ap, sIs_ap, List.length_append, List.length_append]; show _ = _ + ((sIs B9).length + 1); omega) hlt) e4 so
      rw [ey] at e
      have g := inj x ii (hx.imp id (sub x)) (Or.inr e2) e
      rcases hx with u | u
      · have := (r3.2.2.2.1 ii e2).2.1
        rw [← g, u] at this; cases this
      · exact nd2.2 (by rw [← g]; exact u)
    · rw [show (S, md, ru2, mo, db, om).1 = S from rfl, e1] at hst
      have hst : cm_d F fd lim t ((1, t) :: K) K V (e' :: E') n c ck' cf' (S, md, ru2, mo, db, om) = (if lim ≤ cm_hl fd (((1, t) :: K, V, e' :: E', n, c, ck', cf'), (S, md, ru2, mo, db, om)) then _ else .ok ((K, pv2 (Int32.ofInt (c : Int)) :: V.drop m', e' :: E', n, c + 1, upd ck' c (B 2 (Int32.toNatClampNeg k)), pm_cf cf' V c m'), (S, md + 1, ru2, max mo (cm_hl fd (((1, t) :: K, V, e' :: E', n, c, ck', cf'), (S, md, ru2, mo, db, om)) + 1), db, om))) := hst
      rw [if_neg (by rw [hh]; omega), hh, show gi - fc + 1 = gi - fc2 from by omega, ← e5] at hst
      obtain ⟨y1, y2, y3⟩ := hF_take (fc2 := fc2) (y := Int32.toNatClampNeg y9) r4 e3 e2 (by rw [e4, show fc2.toNat = fc.toNat - 1 from by omega]) hS hlt
      exact rcd_4g h' hw hm hm3 hvd hcb hy0 hkk hgc hc1 hc2 hp (cm_re_s g1 (cm_st_1.trans hst)) (fun _ hy => hy) r3.2.2.2.2.1 y1 y2 y3 r5 r6
  · exact absurd q.1 (by omega)
  · exact absurd q.1 (by omega)
  · exact absurd q.1 (by omega)
/-! the start -/
theorem hZ_0 {w : Nat → Nat} {kA : Nat → Int32} {cA : Nat → Int64} (hR : ∀ x, R' x = 0) : hZ ph (fun _ => false) gA 0 w kA cA R' [] ck gc cf :=
  ⟨⟨0, ⟨fun x hx => (by cases hx), fun x _ => ⟨hR x, rfl⟩, fun x => by rw [hR x]; decide⟩, Int.le_refl _⟩, fun d x hd => (by cases hd), fun x hx => (by cases hx), fun x hx => (by cases hx), List.nodup_nil, fun x y hx => (by rcases hx with g | g <;> cases g)⟩
theorem hF_0 (hf : ∀ i : Nat, (i : Int) < gi → (fr i).toInt = (i : Int)) (h0 : 0 ≤ gi) (h4 : gi ≤ 400) : hF ph (fun _ => false) 0 [] fr gi gi :=
  ⟨fun i hi => ⟨by rw [hf i hi]; omega, by rw [hf i hi]; omega, fun x hx => (by rcases hx with g | g <;> cases g)⟩, fun i j hij hj => by rw [hf i (by omega), hf j hj]; omega, by show gi = gi - (0 + ((0 : Nat) : Int)); omega, h0⟩
theorem rCS_0 {f : Nat} {a b c2 d : Int32} {x1 x2 y1 : Int32} {lv2 : Nat → Bool} {gA2 RA : Nat → Int} {aa : Nat → Int64} (hQ : rQ B J z zk fd us bo to F) (hbh : ∀ f, f < F.1 → ∀ j, j < 32 → zbit (bh (Int32.toNatClampNeg (bo f))) j = false) (hf : f < F.1) (hx1 : x1.toInt = 3) (hx2 : x2.toInt = 0) (a1 : zTa tw w1 0 x1) (b1 : zTa tp p1 0 y1) (a2 : zTa w1 w2 1 x2) (b2 : zTa p1 p2 1 (bo f)) (hu : ∀ j : Nat, j < 32 → (j : Int) < (to f).toInt → zbit (us (Int32.toNatClampNeg (bo f))) j = true → sl2 j = pv0 (if j = 0 then a else if j = 1 then b else if j = 2 then c2 else if j = 3 then d else 0)) (hpb : ∀ j : Nat, j < 32 → zbit (pr2 0) j = (decide ((j : Int) < (to f).toInt) && zbit (us (Int32.toNatClampNeg (bo f))) j)) (hz : hZ ph lv2 gA2 0 (cWd fd (fun _ => 0)) (fun _ => 0) (fun _ => 0) (fun x => RA x + zN24 (pr2 0) aa x) [] ck gc cf) (hRA : ∀ x, RA x = 0) (haa : ∀ j, zhs (aa j) ≠ 2) (hF : hF ph lv2 0 [] fr fc gi) : rCS B J z zk fd bh ma F lim al (cm_s0 F f a b c2 d) gi w2 p2 2 va 0 sl2 pr2 1 0 ck gc cf fr fc sh sa sq 0 0 0 0 0 1 := by
  obtain ⟨c1, c2', m, c3, c4, c5, c6⟩ := hQ.2.1 f hf
  have hbit : ∀ j, j < 32 → zbit (pr2 0) j = nF [(0, F.2.2.2 f), (2, Tm.nil)] j := fun j hj => by
    rw [hpb j hj, hQ.1 _ _ c2' c1 j hj, nF_0, nF_2, Bool.or_false, c5]
    cases g : tm_ub (F.2.2.2 f) j with
    | false => rw [Bool.and_false]
    | true =>
      have := wf_ub _ c6 g
      rw [decide_eq_true (show (j : Int) < (m : Int) by omega)]; rfl
  have z0 : ∀ i : Nat, zhs ((if (i : Int) < F.2.2.1 f then pv0 (if i = 0 then a else if i = 1 then b else if i = 2 then c2 else if i = 3 then d else 0) else 0)) ≠ 2 := fun i => by
    split
    · unfold pv0; rw [(zof_int _).1]; decide
    · decide
  refine ⟨_, _, _, 0, _, _, [], ph, lv2, gA2, m, cm_re_r, ⟨c4, rNc_c (Or.inl rfl) c6 (fun i hi => ?_) ⟨_, _, 0, rfl, rfl, Or.inl ⟨rfl, 0, by decide, rfl, rfl⟩⟩⟩, ⟨hbit, trivial⟩, rTc_a (rTc_a (K := []) rfl a1 b1 (Or.inr (Or.inl ⟨rfl, hx1⟩))) a2 b2 (Or.inl ⟨Or.inl ⟨rfl, hx2⟩, c1, c2', fun i hi => by rw [hbh _ hf i hi, nF_2]⟩), ⟨rfl, fun i hi => absurd hi (Nat.not_lt_zero _)⟩, hZ_R hz (fun x => ?_), hF, rfl, Or.inr (Or.inr ⟨by decide, by decide, Or.inl ⟨rfl, 0, rfl, rfl⟩⟩)⟩
  · have hi2 : tm_ub (F.2.2.2 f) i = true := hi
    have il := wf_ub _ c6 hi2
    rw [show 24 * 0 + i = i from by omega, hu i (by omega) (by omega) (by rw [hQ.1 _ _ c2' c1 i (by omega)]; exact hi2), if_pos (show (i : Int) < F.2.2.1 f by omega)]
    exact Or.inl ⟨by unfold pv0; rw [(zof_int _).1]; decide, rfl⟩
  · show 0 + (zs 24 _ + 0) = RA x + zN24 (pr2 0) aa x
    rw [hRA x, zs_z (fun i hi => ?_), show zN24 (pr2 0) aa x = 0 from zs_z (fun i _ => by show (if zbit (pr2 0) i = true then zr (aa i) x else 0) = 0; rw [zr_n (haa i)]; exact ite_self _)]
    · rfl
    · show (if _ then zr (if (i : Int) < F.2.2.1 f then _ else 0) x else 0) = 0
      rw [zr_n (z0 i)]; exact ite_self _
/-- the end: how, and what is there -/
theorem rCS_end (h : rCS B J z zk fd bh ma F lim al s0 gi tw tp 0 va vd sl pr o n ck gc cf fr fc sh sa sq sc md ru mo db om) : ∃ (V : List Int64) (c : Nat) (ck' : Nat → Int32) (cf' : Nat → Int64) (ph : Nat → Nat) (lv : Nat → Bool) (gA : Nat → Int), cm_ou F fd lim al s0 (1, -1, (([], V, [], n, c, ck', cf'), ([], md, ru, mo, db, om))) ∧ rVc ph vd va V ∧ hZ ph lv gA c (cWd fd ck') ck' cf' (mRv V) [] ck gc cf ∧ hF ph lv c [] fr fc gi := by
  obtain ⟨K, V, E, c, ck', cf', S, ph, lv, gA, d, h1, ⟨h2, h3⟩, h4, h5, h6, h7, h8, h9, h10⟩ := h
  match K, h1, h3, h4, h5, h7, h10 with
  | [], h1, h3, h4, h5, h7, h10 =>
    obtain rfl : E = [] := h3.1
    obtain rfl : S = [] := h10
    exact ⟨V, c, ck', cf', ph, lv, gA, cm_ou_s h1 rfl, h6, hZ_R h7 (fun x => by show mRv V x = mRv V x + 0; omega), h8⟩
  | (j, t) :: K, _, _, _, h5, _, _ => obtain ⟨m, e, -⟩ := h5; exact absurd e (by omega)
end

end
section
/-! what a counted run knows of the program -/
/-- trees, what is needed behind them, what they build -/
def rQc (B : Nat → Nat → Int32) (J : Nat → Int64 → Prop) (z zk : Nat) (fd us bh mk bo to : Nat → Int32) (F : sp_F) : Prop := rQ B J z zk fd us bo to F ∧ (∀ (t : Tm) (k : Int32), sy_x t → rAt B J z t k → ∀ j, j < 8 → zbit (mk (Int32.toNatClampNeg k)) j = tm_mk t j) ∧ ∀ f, f < F.1 → ∀ j, j < 32 → zbit (bh (Int32.toNatClampNeg (bo f))) j = false
/-- how it ends, where, and the counts -/
def rXq (F : sp_F) (fd : Nat → Int32) (lim : Int) (al : Nat) (s0 : cm_S) (gi : Int) (k q : Int32) (n md ru : Nat) (mo : Int) (db om : Nat) (fc : Int) : Prop := ∃ (hw : Nat) (p : Int), k.toInt = (hw : Int) ∧ q.toInt = p ∧ rXs F fd lim al s0 gi hw p n md ru mo db om fc
theorem xqs {F : sp_F} {fd : Nat → Int32} {lim : Int} {al : Nat} {s0 : cm_S} {gi : Int} {k q : Int32} {hw : Nat} {p : Int} {n md ru : Nat} {mo : Int} {db om : Nat} {fc : Int} (h : rXs F fd lim al s0 gi hw p n md ru mo db om fc) (hk : k.toInt = (hw : Int)) (hq : q.toInt = p) : rXq F fd lim al s0 gi k q n md ru mo db om fc := ⟨hw, p, hk, hq, h⟩
section
variable {S : Nat → Nat → Int32} {u b bo to : Nat → Int32} {L C : Nat → Nat} {z k : Nat} {nf : Int}
theorem zB_34 (h : zPG S u b L C z bo to nf) (hk : k < z) (hw : (S 0 k).toInt = 3 ∨ (S 0 k).toInt = 4) {R : List Nat} (hR : zli (S 5) (S 2 k) R) : ∀ D r E, R = D ++ r :: E → ∀ j, j < 32 → zbit (b r) j = (zbit (b k) j || E.any (zKf u j)) := by
  have g := (h.2.2.1 k hk).2
  rcases hw with w | w
  · rw [zn_lit (n := 3) w] at g; exact g R hR
  · rw [zn_lit (n := 4) w] at g; exact g R hR
theorem zB_5 (h : zPG S u b L C z bo to nf) (hk : k < z) (hw : (S 0 k).toInt = 5) : (∀ j, j < 32 → zbit (b (Int32.toNatClampNeg (S 2 k))) j = (zbit (b k) j || zbit (u (Int32.toNatClampNeg (S 3 k))) j)) ∧ b (Int32.toNatClampNeg (S 3 k)) = b k := by
  have g := (h.2.2.1 k hk).2
  rw [zn_lit (n := 5) hw] at g; exact g
theorem zB_6 (h : zPG S u b L C z bo to nf) (hk : k < z) (hw : (S 0 k).toInt = 6) : (∀ j, j < 32 → zbit (b (Int32.toNatClampNeg (S 2 k))) j = (zbit (b k) j || (zbit (u (Int32.toNatClampNeg (S 3 k))) j && !(j == Int32.toNatClampNeg (S 1 k))))) ∧ b (Int32.toNatClampNeg (S 3 k)) = b k := by
  have g := (h.2.2.1 k hk).2
  rw [zn_lit (n := 6) hw] at g; exact g
theorem zB_7 (h : zPG S u b L C z bo to nf) (hk : k < z) (hw : (S 0 k).toInt = 7) : (∀ j, j < 32 → zbit (b (Int32.toNatClampNeg (S 2 k))) j = (zbit (b k) j || zbit (u (Int32.toNatClampNeg (S 3 k))) j || zbit (u (Int32.toNatClampNeg (S 4 k))) j)) ∧ b (Int32.toNatClampNeg (S 3 k)) = b k ∧ b (Int32.toNatClampNeg (S 4 k)) = b k := by
  have g := (h.2.2.1 k hk).2
  rw [zn_lit (n := 7) hw] at g; exact g
end
section
variable {B : Nat → Nat → Int32} {J : Nat → Int64 → Prop} {z zk : Nat} {fd us bh ma mk bo to : Nat → Int32} {F : sp_F} {lim : Int} {al : Nat} {s0 : cm_S} {gi : Int} {tw tp w1 p1 w2 p2 : Nat → Int32} {ts t2 : Nat} {va va2 : Nat → Int64} {vd : Nat} {sl sl2 : Nat → Int64} {pr pr2 : Nat → Int32} {o n : Nat} {ck ck2 gc gc2 : Nat → Int32} {cf cf2 : Nat → Int64} {fr fr2 : Nat → Int32} {fc fc2 : Int} {sh sa sq sh2 sa2 sq2 : Nat → Int32} {sc sc2 md ru md2 ru2 : Nat} {mo mo2 : Int} {db db2 om : Nat} {k kz ce y9 : Int32} {t : Tm} {K : List (Nat × Tm)} {V : List Int64} {e' : Nat → Int64} {E E' : List (Nat → Int64)} {c : Nat} {ck' : Nat → Int32} {cf' : Nat → Int64} {S S2 : List (Nat × Nat × Nat)} {ph : Nat → Nat} {lv : Nat → Bool} {gA : Nat → Int} {o' d a h1 m j : Nat} {R : List Nat} {v : Int64}
/-- every name that is needed has its value -/
theorem rNc_v {i : Nat} : ∀ {K : List (Nat × Tm)} {d : Nat}, rNc ph zk fd sl K (e' :: E') (o' + 1) d → nF K i = true → vr ph (e' i) (sl (24 * o' + i))
  | [], _, h, _ => nomatch h.1
  | (j, t) :: K, d, ⟨e, E2, o2, h1, h2, h3⟩, g => by
    have e1 : e' = e := (List.cons.inj h1).1
    have eo : o' = o2 := by omega
    have g : (if j = 2 then false else if j = 3 then nF K i else pm_nd j t i || nF K i) = true := g
    rcases h3 with ⟨ej, -⟩ | ⟨ej, r⟩ | ⟨ej, d2, -, -, q, r⟩
    · rw [if_pos ej] at g; cases g
    · rw [if_neg (by omega), if_pos ej] at g; exact rNc_v r g
    · rw [if_neg (by omega), if_neg (by omega), Bool.or_eq_true] at g
      rcases g with g | g
      · rw [e1, eo]; exact q i g
      · exact rNc_v r g
/-- a task taken: what the run's callees want to know -/
theorem rCO_n (h : rCO B J z zk fd bh ma F lim al s0 gi tw tp ts va vd sl pr o n ck gc cf fr fc sh sa sq sc md ru mo db om j k t K V e' E' c ck' cf' S ph lv gA o' d) (hj : j = 0 ∨ j = 1) : rNc ph zk fd sl ((j, t) :: K) (e' :: E') (o' + 1) d := rNc_c hj h.2.2.1.2.2.1 h.2.2.1.2.2.2.1 h.2.2.1.2.2.2.2
theorem rCO_z (h : rCO B J z zk fd bh ma F lim al s0 gi tw tp ts va vd sl pr o n ck gc cf fr fc sh sa sq sc md ru mo db om j k t K V e' E' c ck' cf' S ph lv gA o' d) (hj : j = 0 ∨ j = 1) : hZ ph lv gA c (cWd fd ck') ck' cf' (fun x => zN24 (pr (o - 1)) e' x + (mRv V x + mRn E' (aF K) x)) (sIs S) ck gc cf := by
  have hn := rCO_n h hj
  obtain ⟨h1, ⟨h2, h3, h4⟩, ⟨h5, h6, h7, h8, h9⟩, h10, r1, r2, r3, r4, r5, r6⟩ := h
  subst h5
  refine hZ_R r3 (fun x => ?_)
  rw [Nat.add_sub_cancel]
  show _ = mRv V x + mRn (e' :: E') ((j, t) :: K) x
  rw [mRn_p (p := pr o') (fun i hi => h10.1 i (by omega)), show aF ((j, t) :: K) = aF K from if_neg (by omega)]; omega
theorem rCO_v (h : rCO B J z zk fd bh ma F lim al s0 gi tw tp ts va vd sl pr o n ck gc cf fr fc sh sa sq sc md ru mo db om j k t K V e' E' c ck' cf' S ph lv gA o' d) (hj : j = 0 ∨ j = 1) : ∀ i : Nat, i < 24 → zbit (pr (o - 1)) i = true → vr ph (e' i) (sl (24 * (o - 1) + i)) := fun i hi g => by
  have hn := rCO_n h hj
  obtain ⟨h1, ⟨h2, h3, h4⟩, ⟨h5, h6, h7, h8, h9⟩, h10, -⟩ := h
  subst h5
  rw [Nat.add_sub_cancel] at g ⊢
  exact rNc_v hn (by rw [← h10.1 i (by omega)]; exact g)
theorem rCO_b (h : rCO B J z zk fd bh ma F lim al s0 gi tw tp ts va vd sl pr o n ck gc cf fr fc sh sa sq sc md ru mo db om j k t K V e' E' c ck' cf' S ph lv gA o' d) (hj : j = 0 ∨ j = 1) (hb : cm_bd al s0) : md + ru ≤ n ∧ n ≤ al ∧ c = md + ru := by
  obtain ⟨h1, -⟩ := h
  have b := cm_re_bd hb h1
  have b : c + cN1 ((j, t) :: K) ≤ n ∧ n ≤ al ∧ c = md + ru := b
  omega
theorem rCO_x (v : Nat) : ∀ x, 0 ≤ mRv V x + mRn E' (aF K) x := fun x => by
  have := mRv_0 (V := V) (x := x)
  have := mRn_0 (E := E') (K := aF K) (x := x)
  omega
theorem rc_cut2 (h : rCO B J z zk fd bh ma F lim al s0 gi tw tp ts va vd sl pr o n ck gc cf fr fc sh sa sq sc md ru mo db om 0 k t K V e' E' c ck' cf' S ph lv gA o' d) (e : n = al) : rXs F fd lim al s0 gi 5 (B 1 (Int32.toNatClampNeg k)).toInt n md ru mo db om fc := by
  obtain ⟨h1, ⟨h2, h3, h4⟩, ⟨h5, h6, h7, h8, h9⟩, h10, r1, r2, r3, r4, r5, r6⟩ := h
  obtain ⟨k0, kz, kp, -⟩ := rA_c t h3 h2 rfl h7
  rw [← kp]
  exact ⟨_, _, _, _, _, _, _, cm_ou_s h1 (cm_st_x e), rc_hl r3 r4⟩
theorem rc_ou2 {hw : Nat} {p : Int} (h : rCO B J z zk fd bh ma F lim al s0 gi tw tp ts va vd sl pr o n ck gc cf fr fc sh sa sq sc md ru mo db om j k t K V e' E' c ck' cf' S ph lv gA o' d) (hx : cm_ou F fd lim al s0 (hw, p, (((j, t) :: K, V, e' :: E', n, c, ck', cf'), (S, md, ru, mo, db, om)))) : rXs F fd lim al s0 gi hw p n md ru mo db om fc := by
  obtain ⟨h1, ⟨h2, h3, h4⟩, ⟨h5, h6, h7, h8, h9⟩, h10, r1, r2, r3, r4, r5, r6⟩ := h
  exact ⟨_, _, _, _, _, _, _, hx, rc_hl r3 r4⟩
/-- an arm's names lie behind those that there are -/
theorem rc_8n (h : rCO B J z zk fd bh ma F lim al s0 gi tw tp ts va vd sl pr o n ck gc cf fr fc sh sa sq sc md ru mo db om 0 k t K V e' E' c ck' cf' S ph lv gA o' d) (hn : n ≠ al) (hw : (B 0 (Int32.toNatClampNeg k)).toInt = 8) (hs : Int32.toNatClampNeg (B 2 (Int32.toNatClampNeg k)) < 24) (ev : v = sl (24 * (o - 1) + Int32.toNatClampNeg (B 2 (Int32.toNatClampNeg k)))) (hR : zli (B 6) (B 3 (Int32.toNatClampNeg k)) R) (hf : zfa (B 2) (pm_kd ck v) R = some a) : ∀ i : Nat, Int32.toNatClampNeg (B 4 a) ≤ i → i < 24 → zbit (pr (o - 1)) i = false := fun i h1 h2 => by
  have hnn := rCO_n h (Or.inl rfl)
  obtain ⟨x, u2, q5, n2, hv, hl, hre, hst, hc⟩ := rc_8f h hn hw hs ev hR
  rcases hc with g | ⟨y, r, g1, g2, g3, ⟨g4, g5⟩, ⟨g6, g7, g8, g9, g10⟩, g11, g12, g13⟩
  · rw [hf] at g; cases g.2
  obtain rfl : r = a := Option.some.inj (g2.symm.trans hf)
  obtain ⟨-, -, ⟨h5, -⟩, h10, -⟩ := h
  subst h5
  rw [Nat.add_sub_cancel, h10.1 i (by omega)]
  cases e : nF ((0, t) :: K) i with
  | false => rfl
  | true =>
    have := nF_wf hnn e
    have := zn_lit g6
    omega
end
section
variable {B : Nat → Nat → Int32} {J : Nat → Int64 → Prop} {z : Nat} {us : Nat → Int32}
theorem rA_dn {k : Int32} {n : Nat} (hu : ∀ (t : Tm) (k : Int32), sy_x t → rAt B J z t k → ∀ j, j < 32 → zbit (us (Int32.toNatClampNeg k)) j = tm_ub t j) : ∀ (t : Tm), sy_x t → rAt B J z t k → n = Int32.toNatClampNeg k → ((B 0 n).toInt = 6 → ∀ j, j < 32 → tm_dn t j = (zbit (us (Int32.toNatClampNeg (B 4 n))) j && !(j == Int32.toNatClampNeg (B 2 n)))) ∧ ((B 0 n).toInt = 7 → ∀ j, j < 32 → tm_dn t j = (zbit (us (Int32.toNatClampNeg (B 4 n))) j || zbit (us (Int32.toNatClampNeg (B 5 n))) j))
  | .leaf (some (0, p, v, _, _, _)), _, ⟨a, b, h1, h2, h3, ⟨g1, g2, g3, g4⟩, h5⟩, e => by
    have hn : n = a := by have := zn_nat (x := k) (by omega); omega
    subst hn
    exact ⟨fun g => by omega, fun g => by omega⟩
  | .leaf (some (_ + 1, p, _, s, _, _)), _, ⟨a, b, h1, h2, h3, ⟨g1, g2, g3, g4⟩, h5⟩, e => by
    have hn : n = a := by have := zn_nat (x := k) (by omega); omega
    subst hn
    exact ⟨fun g => by omega, fun g => by omega⟩
  | .branch 0 (.leaf (some (0, p, _, _, _, w))) x, hs, ⟨a, b, h1, h2, h3, ⟨m, g1, g2, g3, g4, g5, g6⟩, h5⟩, e => by
    have hn : n = m := by have := zn_nat (x := k) (by omega); omega
    subst hn
    exact ⟨fun g => by omega, fun g => by omega⟩
  | .branch 0 (.leaf (some (1, p, _, c, _, _))) x, hs, ⟨a, b, h1, h2, h3, ⟨m, g1, g2, g3, g4, g5, g6⟩, h5⟩, e => by
    have hn : n = m := by have := zn_nat (x := k) (by omega); omega
    subst hn
    exact ⟨fun g => by omega, fun g => by omega⟩
  | .branch 1 (.leaf (some (0, p, o, _, _, _))) (.branch _ x y), hs, ⟨a, b, h1, h2, h3, ⟨m, q, g1, g2, g3, g4, g5, g6, g7, g8⟩, h5⟩, e => by
    have hn : n = q := by have := zn_nat (x := k) (by omega); omega
    subst hn
    exact ⟨fun g => by omega, fun g => by omega⟩
  | .branch 1 (.leaf (some (_ + 1, p, _, s, _, _))) (.branch _ x y), hs, ⟨a, b, h1, h2, h3, ⟨m, q, g1, g2, g3, g4, g5, g6, g7, g8⟩, h5⟩, e => by
    have hn : n = q := by have := zn_nat (x := k) (by omega); omega
    subst hn
    have l2 := rI_1s hs.2.2.1 g2
    have hy : rAt B J z y (B 4 n) := ⟨m, n, g8, by omega, by omega, g2, l2.2⟩
    refine ⟨fun _ j hj => ?_, fun g => by omega⟩
    rw [hu y _ hs.2.2 hy j hj, zn_lit g6]; rfl
  | .branch 2 (.leaf (some (_, p, _, _, _, _))) (.branch _ x (.branch _ y w)), hs, ⟨a, b, h1, h2, h3, ⟨m, o, q, g1, g2, g9, g3, g4, g5, g6, g7, g8⟩, h5⟩, e => by
    have hn : n = q := by have := zn_nat (x := k) (by omega); omega
    subst hn
    have l2 := rI_1s hs.2.2.1.1 g2
    have l3 := rI_1s hs.2.2.2.1 g9
    have hy : rAt B J z y (B 4 n) := ⟨m, o, g7, by omega, by omega, g2, l2.2⟩
    have hw : rAt B J z w (B 5 n) := ⟨o, n, g8, by omega, by omega, g9, l3.2⟩
    refine ⟨fun g => by omega, fun _ j hj => ?_⟩
    rw [hu y _ hs.2.2.1 hy j hj, hu w _ hs.2.2.2 hw j hj]; rfl
  | .branch 0 (.leaf (some (2, p, _, s, _, _))) x, hs, ⟨a, b, h1, h2, h3, ⟨m, g1, g2, g3, g4, g5⟩, h5⟩, e => by
    have hn : n = m := by have := zn_nat (x := k) (by omega); omega
    subst hn
    exact ⟨fun g => by omega, fun g => by omega⟩
  | .leaf none, hs, _, _ => absurd hs.1 (by decide)
  | .branch (_ + 3) _ _, hs, _, _ => absurd hs.1 (fun g => nomatch (show (0 : Nat) = 1 from g))
  | .branch 0 (.leaf (some (_ + 3, _, _, _, _, _))) _, hs, _, _ => absurd hs.1 (fun g => nomatch (show (2 : Nat) = 1 from g))
  | .branch 0 (.leaf none) _, hs, _, _ => absurd hs.1 (fun g => nomatch (show (0 : Nat) = 1 from g))
  | .branch 0 (.branch _ _ _) _, hs, _, _ => absurd hs.1 (fun g => nomatch (show (0 : Nat) = 1 from g))
  | .branch 1 (.leaf none) _, hs, _, _ => absurd hs.1 (fun g => nomatch (show (0 : Nat) = 1 from g))
  | .branch 1 (.branch _ _ _) _, hs, _, _ => absurd hs.1 (fun g => nomatch (show (0 : Nat) = 1 from g))
  | .branch 1 (.leaf (some (0, _, _, _, _, _))) (.leaf _), hs, _, _ => absurd hs.1 (fun g => nomatch (show (0 : Nat) = 1 from g))
  | .branch 1 (.leaf (some (_ + 1, _, _, _, _, _))) (.leaf _), hs, _, _ => absurd hs.1 (fun g => nomatch (show (0 : Nat) = 1 from g))
  | .branch 2 (.leaf none) _, hs, _, _ => absurd hs.1 (fun g => nomatch (show (0 : Nat) = 1 from g))
  | .branch 2 (.branch _ _ _) _, hs, _, _ => absurd hs.1 (fun g => nomatch (show (0 : Nat) = 1 from g))
  | .branch 2 (.leaf (some (_, _, _, _, _, _))) (.leaf _), hs, _, _ => absurd hs.1 (fun g => nomatch (show (0 : Nat) = 1 from g))
  | .branch 2 (.leaf (some (_, _, _, _, _, _))) (.branch _ _ (.leaf _)), hs, _, _ => absurd hs.1 (fun g => nomatch (show (0 : Nat) = 1 from g))
end
theorem rc_b67 {wh pl ow on tw th be ma fd us bh bo to : Nat → Int32} {kz : Int32} {L C : Nat → Nat} {z : Nat} {nf : Int} {J : Nat → Int64 → Prop} {k : Int32} (hPG : zPG (zJS wh ow on tw th be ma fd kz) us bh L C z bo to nf) (hk : Int32.toNatClampNeg k < z) (hu : ∀ (t : Tm) (k : Int32), sy_x t → rAt (rcs wh pl ow on tw th be ma) J z t k → ∀ j, j < 32 → zbit (us (Int32.toNatClampNeg k)) j = tm_ub t j) (hw : (wh (Int32.toNatClampNeg k)).toInt = 6 ∨ (wh (Int32.toNatClampNeg k)).toInt = 7) (t2 : Tm) (hr : rAt (rcs wh pl ow on tw th be ma) J z t2 k) (hs : sy_x t2) : ∀ j, j < 32 → zbit (bh (Int32.toNatClampNeg (on (Int32.toNatClampNeg k)))) j = (zbit (bh (Int32.toNatClampNeg k)) j || tm_dn t2 j) := fun j hj => by
  obtain ⟨d6, d7⟩ := rA_dn hu t2 hs hr rfl
  rcases hw with w | w
  · have g : zbit (bh (Int32.toNatClampNeg (on (Int32.toNatClampNeg k)))) j = _ := (zB_6 hPG hk w).1 j hj
    rw [g, d6 w j hj]; rfl
  · have g : zbit (bh (Int32.toNatClampNeg (on (Int32.toNatClampNeg k)))) j = _ := (zB_7 hPG hk w).1 j hj
    rw [g, d7 w j hj, Bool.or_assoc]; rfl

end
section
section
variable {B : Nat → Nat → Int32} {J : Nat → Int64 → Prop} {z zk : Nat} {fd us bh ma mk bo to : Nat → Int32} {F : sp_F} {lim : Int} {al : Nat} {s0 : cm_S} {gi : Int} {tw tp : Nat → Int32} {ts : Nat} {va : Nat → Int64} {vd : Nat} {sl : Nat → Int64} {pr : Nat → Int32} {o n : Nat} {ck gc : Nat → Int32} {cf : Nat → Int64} {fr : Nat → Int32} {fc : Int} {sh sa sq : Nat → Int32} {sc md ru : Nat} {mo : Int} {db om : Nat} {k : Int32} {t : Tm} {K : List (Nat × Tm)} {V : List Int64} {e' : Nat → Int64} {E' : List (Nat → Int64)} {c : Nat} {ck' : Nat → Int32} {cf' : Nat → Int64} {S : List (Nat × Nat × Nat)} {ph : Nat → Nat} {lv : Nat → Bool} {gA : Nat → Int} {o' d h1 m j : Nat}
/-- the latest value apart -/
theorem rCO_l (h : rCO B J z zk fd bh ma F lim al s0 gi tw tp ts va (h1 + 1) sl pr o n ck gc cf fr fc sh sa sq sc md ru mo db om j k t K V e' E' c ck' cf' S ph lv gA o' d) : hZ ph lv gA c (cWd fd ck') ck' cf' (fun x => (mRv (V.drop 1) x + mRn (e' :: E') ((j, t) :: K) x) + zr (V.getD 0 0) x) (sIs S) ck gc cf ∧ vr ph (V.getD 0 0) (va h1) := by
  obtain ⟨-, -, -, -, r1, r2, r3, -⟩ := h
  have hl := r2.1
  refine ⟨hZ_R r3 (fun x => ?_), rVc_0 r2⟩
  show _ = mRv V x + mRn (e' :: E') ((j, t) :: K) x
  rw [mRv_d (n := 1) (V := V) (by omega)]
  show _ = mRv (V.drop 1) x + (0 + zr (V.getD 0 0) x) + _
  omega
theorem rCO_x1 : ∀ x, 0 ≤ mRv (V.drop m) x + mRn (e' :: E') ((j, t) :: K) x := fun x => by
  have := mRv_0 (V := V.drop m) (x := x)
  have := mRn_0 (E := e' :: E') (K := (j, t) :: K) (x := x)
  omega
/-- the arguments apart -/
theorem rCO_c (h : rCO B J z zk fd bh ma F lim al s0 gi tw tp ts va vd sl pr o n ck gc cf fr fc sh sa sq sc md ru mo db om j k t K V e' E' c ck' cf' S ph lv gA o' d) (hm : m ≤ vd) : hZ ph lv gA c (cWd fd ck') ck' cf' (fun x => (mRv (V.drop m) x + mRn (e' :: E') ((j, t) :: K) x) + zs m (fun i => zr (pm_ae V m i) x)) (sIs S) ck gc cf ∧ ∀ i, i < m → vr ph (pm_ae V m i) (va (vd - m + i)) := by
  obtain ⟨-, -, -, -, r1, r2, r3, -⟩ := h
  have hl := r2.1
  refine ⟨hZ_R r3 (fun x => ?_), fun i hi => ?_⟩
  · show _ = mRv V x + mRn (e' :: E') ((j, t) :: K) x
    rw [mRv_d (n := m) (V := V) (by omega), zs_ext (f := fun i => zr (pm_ae V m i) x) (g := fun i => zr (V.getD (m - 1 - i) 0) x) (fun i hi => by show zr (pm_ae V m i) x = _; unfold pm_ae; rw [if_pos hi])]
    omega
  · unfold pm_ae; rw [if_pos hi]; exact (rVc_dr r2 hm).2 i hi
end

end
section
section
variable {B : Nat → Nat → Int32} {J : Nat → Int64 → Prop} {z zk : Nat} {fd us bh ma mk bo to : Nat → Int32} {F : sp_F} {lim : Int} {al : Nat} {s0 : cm_S} {gi : Int} {tw tp : Nat → Int32} {ts : Nat} {va : Nat → Int64} {vd : Nat} {sl : Nat → Int64} {pr : Nat → Int32} {o n : Nat} {ck gc : Nat → Int32} {cf : Nat → Int64} {fr : Nat → Int32} {fc : Int} {sh sa sq : Nat → Int32} {sc md ru : Nat} {mo : Int} {db om : Nat} {k : Int32} {t : Tm} {K : List (Nat × Tm)} {V : List Int64} {e' : Nat → Int64} {E E' : List (Nat → Int64)} {c : Nat} {ck' : Nat → Int32} {cf' : Nat → Int64} {S : List (Nat × Nat × Nat)} {ph : Nat → Nat} {lv : Nat → Bool} {gA : Nat → Int} {o' d h1 m j : Nat}
theorem rCS_bd (h : rCS B J z zk fd bh ma F lim al s0 gi tw tp ts va vd sl pr o n ck gc cf fr fc sh sa sq sc md ru mo db om) (hb : cm_bd al s0) : md + ru ≤ n ∧ n ≤ al := by
  obtain ⟨K, V, E, c, ck', cf', S, ph, lv, gA, d, h1, -⟩ := h
  have b : c + cN1 K ≤ n ∧ n ≤ al ∧ c = md + ru := cm_re_bd hb h1
  omega
/-- shells of this call and of earlier ones -/
theorem rc_e3 (ho : 1 ≤ o) (h2 : rNc ph zk fd sl K E o d) (h : (∃ (w : Nat) (S' : List (Nat × Nat × Nat)), S = (o, tm_id t, w) :: S' ∧ rSo ph c K o S') ∨ (rSo ph c K o S ∧ ∀ a, a ∈ S → ph a.2.1 ≠ ph (tm_id t))) : (∀ a, a ∈ S → 1 ≤ a.1 ∧ a.1 ≤ o) ∧ ∀ (A B : List (Nat × Nat × Nat)) (a : Nat × Nat × Nat), S = A ++ a :: B → a.1 ≠ o → ∀ b, b ∈ B → b.1 ≠ o := by
  rcases h with ⟨w, S', e, r⟩ | ⟨r, -⟩
  · subst e
    refine ⟨fun a ha => ?_, fun A B a e na b hb => ?_⟩
    · rcases List.mem_cons.mp ha with g | g
      · rw [g]; exact ⟨ho, Nat.le_refl _⟩
      · exact ⟨rSo_1 h2 r a g, rSo_le r a g⟩
    · cases A with
      | nil => exact absurd (by rw [← (List.cons.inj e).1]) na
      | cons x A =>
        have e2 : S' = A ++ a :: B := (List.cons.inj e).2
        have u := rSo_or r A B a e2 b hb
        have v := rSo_le r a (by rw [e2]; exact List.mem_append.mpr (Or.inr List.mem_cons_self))
        omega
  · refine ⟨fun a ha => ⟨rSo_1 h2 r a ha, rSo_le r a ha⟩, fun A B a e na b hb => ?_⟩
    have u := rSo_or r A B a e b hb
    have v := rSo_le r a (by rw [e]; exact List.mem_append.mpr (Or.inr List.mem_cons_self))
    omega
theorem rCS_ends (h : rCS B J z zk fd bh ma F lim al s0 gi tw tp 0 va vd sl pr o n ck gc cf fr fc sh sa sq sc md ru mo db om) : rXs F fd lim al s0 gi 1 (-1) n md ru mo db om fc := by
  obtain ⟨V, c, ck', cf', ph, lv, gA, h1, h2, h3, h4⟩ := rCS_end h
  exact ⟨[], V, [], c, ck', cf', [], h1, rc_hl (S := []) (hZ_R h3 (fun x => by show mRv V x + 0 = mRv V x; omega)) h4⟩
theorem zaa0 {f : Nat → Int32} {m x : Nat} : (0 : Int) + zs m (fun i => zr (pv0 (f i)) x) = 0 := by
  rw [zs_z (fun i _ => zr_n (by unfold pv0; rw [(zof_int _).1]; decide))]; rfl
theorem pv0_2 {x : Int32} : zhs (pv0 x) ≠ 2 := by unfold pv0; rw [(zof_int _).1]; decide
end
/-- what is there at the end -/
def rEv (F : sp_F) (fd : Nat → Int32) (lim : Int) (al : Nat) (s0 : cm_S) (gi : Int) (va : Nat → Int64) (vd n : Nat) (ck gc : Nat → Int32) (cf : Nat → Int64) (fr : Nat → Int32) (fc : Int) (md ru : Nat) (mo : Int) (db om : Nat) : Prop := ∃ (V : List Int64) (c : Nat) (ck' : Nat → Int32) (cf' : Nat → Int64) (ph : Nat → Nat) (lv : Nat → Bool) (gA : Nat → Int), cm_ou F fd lim al s0 (1, -1, (([], V, [], n, c, ck', cf'), ([], md, ru, mo, db, om))) ∧ rVc ph vd va V ∧ hZ ph lv gA c (cWd fd ck') ck' cf' (mRv V) [] ck gc cf ∧ hF ph lv c [] fr fc gi

end
