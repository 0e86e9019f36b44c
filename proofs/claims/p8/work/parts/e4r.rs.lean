/-! what is done behind operands; the first call -/
section
variable {B : Nat → Nat → Int32} {J : Nat → Int64 → Prop} {z zk : Nat} {fd us bo to : Nat → Int32} {F : sp_F} {al : Nat} {s0 : pm_S} {tw tp w1 p1 w2 p2 : Nat → Int32} {ts vd o n np h1 : Nat} {va va2 : Nat → Int64} {sl sl2 : Nat → Int64} {ck ck2 : Nat → Int32} {cf cf2 : Nat → Int64} {k : Int32}
theorem rVa_0 {V : List Int64} (h : rVa (h1 + 1) va V) : V.getD 0 0 = va h1 := by
  have := h.2 h1 (by omega)
  rw [show h1 + 1 - 1 - h1 = 0 from by omega] at this
  exact this.symm
theorem rVa_1 {V : List Int64} (h : rVa (h1 + 2) va V) : V.getD 0 0 = va (h1 + 1) ∧ V.getD 1 0 = va h1 := by
  have a := h.2 h1 (by omega)
  have b := h.2 (h1 + 1) (by omega)
  rw [show h1 + 2 - 1 - h1 = 1 from by omega] at a
  rw [show h1 + 2 - 1 - (h1 + 1) = 0 from by omega] at b
  exact ⟨b.symm, a.symm⟩
theorem rN_len : ∀ {K : List (Nat × Tm)} {E : List (Nat → Int64)} {o c : Nat}, rN zk fd sl K E o c → E.length = o
  | [], _, _, _, h => by rw [h.1, h.2]; rfl
  | (j, t) :: K, E, o, c, ⟨e, E', o', h1, h2, h3⟩ => by
    rcases h3 with ⟨-, d, -, r⟩ | ⟨-, d, -, -, -, r⟩
    · rw [h1, List.length_cons, rN_len r, h2]
    · exact rN_len r
theorem rd_5 (h : rH B J z zk fd F al s0 tw tp ts va (h1 + 2) sl o n np ck cf 1 k) (hw : (B 0 (Int32.toNatClampNeg k)).toInt = 5) (ea : zhs (va h1) = 0) (eb : zhs (va (h1 + 1)) = 0) (hp : zTl va va2 h1 (pv0 (pm_op (B 2 (Int32.toNatClampNeg k)).toInt (va h1).toInt32 (va (h1 + 1)).toInt32))) : rS B J z zk fd F al s0 tw tp ts va2 (h1 + 1) sl o n np ck cf := by
  obtain ⟨t, K, V, e', E', ck', cf', o', d, g1, ⟨g2, g3⟩, g4, g5, ⟨g6, g7, g8, g9, g10⟩, g11⟩ := h
  obtain ⟨k0, kz, kc⟩ := rA_d t g3 g2 rfl g8
  have ev := rVa_1 g5
  rcases kc with q | q | q | q | q | q
  · exact absurd q (by omega)
  · exact absurd q.1 (by omega)
  · exact absurd q.1 (by omega)
  · have hs := q.2 F K V (e' :: E') n np ck' cf'
    rw [ev.1, ev.2, if_pos ⟨ea, eb⟩] at hs
    have hv := (rVa_dr (q := 2) g5 (by omega)).1
    rw [Nat.add_sub_cancel] at hv
    exact ⟨K, _, _, _, _, pm_re_s g1 (pm_st_d.trans hs), g4, rVa_pu hv hp.2 hp.1, ⟨d, g7, by rw [g6]; exact g10⟩, g11⟩
  · exact absurd q.1 (by omega)
  · exact absurd q.1 (by omega)
theorem rd_5x (h : rH B J z zk fd F al s0 tw tp ts va (h1 + 2) sl o n np ck cf 1 k) (hw : (B 0 (Int32.toNatClampNeg k)).toInt = 5) (ea : ¬ (zhs (va h1) = 0 ∧ zhs (va (h1 + 1)) = 0)) : pm_ou F al s0 (2, (B 1 (Int32.toNatClampNeg k)).toInt) := by
  obtain ⟨t, K, V, e', E', ck', cf', o', d, g1, ⟨g2, g3⟩, g4, g5, ⟨g6, g7, g8, g9, g10⟩, g11⟩ := h
  obtain ⟨k0, kz, kc⟩ := rA_d t g3 g2 rfl g8
  have ev := rVa_1 g5
  rcases kc with q | q | q | q | q | q
  · exact absurd q (by omega)
  · exact absurd q.1 (by omega)
  · exact absurd q.1 (by omega)
  · have hs := q.2 F K V (e' :: E') n np ck' cf'
    rw [ev.1, ev.2, if_neg ea] at hs
    exact pm_ou_s g1 (pm_st_d.trans hs)
  · exact absurd q.1 (by omega)
  · exact absurd q.1 (by omega)
theorem rd_6 {x : Int32} (h : rH B J z zk fd F al s0 tw tp ts va (h1 + 1) sl o n np ck cf 1 k) (hQ : rQ B J z zk fd us bo to F) (hw : (B 0 (Int32.toNatClampNeg k)).toInt = 6) (hx : x.toInt = 0) (a1 : zTa tw w2 ts x) (b1 : zTa tp p2 ts (B 4 (Int32.toNatClampNeg k))) (hsl : sl2 = vp_updL sl (24 * (o - 1) + Int32.toNatClampNeg (B 2 (Int32.toNatClampNeg k))) (va h1) ∨ zbit (us (Int32.toNatClampNeg (B 4 (Int32.toNatClampNeg k)))) (Int32.toNatClampNeg (B 2 (Int32.toNatClampNeg k))) = false ∧ sl2 = sl) : rS B J z zk fd F al s0 w2 p2 (ts + 1) va h1 sl2 o n np ck cf := by
  obtain ⟨t, K, V, e', E', ck', cf', o', d, g1, ⟨g2, g3⟩, g4, g5, ⟨g6, g7, g8, g9, g10⟩, g11⟩ := h
  obtain ⟨k0, kz, kc⟩ := rA_d t g3 g2 rfl g8
  rcases kc with q | q | q | q | q | q
  · exact absurd q (by omega)
  · exact absurd q.1 (by omega)
  · exact absurd q.1 (by omega)
  · exact absurd q.1 (by omega)
  · obtain ⟨-, q1, q2, y, q3, q4, q5, q6, q7⟩ := q
    have hv := (rVa_dr (q := 1) g5 (by omega)).1
    rw [Nat.add_sub_cancel] at hv
    have hs := q7 F K V (e' :: E') n np ck' cf'
    rw [rVa_0 g5] at hs
    subst g6
    rw [Nat.add_sub_cancel, zn_lit q1] at hsl
    refine ⟨_, _, _, _, _, pm_re_s g1 (pm_st_d.trans hs), rTk_a g4 a1 b1 (Or.inl ⟨rfl, hx, q3, q4⟩), hv, ⟨d + 1, by omega, ?_⟩, g11⟩
    show rN zk fd sl2 ((0, y) :: K) (vp_updL e' d (va h1) :: E') (o' + 1) (d + 1)
    have hoth : ∀ i, i ≠ 24 * o' + d → sl2 i = sl i := fun i hi => by
      rcases hsl with e | ⟨-, e⟩
      · rw [e, zul_n hi]
      · rw [e]
    refine rN_c (by decide) q5 (fun i hi => ?_) (rN_mo (Nat.le_succ _) (rN_hd (fun i hi => hoth i (by omega)) g7 (fun i hi => ⟨hoth _ (by omega), zul_n (by omega)⟩) g10))
    have hi2 : tm_ub y i = true := hi
    by_cases u : i = d
    · rw [u] at hi2 ⊢
      rw [zul_s]
      rcases hsl with e | ⟨b, -⟩
      · rw [e, zul_s]
      · rw [hQ.1 y _ q4 q3 d (by omega), hi2] at b; cases b
    · rw [hoth _ (by omega), zul_n u]
      exact g9 i (q6 i hi2 u)
  · exact absurd q.1 (by omega)
theorem rd_7 {x y : Int32} (h : rH B J z zk fd F al s0 tw tp ts va (h1 + 1) sl o n np ck cf 1 k) (hw : (B 0 (Int32.toNatClampNeg k)).toInt = 7) (ea : zhs (va h1) = 0) (hx : x.toInt = 0) (hy : va h1 ≠ 0 ∧ y = B 4 (Int32.toNatClampNeg k) ∨ va h1 = 0 ∧ y = B 5 (Int32.toNatClampNeg k)) (a1 : zTa tw w2 ts x) (b1 : zTa tp p2 ts y) : rS B J z zk fd F al s0 w2 p2 (ts + 1) va h1 sl o n np ck cf := by
  obtain ⟨t, K, V, e', E', ck', cf', o', d, g1, ⟨g2, g3⟩, g4, g5, ⟨g6, g7, g8, g9, g10⟩, g11⟩ := h
  obtain ⟨k0, kz, kc⟩ := rA_d t g3 g2 rfl g8
  rcases kc with q | q | q | q | q | q
  · exact absurd q (by omega)
  · exact absurd q.1 (by omega)
  · exact absurd q.1 (by omega)
  · exact absurd q.1 (by omega)
  · exact absurd q.1 (by omega)
  · obtain ⟨-, a, b, ⟨c1, c2, c3, c4⟩, ⟨d1, d2, d3, d4⟩, q7⟩ := q
    have hv := (rVa_dr (q := 1) g5 (by omega)).1
    rw [Nat.add_sub_cancel] at hv
    have hs := q7 F K V (e' :: E') n np ck' cf'
    rw [rVa_0 g5, if_pos ea] at hs
    subst g6
    rcases hy with ⟨u, rfl⟩ | ⟨u, rfl⟩
    · rw [if_neg (fun e : (va h1).toInt32 = 0 => u (zv_ext (ea.trans (show (0 : Int64) = zhs 0 from by decide)) (e.trans (by decide))))] at hs
      exact ⟨_, _, _, _, _, pm_re_s g1 (pm_st_d.trans hs), rTk_a g4 a1 b1 (Or.inl ⟨rfl, hx, c1, c2⟩), hv, ⟨d, g7, rN_c (by decide) c3 (fun i hi => g9 i (c4 i hi)) g10⟩, g11⟩
    · rw [if_pos (by rw [u]; decide)] at hs
      exact ⟨_, _, _, _, _, pm_re_s g1 (pm_st_d.trans hs), rTk_a g4 a1 b1 (Or.inl ⟨rfl, hx, d1, d2⟩), hv, ⟨d, g7, rN_c (by decide) d3 (fun i hi => g9 i (d4 i hi)) g10⟩, g11⟩
theorem rd_7x (h : rH B J z zk fd F al s0 tw tp ts va (h1 + 1) sl o n np ck cf 1 k) (hw : (B 0 (Int32.toNatClampNeg k)).toInt = 7) (ea : ¬ zhs (va h1) = 0) : pm_ou F al s0 (2, (B 1 (Int32.toNatClampNeg k)).toInt) := by
  obtain ⟨t, K, V, e', E', ck', cf', o', d, g1, ⟨g2, g3⟩, g4, g5, ⟨g6, g7, g8, g9, g10⟩, g11⟩ := h
  obtain ⟨k0, kz, kc⟩ := rA_d t g3 g2 rfl g8
  rcases kc with q | q | q | q | q | q
  · exact absurd q (by omega)
  · exact absurd q.1 (by omega)
  · exact absurd q.1 (by omega)
  · exact absurd q.1 (by omega)
  · exact absurd q.1 (by omega)
  · obtain ⟨-, a, b, -, -, q7⟩ := q
    have hs := q7 F K V (e' :: E') n np ck' cf'
    rw [rVa_0 g5, if_neg ea] at hs
    exact pm_ou_s g1 (pm_st_d.trans hs)
theorem rd_3x (h : rH B J z zk fd F al s0 tw tp ts va vd sl o n np ck cf 1 k) (hw : (B 0 (Int32.toNatClampNeg k)).toInt = 3) (ho : 100 ≤ o) : pm_ou F al s0 (4, (B 1 (Int32.toNatClampNeg k)).toInt) := by
  obtain ⟨t, K, V, e', E', ck', cf', o', d, g1, ⟨g2, g3⟩, g4, g5, ⟨g6, g7, g8, g9, g10⟩, g11⟩ := h
  obtain ⟨k0, kz, kc⟩ := rA_d t g3 g2 rfl g8
  rcases kc with q | q | q | q | q | q
  · exact absurd q (by omega)
  · obtain ⟨-, wd, q1, q2⟩ := q
    have hs := q2 F K V (e' :: E') n np ck' cf'
    rw [if_pos (by rw [rN_len g10]; omega)] at hs
    exact pm_ou_s g1 (pm_st_d.trans hs)
  · exact absurd q.1 (by omega)
  · exact absurd q.1 (by omega)
  · exact absurd q.1 (by omega)
  · exact absurd q.1 (by omega)
theorem rd_3 {x1 x2 y1 : Int32} (h : rH B J z zk fd F al s0 tw tp ts va vd sl o n np ck cf 1 k) (hQ : rQ B J z zk fd us bo to F) (hw : (B 0 (Int32.toNatClampNeg k)).toInt = 3) (ho : o < 100) (hvd : (vd : Int) = (h1 : Int) + (to (Int32.toNatClampNeg (B 2 (Int32.toNatClampNeg k)))).toInt) (hx1 : x1.toInt = 3) (hx2 : x2.toInt = 0) (a1 : zTa tw w1 ts x1) (b1 : zTa tp p1 ts y1) (a2 : zTa w1 w2 (ts + 1) x2) (b2 : zTa p1 p2 (ts + 1) (bo (Int32.toNatClampNeg (B 2 (Int32.toNatClampNeg k))))) (hl : ∀ i, i < 24 * o → sl2 i = sl i) (hu : ∀ j : Nat, j < 32 → (j : Int) < (to (Int32.toNatClampNeg (B 2 (Int32.toNatClampNeg k)))).toInt → zbit (us (Int32.toNatClampNeg (bo (Int32.toNatClampNeg (B 2 (Int32.toNatClampNeg k)))))) j = true → sl2 (24 * o + j) = va (h1 + j)) : rS B J z zk fd F al s0 w2 p2 (ts + 2) va h1 sl2 (o + 1) n np ck cf := by
  obtain ⟨t, K, V, e', E', ck', cf', o', d, g1, ⟨g2, g3⟩, g4, g5, ⟨g6, g7, g8, g9, g10⟩, g11⟩ := h
  obtain ⟨k0, kz, kc⟩ := rA_d t g3 g2 rfl g8
  rcases kc with q | q | q | q | q | q
  · exact absurd q (by omega)
  · obtain ⟨-, wd, q1, q2⟩ := q
    have hs := q2 F K V (e' :: E') n np ck' cf'
    obtain ⟨f1, f2⟩ := hQ.2.2 _ wd kz hw q1
    rw [zn_lit f1] at hvd b2 hu
    obtain ⟨c1, c2, c, c3, c4, c5, c6⟩ := hQ.2.1 _ f2
    rw [if_neg (by rw [rN_len g10]; omega), c3, Int.toNat_natCast] at hs
    obtain ⟨v1, v2⟩ := rVa_dr (q := c) g5 (by omega)
    rw [show vd - c = h1 from by omega] at v1 v2
    refine ⟨_, _, _, _, _, pm_re_s g1 (pm_st_d.trans hs), rTk_a (rTk_a g4 a1 b1 (Or.inr (Or.inr ⟨rfl, hx1⟩))) a2 b2 (Or.inl ⟨rfl, hx2, c1, c2⟩), v1, ⟨c, c4, rN_c (by decide) c6 (fun i hi => ?_) ⟨_, _, o, rfl, rfl, Or.inl ⟨rfl, d, g7, rN_lo hl g7 (by rw [g6]; exact g10)⟩⟩⟩, g11⟩
    have hi2 : tm_ub (F.2.2.2 (sp_fi F.2.1 wd F.1)) i = true := hi
    have il := wf_ub _ c6 hi2
    rw [hu i (by omega) (by omega) (by rw [hQ.1 _ _ c2 c1 i (by omega)]; exact hi2)]
    unfold pm_ae
    rw [if_pos il]
    exact v2 i il
  · exact absurd q.1 (by omega)
  · exact absurd q.1 (by omega)
  · exact absurd q.1 (by omega)
  · exact absurd q.1 (by omega)
theorem rd_4k (h : rH B J z zk fd F al s0 tw tp ts va vd sl o n np ck cf 1 k) (hw : (B 0 (Int32.toNatClampNeg k)).toInt = 4) (hm : (B 7 (Int32.toNatClampNeg k)).toInt = 0) (hp : zTl va va2 vd (pv1 (B 2 (Int32.toNatClampNeg k)))) : rS B J z zk fd F al s0 tw tp ts va2 (vd + 1) sl o n np ck cf := by
  obtain ⟨t, K, V, e', E', ck', cf', o', d, g1, ⟨g2, g3⟩, g4, g5, ⟨g6, g7, g8, g9, g10⟩, g11⟩ := h
  obtain ⟨k0, kz, kc⟩ := rA_d t g3 g2 rfl g8
  rcases kc with q | q | q | q | q | q
  · exact absurd q (by omega)
  · exact absurd q.1 (by omega)
  · obtain ⟨-, m, qq, q1, q2, q3, q4, q5⟩ := q
    have hs := q5 F K V (e' :: E') n np ck' cf'
    rw [if_pos (by omega)] at hs
    exact ⟨K, _, _, _, _, pm_re_s g1 (pm_st_d.trans hs), g4, rVa_pu g5 hp.2 hp.1, ⟨d, g7, by rw [g6]; exact g10⟩, g11⟩
  · exact absurd q.1 (by omega)
  · exact absurd q.1 (by omega)
  · exact absurd q.1 (by omega)
theorem rd_4x (h : rH B J z zk fd F al s0 tw tp ts va vd sl o n np ck cf 1 k) (hw : (B 0 (Int32.toNatClampNeg k)).toInt = 4) (hm : (B 7 (Int32.toNatClampNeg k)).toInt ≠ 0) (hn : 4000 ≤ np) : pm_ou F al s0 (3, (B 1 (Int32.toNatClampNeg k)).toInt) := by
  obtain ⟨t, K, V, e', E', ck', cf', o', d, g1, ⟨g2, g3⟩, g4, g5, ⟨g6, g7, g8, g9, g10⟩, g11⟩ := h
  obtain ⟨k0, kz, kc⟩ := rA_d t g3 g2 rfl g8
  rcases kc with q | q | q | q | q | q
  · exact absurd q (by omega)
  · exact absurd q.1 (by omega)
  · obtain ⟨-, m, qq, q1, q2, q3, q4, q5⟩ := q
    have hs := q5 F K V (e' :: E') n np ck' cf'
    rw [if_neg (by omega), if_pos hn] at hs
    exact pm_ou_s g1 (pm_st_d.trans hs)
  · exact absurd q.1 (by omega)
  · exact absurd q.1 (by omega)
  · exact absurd q.1 (by omega)
theorem rd_4c {m : Nat} {x : Int32} (h : rH B J z zk fd F al s0 tw tp ts va vd sl o n np ck cf 1 k) (hw : (B 0 (Int32.toNatClampNeg k)).toInt = 4) (hm : (B 7 (Int32.toNatClampNeg k)).toInt = (m : Int)) (hm0 : m ≠ 0) (hvd : vd = h1 + m) (hn : np < 4000) (h3 : ∀ i, i < np → (fd (Int32.toNatClampNeg (ck i))).toInt ≤ 3) (hm3 : m ≤ 3) (ek : ck2 = upd ck np (B 2 (Int32.toNatClampNeg k))) (ef : ∀ i, i < m → cf2 (3 * np + i) = va (h1 + i)) (el : ∀ j, j < 3 * np → cf2 j = cf j) (hx : x.toInt = (np : Int)) (hp : zTl va va2 h1 (pv2 x)) : rS B J z zk fd F al s0 tw tp ts va2 (h1 + 1) sl o n (np + 1) ck2 cf2 := by
  obtain ⟨t, K, V, e', E', ck', cf', o', d, g1, ⟨g2, g3⟩, g4, g5, ⟨g6, g7, g8, g9, g10⟩, g11⟩ := h
  obtain ⟨k0, kz, kc⟩ := rA_d t g3 g2 rfl g8
  rcases kc with q | q | q | q | q | q
  · exact absurd q (by omega)
  · exact absurd q.1 (by omega)
  · obtain ⟨-, m', qq, q1, q2, q3, q4, q5⟩ := q
    obtain rfl : m' = m := by omega
    have hs := q5 F K V (e' :: E') n np ck' cf'
    rw [if_neg hm0, if_neg (by omega), pi_of hx] at hs
    obtain ⟨v1, v2⟩ := rVa_dr (q := m') g5 (by omega)
    rw [show vd - m' = h1 from by omega] at v1 v2
    refine ⟨K, _, _, _, _, pm_re_s g1 (pm_st_d.trans hs), g4, rVa_pu v1 hp.2 hp.1, ⟨d, g7, by rw [g6]; exact g10⟩, fun i hi => ?_⟩
    by_cases u : i = np
    · rw [u, ek, zu_s, zu_s]
      refine ⟨rfl, fun j hj => ?_⟩
      rw [zn_lit q1, q4] at hj
      rw [ef j (by omega), v2 j (by omega)]
      unfold pm_cf
      rw [if_pos (by omega), show 3 * np + j - 3 * np = j from by omega]
    · have gi := g11 i (by omega)
      rw [ek, zu_n u, zu_n u]
      refine ⟨gi.1, fun j hj => ?_⟩
      have := h3 i (by omega)
      rw [gi.1] at this
      rw [el _ (by omega), gi.2 j hj]
      unfold pm_cf
      rw [if_neg (by omega)]
  · exact absurd q.1 (by omega)
  · exact absurd q.1 (by omega)
  · exact absurd q.1 (by omega)
theorem rS_0 {f : Nat} {a b c d : Int32} {x1 x2 y1 : Int32} (hQ : rQ B J z zk fd us bo to F) (hf : f < F.1) (hx1 : x1.toInt = 3) (hx2 : x2.toInt = 0) (a1 : zTa tw w1 0 x1) (b1 : zTa tp p1 0 y1) (a2 : zTa w1 w2 1 x2) (b2 : zTa p1 p2 1 (bo f)) (hu : ∀ j : Nat, j < 32 → (j : Int) < (to f).toInt → zbit (us (Int32.toNatClampNeg (bo f))) j = true → sl2 j = pv0 (if j = 0 then a else if j = 1 then b else if j = 2 then c else if j = 3 then d else 0)) : rS B J z zk fd F al (pm_s0 F f a b c d) w2 p2 2 va 0 sl2 1 0 0 ck cf := by
  obtain ⟨c1, c2, m, c3, c4, c5, c6⟩ := hQ.2.1 f hf
  refine ⟨_, _, _, _, _, pm_re_r, rTk_a (rTk_a (K := []) rfl a1 b1 (Or.inr (Or.inr ⟨rfl, hx1⟩))) a2 b2 (Or.inl ⟨rfl, hx2, c1, c2⟩), ⟨rfl, fun i hi => absurd hi (Nat.not_lt_zero _)⟩, ⟨m, c4, rN_c (by decide) c6 (fun i hi => ?_) ⟨_, _, 0, rfl, rfl, Or.inl ⟨rfl, 0, by decide, rfl, rfl⟩⟩⟩, fun i hi => absurd hi (Nat.not_lt_zero _)⟩
  have hi2 : tm_ub (F.2.2.2 f) i = true := hi
  have il := wf_ub _ c6 hi2
  rw [show 24 * 0 + i = i from by omega, hu i (by omega) (by omega) (by rw [hQ.1 _ _ c2 c1 i (by omega)]; exact hi2), if_pos (show (i : Int) < F.2.2.1 f by omega)]
end
