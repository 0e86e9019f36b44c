/-! the shells of a tree's parts -/
theorem k_cl : ∀ {t : Tm}, tm_k t ≠ 0 → ¬ tm_cl t
  | .leaf none, h => absurd rfl h
  | .branch (_ + 3) _ _, h => absurd rfl h
  | .leaf (some (0, _, _, _, _, _)), _ => fun g => g
  | .leaf (some (_ + 1, _, _, _, _, _)), _ => fun g => g
  | .branch 0 (.leaf (some (0, _, _, _, _, _))) _, _ => fun g => g
  | .branch 0 (.leaf (some (1, _, _, _, _, _))) _, _ => fun g => g
  | .branch 1 (.leaf (some (0, _, _, _, _, _))) (.branch _ _ _), _ => fun g => g
  | .branch 1 (.leaf (some (_ + 1, _, _, _, _, _))) (.branch _ _ _), _ => fun g => g
  | .branch 2 (.leaf (some (_, _, _, _, _, _))) (.branch _ _ (.branch _ _ _)), _ => fun g => g
  | .branch 0 (.leaf (some (2, _, _, _, _, _))) _, _ => fun g => g
  | .branch 0 (.leaf (some (_ + 3, _, _, _, _, _))) _, _ => fun g => g
  | .branch 0 (.leaf none) _, h => absurd rfl h
  | .branch 0 (.branch _ _ _) _, h => absurd rfl h
  | .branch 1 (.leaf none) _, h => absurd rfl h
  | .branch 1 (.branch _ _ _) _, h => absurd rfl h
  | .branch 1 (.leaf (some (0, _, _, _, _, _))) (.leaf _), h => absurd rfl h
  | .branch 1 (.leaf (some (_ + 1, _, _, _, _, _))) (.leaf _), h => absurd rfl h
  | .branch 2 (.leaf none) _, h => absurd rfl h
  | .branch 2 (.branch _ _ _) _, h => absurd rfl h
  | .branch 2 (.leaf (some (_, _, _, _, _, _))) (.leaf _), h => absurd rfl h
  | .branch 2 (.leaf (some (_, _, _, _, _, _))) (.branch _ _ (.leaf _)), h => absurd rfl h
theorem k1_cl {t : Tm} (h : tm_k t = 1) : ¬ tm_cl t := k_cl (by omega)
theorem sy_ok : ∀ {t : Tm} {b : Bool}, tm_sy t b → tm_ok t
  | .leaf none, _, _ => trivial
  | .branch (_ + 3) x y, b, h => ⟨⟨k_cl (by rw [h.1.1]; split <;> decide), sy_ok h.1.2⟩, sy_ok h.2⟩
  | .leaf (some (0, _, _, _, _, _)), _, _ => trivial
  | .leaf (some (_ + 1, _, _, _, _, _)), _, _ => trivial
  | .branch 0 (.leaf (some (0, _, _, _, _, _))) _, _, h => ⟨h.1, sy_ok h.2⟩
  | .branch 0 (.leaf (some (1, _, _, _, _, _))) _, _, h => ⟨h.1, sy_ok h.2⟩
  | .branch 1 (.leaf (some (0, _, _, _, _, _))) (.branch _ _ _), _, h => ⟨⟨k1_cl h.1.1, sy_ok h.1.2⟩, k1_cl h.2.1, sy_ok h.2.2⟩
  | .branch 1 (.leaf (some (_ + 1, _, _, _, _, _))) (.branch _ _ _), _, h => ⟨⟨k1_cl h.1.1, sy_ok h.1.2⟩, k1_cl h.2.1, sy_ok h.2.2⟩
  | .branch 2 (.leaf (some (_, _, _, _, _, _))) (.branch _ _ (.branch _ _ _)), _, h => ⟨⟨k1_cl h.1.1, sy_ok h.1.2⟩, ⟨k1_cl h.2.1.1, sy_ok h.2.1.2⟩, k1_cl h.2.2.1, sy_ok h.2.2.2⟩
  | .branch 0 (.leaf (some (2, _, _, _, _, _))) _, _, h => ⟨h.1, sy_ok h.2⟩
  | .branch 0 (.leaf (some (_ + 3, _, _, _, _, _))) _, _, h => ⟨k1_cl h.1, sy_ok h.2⟩
  | .branch 0 (.leaf none) _, _, _ => trivial
  | .branch 0 (.branch _ _ _) _, _, _ => trivial
  | .branch 1 (.leaf none) _, _, _ => trivial
  | .branch 1 (.branch _ _ _) _, _, _ => trivial
  | .branch 1 (.leaf (some (0, _, _, _, _, _))) (.leaf _), _, _ => trivial
  | .branch 1 (.leaf (some (_ + 1, _, _, _, _, _))) (.leaf _), _, _ => trivial
  | .branch 2 (.leaf none) _, _, _ => trivial
  | .branch 2 (.branch _ _ _) _, _, _ => trivial
  | .branch 2 (.leaf (some (_, _, _, _, _, _))) (.leaf _), _, _ => trivial
  | .branch 2 (.leaf (some (_, _, _, _, _, _))) (.branch _ _ (.leaf _)), _, _ => trivial
section
variable {wh pl ow on tw th be ma fi : Nat → Int32} {kz : Int32} {u bh mk : Nat → Int32} {z : Nat} {J : Nat → Int64 → Prop}
theorem rM_at (hM : zMA (zJS wh ow on tw th be ma fi kz) mk z) {q n : Nat} (h2 : q < z) (hn : (wh q).toInt = (n : Int)) : zMq (zJS wh ow on tw th be ma fi kz) mk q (mk q) n := by
  have h := hM q h2
  rw [show Int32.toNatClampNeg ((zJS wh ow on tw th be ma fi kz) 0 q) = n from zn_lit hn] at h
  exact h
theorem rI_mk (hM : zMA (zJS wh ow on tw th be ma fi kz) mk z) : ∀ (t : Tm), tm_ok t → ∀ {fr : Int32} {a b : Nat}, rI (rcs wh pl ow on tw th be ma) J t fr a b → b ≤ z → (¬ tm_cl t → ∀ j, j < 8 → zbit (mk (b - 1)) j = tm_mk t j) ∧ (tm_li t → ∃ Rl, zli be fr Rl ∧ ∀ j, j < 8 → Rl.any (zKf mk j) = tm_mk t j)
  | .leaf (some (0, _, _, _, _, _)), _, fr, a, b, h, hb => by
    obtain ⟨rfl, h1, -⟩ := h
    refine ⟨fun _ j hj => ?_, fun g => g.elim⟩
    rw [Nat.add_sub_cancel]; exact rM_at hM (by omega) (n := 1) h1 j hj
  | .leaf (some (_ + 1, _, _, s, _, _)), _, fr, a, b, h, hb => by
    obtain ⟨rfl, h1, -⟩ := h
    refine ⟨fun _ j hj => ?_, fun g => g.elim⟩
    rw [Nat.add_sub_cancel]; exact rM_at hM (by omega) (n := 2) h1 j hj
  | .branch 0 (.leaf (some (0, _, _, _, _, _))) x, ho, fr, a, b, h, hb => by
    obtain ⟨m, q, rfl, h1, -⟩ := h
    refine ⟨fun _ j hj => ?_, fun g => g.elim⟩
    obtain ⟨Rl, r1, r2⟩ := (rI_mk hM x ho.2 q (by omega)).2 ho.1
    rw [Nat.add_sub_cancel]
    exact (rM_at hM (by omega) (n := 3) h1 Rl r1 j hj).trans (r2 j hj)
  | .branch 0 (.leaf (some (1, _, _, _, _, _))) x, ho, fr, a, b, h, hb => by
    obtain ⟨m, q, rfl, h1, -, -, h4⟩ := h
    refine ⟨fun _ j hj => ?_, fun g => g.elim⟩
    obtain ⟨Rl, r1, r2⟩ := (rI_mk hM x ho.2 q (by omega)).2 ho.1
    rw [Nat.add_sub_cancel]
    have e := rM_at hM (by omega) (n := 4) h1 Rl r1 j hj
    have h4 : (ma m).toInt = (tm_ln x : Int) := h4
    rw [r2 j hj, show Int32.toNatClampNeg ((zJS wh ow on tw th be ma fi kz) 6 m) = tm_ln x from zn_lit h4] at e
    rw [e]
    show (decide (0 < (ma m).toInt) && (j == tm_ln x) || tm_mk x j) = (decide (0 < tm_ln x) && decide (tm_ln x = j) || tm_mk x j)
    rw [h4, show decide (0 < (tm_ln x : Int)) = decide (0 < tm_ln x) from decide_eq_decide.mpr (by omega), show (j == tm_ln x) = decide (tm_ln x = j) from by
      by_cases g : tm_ln x = j
      · rw [decide_eq_true g, g]; exact beq_self_eq_true j
      · rw [decide_eq_false g]; exact beq_eq_false_iff_ne.mpr (fun q => g q.symm)]
  | .branch 1 (.leaf (some (0, _, _, _, _, _))) (.branch _ x y), ho, fr, a, b, h, hb => by
    obtain ⟨m, n, q, q2, rfl, h1, h2, h3, h4, h5⟩ := h
    have l2 := rI_le y q2
    refine ⟨fun _ j hj => ?_, fun g => g.elim⟩
    rw [Nat.add_sub_cancel]
    have e := rM_at hM (by omega) (n := 5) h1 j hj
    have ex := (rI_mk hM x ho.1.2 q (by omega)).1 ho.1.1 j hj
    have ey := (rI_mk hM y ho.2.2 q2 (by omega)).1 ho.2.1 j hj
    have p1 := rI_1 ho.1.1 q
    have p2 := rI_1 ho.2.1 q2
    rw [show Int32.toNatClampNeg ((zJS wh ow on tw th be ma fi kz) 2 n) = m - 1 from rN_i h4 (by omega), show Int32.toNatClampNeg ((zJS wh ow on tw th be ma fi kz) 3 n) = n - 1 from rN_i h5 (by omega), ex, ey] at e
    exact e
  | .branch 1 (.leaf (some (_ + 1, _, _, s, _, _))) (.branch _ x y), ho, fr, a, b, h, hb => by
    obtain ⟨m, n, q, q2, rfl, h1, h2, h3, h4, h5⟩ := h
    have l2 := rI_le y q2
    refine ⟨fun _ j hj => ?_, fun g => g.elim⟩
    rw [Nat.add_sub_cancel]
    have e := rM_at hM (by omega) (n := 6) h1 j hj
    have ex := (rI_mk hM x ho.1.2 q (by omega)).1 ho.1.1 j hj
    have ey := (rI_mk hM y ho.2.2 q2 (by omega)).1 ho.2.1 j hj
    have p1 := rI_1 ho.1.1 q
    have p2 := rI_1 ho.2.1 q2
    rw [show Int32.toNatClampNeg ((zJS wh ow on tw th be ma fi kz) 2 n) = m - 1 from rN_i h4 (by omega), show Int32.toNatClampNeg ((zJS wh ow on tw th be ma fi kz) 3 n) = n - 1 from rN_i h5 (by omega), ex, ey] at e
    exact e
  | .branch 2 (.leaf (some (_, _, _, _, _, _))) (.branch _ x (.branch _ y w)), ho, fr, a, b, h, hb => by
    obtain ⟨m, n, p, q, q2, q3, rfl, h1, h2, h3, h4, h5⟩ := h
    have l2 := rI_le y q2
    have l3 := rI_le w q3
    refine ⟨fun _ j hj => ?_, fun g => g.elim⟩
    rw [Nat.add_sub_cancel]
    have e := rM_at hM (by omega) (n := 7) h1 j hj
    have ex := (rI_mk hM x ho.1.2 q (by omega)).1 ho.1.1 j hj
    have ey := (rI_mk hM y ho.2.1.2 q2 (by omega)).1 ho.2.1.1 j hj
    have ez := (rI_mk hM w ho.2.2.2 q3 (by omega)).1 ho.2.2.1 j hj
    have p1 := rI_1 ho.1.1 q
    have p2 := rI_1 ho.2.1.1 q2
    have p3 := rI_1 ho.2.2.1 q3
    rw [show Int32.toNatClampNeg ((zJS wh ow on tw th be ma fi kz) 2 p) = m - 1 from rN_i h3 (by omega), show Int32.toNatClampNeg ((zJS wh ow on tw th be ma fi kz) 3 p) = n - 1 from rN_i h4 (by omega), show Int32.toNatClampNeg ((zJS wh ow on tw th be ma fi kz) 4 p) = p - 1 from rN_i h5 (by omega), ex, ey, ez] at e
    exact e
  | .branch 0 (.leaf (some (2, _, _, s, _, _))) x, ho, fr, a, b, h, hb => by
    obtain ⟨m, q, rfl, h1, -⟩ := h
    refine ⟨fun _ j hj => ?_, fun g => g.elim⟩
    obtain ⟨Rl, r1, r2⟩ := (rI_mk hM x ho.2 q (by omega)).2 ho.1
    rw [Nat.add_sub_cancel]
    exact (rM_at hM (by omega) (n := 8) h1 Rl r1 j hj).trans (r2 j hj)
  | .branch 0 (.leaf (some (_ + 3, _, _, hh, mm, _))) x, ho, fr, a, b, h, hb => by
    obtain ⟨m, q, rfl, h1, h2, h3, h4, h5, h6⟩ := h
    refine ⟨fun _ j hj => ?_, fun g => g.elim⟩
    rw [Nat.add_sub_cancel]
    have e := rM_at hM (by omega) (n := 9) h1 j hj
    have ex := (rI_mk hM x ho.2 q (by omega)).1 ho.1 j hj
    have p1 := rI_1 ho.1 q
    rw [show Int32.toNatClampNeg ((zJS wh ow on tw th be ma fi kz) 2 m) = m - 1 from rN_i h6 (by omega), ex] at e
    exact e
  | .branch 0 (.leaf none) _, _, _, _, _, h9, _ => h9.elim
  | .branch 0 (.branch _ _ _) _, _, _, _, _, h9, _ => h9.elim
  | .branch 1 (.leaf none) _, _, _, _, _, h9, _ => h9.elim
  | .branch 1 (.branch _ _ _) _, _, _, _, _, h9, _ => h9.elim
  | .branch 1 (.leaf (some (0, _, _, _, _, _))) (.leaf _), _, _, _, _, h9, _ => h9.elim
  | .branch 1 (.leaf (some (_ + 1, _, _, _, _, _))) (.leaf _), _, _, _, _, h9, _ => h9.elim
  | .branch 2 (.leaf none) _, _, _, _, _, h9, _ => h9.elim
  | .branch 2 (.branch _ _ _) _, _, _, _, _, h9, _ => h9.elim
  | .branch 2 (.leaf (some (_, _, _, _, _, _))) (.leaf _), _, _, _, _, h9, _ => h9.elim
  | .branch 2 (.leaf (some (_, _, _, _, _, _))) (.branch _ _ (.leaf _)), _, _, _, _, h9, _ => h9.elim
  | .leaf none, _, fr, a, b, h, hb => ⟨fun g => absurd trivial g, fun _ => ⟨[], h.2, fun _ _ => rfl⟩⟩
  | .branch (_ + 3) x y, ho, fr, a, b, h, hb => by
    obtain ⟨m, q, ⟨l, l9⟩, e, q2⟩ := h
    have l2 := rI_le y q2
    refine ⟨fun g => absurd trivial g, fun hl => ?_⟩
    have ex := (rI_mk hM x ho.1.2 q (by omega)).1 ho.1.1
    obtain ⟨Rl, r1, r2⟩ := (rI_mk hM y ho.2 q2 hb).2 hl
    refine ⟨(m - 1) :: Rl, ⟨by omega, r1⟩, fun j hj => ?_⟩
    show (zKf mk j (m - 1) || Rl.any (zKf mk j)) = (tm_mk x j || tm_mk y j)
    rw [r2 j hj, show zKf mk j (m - 1) = tm_mk x j from ex j hj]
/-- is arm r's shell kept, of a match on slot s? -/
def rInd (u bh mk on ma : Nat → Int32) (s r : Nat) : Int := if 0 < (ma r).toInt ∧ (zbit (u (Int32.toNatClampNeg (on r))) s || zbit (bh r) s) = false ∧ zbit (mk (Int32.toNatClampNeg (on r))) (Int32.toNatClampNeg (ma r)) = true then 1 else 0
def rShL (u bh mk on ma : Nat → Int32) (s : Nat) : List Nat → Int
  | [] => 0
  | r :: l => rInd u bh mk on ma s r + rShL u bh mk on ma s l
def rShA (u bh mk on ma be : Nat → Int32) (s : Nat) : Nat → Int32 → Int
  | 0, _ => 0
  | n + 1, x => if x.toInt = -1 then 0 else rInd u bh mk on ma s (Int32.toNatClampNeg x) + rShA u bh mk on ma be s n (be (Int32.toNatClampNeg x))
theorem rShA_L {s : Nat} : ∀ {L : List Nat} {n : Nat} {x : Int32}, zli be x L → L.length ≤ n → rShA u bh mk on ma be s n x = rShL u bh mk on ma s L
  | [], 0, x, _, _ => rfl
  | [], n + 1, x, h, _ => by
    have h : x.toInt = -1 := h
    unfold rShA; rw [if_pos h]; rfl
  | r :: l, 0, _, _, g => absurd g (by simp)
  | r :: l, n + 1, x, h, g => by
    have e : x.toInt = (r : Int) := h.1
    unfold rShA
    rw [if_neg (by omega), show Int32.toNatClampNeg x = r from zn_lit e, rShA_L (L := l) (n := n) h.2 (by simpa using g)]; rfl
/-- the shells of one part -/
def rf_sh (wh ow on be ma u bh mk : Nat → Int32) (k : Nat) : Int := if (wh k).toInt = 8 then rShA u bh mk on ma be (Int32.toNatClampNeg (ow k)) k (on k) else 0
theorem rf_0 {k : Nat} {n : Int} (h : (wh k).toInt = n) (hn : n ≠ 8) : rf_sh wh ow on be ma u bh mk k = 0 := if_neg (by omega)
theorem rI_len {R : Nat → Nat → Int32} : ∀ {t : Tm} {fr : Int32} {a b : Nat} {Rl : List Nat}, tm_li t → rI R J t fr a b → zli (R 6) fr Rl → Rl.length ≤ b - a
  | .leaf none, fr, a, b, [], _, _, _ => Nat.zero_le _
  | .leaf none, fr, a, b, r :: l, _, h, g => by
    have h := h.2
    have g := g.1
    omega
  | .branch (_ + 3) x y, fr, a, b, [], _, _, _ => Nat.zero_le _
  | .branch (_ + 3) x y, fr, a, b, r :: l, hl, h, g => by
    obtain ⟨m, q, ⟨h1, -⟩, e, q2⟩ := h
    have l2 := rI_le y q2
    have g1 : fr.toInt = (r : Int) := g.1
    have er : r = m - 1 := by omega
    have g2 := g.2
    rw [er] at g2
    have := rI_len (t := y) hl q2 g2
    show l.length + 1 ≤ b - a
    omega
  | .leaf (some (0, _, _, _, _, _)), _, _, _, _, g, _, _ => g.elim
  | .leaf (some (_ + 1, _, _, _, _, _)), _, _, _, _, g, _, _ => g.elim
  | .branch 0 (.leaf (some (0, _, _, _, _, _))) _, _, _, _, _, g, _, _ => g.elim
  | .branch 0 (.leaf (some (1, _, _, _, _, _))) _, _, _, _, _, g, _, _ => g.elim
  | .branch 1 (.leaf (some (0, _, _, _, _, _))) (.branch _ _ _), _, _, _, _, g, _, _ => g.elim
  | .branch 1 (.leaf (some (_ + 1, _, _, _, _, _))) (.branch _ _ _), _, _, _, _, g, _, _ => g.elim
  | .branch 2 (.leaf (some (_, _, _, _, _, _))) (.branch _ _ (.branch _ _ _)), _, _, _, _, g, _, _ => g.elim
  | .branch 0 (.leaf (some (2, _, _, _, _, _))) _, _, _, _, _, g, _, _ => g.elim
  | .branch 0 (.leaf (some (_ + 3, _, _, _, _, _))) _, _, _, _, _, g, _, _ => g.elim
  | .branch 0 (.leaf none) _, _, _, _, _, g, _, _ => g.elim
  | .branch 0 (.branch _ _ _) _, _, _, _, _, g, _, _ => g.elim
  | .branch 1 (.leaf none) _, _, _, _, _, g, _, _ => g.elim
  | .branch 1 (.branch _ _ _) _, _, _, _, _, g, _, _ => g.elim
  | .branch 1 (.leaf (some (0, _, _, _, _, _))) (.leaf _), _, _, _, _, g, _, _ => g.elim
  | .branch 1 (.leaf (some (_ + 1, _, _, _, _, _))) (.leaf _), _, _, _, _, g, _, _ => g.elim
  | .branch 2 (.leaf none) _, _, _, _, _, g, _, _ => g.elim
  | .branch 2 (.branch _ _ _) _, _, _, _, _, g, _, _ => g.elim
  | .branch 2 (.leaf (some (_, _, _, _, _, _))) (.leaf _), _, _, _, _, g, _, _ => g.elim
  | .branch 2 (.leaf (some (_, _, _, _, _, _))) (.branch _ _ (.leaf _)), _, _, _, _, g, _, _ => g.elim
theorem rB_at (hA : ∀ k, k < z → zKq (zJS wh ow on tw th be ma fi kz) u k (u k) (Int32.toNatClampNeg ((zJS wh ow on tw th be ma fi kz) 0 k)) ∧ zKb (zJS wh ow on tw th be ma fi kz) u bh k (Int32.toNatClampNeg ((zJS wh ow on tw th be ma fi kz) 0 k))) {q n : Nat} (h2 : q < z) (hn : (wh q).toInt = (n : Int)) : zKb (zJS wh ow on tw th be ma fi kz) u bh q n := by
  have h := (hA q h2).2
  rw [show Int32.toNatClampNeg ((zJS wh ow on tw th be ma fi kz) 0 q) = n from zn_lit hn] at h
  exact h
theorem bfun {x y : Int32} {w : Nat → Bool} (h : ∀ j, j < 32 → zbit x j = (zbit y j || w j)) (hw : ∀ j, w j = true → j < 24) : (fun j => zbit x j) = fun j => zbit y j || w j := funext fun j => by
  by_cases g : j < 32
  · exact h j g
  · rw [zbit_ge (by omega), zbit_ge (by omega), Bool.false_or]
    cases e : w j with
    | false => rfl
    | true => have := hw j e; omega
theorem rSh {zk : Nat} {kf : Nat → Int32} (hA : ∀ k, k < z → zKq (zJS wh ow on tw th be ma fi kz) u k (u k) (Int32.toNatClampNeg ((zJS wh ow on tw th be ma fi kz) 0 k)) ∧ zKb (zJS wh ow on tw th be ma fi kz) u bh k (Int32.toNatClampNeg ((zJS wh ow on tw th be ma fi kz) 0 k))) (hM : zMA (zJS wh ow on tw th be ma fi kz) mk z) : ∀ (t : Tm) {bb : Bool}, tm_sy t bb → ∀ {c : Nat}, tm_wf zk kf t c → c ≤ 24 → ∀ {fr : Int32} {a b : Nat}, rI (rcs wh pl ow on tw th be ma) J t fr a b → b ≤ z →
    (tm_k t = 1 → rTo (rf_sh wh ow on be ma u bh mk) a b = tm_sh t (fun j => zbit (bh (b - 1)) j) 32) ∧
    (tm_k t = 2 → ∀ s : Nat, rTo (rf_sh wh ow on be ma u bh mk) a b + rInd u bh mk on ma s (b - 1) = tm_sh t (fun j => zbit (bh (b - 1)) j) s) ∧
    (tm_li t → bb = false → ∀ {Rl : List Nat} {bk : Int32}, zli be fr Rl → (∀ D r E, Rl = D ++ r :: E → ∀ j, j < 32 → zbit (bh r) j = (zbit bk j || E.any (zKf u j))) → rTo (rf_sh wh ow on be ma u bh mk) a b = tm_sh t (fun j => zbit bk j) 32) ∧
    (tm_li t → bb = true → ∀ {Rl : List Nat} {bk : Int32} {s : Nat}, zli be fr Rl → (∀ r ∈ Rl, bh r = bk) → s < 32 → rTo (rf_sh wh ow on be ma u bh mk) a b + rShL u bh mk on ma s Rl = tm_sh t (fun j => zbit bk j) s)
  | .leaf (some (0, _, _, _, _, _)), _, _, c, hw, hc, fr, a, b, h, hb => by
    obtain ⟨rfl, h1, -⟩ := h
    refine ⟨fun _ => ?_, fun g => absurd (show (1 : Nat) = 2 from g) (by decide), fun g => g.elim, fun g => g.elim⟩
    rw [rTo_1, rf_0 (wh := wh) (n := 1) h1 (by decide)]; rfl
  | .leaf (some (_ + 1, _, _, _, _, _)), _, _, c, hw, hc, fr, a, b, h, hb => by
    obtain ⟨rfl, h1, -⟩ := h
    refine ⟨fun _ => ?_, fun g => absurd (show (1 : Nat) = 2 from g) (by decide), fun g => g.elim, fun g => g.elim⟩
    rw [rTo_1, rf_0 (wh := wh) (n := 2) h1 (by decide)]; rfl
  | .branch 0 (.leaf (some (0, _, _, _, _, _))) x, _, ⟨l, y⟩, c, hw, hc, fr, a, b, h, hb => by
    obtain ⟨m, q, rfl, h1, -⟩ := h
    have l0 := rI_le x q
    refine ⟨fun _ => ?_, fun g => absurd (show (1 : Nat) = 2 from g) (by decide), fun g => g.elim, fun g => g.elim⟩
    obtain ⟨Rl, r1, -⟩ := (rI_mk hM x (sy_ok y) q (by omega)).2 l
    have e := (rSh hA hM x y hw hc q (by omega)).2.2.1 l rfl r1 (rB_at hA (by omega) (n := 3) h1 Rl r1)
    rw [rTo_add l0 (Nat.le_succ m), rTo_1, rf_0 (wh := wh) (n := 3) h1 (by decide), e, Nat.add_sub_cancel]; exact Int.add_zero _
  | .branch 0 (.leaf (some (1, _, _, _, _, _))) x, _, ⟨l, y⟩, c, hw, hc, fr, a, b, h, hb => by
    obtain ⟨m, q, rfl, h1, -⟩ := h
    have l0 := rI_le x q
    refine ⟨fun _ => ?_, fun g => absurd (show (1 : Nat) = 2 from g) (by decide), fun g => g.elim, fun g => g.elim⟩
    obtain ⟨Rl, r1, -⟩ := (rI_mk hM x (sy_ok y) q (by omega)).2 l
    have e := (rSh hA hM x y hw.2 hc q (by omega)).2.2.1 l rfl r1 (rB_at hA (by omega) (n := 4) h1 Rl r1)
    rw [rTo_add l0 (Nat.le_succ m), rTo_1, rf_0 (wh := wh) (n := 4) h1 (by decide), e, Nat.add_sub_cancel]; exact Int.add_zero _
  | .branch 1 (.leaf (some (0, _, _, _, _, _))) (.branch _ x y), _, ⟨⟨kx, yx⟩, ⟨ky, yy⟩⟩, c, hw, hc, fr, a, b, h, hb => by
    obtain ⟨m, n, q, q2, rfl, h1, h2, h3, h4, h5⟩ := h
    have l0 := rI_le x q
    have l2 := rI_le y q2
    have p1 := rI_1 (k1_cl kx) q
    have p2 := rI_1 (k1_cl ky) q2
    refine ⟨fun _ => ?_, fun g => absurd (show (1 : Nat) = 2 from g) (by decide), fun g => g.elim, fun g => g.elim⟩
    have ex := (rSh hA hM x yx hw.1 hc q (by omega)).1 kx
    have ey := (rSh hA hM y yy hw.2 hc q2 (by omega)).1 ky
    have ub := (rI_ub (u0 := u) (a0 := 0) (b0 := z) ⟨fun q _ h => (hA q h).1, fun _ _ => rfl⟩ y (sy_ok yy) q2 (Nat.zero_le _) (by omega)).1 (k1_cl ky)
    obtain ⟨b1, b2⟩ := rB_at hA (by omega) (n := 5) h1
    rw [show Int32.toNatClampNeg ((zJS wh ow on tw th be ma fi kz) 2 n) = m - 1 from rN_i h4 (by omega), show Int32.toNatClampNeg ((zJS wh ow on tw th be ma fi kz) 3 n) = n - 1 from rN_i h5 (by omega)] at b1
    rw [show Int32.toNatClampNeg ((zJS wh ow on tw th be ma fi kz) 3 n) = n - 1 from rN_i h5 (by omega)] at b2
    have eb := bfun (x := bh (m - 1)) (y := bh n) (w := tm_ub y) (fun j hj => by rw [b1 j hj, ub j hj]) (fun j g => by have := wf_ub y hw.2 g; omega)
    rw [rTo_add (m := n) (by omega) (Nat.le_succ n), rTo_add l0 l2, ex, ey, rTo_1, rf_0 (wh := wh) (n := 5) h1 (by decide), Nat.add_sub_cancel, b2, eb]
    exact Int.add_zero _
  | .branch 1 (.leaf (some (_ + 1, _, _, s, _, _))) (.branch _ x y), _, ⟨⟨kx, yx⟩, ⟨ky, yy⟩⟩, c, hw, hc, fr, a, b, h, hb => by
    obtain ⟨m, n, q, q2, rfl, h1, h2, h3, h4, h5⟩ := h
    have l0 := rI_le x q
    have l2 := rI_le y q2
    have p1 := rI_1 (k1_cl kx) q
    have p2 := rI_1 (k1_cl ky) q2
    obtain ⟨⟨w1, w1b⟩, w2, w3⟩ := hw
    refine ⟨fun _ => ?_, fun g => absurd (show (1 : Nat) = 2 from g) (by decide), fun g => g.elim, fun g => g.elim⟩
    have ex := (rSh hA hM x yx w2 hc q (by omega)).1 kx
    have ey := (rSh hA hM y yy w3 (by omega) q2 (by omega)).1 ky
    have ub := (rI_ub (u0 := u) (a0 := 0) (b0 := z) ⟨fun q _ h => (hA q h).1, fun _ _ => rfl⟩ y (sy_ok yy) q2 (Nat.zero_le _) (by omega)).1 (k1_cl ky)
    obtain ⟨b1, b2⟩ := rB_at hA (by omega) (n := 6) h1
    rw [show Int32.toNatClampNeg ((zJS wh ow on tw th be ma fi kz) 2 n) = m - 1 from rN_i h4 (by omega), show Int32.toNatClampNeg ((zJS wh ow on tw th be ma fi kz) 3 n) = n - 1 from rN_i h5 (by omega), show Int32.toNatClampNeg ((zJS wh ow on tw th be ma fi kz) 1 n) = s from zn_lit h3] at b1
    rw [show Int32.toNatClampNeg ((zJS wh ow on tw th be ma fi kz) 3 n) = n - 1 from rN_i h5 (by omega)] at b2
    have eb := bfun (x := bh (m - 1)) (y := bh n) (w := fun j => tm_ub y j && !(j == s)) (fun j hj => by rw [b1 j hj, ub j hj]) (fun j g => by have := wf_ub y w3 ((Bool.and_eq_true _ _).mp g).1; omega)
    rw [rTo_add (m := n) (by omega) (Nat.le_succ n), rTo_add l0 l2, ex, ey, rTo_1, rf_0 (wh := wh) (n := 6) h1 (by decide), Nat.add_sub_cancel, b2, eb]
    exact Int.add_zero _
  | .branch 2 (.leaf (some (_, _, _, _, _, _))) (.branch _ x (.branch _ y w)), _, ⟨⟨kx, yx⟩, ⟨ky, yy⟩, ⟨kw, yw⟩⟩, c, hw, hc, fr, a, b, h, hb => by
    obtain ⟨m, n, p, q, q2, q3, rfl, h1, h2, h3, h4, h5⟩ := h
    have l0 := rI_le x q
    have l2 := rI_le y q2
    have l3 := rI_le w q3
    have p1 := rI_1 (k1_cl kx) q
    have p2 := rI_1 (k1_cl ky) q2
    have p3 := rI_1 (k1_cl kw) q3
    refine ⟨fun _ => ?_, fun g => absurd (show (1 : Nat) = 2 from g) (by decide), fun g => g.elim, fun g => g.elim⟩
    have ex := (rSh hA hM x yx hw.1 hc q (by omega)).1 kx
    have ey := (rSh hA hM y yy hw.2.1 hc q2 (by omega)).1 ky
    have ez := (rSh hA hM w yw hw.2.2 hc q3 (by omega)).1 kw
    have ub := (rI_ub (u0 := u) (a0 := 0) (b0 := z) ⟨fun q _ h => (hA q h).1, fun _ _ => rfl⟩ y (sy_ok yy) q2 (Nat.zero_le _) (by omega)).1 (k1_cl ky)
    have uw := (rI_ub (u0 := u) (a0 := 0) (b0 := z) ⟨fun q _ h => (hA q h).1, fun _ _ => rfl⟩ w (sy_ok yw) q3 (Nat.zero_le _) (by omega)).1 (k1_cl kw)
    obtain ⟨b1, b2, b3⟩ := rB_at hA (by omega) (n := 7) h1
    rw [show Int32.toNatClampNeg ((zJS wh ow on tw th be ma fi kz) 2 p) = m - 1 from rN_i h3 (by omega), show Int32.toNatClampNeg ((zJS wh ow on tw th be ma fi kz) 3 p) = n - 1 from rN_i h4 (by omega), show Int32.toNatClampNeg ((zJS wh ow on tw th be ma fi kz) 4 p) = p - 1 from rN_i h5 (by omega)] at b1
    rw [show Int32.toNatClampNeg ((zJS wh ow on tw th be ma fi kz) 3 p) = n - 1 from rN_i h4 (by omega)] at b2
    rw [show Int32.toNatClampNeg ((zJS wh ow on tw th be ma fi kz) 4 p) = p - 1 from rN_i h5 (by omega)] at b3
    have eb := bfun (x := bh (m - 1)) (y := bh p) (w := fun j => tm_ub y j || tm_ub w j) (fun j hj => by rw [b1 j hj, ub j hj, uw j hj, Bool.or_assoc]) (fun j g => by
      rcases (Bool.or_eq_true _ _).mp g with g | g
      · have := wf_ub y hw.2.1 g; omega
      · have := wf_ub w hw.2.2 g; omega)
    rw [rTo_add (m := p) (by omega) (Nat.le_succ p), rTo_add (m := n) (by omega) l3, rTo_add l0 l2, ex, ey, ez, rTo_1, rf_0 (wh := wh) (n := 7) h1 (by decide), Nat.add_sub_cancel, b2, b3, eb]
    show _ = tm_sh x (fun j => zbit (bh p) j || tm_ub y j || tm_ub w j) 32 + _ + _
    rw [show (fun j => zbit (bh p) j || tm_ub y j || tm_ub w j) = (fun j => zbit (bh p) j || (tm_ub y j || tm_ub w j)) from funext fun j => Bool.or_assoc _ _ _]
    exact Int.add_zero _
  | .branch 0 (.leaf (some (2, _, _, s, _, _))) x, _, ⟨l, y⟩, c, hw, hc, fr, a, b, h, hb => by
    obtain ⟨m, q, rfl, h1, h2, h3⟩ := h
    have l0 := rI_le x q
    obtain ⟨⟨w1, w2, w3⟩, w4⟩ := hw
    refine ⟨fun _ => ?_, fun g => absurd (show (1 : Nat) = 2 from g) (by decide), fun g => g.elim, fun g => g.elim⟩
    obtain ⟨Rl, r1, -⟩ := (rI_mk hM x (sy_ok y) q (by omega)).2 l
    have e := (rSh hA hM x y w4 hc q (by omega)).2.2.2 l rfl (s := s) r1 (rB_at hA (by omega) (n := 8) h1 Rl r1) (by omega)
    have hl := rI_len l q r1
    have h3 : (ow m).toInt = (s : Int) := h3
    have er : rf_sh wh ow on be ma u bh mk m = rShL u bh mk on ma s Rl := by
      unfold rf_sh
      rw [if_pos (show (wh m).toInt = 8 from h1), show Int32.toNatClampNeg (ow m) = s from zn_lit h3]
      exact rShA_L r1 (by omega)
    rw [rTo_add l0 (Nat.le_succ m), rTo_1, er, e, Nat.add_sub_cancel]; rfl
  | .branch 0 (.leaf (some (_ + 3, _, kk, hh, mm, _))) x, _, ⟨kx, yx⟩, c, hw, hc, fr, a, b, h, hb => by
    obtain ⟨m, q, rfl, h1, h2, h3, h4, h5, h6⟩ := h
    have l0 := rI_le x q
    have p1 := rI_1 (k1_cl kx) q
    obtain ⟨⟨⟨w1, w1b, w1c⟩, w2⟩, w3⟩ := hw
    refine ⟨fun g => absurd (show (2 : Nat) = 1 from g) (by decide), fun _ s => ?_, fun g => g.elim, fun g => g.elim⟩
    have ex := (rSh hA hM x yx w3 w1b q (by omega)).1 kx
    have ub := (rI_ub (u0 := u) (a0 := 0) (b0 := z) ⟨fun q _ h => (hA q h).1, fun _ _ => rfl⟩ x (sy_ok yx) q (Nat.zero_le _) (by omega)).1 (k1_cl kx)
    have um := (rI_mk hM x (sy_ok yx) q (by omega)).1 (k1_cl kx)
    have b1 : bh (Int32.toNatClampNeg (on m)) = bh m := rB_at hA (by omega) (n := 9) h1
    have eo : Int32.toNatClampNeg (on m) = m - 1 := rN_i h6 (by omega)
    have h5 : (ma m).toInt = (mm : Int) := h5
    rw [eo] at b1
    rw [rTo_add l0 (Nat.le_succ m), rTo_1, rf_0 (wh := wh) (n := 9) h1 (by decide), ex, b1, Nat.add_sub_cancel]
    unfold rInd
    rw [eo, h5, show Int32.toNatClampNeg (ma m) = mm from zn_lit h5, um mm (by omega)]
    show _ + 0 + (if _ then 1 else 0) = (if 0 < mm ∧ (tm_ub x s || zbit (bh m) s) = false ∧ tm_mk x mm = true then 1 else 0) + tm_sh x (fun j => zbit (bh m) j) 32
    have us : zbit (u (m - 1)) s = tm_ub x s := by
      by_cases g : s < 32
      · exact ub s g
      · rw [zbit_ge (by omega)]
        cases e : tm_ub x s with
        | false => rfl
        | true => have := wf_ub x w3 e; omega
    rw [us]
    by_cases g : 0 < mm ∧ (tm_ub x s || zbit (bh m) s) = false ∧ tm_mk x mm = true
    · rw [if_pos g, if_pos ⟨by omega, g.2⟩]; omega
    · rw [if_neg g, if_neg (fun q => g ⟨by omega, q.2⟩)]; omega
  | .branch 0 (.leaf none) _, _, _, _, _, _, _, _, _, h9, _ => h9.elim
  | .branch 0 (.branch _ _ _) _, _, _, _, _, _, _, _, _, h9, _ => h9.elim
  | .branch 1 (.leaf none) _, _, _, _, _, _, _, _, _, h9, _ => h9.elim
  | .branch 1 (.branch _ _ _) _, _, _, _, _, _, _, _, _, h9, _ => h9.elim
  | .branch 1 (.leaf (some (0, _, _, _, _, _))) (.leaf _), _, _, _, _, _, _, _, _, h9, _ => h9.elim
  | .branch 1 (.leaf (some (_ + 1, _, _, _, _, _))) (.leaf _), _, _, _, _, _, _, _, _, h9, _ => h9.elim
  | .branch 2 (.leaf none) _, _, _, _, _, _, _, _, _, h9, _ => h9.elim
  | .branch 2 (.branch _ _ _) _, _, _, _, _, _, _, _, _, h9, _ => h9.elim
  | .branch 2 (.leaf (some (_, _, _, _, _, _))) (.leaf _), _, _, _, _, _, _, _, _, h9, _ => h9.elim
  | .branch 2 (.leaf (some (_, _, _, _, _, _))) (.branch _ _ (.leaf _)), _, _, _, _, _, _, _, _, h9, _ => h9.elim
  | .leaf none, _, _, c, hw, hc, fr, a, b, h, hb => by
    obtain ⟨rfl, h1⟩ := h
    refine ⟨fun g => absurd (show (0 : Nat) = 1 from g) (by decide), fun g => absurd (show (0 : Nat) = 2 from g) (by decide), fun _ _ Rl bk hl _ => rTo_0, fun _ _ Rl bk s hl _ _ => ?_⟩
    cases Rl with
    | nil => rw [rTo_0]; rfl
    | cons r l => have := hl.1; omega
  | .branch (_ + 3) x y, bb, ⟨⟨kx, yx⟩, yy⟩, c, hw, hc, fr, a, b, h, hb => by
    obtain ⟨m, q, ⟨l, l9⟩, e, q2⟩ := h
    have l2 := rI_le y q2
    refine ⟨fun g => absurd (show (0 : Nat) = 1 from g) (by decide), fun g => absurd (show (0 : Nat) = 2 from g) (by decide), fun gl gb Rl bk hl hb9 => ?_, fun gl gb Rl bk s hl hb9 hs => ?_⟩
    · subst gb
      have kx : tm_k x = 1 := kx
      cases Rl with
      | nil => have hl : fr.toInt = -1 := hl; omega
      | cons r R2 =>
        have g1 : fr.toInt = (r : Int) := hl.1
        have er : r = m - 1 := by omega
        subst er
        have ub := (rI_ub (u0 := u) (a0 := 0) (b0 := z) ⟨fun q _ h => (hA q h).1, fun _ _ => rfl⟩ y (sy_ok yy) q2 (Nat.zero_le _) hb).2 gl
        obtain ⟨R3, r31, r32⟩ := ub
        have e3 := zli_uq2 r31 hl.2
        subst e3
        have ex := (rSh hA hM x yx hw.1 hc q (by omega)).1 kx
        have ey := (rSh hA hM y yy hw.2 hc q2 hb).2.2.1 gl rfl (bk := bk) r31 (fun D r E e9 => hb9 ((m - 1) :: D) r E (by rw [e9]; rfl))
        have eb := bfun (x := bh (m - 1)) (y := bk) (w := tm_ub y) (fun j hj => by rw [hb9 [] (m - 1) R3 rfl j hj, r32 j hj]) (fun j g => by have := wf_ub y hw.2 g; omega)
        rw [rTo_add (by omega) l2, ex, ey]
        show _ = tm_sh x (if 32 < 32 then _ else fun j => zbit bk j || tm_ub y j) 32 + tm_sh y _ 32
        rw [if_neg (by decide), eb]
    · subst gb
      have kx : tm_k x = 2 := kx
      cases Rl with
      | nil => have hl : fr.toInt = -1 := hl; omega
      | cons r R2 =>
        have g1 : fr.toInt = (r : Int) := hl.1
        have er : r = m - 1 := by omega
        subst er
        have ex := (rSh hA hM x yx hw.1 hc q (by omega)).2.1 kx s
        have ey := (rSh hA hM y yy hw.2 hc q2 hb).2.2.2 gl rfl (bk := bk) (s := s) hl.2 (fun r hr => hb9 r (List.mem_cons_of_mem _ hr)) hs
        rw [hb9 (m - 1) List.mem_cons_self] at ex
        rw [rTo_add (by omega) l2]
        show _ + _ + (rInd u bh mk on ma s (m - 1) + rShL u bh mk on ma s R2) = tm_sh x (if s < 32 then (fun j => zbit bk j) else _) s + tm_sh y (fun j => zbit bk j) s
        rw [if_pos hs, ← ex, ← ey]
        omega
end
