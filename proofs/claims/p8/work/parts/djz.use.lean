/-! which slots a tree uses -/
section
variable {wh pl ow on tw th be ma fi : Nat → Int32} {kz : Int32} {u u0 : Nat → Int32} {a0 b0 : Nat} {J : Nat → Int64 → Prop}
theorem rI_1 {R : Nat → Nat → Int32} : ∀ {t : Tm} {fr : Int32} {a b : Nat}, ¬ tm_cl t → rI R J t fr a b → a < b
  | .leaf (some (0, _, _, _, _, _)), _, _, _, _, h => by have := h.1; omega
  | .leaf (some (_ + 1, _, _, _, _, _)), _, _, _, _, h => by have := h.1; omega
  | .branch 0 (.leaf (some (0, _, _, _, _, _))) x, _, _, _, _, h => by obtain ⟨m, h1, h2, -⟩ := h; have := rI_le x h1; omega
  | .branch 0 (.leaf (some (1, _, _, _, _, _))) x, _, _, _, _, h => by obtain ⟨m, h1, h2, -⟩ := h; have := rI_le x h1; omega
  | .branch 1 (.leaf (some (0, _, _, _, _, _))) (.branch _ x y), _, _, _, _, h => by obtain ⟨m, n, h1, h2, h3, -⟩ := h; have := rI_le x h1; have := rI_le y h2; omega
  | .branch 1 (.leaf (some (_ + 1, _, _, _, _, _))) (.branch _ x y), _, _, _, _, h => by obtain ⟨m, n, h1, h2, h3, -⟩ := h; have := rI_le x h1; have := rI_le y h2; omega
  | .branch 2 (.leaf (some (_, _, _, _, _, _))) (.branch _ x (.branch _ y z)), _, _, _, _, h => by obtain ⟨m, n, q, h1, h2, h3, h4, -⟩ := h; have := rI_le x h1; have := rI_le y h2; have := rI_le z h3; omega
  | .branch 0 (.leaf (some (2, _, _, _, _, _))) x, _, _, _, _, h => by obtain ⟨m, h1, h2, -⟩ := h; have := rI_le x h1; omega
  | .branch 0 (.leaf (some (_ + 3, _, _, _, _, _))) x, _, _, _, _, h => by obtain ⟨m, h1, h2, -⟩ := h; have := rI_le x h1; omega
  | .branch 0 (.leaf none) _, _, _, _, _, h9 => h9.elim
  | .branch 0 (.branch _ _ _) _, _, _, _, _, h9 => h9.elim
  | .branch 1 (.leaf none) _, _, _, _, _, h9 => h9.elim
  | .branch 1 (.branch _ _ _) _, _, _, _, _, h9 => h9.elim
  | .branch 1 (.leaf (some (0, _, _, _, _, _))) (.leaf _), _, _, _, _, h9 => h9.elim
  | .branch 1 (.leaf (some (_ + 1, _, _, _, _, _))) (.leaf _), _, _, _, _, h9 => h9.elim
  | .branch 2 (.leaf none) _, _, _, _, _, h9 => h9.elim
  | .branch 2 (.branch _ _ _) _, _, _, _, _, h9 => h9.elim
  | .branch 2 (.leaf (some (_, _, _, _, _, _))) (.leaf _), _, _, _, _, h9 => h9.elim
  | .branch 2 (.leaf (some (_, _, _, _, _, _))) (.branch _ _ (.leaf _)), _, _, _, _, h9 => h9.elim
  | .leaf none, _, _, _, g, _ => absurd trivial g
  | .branch (_ + 3) _ _, _, _, _, g, _ => absurd trivial g
theorem rN_i {x : Int32} {m : Nat} (h : x.toInt = (m : Int) - 1) (h1 : 1 ≤ m) : Int32.toNatClampNeg x = m - 1 := zn_lit (by omega)
theorem rU_at (hU : zKU (zJS wh ow on tw th be ma fi kz) u u0 a0 b0) {q n : Nat} (h1 : a0 ≤ q) (h2 : q < b0) (hn : (wh q).toInt = (n : Int)) : zKq (zJS wh ow on tw th be ma fi kz) u q (u q) n := by
  have h := hU.1 q h1 h2
  rw [show Int32.toNatClampNeg ((zJS wh ow on tw th be ma fi kz) 0 q) = n from zn_lit hn] at h
  exact h
theorem rI_ub (hU : zKU (zJS wh ow on tw th be ma fi kz) u u0 a0 b0) : ∀ (t : Tm), tm_ok t → ∀ {fr : Int32} {a b : Nat}, rI (rcs wh pl ow on tw th be ma) J t fr a b → a0 ≤ a → b ≤ b0 → (¬ tm_cl t → ∀ j, j < 32 → zbit (u (b - 1)) j = tm_ub t j) ∧ (tm_li t → ∃ Rl, zli be fr Rl ∧ ∀ j, j < 32 → Rl.any (zKf u j) = tm_ub t j)
  | .leaf (some (0, _, _, _, _, _)), _, fr, a, b, h, ha, hb => by
    obtain ⟨rfl, h1, -⟩ := h
    refine ⟨fun _ j hj => ?_, fun g => g.elim⟩
    rw [Nat.add_sub_cancel]; exact rU_at hU ha (by omega) (n := 1) h1 j hj
  | .leaf (some (_ + 1, _, _, s, _, _)), _, fr, a, b, h, ha, hb => by
    obtain ⟨rfl, h1, h2, h3⟩ := h
    refine ⟨fun _ j hj => ?_, fun g => g.elim⟩
    rw [Nat.add_sub_cancel]
    have e := rU_at hU ha (by omega) (n := 2) h1 j hj
    rw [show Int32.toNatClampNeg ((zJS wh ow on tw th be ma fi kz) 1 a) = s from zn_lit h3] at e
    exact e
  | .branch 0 (.leaf (some (0, _, _, _, _, _))) x, ho, fr, a, b, h, ha, hb => by
    obtain ⟨m, q, rfl, h1, -⟩ := h
    have l := rI_le x q
    refine ⟨fun _ j hj => ?_, fun g => g.elim⟩
    obtain ⟨Rl, r1, r2⟩ := (rI_ub hU x ho.2 q ha (by omega)).2 ho.1
    rw [Nat.add_sub_cancel]
    exact (rU_at hU (by omega) (by omega) (n := 3) h1 Rl r1 j hj).trans (r2 j hj)
  | .branch 0 (.leaf (some (1, _, _, _, _, _))) x, ho, fr, a, b, h, ha, hb => by
    obtain ⟨m, q, rfl, h1, -⟩ := h
    have l := rI_le x q
    refine ⟨fun _ j hj => ?_, fun g => g.elim⟩
    obtain ⟨Rl, r1, r2⟩ := (rI_ub hU x ho.2 q ha (by omega)).2 ho.1
    rw [Nat.add_sub_cancel]
    exact (rU_at hU (by omega) (by omega) (n := 4) h1 Rl r1 j hj).trans (r2 j hj)
  | .branch 1 (.leaf (some (0, _, _, _, _, _))) (.branch _ x y), ho, fr, a, b, h, ha, hb => by
    obtain ⟨m, n, q, q2, rfl, h1, h2, h3, h4, h5⟩ := h
    have l := rI_le x q
    have l2 := rI_le y q2
    refine ⟨fun _ j hj => ?_, fun g => g.elim⟩
    rw [Nat.add_sub_cancel]
    have e := rU_at hU (by omega) (by omega) (n := 5) h1 j hj
    have ex := (rI_ub hU x ho.1.2 q ha (by omega)).1 ho.1.1 j hj
    have ey := (rI_ub hU y ho.2.2 q2 (by omega) (by omega)).1 ho.2.1 j hj
    have p1 := rI_1 ho.1.1 q
    have p2 := rI_1 ho.2.1 q2
    rw [show Int32.toNatClampNeg ((zJS wh ow on tw th be ma fi kz) 2 n) = m - 1 from rN_i h4 (by omega), show Int32.toNatClampNeg ((zJS wh ow on tw th be ma fi kz) 3 n) = n - 1 from rN_i h5 (by omega), ex, ey] at e
    exact e
  | .branch 1 (.leaf (some (_ + 1, _, _, s, _, _))) (.branch _ x y), ho, fr, a, b, h, ha, hb => by
    obtain ⟨m, n, q, q2, rfl, h1, h2, h3, h4, h5⟩ := h
    have l := rI_le x q
    have l2 := rI_le y q2
    refine ⟨fun _ j hj => ?_, fun g => g.elim⟩
    rw [Nat.add_sub_cancel]
    have e := rU_at hU (by omega) (by omega) (n := 6) h1 j hj
    have ex := (rI_ub hU x ho.1.2 q ha (by omega)).1 ho.1.1 j hj
    have ey := (rI_ub hU y ho.2.2 q2 (by omega) (by omega)).1 ho.2.1 j hj
    have p1 := rI_1 ho.1.1 q
    have p2 := rI_1 ho.2.1 q2
    rw [show Int32.toNatClampNeg ((zJS wh ow on tw th be ma fi kz) 2 n) = m - 1 from rN_i h4 (by omega), show Int32.toNatClampNeg ((zJS wh ow on tw th be ma fi kz) 3 n) = n - 1 from rN_i h5 (by omega), show Int32.toNatClampNeg ((zJS wh ow on tw th be ma fi kz) 1 n) = s from zn_lit h3, ex, ey] at e
    exact e
  | .branch 2 (.leaf (some (_, _, _, _, _, _))) (.branch _ x (.branch _ y z)), ho, fr, a, b, h, ha, hb => by
    obtain ⟨m, n, p, q, q2, q3, rfl, h1, h2, h3, h4, h5⟩ := h
    have l := rI_le x q
    have l2 := rI_le y q2
    have l3 := rI_le z q3
    refine ⟨fun _ j hj => ?_, fun g => g.elim⟩
    rw [Nat.add_sub_cancel]
    have e := rU_at hU (by omega) (by omega) (n := 7) h1 j hj
    have ex := (rI_ub hU x ho.1.2 q ha (by omega)).1 ho.1.1 j hj
    have ey := (rI_ub hU y ho.2.1.2 q2 (by omega) (by omega)).1 ho.2.1.1 j hj
    have ez := (rI_ub hU z ho.2.2.2 q3 (by omega) (by omega)).1 ho.2.2.1 j hj
    have p1 := rI_1 ho.1.1 q
    have p2 := rI_1 ho.2.1.1 q2
    have p3 := rI_1 ho.2.2.1 q3
    rw [show Int32.toNatClampNeg ((zJS wh ow on tw th be ma fi kz) 2 p) = m - 1 from rN_i h3 (by omega), show Int32.toNatClampNeg ((zJS wh ow on tw th be ma fi kz) 3 p) = n - 1 from rN_i h4 (by omega), show Int32.toNatClampNeg ((zJS wh ow on tw th be ma fi kz) 4 p) = p - 1 from rN_i h5 (by omega), ex, ey, ez] at e
    exact e
  | .branch 0 (.leaf (some (2, _, _, s, _, _))) x, ho, fr, a, b, h, ha, hb => by
    obtain ⟨m, q, rfl, h1, h2, h3⟩ := h
    have l := rI_le x q
    refine ⟨fun _ j hj => ?_, fun g => g.elim⟩
    obtain ⟨Rl, r1, r2⟩ := (rI_ub hU x ho.2 q ha (by omega)).2 ho.1
    rw [Nat.add_sub_cancel]
    have e := rU_at hU (by omega) (by omega) (n := 8) h1 Rl r1 j hj
    rw [show Int32.toNatClampNeg ((zJS wh ow on tw th be ma fi kz) 1 m) = s from zn_lit h3, r2 j hj] at e
    exact e
  | .branch 0 (.leaf (some (_ + 3, _, _, hh, mm, _))) x, ho, fr, a, b, h, ha, hb => by
    obtain ⟨m, q, rfl, h1, h2, h3, h4, h5, h6⟩ := h
    have l := rI_le x q
    refine ⟨fun _ j hj => ?_, fun g => g.elim⟩
    rw [Nat.add_sub_cancel]
    have e := rU_at hU (by omega) (by omega) (n := 9) h1 j hj
    have ex := (rI_ub hU x ho.2 q ha (by omega)).1 ho.1 j hj
    have p1 := rI_1 ho.1 q
    rw [show Int32.toNatClampNeg ((zJS wh ow on tw th be ma fi kz) 2 m) = m - 1 from rN_i h6 (by omega), show ((zJS wh ow on tw th be ma fi kz) 3 m).toInt = (hh : Int) from h4, show ((zJS wh ow on tw th be ma fi kz) 6 m).toInt = (mm : Int) from h5, ex] at e
    exact e
  | .branch 0 (.leaf none) _, _, _, _, _, h9, _, _ => h9.elim
  | .branch 0 (.branch _ _ _) _, _, _, _, _, h9, _, _ => h9.elim
  | .branch 1 (.leaf none) _, _, _, _, _, h9, _, _ => h9.elim
  | .branch 1 (.branch _ _ _) _, _, _, _, _, h9, _, _ => h9.elim
  | .branch 1 (.leaf (some (0, _, _, _, _, _))) (.leaf _), _, _, _, _, h9, _, _ => h9.elim
  | .branch 1 (.leaf (some (_ + 1, _, _, _, _, _))) (.leaf _), _, _, _, _, h9, _, _ => h9.elim
  | .branch 2 (.leaf none) _, _, _, _, _, h9, _, _ => h9.elim
  | .branch 2 (.branch _ _ _) _, _, _, _, _, h9, _, _ => h9.elim
  | .branch 2 (.leaf (some (_, _, _, _, _, _))) (.leaf _), _, _, _, _, h9, _, _ => h9.elim
  | .branch 2 (.leaf (some (_, _, _, _, _, _))) (.branch _ _ (.leaf _)), _, _, _, _, h9, _, _ => h9.elim
  | .leaf none, _, fr, a, b, h, ha, hb => ⟨fun g => absurd trivial g, fun _ => ⟨[], h.2, fun _ _ => rfl⟩⟩
  | .branch (_ + 3) x y, ho, fr, a, b, h, ha, hb => by
    obtain ⟨m, q, ⟨l, l9⟩, e, q2⟩ := h
    have l2 := rI_le y q2
    refine ⟨fun g => absurd trivial g, fun hl => ?_⟩
    have ex := (rI_ub hU x ho.1.2 q ha (by omega)).1 ho.1.1
    obtain ⟨Rl, r1, r2⟩ := (rI_ub hU y ho.2 q2 (by omega) hb).2 hl
    refine ⟨(m - 1) :: Rl, ⟨by omega, r1⟩, fun j hj => ?_⟩
    show (zKf u j (m - 1) || Rl.any (zKf u j)) = (tm_ub x j || tm_ub y j)
    rw [r2 j hj, show zKf u j (m - 1) = tm_ub x j from ex j hj]
end
