/-! the reference's way of showing -/
theorem i_neg {x : Int32} (h1 : -1000 ≤ x.toInt) (h2 : x.toInt ≤ 1000) : (-x).toInt = -x.toInt := by
  rw [Int32.toInt_neg]
  exact zi_bmod (by omega) (by omega)
theorem i_d10 {x : Int} : x.natAbs ≤ 2147483648 → -214748364 ≤ x.tdiv 10 ∧ x.tdiv 10 ≤ 214748364 ∧ x - x.tdiv 10 * 10 = x.tmod 10 := fun h => by
  have e := Int.tmod_def x 10
  have n : (x.tdiv 10).natAbs = x.natAbs / 10 := Int.natAbs_tdiv x 10
  refine ⟨by omega, by omega, by rw [e, Int.mul_comm]⟩
theorem i_rem {x : Int32} : (x - x / 10 * 10).toInt = x.toInt.tmod 10 := by
  have h10 : Int32.toInt 10 = 10 := by decide
  have hr := zi_rng x
  have hd : (x / 10).toInt = x.toInt.tdiv 10 := (Int32.toInt_div_of_ne_right x 10 (by decide)).trans (by rw [h10])
  obtain ⟨a, b, c⟩ := i_d10 (x := x.toInt) (by omega)
  have t : (x.toInt.tmod 10).natAbs = x.toInt.natAbs % 10 := Int.natAbs_tmod x.toInt 10
  rw [Int32.toInt_sub, Int32.toInt_mul, hd, h10, zi_bmod (a := x.toInt.tdiv 10 * 10) (by omega) (by omega), c]
  exact zi_bmod (by omega) (by omega)
/-- the unit at which the digits begin, from below -/
def rU (b n : Int) (r : Nat) : Prop := ∃ k : Nat, b = ((10 ^ k : Nat) : Int) ∧ n = (k : Int) + 1 ∧ k ≤ 9 ∧ (k = 0 ∨ 10 ^ k ≤ r)
theorem rU_1 {r : Nat} : rU 1 1 r := ⟨0, rfl, rfl, by decide, Or.inl rfl⟩
theorem rU_s {b n b2 n2 : Int} {r : Nat} (h : rU b n r) (hn : n < 10) (hq : r / b.natAbs / 10 ≠ 0) (e1 : n2 = n + 1) (e2 : b2 = b * 10) : rU b2 n2 r := by
  obtain ⟨k, h1, h2, h3, h4⟩ := h
  refine ⟨k + 1, by rw [e2, h1, Nat.pow_succ]; generalize 10 ^ k = P; omega, by omega, by omega, Or.inr ?_⟩
  rw [h1, Int.natAbs_natCast, Nat.div_div_eq_div_mul, ← Nat.pow_succ] at hq
  by_cases g : 10 ^ (k + 1) ≤ r
  · exact g
  · exact absurd (Nat.div_eq_of_lt (Nat.not_le.mp g)) hq
theorem pDk_u {r k : Nat} (h : k = 0 ∨ 10 ^ k ≤ r) : ∀ m, k ≤ m → (∀ j, k < j → j ≤ m → r < 10 ^ j) → pDk m r = k
  | 0, hm, _ => by show 0 = k; omega
  | m + 1, hm, hj => by
    show (if 10 ^ (m + 1) ≤ r then m + 1 else pDk m r) = k
    by_cases g : k = m + 1
    · rw [if_pos (by rcases h with h | h; (omega); (rw [← g]; exact h)), g]
    · rw [if_neg (Nat.not_le.mpr (hj (m + 1) (by omega) (Nat.le_refl _))), pDk_u h m (by omega) (fun j a b => hj j a (by omega))]
theorem rU_e {b n : Int} {r : Nat} (h : rU b n r) (he : 10 ≤ n ∨ r / b.natAbs / 10 = 0) : pQ b r (pDg (pDk 9 r) r) := by
  obtain ⟨k, h1, h2, h3, h4⟩ := h
  refine Or.inr ⟨k, h1, ?_⟩
  rw [pDk_u h4 9 h3 (fun j a b => ?_)]
  rcases he with g | g
  · omega
  · rw [h1, Int.natAbs_natCast, Nat.div_div_eq_div_mul, ← Nat.pow_succ] at g
    have p := Nat.one_le_pow (k + 1) 10 (by decide)
    have q : r < 10 ^ (k + 1) := by
      rcases Nat.div_eq_zero_iff.mp g with u | u
      · omega
      · exact u
    exact Nat.lt_of_lt_of_le q (Nat.pow_le_pow_right (by decide) a)
theorem pQ_s2 {u u2 : Int} {r : Nat} {L : List Int32} {c : Int32} (h : pQ u r L) (h0 : 0 < u) (e : u2 = u / 10) (hc : c.toInt = 48 + ((r / u.natAbs % 10 : Nat) : Int)) : ∃ L2, L = c :: L2 ∧ pQ u2 r L2 := by
  refine pQ_s h h0 e ?_
  rw [hc]
  have q : ((r / u.natAbs % 10 : Nat) : Int) = (r : Int) / ((u.natAbs : Nat) : Int) % 10 := rfl
  rw [q, show ((u.natAbs : Nat) : Int) = u from by omega]
theorem len_x {X L T : List Int32} {c : Int32} (h : X ++ (c :: L) = T) (g : 4000 < (X ++ [c]).length) : 4000 < T.length := by
  rw [← h, List.length_append]
  rw [List.length_append] at g
  show 4000 < X.length + (L.length + 1)
  have g : 4000 < X.length + 1 := g
  omega
theorem len_y {X Y R T : List Int32} (h : X ++ (Y ++ R) = T) (g : 4000 < (X ++ Y).length) : 4000 < T.length := by
  rw [← h, ← List.append_assoc, List.length_append]
  omega
theorem pow_a {sp sp2 : Nat → Int32} {ps ps2 : Int32} {X : List Int32} {c v : Int32} (h : pOw sp ps X) (h0 : 0 ≤ ps.toInt) (e : sp2 = upd sp (Int32.toNatClampNeg ps) (vp_nar .byte v)) (hv : v = c.toInt8.toInt32) (hp : ps2.toInt = ps.toInt + 1) : pOw sp2 ps2 (X ++ [c]) := by
  have := zn_nat h0
  obtain ⟨b, d⟩ := h
  exact ⟨by rw [List.length_append]; show _ = ((X.length + 1 : Nat) : Int); omega, pr_get d (by omega) e hv⟩
theorem pow_x {sp : Nat → Int32} {ps : Int32} {X : List Int32} {c : Int32} (h : pOw sp ps X) (h4 : 4000 ≤ ps.toInt) : 4000 < (X ++ [c]).length := by
  rw [List.length_append]
  show 4000 < X.length + 1
  have := h.1
  omega
theorem pow_e {sp : Nat → Int32} {ps : Int32} {X Y : List Int32} (h : pOw sp ps X) (e : X = Y) : pOw sp ps Y := by rw [← e]; exact h
/-! what is to be said -/
def pSy (kn : Int32 → List Int32) (M : Nat → List Int32) (w : Int64) : List Int32 := if w.toInt < 0 then [(-w).toInt32] else mv kn M w
def pSr (kn : Int32 → List Int32) (M : Nat → List Int32) (sy : Nat → Int64) : Nat → List Int32
  | 0 => []
  | n + 1 => pSy kn M (sy n) ++ pSr kn M sy n
theorem zVo_nn {P : Nat → Prop} {kz : Int32} {v : Int64} (h : zVo P kz v) : 0 ≤ v.toInt := by
  have h63 : v.toBitVec.getLsbD 63 = false := by
    have e := zhs_bit v 31
    rcases h with h | h | h
    · rw [h] at e; exact e.symm
    · rw [h.1] at e; exact e.symm
    · rw [h.1] at e; exact e.symm
  show 0 ≤ v.toBitVec.toInt
  rw [BitVec.toInt_eq_toNat_of_msb (by rw [BitVec.msb_eq_getLsbD_last]; exact h63)]
  omega
section
variable {kn : Int32 → List Int32} {M : Nat → List Int32} {wd : Nat → Nat} {gk : Nat → Int32} {gv : Nat → Int64} {P : Nat → Prop} {T X Y A R : List Int32} {sy sy2 : Nat → Int64} {v w : Int64} {m n : Nat} {kz : Int32}
theorem pSy_n (h : 0 ≤ w.toInt) : pSy kn M w = mv kn M w := if_neg (by omega)
theorem pSy_m (h : w.toInt < 0) : pSy kn M w = [(-w).toInt32] := if_pos h
theorem pSy_41 : pSy kn M (-41) = [41] := (if_pos (by decide)).trans (by decide)
theorem pSy_44 : pSy kn M (-44) = [44] := (if_pos (by decide)).trans (by decide)
theorem pSr_cg : ∀ n : Nat, (∀ j, j < n → sy2 j = sy j) → pSr kn M sy2 n = pSr kn M sy n
  | 0, _ => rfl
  | n + 1, h => by
    show pSy kn M (sy2 n) ++ pSr kn M sy2 n = _
    rw [h n (Nat.lt_succ_self _), pSr_cg n (fun j hj => h j (by omega))]
    all_goals rfl
theorem pSr_p (e : sy2 = vp_updL sy m v) (hn : n = m + 1) (hv : pSy kn M v = Y) (h : pSr kn M sy m = R) : pSr kn M sy2 n = Y ++ R := by
  subst hn
  show pSy kn M (sy2 m) ++ pSr kn M sy2 m = _
  rw [pSr_cg (sy2 := sy2) (sy := sy) m (fun j hj => by rw [e, zul_n (by omega)]), h, e, zul_s, hv]
theorem pS_1 (heq : X ++ pSr kn M sy n = T) (e : n = m + 1) (ew : w = sy m) (hY : pSy kn M w = Y) : X ++ (Y ++ pSr kn M sy m) = T := by
  subst e
  rw [← hY, ew]
  exact heq
theorem pS_a (h : X ++ (Y ++ R) = T) : (X ++ Y) ++ R = T := by rw [List.append_assoc]; exact h
/-- a cell: its KIND, its bracket, its fields -/
theorem pS_c (heq : X ++ pSr kn M sy n = T) (e : n = m + 1) (ew : w = sy m) (hw : 0 ≤ w.toInt) (hv : zhs w = 2) (hC : mC kn M wd gk gv P) (hP : P (Int32.toNatClampNeg w.toInt32)) : X ++ (kn (gk (Int32.toNatClampNeg w.toInt32)) ++ ([40] ++ (pFl kn M gv (Int32.toNatClampNeg w.toInt32) (wd (Int32.toNatClampNeg w.toInt32)) 0 ++ pSr kn M sy m))) = T := by
  rw [← pS_1 heq e ew ((pSy_n hw).trans ((mv_2 hv).trans (hC _ hP))), List.append_assoc]
  all_goals rfl
theorem pFl_q {c W q : Nat} (h1 : 1 ≤ q) (hq : q ≤ W) : pFl kn M gv c (W - (q - 1)) (q - 1) = (if q - 1 = 0 then [] else [44]) ++ (mv kn M (gv (3 * c + (q - 1))) ++ pFl kn M gv c (W - q) q) := by
  obtain ⟨k, rfl⟩ : ∃ k, q = k + 1 := ⟨q - 1, by omega⟩
  obtain ⟨j, hj⟩ : ∃ j, W - (k + 1 - 1) = j + 1 := ⟨W - k - 1, by omega⟩
  rw [hj, show W - (k + 1) = j by omega]
  all_goals rfl
end
