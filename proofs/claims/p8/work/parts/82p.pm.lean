/-! the plain machine: what is to do, the values, the calls' names, steps, cells -/
theorem zv_ext {v w : Int64} (h : zhs v = zhs w) (h2 : v.toInt32 = w.toInt32) : v = w := by
  refine z64_ext (fun i hi => ?_)
  by_cases g : i < 32
  · rw [← zt32_b v g, ← zt32_b w g, h2]
  · have h3 : (zhs v).toBitVec.getLsbD (i - 32) = (zhs w).toBitVec.getLsbD (i - 32) := by rw [h]
    rw [zhs_bit, zhs_bit, show 32 + (i - 32) = i from by omega] at h3
    exact h3
def pv0 (x : Int32) : Int64 := x.toInt64 &&& 4294967295
def pv1 (x : Int32) : Int64 := 4294967296 ||| (x.toInt64 &&& 4294967295)
def pv2 (x : Int32) : Int64 := 8589934592 ||| (x.toInt64 &&& 4294967295)
theorem pv0_eq {v : Int64} {x : Int32} (h : zhs v = 0) (h2 : v.toInt32 = x) : v = pv0 x := zv_ext (h.trans (zof_int x).1.symm) (h2.trans (zof_int x).2.symm)
theorem pv1_eq {v : Int64} {x : Int32} (h : zhs v = 1) (h2 : v.toInt32 = x) : v = pv1 x := zv_ext (h.trans (zof_kind x).1.symm) (h2.trans (zof_kind x).2.symm)
theorem pv2_eq {v : Int64} {x : Int32} (h : zhs v = 2) (h2 : v.toInt32 = x) : v = pv2 x := zv_ext (h.trans (zof_cell x).1.symm) (h2.trans (zof_cell x).2.symm)
/-- a tree's place -/
def pm_pl : Tm → Int
  | .leaf (some (0, p, _, _, _, _)) => p
  | .leaf (some (_ + 1, p, _, _, _, _)) => p
  | .branch 0 (.leaf (some (0, p, _, _, _, _))) _ => p
  | .branch 0 (.leaf (some (1, p, _, _, _, _))) _ => p
  | .branch 0 (.leaf (some (2, p, _, _, _, _))) _ => p
  | .branch 1 (.leaf (some (0, p, _, _, _, _))) (.branch _ _ _) => p
  | .branch 1 (.leaf (some (_ + 1, p, _, _, _, _))) (.branch _ _ _) => p
  | .branch 2 (.leaf (some (_, p, _, _, _, _))) (.branch _ _ (.branch _ _ _)) => p
  | _ => 0
/-- a row of trees: each is to be worked -/
def pm_as : Tm → List (Nat × Tm)
  | .branch (_ + 3) a b => (0, a) :: pm_as b
  | _ => []
def am_k : Tm → Int
  | .branch 0 (.leaf (some (_ + 3, _, k, _, _, _))) _ => k
  | _ => 0
def am_h : Tm → Nat
  | .branch 0 (.leaf (some (_ + 3, _, _, h, _, _))) _ => h
  | _ => 0
def am_m : Tm → Nat
  | .branch 0 (.leaf (some (_ + 3, _, _, _, m, _))) _ => m
  | _ => 0
def am_x : Tm → Tm
  | .branch 0 (.leaf (some (_ + 3, _, _, _, _, _))) x => x
  | _ => Tm.nil
/-- the first arm that fits -/
def pm_fi (kd : Int) : Tm → Option Tm
  | .branch (_ + 3) a b => if am_k a = -1 ∨ am_k a = kd then some a else pm_fi kd b
  | _ => none
/-- a value's kind: -1 of an INT -/
def pm_kd (ck : Nat → Int32) (v : Int64) : Int := if zhs v = 0 then -1 else if zhs v = 2 then (ck (Int32.toNatClampNeg v.toInt32)).toInt else v.toInt32.toInt
def pm_bd (e : Nat → Int64) (cf : Nat → Int64) (c h m : Nat) : Nat → Int64 := fun k => if h ≤ k ∧ k < h + m then cf (3 * c + (k - h)) else e k
def pm_ae (V : List Int64) (n : Nat) : Nat → Int64 := fun k => if k < n then V.getD (n - 1 - k) 0 else 0
def pm_cf (cf : Nat → Int64) (V : List Int64) (c m : Nat) : Nat → Int64 := fun j => if 3 * c ≤ j ∧ j < 3 * c + m then V.getD (m - 1 - (j - 3 * c)) 0 else cf j
def pm_op (o : Int) (x y : Int32) : Int32 := if o = 43 then x + y else if o = 45 then x - y else if o = 42 then x * y else if x.toInt < y.toInt then 1 else 0
abbrev pm_S := List (Nat × Tm) × List Int64 × List (Nat → Int64) × Nat × Nat × (Nat → Int32) × (Nat → Int64)
/-- a tree's work begins -/
def pm_w : Tm → List (Nat × Tm) → List Int64 → List (Nat → Int64) → Nat → Nat → (Nat → Int32) → (Nat → Int64) → Except (Nat × Int) pm_S
  | .leaf (some (0, _, v, _, _, _)), K, V, E, n, c, ck, cf => .ok (K, pv0 (Int32.ofInt v) :: V, E, n, c, ck, cf)
  | .leaf (some (_ + 1, _, _, s, _, _)), K, V, E, n, c, ck, cf => .ok (K, E.headD (fun _ => 0) s :: V, E, n, c, ck, cf)
  | .branch 0 (.leaf (some (0, p, _, _, _, w))) a, K, V, E, n, c, ck, cf => .ok (pm_as a ++ (1, Tm.call p w a) :: K, V, E, n, c, ck, cf)
  | .branch 0 (.leaf (some (1, p, _, k, _, _))) a, K, V, E, n, c, ck, cf => .ok (pm_as a ++ (1, Tm.made p k a) :: K, V, E, n, c, ck, cf)
  | .branch 0 (.leaf (some (2, p, _, s, _, _))) a, K, V, E, n, c, ck, cf => .ok ((1, Tm.mat p s a) :: K, V, E, n, c, ck, cf)
  | .branch 1 (.leaf (some (0, p, o, _, _, _))) (.branch _ a b), K, V, E, n, c, ck, cf => .ok ((0, a) :: (0, b) :: (1, Tm.bin p o a b) :: K, V, E, n, c, ck, cf)
  | .branch 1 (.leaf (some (_ + 1, p, _, s, _, _))) (.branch _ a b), K, V, E, n, c, ck, cf => .ok ((0, a) :: (1, Tm.tlet p s a b) :: K, V, E, n, c, ck, cf)
  | .branch 2 (.leaf (some (_, p, _, _, _, _))) (.branch _ a (.branch _ b d)), K, V, E, n, c, ck, cf => .ok ((0, a) :: (1, Tm.ite p a b d) :: K, V, E, n, c, ck, cf)
  | _, _, _, _, _, _, _, _ => .error (9, 0)
/-- a match: e the call's names -/
def pm_mt (p : Int) (s : Nat) (a : Tm) (K : List (Nat × Tm)) (V : List Int64) (E : List (Nat → Int64)) (n c : Nat) (ck : Nat → Int32) (cf : Nat → Int64) : Except (Nat × Int) pm_S :=
  match pm_fi (pm_kd ck (E.headD (fun _ => 0) s)) a with
  | none => .error (2, p)
  | some x => .ok ((0, am_x x) :: K, V, (if zhs (E.headD (fun _ => 0) s) = 2 then pm_bd (E.headD (fun _ => 0)) cf (Int32.toNatClampNeg (E.headD (fun _ => 0) s).toInt32) (am_h x) (am_m x) else E.headD (fun _ => 0)) :: E.tail, n, c, ck, cf)
/-- what is done behind a tree's operands -/
def pm_d (F : sp_F) : Tm → List (Nat × Tm) → List Int64 → List (Nat → Int64) → Nat → Nat → (Nat → Int32) → (Nat → Int64) → Except (Nat × Int) pm_S
  | .branch 0 (.leaf (some (0, p, _, _, _, w))) _, K, V, E, n, c, ck, cf => if 100 ≤ E.length then .error (4, p) else .ok ((0, F.2.2.2 (sp_fi F.2.1 w F.1)) :: (2, Tm.nil) :: K, V.drop (F.2.2.1 (sp_fi F.2.1 w F.1)).toNat, pm_ae V (F.2.2.1 (sp_fi F.2.1 w F.1)).toNat :: E, n, c, ck, cf)
  | .branch 0 (.leaf (some (1, p, _, k, _, _))) a, K, V, E, n, c, ck, cf => if tm_ln a = 0 then .ok (K, pv1 (Int32.ofInt (k : Int)) :: V, E, n, c, ck, cf) else if 4000 ≤ c then .error (3, p) else .ok (K, pv2 (Int32.ofInt (c : Int)) :: V.drop (tm_ln a), E, n, c + 1, upd ck c (Int32.ofInt (k : Int)), pm_cf cf V c (tm_ln a))
  | .branch 0 (.leaf (some (2, p, _, s, _, _))) a, K, V, E, n, c, ck, cf => pm_mt p s a K V E n c ck cf
  | .branch 1 (.leaf (some (0, p, o, _, _, _))) (.branch _ _ _), K, V, E, n, c, ck, cf => if zhs (V.getD 1 0) = 0 ∧ zhs (V.getD 0 0) = 0 then .ok (K, pv0 (pm_op o (V.getD 1 0).toInt32 (V.getD 0 0).toInt32) :: V.drop 2, E, n, c, ck, cf) else .error (2, p)
  | .branch 1 (.leaf (some (_ + 1, _, _, s, _, _))) (.branch _ _ b), K, V, E, n, c, ck, cf => .ok ((0, b) :: K, V.drop 1, vp_updL (E.headD (fun _ => 0)) s (V.getD 0 0) :: E.tail, n, c, ck, cf)
  | .branch 2 (.leaf (some (_, p, _, _, _, _))) (.branch _ _ (.branch _ b d)), K, V, E, n, c, ck, cf => if zhs (V.getD 0 0) = 0 then .ok ((0, if (V.getD 0 0).toInt32 = 0 then d else b) :: K, V.drop 1, E, n, c, ck, cf) else .error (2, p)
  | _, _, _, _, _, _, _, _ => .error (9, 0)
def pm_st (F : sp_F) (al : Nat) : pm_S → Except (Nat × Int) pm_S
  | ([], _, _, _, _, _, _) => .error (1, -1)
  | ((j, t) :: K, V, E, n, c, ck, cf) => if j = 0 then (if n = al then .error (5, pm_pl t) else pm_w t K V E (n + 1) c ck cf) else if j = 1 then pm_d F t K V E n c ck cf else .ok (K, V, E.tail, n, c, ck, cf)
theorem pm_st_w {F : sp_F} {al n c : Nat} {t : Tm} {K : List (Nat × Tm)} {V : List Int64} {E : List (Nat → Int64)} {ck : Nat → Int32} {cf : Nat → Int64} (h : ¬ n = al) : pm_st F al ((0, t) :: K, V, E, n, c, ck, cf) = pm_w t K V E (n + 1) c ck cf := by
  show (if (0 : Nat) = 0 then (if n = al then Except.error (5, pm_pl t) else pm_w t K V E (n + 1) c ck cf) else if (0 : Nat) = 1 then pm_d F t K V E n c ck cf else Except.ok (K, V, E.tail, n, c, ck, cf)) = _
  rw [if_pos rfl, if_neg h]
theorem pm_st_c {F : sp_F} {n c : Nat} {t : Tm} {K : List (Nat × Tm)} {V : List Int64} {E : List (Nat → Int64)} {ck : Nat → Int32} {cf : Nat → Int64} : pm_st F n ((0, t) :: K, V, E, n, c, ck, cf) = .error (5, pm_pl t) := by
  show (if (0 : Nat) = 0 then (if n = n then Except.error (5, pm_pl t) else pm_w t K V E (n + 1) c ck cf) else if (0 : Nat) = 1 then pm_d F t K V E n c ck cf else Except.ok (K, V, E.tail, n, c, ck, cf)) = _
  rw [if_pos rfl, if_pos rfl]
theorem pm_st_d {F : sp_F} {al n c : Nat} {t : Tm} {K : List (Nat × Tm)} {V : List Int64} {E : List (Nat → Int64)} {ck : Nat → Int32} {cf : Nat → Int64} : pm_st F al ((1, t) :: K, V, E, n, c, ck, cf) = pm_d F t K V E n c ck cf := by
  show (if (1 : Nat) = 0 then (if n = al then Except.error (5, pm_pl t) else pm_w t K V E (n + 1) c ck cf) else if (1 : Nat) = 1 then pm_d F t K V E n c ck cf else Except.ok (K, V, E.tail, n, c, ck, cf)) = _
  rw [if_neg (by decide), if_pos rfl]
theorem pm_st_l {F : sp_F} {al n c : Nat} {t : Tm} {K : List (Nat × Tm)} {V : List Int64} {E : List (Nat → Int64)} {ck : Nat → Int32} {cf : Nat → Int64} : pm_st F al ((2, t) :: K, V, E, n, c, ck, cf) = .ok (K, V, E.tail, n, c, ck, cf) := by
  show (if (2 : Nat) = 0 then (if n = al then Except.error (5, pm_pl t) else pm_w t K V E (n + 1) c ck cf) else if (2 : Nat) = 1 then pm_d F t K V E n c ck cf else Except.ok (K, V, E.tail, n, c, ck, cf)) = _
  rw [if_neg (by decide), if_neg (by decide)]
def pm_it (F : sp_F) (al : Nat) : Nat → pm_S → Except (Nat × Int) pm_S
  | 0, s => .ok s
  | n + 1, s => match pm_st F al s with
    | .ok s2 => pm_it F al n s2
    | .error e => .error e
theorem pm_it_1 {F : sp_F} {al : Nat} : ∀ {n : Nat} {s s2 : pm_S}, pm_it F al n s = .ok s2 → pm_it F al (n + 1) s = pm_st F al s2
  | 0, s, s2, h => by
    cases h
    unfold pm_it
    cases pm_st F al s with
    | ok a => rfl
    | error e => rfl
  | n + 1, s, s2, h => by
    unfold pm_it at h ⊢
    cases g : pm_st F al s with
    | ok a => rw [g] at h; exact pm_it_1 h
    | error e => rw [g] at h; cases h
/-- from one to another -/
def pm_re (F : sp_F) (al : Nat) (s s2 : pm_S) : Prop := ∃ n, pm_it F al n s = .ok s2
def pm_ou (F : sp_F) (al : Nat) (s : pm_S) (e : Nat × Int) : Prop := ∃ n, pm_it F al n s = .error e
theorem pm_re_r {F : sp_F} {al : Nat} {s : pm_S} : pm_re F al s s := ⟨0, rfl⟩
theorem pm_re_s {F : sp_F} {al : Nat} {s s2 s3 : pm_S} (h : pm_re F al s s2) (h2 : pm_st F al s2 = .ok s3) : pm_re F al s s3 := by
  obtain ⟨n, h⟩ := h
  exact ⟨n + 1, (pm_it_1 h).trans h2⟩
theorem pm_ou_s {F : sp_F} {al : Nat} {s s2 : pm_S} {e : Nat × Int} (h : pm_re F al s s2) (h2 : pm_st F al s2 = .error e) : pm_ou F al s e := by
  obtain ⟨n, h⟩ := h
  exact ⟨n + 1, (pm_it_1 h).trans h2⟩
theorem pm_it_m {F : sp_F} {al : Nat} {e : Nat × Int} : ∀ {n k : Nat} {s : pm_S}, pm_it F al n s = .error e → pm_it F al (n + k) s = .error e
  | 0, k, s, h => by cases h
  | n + 1, k, s, h => by
    rw [show n + 1 + k = (n + k) + 1 from by omega]
    unfold pm_it at h ⊢
    cases g : pm_st F al s with
    | ok a => rw [g] at h; exact pm_it_m h
    | error e2 => rw [g] at h; exact h
theorem pm_ou_1 {F : sp_F} {al : Nat} {s : pm_S} {e e2 : Nat × Int} (h : pm_ou F al s e) (h2 : pm_ou F al s e2) : e = e2 := by
  obtain ⟨n, h⟩ := h
  obtain ⟨m, h2⟩ := h2
  have h3 := pm_it_m (k := m) h
  have h4 := pm_it_m (k := n) h2
  rw [Nat.add_comm] at h4
  exact Except.error.inj (h3.symm.trans h4)
/-- FUNCTION f with these INTS -/
def pm_s0 (F : sp_F) (f : Nat) (a b c d : Int32) : pm_S := ([(0, F.2.2.2 f), (2, Tm.nil)], [], [fun k => if (k : Int) < F.2.2.1 f then pv0 (if k = 0 then a else if k = 1 then b else if k = 2 then c else if k = 3 then d else 0) else 0], 0, 0, (fun _ => 0), (fun _ => 0))
