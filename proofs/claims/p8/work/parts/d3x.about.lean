/-! what about() tells, of a tree -/
/-- a sum over the parts from a on -/
def rSum (f : Nat → Int) (a : Nat) : Nat → Int
  | 0 => 0
  | n + 1 => rSum f a n + f (a + n)
theorem rSum_add (f : Nat → Int) (a n : Nat) : ∀ m, rSum f a (n + m) = rSum f a n + rSum f (a + n) m
  | 0 => by show _ = _ + 0; rw [Int.add_zero]; rfl
  | m + 1 => by
    show rSum f a (n + m) + f (a + (n + m)) = rSum f a n + (rSum f (a + n) m + f (a + n + m))
    rw [rSum_add f a n m, Nat.add_assoc, Int.add_assoc]
/-- from a to b -/
def rTo (f : Nat → Int) (a b : Nat) : Int := rSum f a (b - a)
theorem rTo_add {f : Nat → Int} {a m b : Nat} (h1 : a ≤ m) (h2 : m ≤ b) : rTo f a b = rTo f a m + rTo f m b := by
  unfold rTo
  have e := rSum_add f a (m - a) (b - m)
  rw [show m - a + (b - m) = b - a by omega, show a + (m - a) = m by omega] at e
  exact e
theorem rTo_1 {f : Nat → Int} {a : Nat} : rTo f a (a + 1) = f a := by
  unfold rTo
  rw [show a + 1 - a = 1 by omega]
  show 0 + f (a + 0) = f a
  rw [Int.zero_add, Nat.add_zero]
theorem rTo_0 {f : Nat → Int} {a : Nat} : rTo f a a = 0 := by
  unfold rTo; rw [Nat.sub_self]; rfl
def rf_bu (R : Nat → Nat → Int32) (k : Nat) : Int := if (R 0 k).toInt = 4 ∧ 0 < (R 7 k).toInt then 1 else 0
def rf_ma (R : Nat → Nat → Int32) (k : Nat) : Int := if (R 0 k).toInt = 8 then 1 else 0
theorem rI_ma {R : Nat → Nat → Int32} {J : Nat → Int64 → Prop} : ∀ (t : Tm) {fi : Int32} {a b : Nat}, rI R J t fi a b → rTo (rf_ma R) a b = tm_ma t
  | .leaf (some (0, _, _, _, _, _)), _, a, b, h => by obtain ⟨rfl, h1, -⟩ := h; rw [rTo_1]; exact if_neg (by omega)
  | .leaf (some (_ + 1, _, _, _, _, _)), _, a, b, h => by obtain ⟨rfl, h1, -⟩ := h; rw [rTo_1]; exact if_neg (by omega)
  | .branch 0 (.leaf (some (0, _, _, _, _, _))) x, _, a, b, h => by
    obtain ⟨m, q, rfl, h1, -⟩ := h
    have l := rI_le x q
    rw [rTo_add l (Nat.le_succ m), rI_ma x q, rTo_1, show rf_ma R m = 0 from if_neg (by omega)]; exact Int.add_zero _
  | .branch 0 (.leaf (some (1, _, _, _, _, _))) x, _, a, b, h => by
    obtain ⟨m, q, rfl, h1, -⟩ := h
    have l := rI_le x q
    rw [rTo_add l (Nat.le_succ m), rI_ma x q, rTo_1, show rf_ma R m = 0 from if_neg (by omega)]; exact Int.add_zero _
  | .branch 1 (.leaf (some (0, _, _, _, _, _))) (.branch _ x y), _, a, b, h => by
    obtain ⟨m, n, q, q2, rfl, h1, -⟩ := h
    have l := rI_le x q
    have l2 := rI_le y q2
    rw [rTo_add (m := n) (by omega) (Nat.le_succ n), rTo_add l l2, rI_ma x q, rI_ma y q2, rTo_1, show rf_ma R n = 0 from if_neg (by omega)]; exact Int.add_zero _
  | .branch 1 (.leaf (some (_ + 1, _, _, _, _, _))) (.branch _ x y), _, a, b, h => by
    obtain ⟨m, n, q, q2, rfl, h1, -⟩ := h
    have l := rI_le x q
    have l2 := rI_le y q2
    rw [rTo_add (m := n) (by omega) (Nat.le_succ n), rTo_add l l2, rI_ma x q, rI_ma y q2, rTo_1, show rf_ma R n = 0 from if_neg (by omega)]; exact Int.add_zero _
  | .branch 2 (.leaf (some (_, _, _, _, _, _))) (.branch _ x (.branch _ y z)), _, a, b, h => by
    obtain ⟨m, n, p, q, q2, q3, rfl, h1, -⟩ := h
    have l := rI_le x q
    have l2 := rI_le y q2
    have l3 := rI_le z q3
    rw [rTo_add (m := p) (by omega) (Nat.le_succ p), rTo_add (m := n) (by omega) l3, rTo_add l l2, rI_ma x q, rI_ma y q2, rI_ma z q3, rTo_1, show rf_ma R p = 0 from if_neg (by omega)]; exact Int.add_zero _
  | .branch 0 (.leaf (some (2, _, _, _, _, _))) x, _, a, b, h => by
    obtain ⟨m, q, rfl, h1, -⟩ := h
    have l := rI_le x q
    rw [rTo_add l (Nat.le_succ m), rI_ma x q, rTo_1, show rf_ma R m = 1 from if_pos h1]; rfl
  | .branch 0 (.leaf (some (_ + 3, _, _, _, _, _))) x, _, a, b, h => by
    obtain ⟨m, q, rfl, h1, -⟩ := h
    have l := rI_le x q
    rw [rTo_add l (Nat.le_succ m), rI_ma x q, rTo_1, show rf_ma R m = 0 from if_neg (by omega)]; exact Int.add_zero _
  | .branch 0 (.leaf none) _, _, _, _, h9 => h9.elim
  | .branch 0 (.branch _ _ _) _, _, _, _, h9 => h9.elim
  | .branch 1 (.leaf none) _, _, _, _, h9 => h9.elim
  | .branch 1 (.branch _ _ _) _, _, _, _, h9 => h9.elim
  | .branch 1 (.leaf (some (0, _, _, _, _, _))) (.leaf _), _, _, _, h9 => h9.elim
  | .branch 1 (.leaf (some (_ + 1, _, _, _, _, _))) (.leaf _), _, _, _, h9 => h9.elim
  | .branch 2 (.leaf none) _, _, _, _, h9 => h9.elim
  | .branch 2 (.branch _ _ _) _, _, _, _, h9 => h9.elim
  | .branch 2 (.leaf (some (_, _, _, _, _, _))) (.leaf _), _, _, _, h9 => h9.elim
  | .branch 2 (.leaf (some (_, _, _, _, _, _))) (.branch _ _ (.leaf _)), _, _, _, h9 => h9.elim
  | .leaf none, _, a, b, h => by obtain ⟨rfl, -⟩ := h; exact rTo_0
  | .branch (_ + 3) x y, _, a, b, h => by
    obtain ⟨m, q, ⟨l, -⟩, -, q2⟩ := h
    have l2 := rI_le y q2
    rw [rTo_add (by omega) l2, rI_ma x q, rI_ma y q2]; rfl
theorem rI_bu {R : Nat → Nat → Int32} {J : Nat → Int64 → Prop} : ∀ (t : Tm) {fi : Int32} {a b : Nat}, rI R J t fi a b → rTo (rf_bu R) a b = tm_bu t
  | .leaf (some (0, _, _, _, _, _)), _, a, b, h => by obtain ⟨rfl, h1, -⟩ := h; rw [rTo_1]; exact if_neg (by omega)
  | .leaf (some (_ + 1, _, _, _, _, _)), _, a, b, h => by obtain ⟨rfl, h1, -⟩ := h; rw [rTo_1]; exact if_neg (by omega)
  | .branch 0 (.leaf (some (0, _, _, _, _, _))) x, _, a, b, h => by
    obtain ⟨m, q, rfl, h1, -⟩ := h
    have l := rI_le x q
    rw [rTo_add l (Nat.le_succ m), rI_bu x q, rTo_1, show rf_bu R m = 0 from if_neg (by omega)]; exact Int.add_zero _
  | .branch 0 (.leaf (some (1, _, _, _, _, _))) x, _, a, b, h => by
    obtain ⟨m, q, rfl, h1, h2, h3, h4⟩ := h
    have l := rI_le x q
    rw [rTo_add l (Nat.le_succ m), rI_bu x q, rTo_1]
    show tm_bu x + rf_bu R m = tm_bu x + _
    unfold rf_bu
    by_cases u : 0 < tm_ln x
    · rw [if_pos u, if_pos ⟨h1, by omega⟩]
    · rw [if_neg u, if_neg (fun g => u (by have := g.2; omega))]
  | .branch 1 (.leaf (some (0, _, _, _, _, _))) (.branch _ x y), _, a, b, h => by
    obtain ⟨m, n, q, q2, rfl, h1, -⟩ := h
    have l := rI_le x q
    have l2 := rI_le y q2
    rw [rTo_add (m := n) (by omega) (Nat.le_succ n), rTo_add l l2, rI_bu x q, rI_bu y q2, rTo_1, show rf_bu R n = 0 from if_neg (by omega)]; exact Int.add_zero _
  | .branch 1 (.leaf (some (_ + 1, _, _, _, _, _))) (.branch _ x y), _, a, b, h => by
    obtain ⟨m, n, q, q2, rfl, h1, -⟩ := h
    have l := rI_le x q
    have l2 := rI_le y q2
    rw [rTo_add (m := n) (by omega) (Nat.le_succ n), rTo_add l l2, rI_bu x q, rI_bu y q2, rTo_1, show rf_bu R n = 0 from if_neg (by omega)]; exact Int.add_zero _
  | .branch 2 (.leaf (some (_, _, _, _, _, _))) (.branch _ x (.branch _ y z)), _, a, b, h => by
    obtain ⟨m, n, p, q, q2, q3, rfl, h1, -⟩ := h
    have l := rI_le x q
    have l2 := rI_le y q2
    have l3 := rI_le z q3
    rw [rTo_add (m := p) (by omega) (Nat.le_succ p), rTo_add (m := n) (by omega) l3, rTo_add l l2, rI_bu x q, rI_bu y q2, rI_bu z q3, rTo_1, show rf_bu R p = 0 from if_neg (by omega)]; exact Int.add_zero _
  | .branch 0 (.leaf (some (2, _, _, _, _, _))) x, _, a, b, h => by
    obtain ⟨m, q, rfl, h1, -⟩ := h
    have l := rI_le x q
    rw [rTo_add l (Nat.le_succ m), rI_bu x q, rTo_1, show rf_bu R m = 0 from if_neg (by omega)]; exact Int.add_zero _
  | .branch 0 (.leaf (some (_ + 3, _, _, _, _, _))) x, _, a, b, h => by
    obtain ⟨m, q, rfl, h1, -⟩ := h
    have l := rI_le x q
    rw [rTo_add l (Nat.le_succ m), rI_bu x q, rTo_1, show rf_bu R m = 0 from if_neg (by omega)]; exact Int.add_zero _
  | .branch 0 (.leaf none) _, _, _, _, h9 => h9.elim
  | .branch 0 (.branch _ _ _) _, _, _, _, h9 => h9.elim
  | .branch 1 (.leaf none) _, _, _, _, h9 => h9.elim
  | .branch 1 (.branch _ _ _) _, _, _, _, h9 => h9.elim
  | .branch 1 (.leaf (some (0, _, _, _, _, _))) (.leaf _), _, _, _, h9 => h9.elim
  | .branch 1 (.leaf (some (_ + 1, _, _, _, _, _))) (.leaf _), _, _, _, h9 => h9.elim
  | .branch 2 (.leaf none) _, _, _, _, h9 => h9.elim
  | .branch 2 (.branch _ _ _) _, _, _, _, h9 => h9.elim
  | .branch 2 (.leaf (some (_, _, _, _, _, _))) (.leaf _), _, _, _, h9 => h9.elim
  | .branch 2 (.leaf (some (_, _, _, _, _, _))) (.branch _ _ (.leaf _)), _, _, _, h9 => h9.elim
  | .leaf none, _, a, b, h => by obtain ⟨rfl, -⟩ := h; exact rTo_0
  | .branch (_ + 3) x y, _, a, b, h => by
    obtain ⟨m, q, ⟨l, -⟩, -, q2⟩ := h
    have l2 := rI_le y q2
    rw [rTo_add (by omega) l2, rI_bu x q, rI_bu y q2]; rfl
/-- names at most, where an arm that tells none counts for nothing -/
def tm_wj : Tm → Nat
  | .branch 0 (.leaf (some (1, _, _, _, _, _))) x => tm_wj x
  | .branch 0 (.leaf (some (0, _, _, _, _, _))) x => tm_wj x
  | .branch 1 (.leaf (some (0, _, _, _, _, _))) (.branch _ x y) => max (tm_wj x) (tm_wj y)
  | .branch 1 (.leaf (some (_ + 1, _, _, s, _, _))) (.branch _ x y) => max (tm_wj x) (max (s + 1) (tm_wj y))
  | .branch 2 (.leaf (some (_, _, _, _, _, _))) (.branch _ x (.branch _ y z)) => max (tm_wj x) (max (tm_wj y) (tm_wj z))
  | .branch 0 (.leaf (some (2, _, _, _, _, _))) x => tm_wj x
  | .branch 0 (.leaf (some (_ + 3, _, _, h, m, _))) x => if m = 0 then tm_wj x else max (h + m) (tm_wj x)
  | .branch (_ + 3) x y => max (tm_wj x) (tm_wj y)
  | _ => 0
theorem tm_wj_sn {t : Tm} : ∀ {c : Tm}, tm_li c → tm_wj (tm_sn c t) = max (tm_wj c) (tm_wj t)
  | .leaf none, _ => by show max (tm_wj t) 0 = max 0 (tm_wj t); omega
  | .branch (_ + 3) a b, h => by
    show max (tm_wj a) (tm_wj (tm_sn b t)) = max (max (tm_wj a) (tm_wj b)) (tm_wj t)
    rw [tm_wj_sn (c := b) h]; omega
theorem wj_wi {z : Nat} {kf : Nat → Int32} : ∀ (t : Tm) {c : Nat}, tm_wf z kf t c → max c (tm_wi t) = max c (tm_wj t)
  | .leaf (some (0, _, _, _, _, _)), _, _ => rfl
  | .leaf (some (_ + 1, _, _, _, _, _)), _, _ => rfl
  | .branch 0 (.leaf (some (0, _, _, _, _, _))) x, c, h => wj_wi x (c := c) h
  | .branch 0 (.leaf (some (1, _, _, _, _, _))) x, c, h => wj_wi x h.2
  | .branch 1 (.leaf (some (0, _, _, _, _, _))) (.branch _ x y), c, h => by
    have a := wj_wi x h.1
    have b := wj_wi y h.2
    show max c (max (tm_wi x) (tm_wi y)) = max c (max (tm_wj x) (tm_wj y)); omega
  | .branch 1 (.leaf (some (_ + 1, _, _, s, _, _))) (.branch _ x y), c, h => by
    have a := wj_wi x h.2.1
    have b := wj_wi y h.2.2
    have e := h.1.1
    show max c (max (tm_wi x) (max (s + 1) (tm_wi y))) = max c (max (tm_wj x) (max (s + 1) (tm_wj y))); omega
  | .branch 2 (.leaf (some (_, _, _, _, _, _))) (.branch _ x (.branch _ y w)), c, h => by
    have a := wj_wi x h.1
    have b := wj_wi y h.2.1
    have d := wj_wi w h.2.2
    show max c (max (tm_wi x) (max (tm_wi y) (tm_wi w))) = max c (max (tm_wj x) (max (tm_wj y) (tm_wj w))); omega
  | .branch 0 (.leaf (some (2, _, _, _, _, _))) x, c, h => wj_wi x h.2
  | .branch 0 (.leaf (some (_ + 3, _, _, hh, m, _))) x, c, h => by
    have a := wj_wi x h.2
    have e := h.1.1.1
    show max c (max (hh + m) (tm_wi x)) = max c (if m = 0 then tm_wj x else max (hh + m) (tm_wj x))
    split <;> omega
  | .branch 0 (.leaf none) _, _, _ => rfl
  | .branch 0 (.branch _ _ _) _, _, _ => rfl
  | .branch 1 (.leaf none) _, _, _ => rfl
  | .branch 1 (.branch _ _ _) _, _, _ => rfl
  | .branch 1 (.leaf (some (0, _, _, _, _, _))) (.leaf _), _, _ => rfl
  | .branch 1 (.leaf (some (_ + 1, _, _, _, _, _))) (.leaf _), _, _ => rfl
  | .branch 2 (.leaf none) _, _, _ => rfl
  | .branch 2 (.branch _ _ _) _, _, _ => rfl
  | .branch 2 (.leaf (some (_, _, _, _, _, _))) (.leaf _), _, _ => rfl
  | .branch 2 (.leaf (some (_, _, _, _, _, _))) (.branch _ _ (.leaf _)), _, _ => rfl
  | .leaf none, _, _ => rfl
  | .branch (_ + 3) x y, c, h => by
    have a := wj_wi x h.1
    have b := wj_wi y h.2
    show max c (max (tm_wi x) (tm_wi y)) = max c (max (tm_wj x) (tm_wj y)); omega
/-- widest of function f: w at least -/
def rW (g g2 : Nat → Int32) (f : Nat) (w : Int) : Prop := (0 ≤ (g f).toInt → (g2 f).toInt = max (g f).toInt w) ∧ ∀ j, j ≠ f → g2 j = g j
theorem rW_rf {g : Nat → Int32} {f : Nat} : rW g g f 0 := ⟨fun h => by omega, fun _ _ => rfl⟩
theorem rW_tr {g g2 g3 : Nat → Int32} {f : Nat} {w w2 : Int} (p : rW g g2 f w) (q : rW g2 g3 f w2) : rW g g3 f (max w w2) := ⟨fun h => by
  have a := p.1 h
  have b := q.1 (by omega)
  omega, fun j hj => by rw [q.2 j hj, p.2 j hj]⟩
theorem rW_e {g g2 : Nat → Int32} {f : Nat} {w w2 : Int} (p : rW g g2 f w) (e : w2 = w) : rW g g2 f w2 := e ▸ p
theorem rW_w {g g2 : Nat → Int32} {f : Nat} {x : Int} {v : Int32} (e : g2 = upd g f v) (hv : v.toInt = max (g f).toInt x) : rW g g2 f x := ⟨fun _ => by rw [e, zu_s]; exact hv, fun j hj => by rw [e, zu_n hj]⟩
/-- all functions' widest -/
def rWa (wd td : Nat → Int32) (fz : Int32) (G : Nat → Tm) : Prop := ∀ g : Nat, (g : Int) < fz.toInt → (wd g).toInt = max (td g).toInt (tm_wj (G g) : Int)
theorem rWa_0 {wd td : Nat → Int32} {fz : Int32} {G : Nat → Tm} (h : fz.toInt = 0) : rWa wd td fz G := fun g hg => by omega
theorem rWa_s {wd wd0 wd1 wd2 td td2 : Nat → Int32} {fz fz2 x y : Int32} {G : Nat → Tm} {t : Tm} {w : Int} (h : rWa wd td fz G) (h0 : 0 ≤ fz.toInt) (ez : fz2.toInt = fz.toInt + 1) (e0 : wd0 = upd wd (Int32.toNatClampNeg fz) x) (hx : x.toInt = 0) (p : rW wd0 wd1 (Int32.toNatClampNeg fz) w) (q : rW wd1 wd2 (Int32.toNatClampNeg fz) (tm_wj t : Int)) (et : td2 = upd td (Int32.toNatClampNeg fz) y) (hy : y.toInt = w) (hw : 0 ≤ w) : rWa wd2 td2 fz2 (fun k => if k = Int32.toNatClampNeg fz then t else G k) := fun g hg => by
  have hn := zn_nat h0
  have pq := rW_tr p q
  by_cases u : g = Int32.toNatClampNeg fz
  · subst u
    have e1 : wd0 (Int32.toNatClampNeg fz) = x := by rw [e0, zu_s]
    have := pq.1 (by rw [e1]; omega)
    show (wd2 _).toInt = max (td2 _).toInt ((tm_wj (if Int32.toNatClampNeg fz = Int32.toNatClampNeg fz then t else _) : Nat) : Int)
    rw [if_pos rfl, et, zu_s, this, e1]; omega
  · show (wd2 g).toInt = max (td2 g).toInt ((tm_wj (if g = Int32.toNatClampNeg fz then t else G g) : Nat) : Int)
    rw [if_neg u, et, zu_n u, pq.2 g u, e0, zu_n u]
    exact h g (by omega)
