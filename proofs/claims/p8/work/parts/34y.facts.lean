/-! what about() tells, of a tree -/
/-- how many builds with fields -/
def tm_bu : Tm → Int
  | .branch 0 (.leaf (some (1, _, _, _, _, _))) x => tm_bu x + if 0 < tm_ln x then 1 else 0
  | .branch 0 (.leaf (some (0, _, _, _, _, _))) x => tm_bu x
  | .branch 1 (.leaf (some (0, _, _, _, _, _))) (.branch _ x y) => tm_bu x + tm_bu y
  | .branch 1 (.leaf (some (_ + 1, _, _, _, _, _))) (.branch _ x y) => tm_bu x + tm_bu y
  | .branch 2 (.leaf (some (_, _, _, _, _, _))) (.branch _ x (.branch _ y z)) => tm_bu x + tm_bu y + tm_bu z
  | .branch 0 (.leaf (some (2, _, _, _, _, _))) x => tm_bu x
  | .branch 0 (.leaf (some (_ + 3, _, _, _, _, _))) x => tm_bu x
  | .branch (_ + 3) x y => tm_bu x + tm_bu y
  | _ => 0
/-- how many matches -/
def tm_ma : Tm → Int
  | .branch 0 (.leaf (some (1, _, _, _, _, _))) x => tm_ma x
  | .branch 0 (.leaf (some (0, _, _, _, _, _))) x => tm_ma x
  | .branch 1 (.leaf (some (0, _, _, _, _, _))) (.branch _ x y) => tm_ma x + tm_ma y
  | .branch 1 (.leaf (some (_ + 1, _, _, _, _, _))) (.branch _ x y) => tm_ma x + tm_ma y
  | .branch 2 (.leaf (some (_, _, _, _, _, _))) (.branch _ x (.branch _ y z)) => tm_ma x + tm_ma y + tm_ma z
  | .branch 0 (.leaf (some (2, _, _, _, _, _))) x => tm_ma x + 1
  | .branch 0 (.leaf (some (_ + 3, _, _, _, _, _))) x => tm_ma x
  | .branch (_ + 3) x y => tm_ma x + tm_ma y
  | _ => 0
/-- how many names at most, of those that stand in it -/
def tm_wi : Tm → Nat
  | .branch 0 (.leaf (some (1, _, _, _, _, _))) x => tm_wi x
  | .branch 0 (.leaf (some (0, _, _, _, _, _))) x => tm_wi x
  | .branch 1 (.leaf (some (0, _, _, _, _, _))) (.branch _ x y) => max (tm_wi x) (tm_wi y)
  | .branch 1 (.leaf (some (_ + 1, _, _, s, _, _))) (.branch _ x y) => max (tm_wi x) (max (s + 1) (tm_wi y))
  | .branch 2 (.leaf (some (_, _, _, _, _, _))) (.branch _ x (.branch _ y z)) => max (tm_wi x) (max (tm_wi y) (tm_wi z))
  | .branch 0 (.leaf (some (2, _, _, _, _, _))) x => tm_wi x
  | .branch 0 (.leaf (some (_ + 3, _, _, h, m, _))) x => max (h + m) (tm_wi x)
  | .branch (_ + 3) x y => max (tm_wi x) (tm_wi y)
  | _ => 0
/-- which slots a tree uses -/
def tm_ub : Tm → Nat → Bool
  | .leaf (some (_ + 1, _, _, s, _, _)), j => j == s
  | .branch 0 (.leaf (some (0, _, _, _, _, _))) x, j => tm_ub x j
  | .branch 0 (.leaf (some (1, _, _, _, _, _))) x, j => tm_ub x j
  | .branch 1 (.leaf (some (0, _, _, _, _, _))) (.branch _ x y), j => tm_ub x j || tm_ub y j
  | .branch 1 (.leaf (some (_ + 1, _, _, s, _, _))) (.branch _ x y), j => tm_ub x j || (tm_ub y j && !(j == s))
  | .branch 2 (.leaf (some (_, _, _, _, _, _))) (.branch _ x (.branch _ y z)), j => tm_ub x j || tm_ub y j || tm_ub z j
  | .branch 0 (.leaf (some (2, _, _, s, _, _))) x, j => (j == s) || tm_ub x j
  | .branch 0 (.leaf (some (_ + 3, _, _, h, m, _))) x, j => tm_ub x j && !(decide ((h : Int) ≤ (j : Int)) && decide ((j : Int) < (h : Int) + (m : Int)))
  | .branch (_ + 3) x y, j => tm_ub x j || tm_ub y j
  | _, _ => false
/-- b: what is needed behind it; s: the slot of the match whose arms these are -/
def tm_sh : Tm → (Nat → Bool) → Nat → Int
  | .branch 0 (.leaf (some (0, _, _, _, _, _))) x, b, s => tm_sh x b 32
  | .branch 0 (.leaf (some (1, _, _, _, _, _))) x, b, s => tm_sh x b 32
  | .branch 1 (.leaf (some (0, _, _, _, _, _))) (.branch _ x y), b, s => tm_sh x (fun j => b j || tm_ub y j) 32 + tm_sh y b 32
  | .branch 1 (.leaf (some (_ + 1, _, _, v, _, _))) (.branch _ x y), b, s => tm_sh x (fun j => b j || (tm_ub y j && !(j == v))) 32 + tm_sh y b 32
  | .branch 2 (.leaf (some (_, _, _, _, _, _))) (.branch _ x (.branch _ y z)), b, s => tm_sh x (fun j => b j || tm_ub y j || tm_ub z j) 32 + tm_sh y b 32 + tm_sh z b 32
  | .branch 0 (.leaf (some (2, _, _, v, _, _))) x, b, s => tm_sh x b v
  | .branch 0 (.leaf (some (_ + 3, _, _, _, m, _))) x, b, s => (if 0 < m ∧ (tm_ub x s || b s) = false ∧ tm_mk x m = true then 1 else 0) + tm_sh x b 32
  | .branch (_ + 3) x y, b, s => tm_sh x (if s < 32 then b else fun j => b j || tm_ub y j) s + tm_sh y b s
  | _, _, _ => 0
theorem tm_bu_sn {t : Tm} : ∀ {c : Tm}, tm_li c → tm_bu (tm_sn c t) = tm_bu c + tm_bu t
  | .leaf none, _ => by show tm_bu t + 0 = 0 + tm_bu t; omega
  | .branch (_ + 3) a b, h => by
    show tm_bu a + tm_bu (tm_sn b t) = tm_bu a + tm_bu b + tm_bu t
    rw [tm_bu_sn (c := b) h]; omega
theorem tm_ma_sn {t : Tm} : ∀ {c : Tm}, tm_li c → tm_ma (tm_sn c t) = tm_ma c + tm_ma t
  | .leaf none, _ => by show tm_ma t + 0 = 0 + tm_ma t; omega
  | .branch (_ + 3) a b, h => by
    show tm_ma a + tm_ma (tm_sn b t) = tm_ma a + tm_ma b + tm_ma t
    rw [tm_ma_sn (c := b) h]; omega
theorem tm_wi_sn {t : Tm} : ∀ {c : Tm}, tm_li c → tm_wi (tm_sn c t) = max (tm_wi c) (tm_wi t)
  | .leaf none, _ => by show max (tm_wi t) 0 = max 0 (tm_wi t); omega
  | .branch (_ + 3) a b, h => by
    show max (tm_wi a) (tm_wi (tm_sn b t)) = max (max (tm_wi a) (tm_wi b)) (tm_wi t)
    rw [tm_wi_sn (c := b) h]; omega
/-- of a tree -/
def cG (g g2 : Nat → Int32) (f : Nat) (t : Tm) : Prop := cF g g2 f (tm_bu t) (tm_ma t) (tm_wi t : Int)
/-- the facts of all functions, ahead of the shells -/
def cFa (ff : Nat → Int32) (fz : Int32) (tr : Nat → Tm) : Prop := ∀ g : Nat, (g : Int) < fz.toInt → (ff (5 * g + 1)).toInt = max (ff (5 * g)).toInt (tm_wi (tr g) : Int) ∧ ff (5 * g + 2) = Int32.ofInt (tm_bu (tr g)) ∧ ff (5 * g + 3) = Int32.ofInt (tm_ma (tr g)) ∧ ff (5 * g + 4) = 0
theorem cFa_0 {ff : Nat → Int32} {fz : Int32} {tr : Nat → Tm} (h : fz.toInt = 0) : cFa ff fz tr := fun g hg => by omega
