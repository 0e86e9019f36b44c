/-! the class's code, as the plain machine goes through it -/
theorem pi_of {r : Int32} {x : Int} (h : r.toInt = x) : Int32.ofInt x = r := by rw [← h]; exact Int32.ofInt_toInt r
def zpx (nx : Nat → Int32) : Int32 → List Nat → Int32 → Prop
  | x, [], y => x = y
  | x, r :: l, y => x.toInt = (r : Int) ∧ zpx nx (nx r) l y
theorem zpx_app {nx : Nat → Int32} {y : Int32} : ∀ {X Y : List Nat} {x : Int32}, zpx nx x (X ++ Y) y → ∃ z, zpx nx x X z ∧ zpx nx z Y y
  | [], _, x, h => ⟨x, rfl, h⟩
  | r :: l, Y, x, h => by
    obtain ⟨z, a, b⟩ := zpx_app (X := l) h.2
    exact ⟨z, ⟨h.1, a⟩, b⟩
theorem zpx_la {nx : Nat → Int32} : ∀ {X : List Nat} {d : Nat} {y : Int32}, zpx nx (nx d) X y → y = nx (zla d X)
  | [], _, _, h => h.symm
  | r :: l, _, _, h => zpx_la (X := l) (d := r) h.2
theorem zpx_pa {nx : Nat → Int32} {q : Nat} : ∀ {X : List Nat} {r : Nat}, zpa nx r X q → ∃ y, zpx nx (nx r) X y ∧ y.toInt = (q : Int)
  | [], r, h => ⟨nx r, rfl, h⟩
  | x :: l, r, h => by
    obtain ⟨y, a, b⟩ := zpx_pa (X := l) (r := x) h.2
    exact ⟨y, ⟨h.1, a⟩, b⟩
/-- rows that only lead on -/
def cSi (S : Nat → Nat → Int32) (nx : Nat → Int32) : Nat → Int32 → Int32 → Prop
  | 0, x, y => x = y
  | n + 1, x, y => ∃ r : Nat, x.toInt = (r : Int) ∧ (((S 0 r).toInt = 14 ∨ (S 0 r).toInt = 16) ∧ 0 ≤ (S 1 r).toInt ∧ cSi S nx n (nx (Int32.toNatClampNeg (S 1 r))) y ∨ (S 0 r).toInt = 0 ∧ cSi S nx n (nx r) y)
theorem cSi_tr {S : Nat → Nat → Int32} {nx : Nat → Int32} {k : Nat} {y z : Int32} (h2 : cSi S nx k y z) : ∀ {n : Nat} {x : Int32}, cSi S nx n x y → cSi S nx (n + k) x z
  | 0, x, h => by rw [Nat.zero_add, show x = y from h]; exact h2
  | n + 1, x, ⟨r, a, b⟩ => by
    rw [show n + 1 + k = (n + k) + 1 from by omega]
    exact ⟨r, a, b.elim (fun g => Or.inl ⟨g.1, g.2.1, cSi_tr h2 g.2.2⟩) (fun g => Or.inr ⟨g.1, cSi_tr h2 g.2⟩)⟩
/-- the row of what is done behind a tree's operands, and where it goes on -/
def cDo (S : Nat → Nat → Int32) (nx : Nat → Int32) (H : Int32 → Int64 → Prop) (az : Int) : Tm → Int32 → Int32 → Nat → Prop
  | .branch 0 (.leaf (some (0, p, _, _, _, w))) a, x, z, n => ∃ r : Nat, x.toInt = (r : Int) ∧ (S 0 r).toInt = 7 ∧ H (S 1 r) w ∧ (S 2 r).toInt = (tm_ln a : Int) ∧ (S 3 r).toInt = p ∧ z = nx r ∧ n = 3
  | .branch 0 (.leaf (some (1, p, _, k, _, _))) a, x, z, n => ∃ r : Nat, x.toInt = (r : Int) ∧ (S 0 r).toInt = 5 ∧ (S 1 r).toInt = (k : Int) ∧ 0 < tm_ln a ∧ (S 3 r).toInt = p ∧ z = nx r ∧ n = 1
  | .branch 0 (.leaf (some (2, p, _, s, _, _))) a, x, z, n => ∃ r : Nat, x.toInt = (r : Int) ∧ (S 0 r).toInt = 15 ∧ (S 1 r).toInt = (s : Int) ∧ (S 3 r).toInt = p ∧ (∃ Y : List Nat, cI S H 0 az a true r (S 2 r) (zla r Y) Y ∧ zpx nx (nx r) Y z) ∧ n = 2
  | .branch 1 (.leaf (some (0, p, o, _, _, _))) (.branch _ _ _), x, z, n => ∃ r : Nat, x.toInt = (r : Int) ∧ (S 0 r).toInt = cI_op o ∧ (S 3 r).toInt = p ∧ z = nx r ∧ n = 1
  | .branch 1 (.leaf (some (_ + 1, _, _, s, _, _))) (.branch _ _ b), x, z, n => ∃ r : Nat, x.toInt = (r : Int) ∧ (S 0 r).toInt = 12 ∧ (S 1 r).toInt = (s : Int) ∧ (∃ Z : List Nat, cI S H 0 az b false 0 0 0 Z ∧ zpx nx (nx r) Z z) ∧ n = 1
  | .branch 2 (.leaf (some (_, p, _, _, _, _))) (.branch _ _ (.branch _ b d)), x, z, n => ∃ r : Nat, x.toInt = (r : Int) ∧ (S 0 r).toInt = 13 ∧ (S 3 r).toInt = p ∧ (∃ (Z : List Nat) (j : Nat) (U : List Nat), (S 1 r).toInt = (j : Int) ∧ cI S H 0 az b false 0 0 0 Z ∧ (S 0 j).toInt = 14 ∧ (S 1 j).toInt = (zla j U : Int) ∧ cI S H 0 az d false 0 0 0 U ∧ zpx nx (nx r) (Z ++ [j] ++ U) z) ∧ n = 2
  | _, _, _, _ => False
/-- what is to do within a call, from row x on; m: how many rows of it begin no tree's work -/
def cKo (S : Nat → Nat → Int32) (nx : Nat → Int32) (H : Int32 → Int64 → Prop) (az : Int) : List (Nat × Tm) → Int32 → Nat → Prop
  | [], x, m => ∃ (n : Nat) (y : Int32) (r : Nat), cSi S nx n x y ∧ y.toInt = (r : Int) ∧ (S 0 r).toInt = 17 ∧ m = n + 1
  | (j, t) :: K, x, m => ∃ (n : Nat) (y z : Int32) (w m2 : Nat), cSi S nx n x y ∧ (j = 0 ∧ (∃ X : List Nat, cI S H 0 az t false 0 0 0 X ∧ zpx nx y X z) ∧ w = 0 ∨ j = 1 ∧ cDo S nx H az t y z w) ∧ cKo S nx H az K z m2 ∧ m = n + w + m2
section
variable {S : Nat → Nat → Int32} {nx : Nat → Int32} {H : Int32 → Int64 → Prop} {az : Int}
theorem cKo_si {n : Nat} {x y : Int32} (h : cSi S nx n x y) : ∀ {K : List (Nat × Tm)} {m : Nat}, cKo S nx H az K y m → cKo S nx H az K x (n + m)
  | [], m, ⟨k, y2, r, a, b, c, d⟩ => ⟨n + k, y2, r, cSi_tr a h, b, c, by omega⟩
  | (j, t) :: K, m, ⟨k, y2, z, w, m2, a, b, c, d⟩ => ⟨n + k, y2, z, w, m2, cSi_tr a h, b, c, by omega⟩
theorem cKo_w {K : List (Nat × Tm)} {t : Tm} {x z : Int32} {m : Nat} {X : List Nat} (h : cI S H 0 az t false 0 0 0 X) (h2 : zpx nx x X z) (h3 : cKo S nx H az K z m) : cKo S nx H az ((0, t) :: K) x m := ⟨0, x, z, 0, m, rfl, Or.inl ⟨rfl, ⟨X, h, h2⟩, rfl⟩, h3, by omega⟩
theorem cKo_d {K : List (Nat × Tm)} {t : Tm} {x z : Int32} {w m : Nat} (h : cDo S nx H az t x z w) (h3 : cKo S nx H az K z m) : cKo S nx H az ((1, t) :: K) x (w + m) := ⟨0, x, z, w, m, rfl, Or.inr ⟨rfl, h⟩, h3, by omega⟩
/-- how many values what is done behind the operands takes -/
def pm_ar : Tm → Nat
  | .branch 0 (.leaf (some (0, _, _, _, _, _))) a => tm_ln a
  | .branch 0 (.leaf (some (1, _, _, _, _, _))) a => tm_ln a
  | .branch 1 (.leaf (some (0, _, _, _, _, _))) (.branch _ _ _) => 2
  | .branch 1 (.leaf (some (_ + 1, _, _, _, _, _))) (.branch _ _ _) => 1
  | .branch 2 (.leaf (some (_, _, _, _, _, _))) (.branch _ _ (.branch _ _ _)) => 1
  | _ => 0
/-- the values suffice: one is left -/
def cHt : List (Nat × Tm) → Nat → Prop
  | [], h => h = 1
  | (j, t) :: K, h => if j = 0 then cHt K (h + 1) else pm_ar t ≤ h ∧ cHt K (h - pm_ar t + 1)
theorem cHt_as {K : List (Nat × Tm)} : ∀ (a : Tm) {h : Nat}, tm_li a → cHt K (h + tm_ln a) → cHt (pm_as a ++ K) h
  | .leaf none, _, _, g => g
  | .branch (_ + 3) a b, h, hl, g => by
    show cHt (pm_as b ++ K) (h + 1)
    exact cHt_as b hl (by rw [show h + 1 + tm_ln b = h + (tm_ln b + 1) from by omega]; exact g)
  | .leaf (some (0, _, _, _, _, _)), _, g, _ => g.elim
  | .leaf (some (_ + 1, _, _, _, _, _)), _, g, _ => g.elim
  | .branch 0 (.leaf (some (0, _, _, _, _, _))) _, _, g, _ => g.elim
  | .branch 0 (.leaf (some (1, _, _, _, _, _))) _, _, g, _ => g.elim
  | .branch 1 (.leaf (some (0, _, _, _, _, _))) (.branch _ _ _), _, g, _ => g.elim
  | .branch 1 (.leaf (some (_ + 1, _, _, _, _, _))) (.branch _ _ _), _, g, _ => g.elim
  | .branch 2 (.leaf (some (_, _, _, _, _, _))) (.branch _ _ (.branch _ _ _)), _, g, _ => g.elim
  | .branch 0 (.leaf (some (2, _, _, _, _, _))) _, _, g, _ => g.elim
  | .branch 0 (.leaf (some (_ + 3, _, _, _, _, _))) _, _, g, _ => g.elim
  | .branch 0 (.leaf none) _, _, g, _ => g.elim
  | .branch 0 (.branch _ _ _) _, _, g, _ => g.elim
  | .branch 1 (.leaf none) _, _, g, _ => g.elim
  | .branch 1 (.branch _ _ _) _, _, g, _ => g.elim
  | .branch 1 (.leaf (some (0, _, _, _, _, _))) (.leaf _), _, g, _ => g.elim
  | .branch 1 (.leaf (some (_ + 1, _, _, _, _, _))) (.leaf _), _, g, _ => g.elim
  | .branch 2 (.leaf none) _, _, g, _ => g.elim
  | .branch 2 (.branch _ _ _) _, _, g, _ => g.elim
  | .branch 2 (.leaf (some (_, _, _, _, _, _))) (.leaf _), _, g, _ => g.elim
  | .branch 2 (.leaf (some (_, _, _, _, _, _))) (.branch _ _ (.leaf _)), _, g, _ => g.elim
theorem cHt_ad {K : List (Nat × Tm)} {t : Tm} {a : Tm} {h : Nat} (hl : tm_li a) (e : pm_ar t = tm_ln a) (g : cHt K (h + 1)) : cHt (pm_as a ++ (1, t) :: K) h := cHt_as a hl (by
  show pm_ar t ≤ h + tm_ln a ∧ cHt K (h + tm_ln a - pm_ar t + 1)
  exact ⟨by omega, by rw [show h + tm_ln a - pm_ar t = h from by omega]; exact g⟩)
/-- a task that may stand there: bd names have their values, nm rows are the call's names' -/
def cOk (z : Nat) (kf : Nat → Int32) (bd nm : Nat) (u : Nat × Tm) : Prop := sy_x u.2 ∧ (∃ c, tm_wf z kf u.2 c ∧ c ≤ bd) ∧ tm_wi u.2 ≤ nm
theorem cKo_as {K : List (Nat × Tm)} {z : Int32} {m : Nat} (h3 : cKo S nx H az K z m) : ∀ (a : Tm) {Y : List Nat} {x : Int32}, tm_li a → cI S H 0 az a false 0 0 0 Y → zpx nx x Y z → cKo S nx H az (pm_as a ++ K) x m
  | .leaf none, Y, x, _, h, h2 => by
    obtain ⟨rfl, -⟩ := h
    rw [show x = z from h2]; exact h3
  | .branch (_ + 3) a b, Y, x, hl, h, h2 => by
    obtain ⟨X, Z, rfl, g1, g2, -⟩ := h
    obtain ⟨y, k1, k2⟩ := zpx_app h2
    exact cKo_w g1 k1 (cKo_as h3 b hl g2 k2)
  | .leaf (some (0, _, _, _, _, _)), _, _, g, _, _ => g.elim
  | .leaf (some (_ + 1, _, _, _, _, _)), _, _, g, _, _ => g.elim
  | .branch 0 (.leaf (some (0, _, _, _, _, _))) _, _, _, g, _, _ => g.elim
  | .branch 0 (.leaf (some (1, _, _, _, _, _))) _, _, _, g, _, _ => g.elim
  | .branch 1 (.leaf (some (0, _, _, _, _, _))) (.branch _ _ _), _, _, g, _, _ => g.elim
  | .branch 1 (.leaf (some (_ + 1, _, _, _, _, _))) (.branch _ _ _), _, _, g, _, _ => g.elim
  | .branch 2 (.leaf (some (_, _, _, _, _, _))) (.branch _ _ (.branch _ _ _)), _, _, g, _, _ => g.elim
  | .branch 0 (.leaf (some (2, _, _, _, _, _))) _, _, _, g, _, _ => g.elim
  | .branch 0 (.leaf (some (_ + 3, _, _, _, _, _))) _, _, _, g, _, _ => g.elim
  | .branch 0 (.leaf none) _, _, _, g, _, _ => g.elim
  | .branch 0 (.branch _ _ _) _, _, _, g, _, _ => g.elim
  | .branch 1 (.leaf none) _, _, _, g, _, _ => g.elim
  | .branch 1 (.branch _ _ _) _, _, _, g, _, _ => g.elim
  | .branch 1 (.leaf (some (0, _, _, _, _, _))) (.leaf _), _, _, g, _, _ => g.elim
  | .branch 1 (.leaf (some (_ + 1, _, _, _, _, _))) (.leaf _), _, _, g, _, _ => g.elim
  | .branch 2 (.leaf none) _, _, _, g, _, _ => g.elim
  | .branch 2 (.branch _ _ _) _, _, _, g, _, _ => g.elim
  | .branch 2 (.leaf (some (_, _, _, _, _, _))) (.leaf _), _, _, g, _, _ => g.elim
  | .branch 2 (.leaf (some (_, _, _, _, _, _))) (.branch _ _ (.leaf _)), _, _, g, _, _ => g.elim
theorem pm_as_ok {z : Nat} {kf : Nat → Int32} {bd nm c : Nat} (hc : c ≤ bd) : ∀ (a : Tm), tm_li a → tm_sy a false → tm_wf z kf a c → tm_wi a ≤ nm → ∀ u ∈ pm_as a, cOk z kf bd nm u
  | .leaf none, _, _, _, _, u, hu => nomatch hu
  | .branch (_ + 3) a b, hl, hs, hw, hi, u, hu => by
    have hi : max (tm_wi a) (tm_wi b) ≤ nm := hi
    rcases List.mem_cons.mp hu with g | g
    · rw [g]; exact ⟨hs.1, ⟨c, hw.1, hc⟩, by show tm_wi a ≤ nm; omega⟩
    · exact pm_as_ok hc b hl hs.2 hw.2 (by omega) u g
  | .leaf (some (0, _, _, _, _, _)), g, _, _, _, _, _ => g.elim
  | .leaf (some (_ + 1, _, _, _, _, _)), g, _, _, _, _, _ => g.elim
  | .branch 0 (.leaf (some (0, _, _, _, _, _))) _, g, _, _, _, _, _ => g.elim
  | .branch 0 (.leaf (some (1, _, _, _, _, _))) _, g, _, _, _, _, _ => g.elim
  | .branch 1 (.leaf (some (0, _, _, _, _, _))) (.branch _ _ _), g, _, _, _, _, _ => g.elim
  | .branch 1 (.leaf (some (_ + 1, _, _, _, _, _))) (.branch _ _ _), g, _, _, _, _, _ => g.elim
  | .branch 2 (.leaf (some (_, _, _, _, _, _))) (.branch _ _ (.branch _ _ _)), g, _, _, _, _, _ => g.elim
  | .branch 0 (.leaf (some (2, _, _, _, _, _))) _, g, _, _, _, _, _ => g.elim
  | .branch 0 (.leaf (some (_ + 3, _, _, _, _, _))) _, g, _, _, _, _, _ => g.elim
  | .branch 0 (.leaf none) _, g, _, _, _, _, _ => g.elim
  | .branch 0 (.branch _ _ _) _, g, _, _, _, _, _ => g.elim
  | .branch 1 (.leaf none) _, g, _, _, _, _, _ => g.elim
  | .branch 1 (.branch _ _ _) _, g, _, _, _, _, _ => g.elim
  | .branch 1 (.leaf (some (0, _, _, _, _, _))) (.leaf _), g, _, _, _, _, _ => g.elim
  | .branch 1 (.leaf (some (_ + 1, _, _, _, _, _))) (.leaf _), g, _, _, _, _, _ => g.elim
  | .branch 2 (.leaf none) _, g, _, _, _, _, _ => g.elim
  | .branch 2 (.branch _ _ _) _, g, _, _, _, _, _ => g.elim
  | .branch 2 (.leaf (some (_, _, _, _, _, _))) (.leaf _), g, _, _, _, _, _ => g.elim
  | .branch 2 (.leaf (some (_, _, _, _, _, _))) (.branch _ _ (.leaf _)), g, _, _, _, _, _ => g.elim
def pm_cl (t : Tm) (wd : Int64) (p : Int) : Prop := ∀ (F : sp_F) (K : List (Nat × Tm)) (V : List Int64) (E : List (Nat → Int64)) (n c : Nat) (ck : Nat → Int32) (cf : Nat → Int64), pm_d F t K V E n c ck cf = if 100 ≤ E.length then .error (4, p) else .ok ((0, F.2.2.2 (sp_fi F.2.1 wd F.1)) :: (2, Tm.nil) :: K, V.drop (F.2.2.1 (sp_fi F.2.1 wd F.1)).toNat, pm_ae V (F.2.2.1 (sp_fi F.2.1 wd F.1)).toNat :: E, n, c, ck, cf)
/-- what the first row of a tree's code is, and what the plain machine does there -/
def cInv (S : Nat → Nat → Int32) (nx : Nat → Int32) (H : Int32 → Int64 → Prop) (az : Int) (z : Nat) (kf : Nat → Int32) (bd nm : Nat) (t : Tm) (r : Nat) (zz : Int32) : Prop :=
  ((S 0 r).toInt = 1 ∧ ∃ (K1 : List (Nat × Tm)) (w : Nat), w ≤ 3 ∧ (∀ (K : List (Nat × Tm)) (V : List Int64) (E : List (Nat → Int64)) (n c : Nat) (ck : Nat → Int32) (cf : Nat → Int64), pm_w t K V E n c ck cf = .ok (K1 ++ K, V, E, n, c, ck, cf)) ∧ (∀ (K : List (Nat × Tm)) (m : Nat), cKo S nx H az K zz m → cKo S nx H az (K1 ++ K) (nx r) (w + m)) ∧ (∀ (K : List (Nat × Tm)) (h : Nat), cHt K (h + 1) → cHt (K1 ++ K) h) ∧ ∀ u ∈ K1, cOk z kf bd nm u) ∨
  ((S 0 r).toInt = 2 ∧ zz = nx r ∧ ∀ (K : List (Nat × Tm)) (V : List Int64) (E : List (Nat → Int64)) (n c : Nat) (ck : Nat → Int32) (cf : Nat → Int64), pm_w t K V E n c ck cf = .ok (K, pv0 (S 1 r) :: V, E, n, c, ck, cf)) ∨
  ((S 0 r).toInt = 3 ∧ zz = nx r ∧ ∃ s : Nat, (S 1 r).toInt = (s : Int) ∧ s < bd ∧ ∀ (K : List (Nat × Tm)) (V : List Int64) (E : List (Nat → Int64)) (n c : Nat) (ck : Nat → Int32) (cf : Nat → Int64), pm_w t K V E n c ck cf = .ok (K, E.headD (fun _ => 0) s :: V, E, n, c, ck, cf)) ∨
  ((S 0 r).toInt = 4 ∧ zz = nx r ∧ ∃ t2 : Tm, (∀ (K : List (Nat × Tm)) (V : List Int64) (E : List (Nat → Int64)) (n c : Nat) (ck : Nat → Int32) (cf : Nat → Int64), pm_w t K V E n c ck cf = .ok ((1, t2) :: K, V, E, n, c, ck, cf)) ∧ ∀ (F : sp_F) (K : List (Nat × Tm)) (V : List Int64) (E : List (Nat → Int64)) (n c : Nat) (ck : Nat → Int32) (cf : Nat → Int64), pm_d F t2 K V E n c ck cf = .ok (K, pv1 (S 1 r) :: V, E, n, c, ck, cf)) ∨
  ((S 0 r).toInt = 6 ∧ zz = nx r ∧ (S 2 r).toInt = 0 ∧ ∃ (t2 : Tm) (wd : Int64), H (S 1 r) wd ∧ (∀ (K : List (Nat × Tm)) (V : List Int64) (E : List (Nat → Int64)) (n c : Nat) (ck : Nat → Int32) (cf : Nat → Int64), pm_w t K V E n c ck cf = .ok ((1, t2) :: K, V, E, n, c, ck, cf)) ∧ pm_cl t2 wd (pm_pl t))
theorem cI_inv {z : Nat} {kf : Nat → Int32} {bd nm : Nat} : ∀ (t : Tm) {c : Nat} {X : List Nat} {x zz : Int32}, sy_x t → tm_wf z kf t c → c ≤ bd → tm_wi t ≤ nm → cI S H 0 az t false 0 0 0 X → zpx nx x X zz → ∃ r : Nat, x.toInt = (r : Int) ∧ (S 3 r).toInt = pm_pl t ∧ cInv S nx H az z kf bd nm t r zz
  | .leaf (some (0, p, v, _, _, _)), c, X, x, zz, _, _, _, _, h, hz => by
    obtain ⟨r, rfl, h0, h1, h3⟩ := h
    exact ⟨r, hz.1, h3, Or.inr (Or.inl ⟨h0, hz.2.symm, fun _ _ _ _ _ _ _ => by rw [← pi_of h1]; rfl⟩)⟩
  | .leaf (some (_ + 1, p, _, s, _, _)), c, X, x, zz, _, hw, hc, _, h, hz => by
    obtain ⟨r, rfl, h0, h1, h3⟩ := h
    have hw : s < c := hw
    exact ⟨r, hz.1, h3, Or.inr (Or.inr (Or.inl ⟨h0, hz.2.symm, s, h1, by omega, fun _ _ _ _ _ _ _ => rfl⟩))⟩
  | .branch 0 (.leaf (some (0, p, _, _, _, w))) a, c, X, x, zz, hs, hw, hc, hi, h, hz => by
    rcases h with ⟨-, e, r, rfl, h0, h1, h2, h3⟩ | ⟨q1, s, Y, r, rfl, g0, g3, q2, h0, h1, h2, h3⟩
    · subst e
      exact ⟨r, hz.1, h3, Or.inr (Or.inr (Or.inr (Or.inr ⟨h0, hz.2.symm, h2, Tm.call p w Tm.nil, w, h1, fun _ _ _ _ _ _ _ => rfl, fun _ _ _ _ _ _ _ _ => rfl⟩)))⟩
    · obtain ⟨z2, k1, k2⟩ := zpx_app hz.2
      refine ⟨s, hz.1, g3, Or.inl ⟨g0, pm_as a ++ [(1, Tm.call p w a)], 3, by omega, fun K _ _ _ _ _ _ => by rw [List.append_assoc]; rfl, fun K m hK => ?_, fun K h g => by rw [List.append_assoc]; exact cHt_ad hs.2.1 rfl g, ?_⟩⟩
      · rw [List.append_assoc]
        exact cKo_as (cKo_d (t := Tm.call p w a) ⟨r, k2.1, h0, h1, h2, h3, k2.2.symm, rfl⟩ hK) a hs.2.1 q2 k1
      · intro u hu
        rcases List.mem_append.mp hu with g | g
        · exact pm_as_ok hc a hs.2.1 hs.2.2 hw hi u g
        · rw [List.mem_singleton.mp g]; exact ⟨⟨rfl, hs.2⟩, ⟨c, hw, hc⟩, hi⟩
  | .branch 0 (.leaf (some (1, p, _, k, _, _))) a, c, X, x, zz, hs, hw, hc, hi, h, hz => by
    rcases h with ⟨-, e, r, rfl, h0, h1, h3⟩ | ⟨q1, s, Y, r, rfl, g0, g3, q2, h0, h1, h3⟩
    · subst e
      exact ⟨r, hz.1, h3, Or.inr (Or.inr (Or.inr (Or.inl ⟨h0, hz.2.symm, Tm.made p k Tm.nil, fun _ _ _ _ _ _ _ => rfl, fun _ _ _ _ _ _ _ _ => by rw [← pi_of h1]; rfl⟩)))⟩
    · obtain ⟨z2, k1, k2⟩ := zpx_app hz.2
      refine ⟨s, hz.1, g3, Or.inl ⟨g0, pm_as a ++ [(1, Tm.made p k a)], 1, by omega, fun K _ _ _ _ _ _ => by rw [List.append_assoc]; rfl, fun K m hK => ?_, fun K h g => by rw [List.append_assoc]; exact cHt_ad hs.2.1 rfl g, ?_⟩⟩
      · rw [List.append_assoc]
        exact cKo_as (cKo_d (t := Tm.made p k a) ⟨r, k2.1, h0, h1, q1, h3, k2.2.symm, rfl⟩ hK) a hs.2.1 q2 k1
      · intro u hu
        rcases List.mem_append.mp hu with g | g
        · exact pm_as_ok hc a hs.2.1 hs.2.2 hw.2 hi u g
        · rw [List.mem_singleton.mp g]; exact ⟨⟨rfl, hs.2⟩, ⟨c, hw, hc⟩, hi⟩
  | .branch 1 (.leaf (some (0, p, o, _, _, _))) (.branch _ a b), c, X, x, zz, hs, hw, hc, hi, h, hz => by
    obtain ⟨s, Y, Z, r, rfl, g0, g3, q1, q2, h0, h3⟩ := h
    obtain ⟨z2, k1, k2⟩ := zpx_app hz.2
    obtain ⟨z1, k3, k4⟩ := zpx_app k1
    have hi : max (tm_wi a) (tm_wi b) ≤ nm := hi
    refine ⟨s, hz.1, g3, Or.inl ⟨g0, [(0, a), (0, b), (1, Tm.bin p o a b)], 1, by omega, fun _ _ _ _ _ _ _ => rfl, fun K m hK => cKo_w q1 k3 (cKo_w q2 k4 (cKo_d (t := Tm.bin p o a b) ⟨r, k2.1, h0, h3, k2.2.symm, rfl⟩ hK)), fun K h g => ⟨by show 2 ≤ h + 1 + 1; omega, by show cHt K (h + 1 + 1 - 2 + 1); rw [show h + 1 + 1 - 2 + 1 = h + 1 from by omega]; exact g⟩, ?_⟩⟩
    intro u hu
    rcases List.mem_cons.mp hu with g | hu
    · rw [g]; exact ⟨hs.2.1, ⟨c, hw.1, hc⟩, by show tm_wi a ≤ nm; omega⟩
    · rcases List.mem_cons.mp hu with g | hu
      · rw [g]; exact ⟨hs.2.2, ⟨c, hw.2, hc⟩, by show tm_wi b ≤ nm; omega⟩
      · rw [List.mem_singleton.mp hu]; exact ⟨⟨rfl, hs.2⟩, ⟨c, hw, hc⟩, hi⟩
  | .branch 1 (.leaf (some (_ + 1, p, _, k, _, _))) (.branch _ a b), c, X, x, zz, hs, hw, hc, hi, h, hz => by
    obtain ⟨s, Y, r, Z, rfl, g0, g3, q1, h0, h1, q2⟩ := h
    obtain ⟨z2, k1, k2⟩ := zpx_app hz.2
    obtain ⟨z1, k3, k4⟩ := zpx_app k1
    have hi : max (tm_wi a) (max (k + 1) (tm_wi b)) ≤ nm := hi
    have e := k4.2
    refine ⟨s, hz.1, g3, Or.inl ⟨g0, [(0, a), (1, Tm.tlet p k a b)], 1, by omega, fun _ _ _ _ _ _ _ => rfl, fun K m hK => cKo_w q1 k3 (cKo_d (t := Tm.tlet p k a b) ⟨r, k4.1, h0, h1, ⟨Z, q2, by rw [show nx r = z2 from e]; exact k2⟩, rfl⟩ hK), fun K h g => ⟨by show 1 ≤ h + 1; omega, g⟩, ?_⟩⟩
    intro u hu
    rcases List.mem_cons.mp hu with g | hu
    · rw [g]; exact ⟨hs.2.1, ⟨c, hw.2.1, hc⟩, by show tm_wi a ≤ nm; omega⟩
    · rw [List.mem_singleton.mp hu]; exact ⟨⟨rfl, hs.2⟩, ⟨c, hw, hc⟩, hi⟩
  | .branch 2 (.leaf (some (_, p, _, _, _, _))) (.branch _ a (.branch _ b d)), c, X, x, zz, hs, hw, hc, hi, h, hz => by
    obtain ⟨s, Y, i, Z, j, U, rfl, g0, g3, q1, h0, h1, h3, q2, j0, j1, q3⟩ := h
    have hz2 : zpx nx (nx s) (Y ++ ([i] ++ (Z ++ [j] ++ U))) zz := by
      have := hz.2
      simpa [List.append_assoc] using this
    obtain ⟨z1, k1, k2⟩ := zpx_app hz2
    obtain ⟨z2, k3, k4⟩ := zpx_app k2
    have e := k3.2
    have hi : max (tm_wi a) (max (tm_wi b) (tm_wi d)) ≤ nm := hi
    refine ⟨s, hz.1, g3, Or.inl ⟨g0, [(0, a), (1, Tm.ite p a b d)], 2, by omega, fun _ _ _ _ _ _ _ => rfl, fun K m hK => cKo_w q1 k1 (cKo_d (t := Tm.ite p a b d) ⟨i, k3.1, h0, h3, ⟨Z, j, U, h1, q2, j0, j1, q3, by rw [show nx i = z2 from e]; exact k4⟩, rfl⟩ hK), fun K h g => ⟨by show 1 ≤ h + 1; omega, g⟩, ?_⟩⟩
    intro u hu
    rcases List.mem_cons.mp hu with g | hu
    · rw [g]; exact ⟨hs.2.1, ⟨c, hw.1, hc⟩, by show tm_wi a ≤ nm; omega⟩
    · rw [List.mem_singleton.mp hu]; exact ⟨⟨rfl, hs.2⟩, ⟨c, hw, hc⟩, hi⟩
  | .branch 0 (.leaf (some (2, p, _, k, _, _))) a, c, X, x, zz, hs, hw, hc, hi, h, hz => by
    obtain ⟨s, m, Y, rfl, g0, g3, h0, h1, h3, q⟩ := h
    refine ⟨s, hz.1, g3, Or.inl ⟨g0, [(1, Tm.mat p k a)], 2, by omega, fun _ _ _ _ _ _ _ => rfl, fun K n hK => cKo_d (t := Tm.mat p k a) ⟨m, hz.2.1, h0, h1, h3, ⟨Y, q, hz.2.2⟩, rfl⟩ hK, fun K h g => ⟨Nat.zero_le _, g⟩, ?_⟩⟩
    intro u hu
    rw [List.mem_singleton.mp hu]; exact ⟨⟨rfl, hs.2⟩, ⟨c, hw, hc⟩, hi⟩
  | .leaf none, _, _, _, _, hs, _, _, _, _, _ => absurd hs.1 (by decide)
  | .branch (_ + 3) _ _, _, _, _, _, hs, _, _, _, _, _ => absurd hs.1 (fun g => nomatch (show (0 : Nat) = 1 from g))
  | .branch 0 (.leaf (some (_ + 3, _, _, _, _, _))) _, _, _, _, _, hs, _, _, _, _, _ => absurd hs.1 (fun g => nomatch (show (2 : Nat) = 1 from g))
  | .branch 0 (.leaf none) _, _, _, _, _, _, _, _, _, h9, _ => h9.elim
  | .branch 0 (.branch _ _ _) _, _, _, _, _, _, _, _, _, h9, _ => h9.elim
  | .branch 1 (.leaf none) _, _, _, _, _, _, _, _, _, h9, _ => h9.elim
  | .branch 1 (.branch _ _ _) _, _, _, _, _, _, _, _, _, h9, _ => h9.elim
  | .branch 1 (.leaf (some (0, _, _, _, _, _))) (.leaf _), _, _, _, _, _, _, _, _, h9, _ => h9.elim
  | .branch 1 (.leaf (some (_ + 1, _, _, _, _, _))) (.leaf _), _, _, _, _, _, _, _, _, h9, _ => h9.elim
  | .branch 2 (.leaf none) _, _, _, _, _, _, _, _, _, h9, _ => h9.elim
  | .branch 2 (.branch _ _ _) _, _, _, _, _, _, _, _, _, h9, _ => h9.elim
  | .branch 2 (.leaf (some (_, _, _, _, _, _))) (.leaf _), _, _, _, _, _, _, _, _, h9, _ => h9.elim
  | .branch 2 (.leaf (some (_, _, _, _, _, _))) (.branch _ _ (.leaf _)), _, _, _, _, _, _, _, _, h9, _ => h9.elim
/-- what the row of what is done behind the operands is, and what the plain machine does there -/
def cDnv (S : Nat → Nat → Int32) (nx : Nat → Int32) (H : Int32 → Int64 → Prop) (az : Int) (z : Nat) (kf : Nat → Int32) (bd nm : Nat) (t : Tm) (r : Nat) (zz : Int32) (w : Nat) : Prop :=
  ((S 0 r).toInt = 7 ∧ zz = nx r ∧ w = 3 ∧ ∃ wd : Int64, H (S 1 r) wd ∧ (S 2 r).toInt = (pm_ar t : Int) ∧ pm_cl t wd (S 3 r).toInt) ∨
  ((S 0 r).toInt = 5 ∧ zz = nx r ∧ w = 1 ∧ ∃ (q k : Nat), 0 < q ∧ pm_ar t = q ∧ (S 1 r).toInt = (k : Int) ∧ k < z ∧ (kf k).toInt = (q : Int) ∧ ∀ (F : sp_F) (K : List (Nat × Tm)) (V : List Int64) (E : List (Nat → Int64)) (n c : Nat) (ck : Nat → Int32) (cf : Nat → Int64), pm_d F t K V E n c ck cf = if 4000 ≤ c then .error (3, (S 3 r).toInt) else .ok (K, pv2 (Int32.ofInt (c : Int)) :: V.drop q, E, n, c + 1, upd ck c (S 1 r), pm_cf cf V c q)) ∨
  ((S 0 r).toInt = 15 ∧ w = 2 ∧ pm_ar t = 0 ∧ ∃ (s : Nat) (a : Tm) (Y : List Nat) (c0 : Nat), (S 1 r).toInt = (s : Int) ∧ s < bd ∧ c0 ≤ bd ∧ tm_li a ∧ tm_sy a true ∧ tm_wf z kf a c0 ∧ tm_ln a ≤ 8 ∧ tm_wi a ≤ nm ∧ cI S H 0 az a true r (S 2 r) (zla r Y) Y ∧ zpx nx (nx r) Y zz ∧ ∀ (F : sp_F) (K : List (Nat × Tm)) (V : List Int64) (E : List (Nat → Int64)) (n c : Nat) (ck : Nat → Int32) (cf : Nat → Int64), pm_d F t K V E n c ck cf = pm_mt (S 3 r).toInt s a K V E n c ck cf) ∨
  (zz = nx r ∧ w = 1 ∧ pm_ar t = 2 ∧ ∃ o : Int, (S 0 r).toInt = cI_op o ∧ ∀ (F : sp_F) (K : List (Nat × Tm)) (V : List Int64) (E : List (Nat → Int64)) (n c : Nat) (ck : Nat → Int32) (cf : Nat → Int64), pm_d F t K V E n c ck cf = if zhs (V.getD 1 0) = 0 ∧ zhs (V.getD 0 0) = 0 then .ok (K, pv0 (pm_op o (V.getD 1 0).toInt32 (V.getD 0 0).toInt32) :: V.drop 2, E, n, c, ck, cf) else .error (2, (S 3 r).toInt)) ∨
  ((S 0 r).toInt = 12 ∧ w = 1 ∧ pm_ar t = 1 ∧ ∃ (s : Nat) (b : Tm) (Z : List Nat), (S 1 r).toInt = (s : Int) ∧ s ≤ bd ∧ s < nm ∧ cI S H 0 az b false 0 0 0 Z ∧ zpx nx (nx r) Z zz ∧ cOk z kf (max bd (s + 1)) nm (0, b) ∧ ∀ (F : sp_F) (K : List (Nat × Tm)) (V : List Int64) (E : List (Nat → Int64)) (n c : Nat) (ck : Nat → Int32) (cf : Nat → Int64), pm_d F t K V E n c ck cf = .ok ((0, b) :: K, V.drop 1, vp_updL (E.headD (fun _ => 0)) s (V.getD 0 0) :: E.tail, n, c, ck, cf)) ∨
  ((S 0 r).toInt = 13 ∧ w = 2 ∧ pm_ar t = 1 ∧ ∃ (b d : Tm) (Z : List Nat) (j : Nat) (U : List Nat), (S 1 r).toInt = (j : Int) ∧ cI S H 0 az b false 0 0 0 Z ∧ (S 0 j).toInt = 14 ∧ (S 1 j).toInt = (zla j U : Int) ∧ cI S H 0 az d false 0 0 0 U ∧ zpx nx (nx r) (Z ++ [j] ++ U) zz ∧ cOk z kf bd nm (0, b) ∧ cOk z kf bd nm (0, d) ∧ ∀ (F : sp_F) (K : List (Nat × Tm)) (V : List Int64) (E : List (Nat → Int64)) (n c : Nat) (ck : Nat → Int32) (cf : Nat → Int64), pm_d F t K V E n c ck cf = if zhs (V.getD 0 0) = 0 then .ok ((0, if (V.getD 0 0).toInt32 = 0 then d else b) :: K, V.drop 1, E, n, c, ck, cf) else .error (2, (S 3 r).toInt))
theorem cD_inv {z : Nat} {kf : Nat → Int32} {bd nm : Nat} : ∀ (t : Tm) {j c : Nat} {x zz : Int32} {w : Nat}, cOk z kf bd nm (j, t) → cDo S nx H az t x zz w → ∃ r : Nat, x.toInt = (r : Int) ∧ cDnv S nx H az z kf bd nm t r zz w
  | .branch 0 (.leaf (some (0, p, _, _, _, wd))) a, _, _, x, zz, w, _, h => by
    obtain ⟨r, h0, h1, h2, h3, h4, h5, h6⟩ := h
    exact ⟨r, h0, Or.inl ⟨h1, h5, h6, wd, h2, h3, fun _ _ _ _ _ _ _ _ => by rw [h4]; rfl⟩⟩
  | .branch 0 (.leaf (some (1, p, _, k, _, _))) a, _, _, x, zz, w, ok, h => by
    obtain ⟨r, h0, h1, h2, h3, h4, h5, h6⟩ := h
    obtain ⟨-, ⟨c0, w1, w2⟩, -⟩ := ok
    refine ⟨r, h0, Or.inr (Or.inl ⟨h1, h5, h6, tm_ln a, k, h3, rfl, h2, w1.1.1, w1.1.2, fun F K V E n c ck cf => ?_⟩)⟩
    have e : ¬ tm_ln a = 0 := by omega
    rw [← pi_of h2, h4]
    exact if_neg e
  | .branch 0 (.leaf (some (2, p, _, s, _, _))) a, _, _, x, zz, w, ok, h => by
    obtain ⟨r, h0, h1, h2, h4, ⟨Y, y1, y2⟩, h6⟩ := h
    obtain ⟨s1, ⟨c0, w1, w2⟩, w3⟩ := ok
    have w4 : s < c0 := w1.1.1
    refine ⟨r, h0, Or.inr (Or.inr (Or.inl ⟨h1, h6, rfl, s, a, Y, c0, h2, by omega, w2, s1.2.1, s1.2.2, w1.2, w1.1.2.2, w3, y1, y2, fun F K V E n c ck cf => ?_⟩))⟩
    rw [h4]
    rfl
  | .branch 1 (.leaf (some (0, p, o, _, _, _))) (.branch _ a b), _, _, x, zz, w, _, h => by
    obtain ⟨r, h0, h1, h4, h5, h6⟩ := h
    exact ⟨r, h0, Or.inr (Or.inr (Or.inr (Or.inl ⟨h5, h6, rfl, o, h1, fun _ _ _ _ _ _ _ _ => by rw [h4]; rfl⟩)))⟩
  | .branch 1 (.leaf (some (_ + 1, p, _, s, _, _))) (.branch _ a b), _, _, x, zz, w, ok, h => by
    obtain ⟨r, h0, h1, h2, ⟨Z, z1, z2⟩, h6⟩ := h
    obtain ⟨s1, ⟨c0, w1, w2⟩, w3⟩ := ok
    have w3 : max (tm_wi a) (max (s + 1) (tm_wi b)) ≤ nm := w3
    have w4 : s = c0 := w1.1.1
    exact ⟨r, h0, Or.inr (Or.inr (Or.inr (Or.inr (Or.inl ⟨h1, h6, rfl, s, b, Z, h2, by omega, by omega, z1, z2, ⟨s1.2.2, ⟨c0 + 1, w1.2.2, by omega⟩, by show tm_wi b ≤ nm; omega⟩, fun _ _ _ _ _ _ _ _ => rfl⟩))))⟩
  | .branch 2 (.leaf (some (_, p, _, _, _, _))) (.branch _ a (.branch _ b d)), _, _, x, zz, w, ok, h => by
    obtain ⟨r, h0, h1, h4, ⟨Z, j, U, q1, q2, q3, q4, q5, q6⟩, h6⟩ := h
    obtain ⟨s1, ⟨c0, w1, w2⟩, w3⟩ := ok
    have w3 : max (tm_wi a) (max (tm_wi b) (tm_wi d)) ≤ nm := w3
    exact ⟨r, h0, Or.inr (Or.inr (Or.inr (Or.inr (Or.inr ⟨h1, h6, rfl, b, d, Z, j, U, q1, q2, q3, q4, q5, q6, ⟨s1.2.2.1, ⟨c0, w1.2.1, w2⟩, by show tm_wi b ≤ nm; omega⟩, ⟨s1.2.2.2, ⟨c0, w1.2.2, w2⟩, by show tm_wi d ≤ nm; omega⟩, fun _ _ _ _ _ _ _ _ => by rw [h4]; rfl⟩))))⟩
  | .leaf none, _, _, _, _, _, _, h => h.elim
  | .branch (_ + 3) _ _, _, _, _, _, _, _, h => h.elim
  | .leaf (some (0, _, _, _, _, _)), _, _, _, _, _, _, h => h.elim
  | .leaf (some (_ + 1, _, _, _, _, _)), _, _, _, _, _, _, h => h.elim
  | .branch 0 (.leaf (some (_ + 3, _, _, _, _, _))) _, _, _, _, _, _, _, h => h.elim
  | .branch 0 (.leaf none) _, _, _, _, _, _, _, h => h.elim
  | .branch 0 (.branch _ _ _) _, _, _, _, _, _, _, h => h.elim
  | .branch 1 (.leaf none) _, _, _, _, _, _, _, h => h.elim
  | .branch 1 (.branch _ _ _) _, _, _, _, _, _, _, h => h.elim
  | .branch 1 (.leaf (some (0, _, _, _, _, _))) (.leaf _), _, _, _, _, _, _, h => h.elim
  | .branch 1 (.leaf (some (_ + 1, _, _, _, _, _))) (.leaf _), _, _, _, _, _, _, h => h.elim
  | .branch 2 (.leaf none) _, _, _, _, _, _, _, h => h.elim
  | .branch 2 (.branch _ _ _) _, _, _, _, _, _, _, h => h.elim
  | .branch 2 (.leaf (some (_, _, _, _, _, _))) (.leaf _), _, _, _, _, _, _, h => h.elim
  | .branch 2 (.leaf (some (_, _, _, _, _, _))) (.branch _ _ (.leaf _)), _, _, _, _, _, _, h => h.elim
theorem cI_op_r (o : Int) : 8 ≤ cI_op o ∧ cI_op o ≤ 11 := by unfold cI_op; split <;> (try split) <;> (try split) <;> omega
/-- at a row that begins a tree's work -/
theorem cK_w {z : Nat} {kf : Nat → Int32} {bd nm : Nat} {K : List (Nat × Tm)} {x : Int32} {r m : Nat} (hr : x.toInt = (r : Int)) (ho : (S 0 r).toInt = 1 ∨ (S 0 r).toInt = 2 ∨ (S 0 r).toInt = 3 ∨ (S 0 r).toInt = 4 ∨ (S 0 r).toInt = 6) (hk : ∀ u ∈ K, cOk z kf bd nm u) (h : cKo S nx H az K x m) : ∃ (t : Tm) (K2 : List (Nat × Tm)) (zz : Int32), K = (0, t) :: K2 ∧ (S 3 r).toInt = pm_pl t ∧ cInv S nx H az z kf bd nm t r zz ∧ cKo S nx H az K2 zz m := by
  have hs : ∀ {n : Nat} {y : Int32}, cSi S nx n x y → n = 0 ∧ x = y := fun {n y} g => by
    cases n with
    | zero => exact ⟨rfl, g⟩
    | succ n =>
      obtain ⟨r2, a, b⟩ := g
      obtain rfl : r2 = r := by omega
      rcases b with ⟨b, -⟩ | ⟨b, -⟩ <;> omega
  cases K with
  | nil =>
    obtain ⟨n, y, r2, a, b, c, d⟩ := h
    obtain ⟨-, rfl⟩ := hs a
    obtain rfl : r2 = r := by omega
    omega
  | cons u K2 =>
    obtain ⟨j, t⟩ := u
    obtain ⟨n, y, zz, w, m2, a, b, c, d⟩ := h
    obtain ⟨rfl, rfl⟩ := hs a
    have ok := hk (j, t) List.mem_cons_self
    rcases b with ⟨rfl, ⟨X, b1, b2⟩, rfl⟩ | ⟨rfl, b1⟩
    · obtain ⟨s1, ⟨c0, w1, w2⟩, w3⟩ := ok
      obtain ⟨r2, e1, e2, e3⟩ := cI_inv t s1 w1 w2 w3 b1 b2
      obtain rfl : r2 = r := by omega
      exact ⟨t, K2, zz, rfl, e2, e3, by rw [show m = m2 from by omega]; exact c⟩
    · obtain ⟨r2, e1, e2⟩ := cD_inv (c := 0) t ok b1
      obtain rfl : r2 = r := by omega
      exfalso
      rcases e2 with e | e | e | e | e | e
      · have := e.1; omega
      · have := e.1; omega
      · have := e.1; omega
      · obtain ⟨-, -, -, o, e, -⟩ := e; have := cI_op_r o; omega
      · have := e.1; omega
      · have := e.1; omega
/-- at a row of what is done behind the operands -/
theorem cK_d {z : Nat} {kf : Nat → Int32} {bd nm : Nat} {K : List (Nat × Tm)} {x : Int32} {r m : Nat} (hr : x.toInt = (r : Int)) (ho : (S 0 r).toInt = 5 ∨ 7 ≤ (S 0 r).toInt ∧ (S 0 r).toInt ≤ 13 ∨ (S 0 r).toInt = 15) (hk : ∀ u ∈ K, cOk z kf bd nm u) (h : cKo S nx H az K x m) : ∃ (t : Tm) (K2 : List (Nat × Tm)) (zz : Int32) (w m2 : Nat), K = (1, t) :: K2 ∧ cDnv S nx H az z kf bd nm t r zz w ∧ cKo S nx H az K2 zz m2 ∧ m = w + m2 := by
  have hs : ∀ {n : Nat} {y : Int32}, cSi S nx n x y → n = 0 ∧ x = y := fun {n y} g => by
    cases n with
    | zero => exact ⟨rfl, g⟩
    | succ n =>
      obtain ⟨r2, a, b⟩ := g
      obtain rfl : r2 = r := by omega
      rcases b with ⟨b, -⟩ | ⟨b, -⟩ <;> omega
  cases K with
  | nil =>
    obtain ⟨n, y, r2, a, b, c, d⟩ := h
    obtain ⟨-, rfl⟩ := hs a
    obtain rfl : r2 = r := by omega
    omega
  | cons u K2 =>
    obtain ⟨j, t⟩ := u
    obtain ⟨n, y, zz, w, m2, a, b, c, d⟩ := h
    obtain ⟨rfl, rfl⟩ := hs a
    have ok := hk (j, t) List.mem_cons_self
    rcases b with ⟨rfl, ⟨X, b1, b2⟩, rfl⟩ | ⟨rfl, b1⟩
    · obtain ⟨s1, ⟨c0, w1, w2⟩, w3⟩ := ok
      obtain ⟨r2, e1, e2, e3⟩ := cI_inv t s1 w1 w2 w3 b1 b2
      obtain rfl : r2 = r := by omega
      exfalso
      rcases e3 with e | e | e | e | e <;> (have := e.1; omega)
    · obtain ⟨r2, e1, e2⟩ := cD_inv (c := 0) t ok b1
      obtain rfl : r2 = r := by omega
      exact ⟨t, K2, zz, w, m2, rfl, e2, c, by omega⟩
/-- at a function's last row -/
theorem cK_r {z : Nat} {kf : Nat → Int32} {bd nm : Nat} {K : List (Nat × Tm)} {x : Int32} {r m : Nat} (hr : x.toInt = (r : Int)) (ho : (S 0 r).toInt = 17) (hk : ∀ u ∈ K, cOk z kf bd nm u) (h : cKo S nx H az K x m) : K = [] ∧ m = 1 := by
  have hs : ∀ {n : Nat} {y : Int32}, cSi S nx n x y → n = 0 ∧ x = y := fun {n y} g => by
    cases n with
    | zero => exact ⟨rfl, g⟩
    | succ n =>
      obtain ⟨r2, a, b⟩ := g
      obtain rfl : r2 = r := by omega
      rcases b with ⟨b, -⟩ | ⟨b, -⟩ <;> omega
  cases K with
  | nil =>
    obtain ⟨n, y, r2, a, b, c, d⟩ := h
    obtain ⟨rfl, rfl⟩ := hs a
    exact ⟨rfl, d⟩
  | cons u K2 =>
    obtain ⟨j, t⟩ := u
    obtain ⟨n, y, zz, w, m2, a, b, c, d⟩ := h
    obtain ⟨rfl, rfl⟩ := hs a
    have ok := hk (j, t) List.mem_cons_self
    exfalso
    rcases b with ⟨rfl, ⟨X, b1, b2⟩, rfl⟩ | ⟨rfl, b1⟩
    · obtain ⟨s1, ⟨c0, w1, w2⟩, w3⟩ := ok
      obtain ⟨r2, e1, e2, e3⟩ := cI_inv t s1 w1 w2 w3 b1 b2
      obtain rfl : r2 = r := by omega
      rcases e3 with e | e | e | e | e <;> (have := e.1; omega)
    · obtain ⟨r2, e1, e2⟩ := cD_inv (c := 0) t ok b1
      obtain rfl : r2 = r := by omega
      rcases e2 with e | e | e | e | e | e
      · have := e.1; omega
      · have := e.1; omega
      · have := e.1; omega
      · obtain ⟨-, -, -, o, e, -⟩ := e; have := cI_op_r o; omega
      · have := e.1; omega
      · have := e.1; omega
/-- at a row that only leads on -/
theorem cK_s {z : Nat} {kf : Nat → Int32} {bd nm : Nat} {K : List (Nat × Tm)} {x : Int32} {r m : Nat} (hr : x.toInt = (r : Int)) (ho : (S 0 r).toInt = 0 ∨ (S 0 r).toInt = 14 ∨ (S 0 r).toInt = 16) (hk : ∀ u ∈ K, cOk z kf bd nm u) (h : cKo S nx H az K x m) : ∃ m2 : Nat, m = m2 + 1 ∧ ((S 0 r).toInt = 0 ∧ cKo S nx H az K (nx r) m2 ∨ (S 0 r).toInt ≠ 0 ∧ 0 ≤ (S 1 r).toInt ∧ cKo S nx H az K (nx (Int32.toNatClampNeg (S 1 r))) m2) := by
  have key : ∀ {n : Nat} {y : Int32}, cSi S nx (n + 1) x y → (S 0 r).toInt = 0 ∧ cSi S nx n (nx r) y ∨ (S 0 r).toInt ≠ 0 ∧ 0 ≤ (S 1 r).toInt ∧ cSi S nx n (nx (Int32.toNatClampNeg (S 1 r))) y := fun {n y} g => by
    obtain ⟨r2, a, b⟩ := g
    obtain rfl : r2 = r := by omega
    rcases b with ⟨b1, b2, b3⟩ | ⟨b1, b2⟩
    · exact Or.inr ⟨by omega, b2, b3⟩
    · exact Or.inl ⟨b1, b2⟩
  cases K with
  | nil =>
    obtain ⟨n, y, r2, a, b, c, d⟩ := h
    cases n with
    | zero =>
      obtain rfl : x = y := a
      obtain rfl : r2 = r := by omega
      omega
    | succ n =>
      refine ⟨n + 1, by omega, (key a).imp (fun g => ⟨g.1, n, y, r2, g.2, b, c, rfl⟩) (fun g => ⟨g.1, g.2.1, n, y, r2, g.2.2, b, c, rfl⟩)⟩
  | cons u K2 =>
    obtain ⟨j, t⟩ := u
    obtain ⟨n, y, zz, w, m2, a, b, c, d⟩ := h
    cases n with
    | zero =>
      obtain rfl : x = y := a
      have ok := hk (j, t) List.mem_cons_self
      exfalso
      rcases b with ⟨rfl, ⟨X, b1, b2⟩, rfl⟩ | ⟨rfl, b1⟩
      · obtain ⟨s1, ⟨c0, w1, w2⟩, w3⟩ := ok
        obtain ⟨r2, e1, e2, e3⟩ := cI_inv t s1 w1 w2 w3 b1 b2
        obtain rfl : r2 = r := by omega
        rcases e3 with e | e | e | e | e <;> (have := e.1; omega)
      · obtain ⟨r2, e1, e2⟩ := cD_inv (c := 0) t ok b1
        obtain rfl : r2 = r := by omega
        rcases e2 with e | e | e | e | e | e
        · have := e.1; omega
        · have := e.1; omega
        · have := e.1; omega
        · obtain ⟨-, -, -, o, e, -⟩ := e; have := cI_op_r o; omega
        · have := e.1; omega
        · have := e.1; omega
    | succ n =>
      refine ⟨n + w + m2, by omega, (key a).imp (fun g => ⟨g.1, n, y, zz, w, m2, g.2, b, c, rfl⟩) (fun g => ⟨g.1, g.2.1, n, y, zz, w, m2, g.2.2, b, c, rfl⟩)⟩
end
