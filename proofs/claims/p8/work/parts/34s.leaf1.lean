/-! what a program is, over a row of tokens: T their sorts, V their words; a place is a token's number -/
/-- the first below n at which f is w, else n -/
def sp_fi (f : Nat → Int64) (w : Int64) : Nat → Nat
  | 0 => 0
  | n + 1 => if sp_fi f w n < n then sp_fi f w n else if f n = w then n else n + 1
theorem sp_fi_le {f : Nat → Int64} {w : Int64} : ∀ n : Nat, sp_fi f w n ≤ n
  | 0 => Nat.le_refl _
  | n + 1 => by
    have := sp_fi_le (f := f) (w := w) n
    unfold sp_fi
    split
    · omega
    · split <;> omega
theorem sp_fi_at {f : Nat → Int64} {w : Int64} : ∀ n : Nat, sp_fi f w n < n → f (sp_fi f w n) = w
  | 0, h => absurd h (Nat.not_lt_zero _)
  | n + 1, h => by
    unfold sp_fi at h ⊢
    split
    · rename_i g; exact sp_fi_at n g
    · rename_i g
      rw [if_neg g] at h
      split
      · assumption
      · rename_i g2; rw [if_neg g2] at h; omega
theorem sp_fi_ne {f : Nat → Int64} {w : Int64} : ∀ (n j : Nat), j < sp_fi f w n → f j ≠ w
  | 0, j, h => absurd h (Nat.not_lt_zero _)
  | n + 1, j, h => by
    have hl := sp_fi_le (f := f) (w := w) n
    unfold sp_fi at h
    split at h
    · exact sp_fi_ne n j h
    · rename_i g
      have e : sp_fi f w n = n := by omega
      split at h
      · exact sp_fi_ne n j (by omega)
      · rename_i g2
        by_cases u : j = n
        · rw [u]; exact g2
        · exact sp_fi_ne n j (by omega)
theorem sp_fi_eq {f : Nat → Int64} {w : Int64} {n k : Nat} (hk : k ≤ n) (h1 : ∀ j, j < k → f j ≠ w) (h2 : k = n ∨ f k = w) : sp_fi f w n = k := by
  have hl := sp_fi_le (f := f) (w := w) n
  rcases Nat.lt_trichotomy (sp_fi f w n) k with h | h | h
  · exact absurd (sp_fi_at n (by omega)) (h1 _ h)
  · exact h
  · rcases h2 with rfl | h2
    · omega
    · exact absurd h2 (sp_fi_ne n k h)
theorem sp_fi_none {f : Nat → Int64} {w : Int64} {n : Nat} (h1 : ∀ j, j < n → f j ≠ w) : sp_fi f w n = n := sp_fi_eq (Nat.le_refl _) h1 (Or.inl rfl)
theorem sp_fi_cg {f g : Nat → Int64} {w v : Int64} {n : Nat} (h : ∀ j, j < n → (f j = w ↔ g j = v)) : sp_fi f w n = sp_fi g v n := by
  have hl := sp_fi_le (f := g) (w := v) n
  refine sp_fi_eq hl (fun j hj e => sp_fi_ne n j hj ((h j (by omega)).mp e)) ?_
  by_cases u : sp_fi g v n = n
  · exact Or.inl u
  · exact Or.inr ((h _ (by omega)).mpr (sp_fi_at n (by omega)))
/-- the token, the kinds (how many, words, fields), the calls -/
abbrev sp_S := Nat × Nat × (Nat → Int64) × (Nat → Int32) × List (Int64 × Int)
def sp_to (s : sp_S) (a : Nat) : sp_S := (a, s.2)
def sp_ca (s : sp_S) (w : Int64) (n : Int) : sp_S := (s.1, s.2.1, s.2.2.1, s.2.2.2.1, s.2.2.2.2 ++ [(w, n)])
/-- the kind at hand: its number -/
def sp_ki (V : Nat → Int64) (s : sp_S) : Option (Nat × sp_S) :=
  if sp_fi s.2.2.1 (V s.1) s.2.1 < s.2.1 then some (sp_fi s.2.2.1 (V s.1) s.2.1, s)
  else if 20 ≤ s.2.1 then none
  else some (s.2.1, (s.1, s.2.1 + 1, vp_updL s.2.2.1 s.2.1 (V s.1), upd s.2.2.2.1 s.2.1 (-1), s.2.2.2.2))
/-- a kind told to its end with n fields -/
def sp_te (k : Nat) (n : Int) (s : sp_S) : Option sp_S :=
  if (s.2.2.2.1 k).toInt = -1 then some (s.1, s.2.1, s.2.2.1, upd s.2.2.2.1 k (Int32.ofInt n), s.2.2.2.2)
  else if (s.2.2.2.1 k).toInt = n then some s else none
/-- a program's text as a tree; rows of arguments, of arms are nil and cons -/
abbrev Tm := Lean.RArray (Option (Nat × Int × Int × Nat × Nat × Int64))
abbrev Tm.nil : Tm := Lean.RArray.leaf none
abbrev Tm.num (p v : Int) : Tm := Lean.RArray.leaf (some (0, p, v, 0, 0, 0))
abbrev Tm.use (p : Int) (s : Nat) : Tm := Lean.RArray.leaf (some (1, p, 0, s, 0, 0))
abbrev Tm.call (p : Int) (w : Int64) (a : Tm) : Tm := Lean.RArray.branch 0 (Lean.RArray.leaf (some (0, p, 0, 0, 0, w))) a
abbrev Tm.made (p : Int) (k : Nat) (a : Tm) : Tm := Lean.RArray.branch 0 (Lean.RArray.leaf (some (1, p, 0, k, 0, 0))) a
abbrev Tm.mat (p : Int) (s : Nat) (a : Tm) : Tm := Lean.RArray.branch 0 (Lean.RArray.leaf (some (2, p, 0, s, 0, 0))) a
abbrev Tm.arm (p k : Int) (h m : Nat) (a : Tm) : Tm := Lean.RArray.branch 0 (Lean.RArray.leaf (some (3, p, k, h, m, 0))) a
abbrev Tm.bin (p o : Int) (a b : Tm) : Tm := Lean.RArray.branch 1 (Lean.RArray.leaf (some (0, p, o, 0, 0, 0))) (Lean.RArray.branch 0 a b)
abbrev Tm.tlet (p : Int) (s : Nat) (a b : Tm) : Tm := Lean.RArray.branch 1 (Lean.RArray.leaf (some (1, p, 0, s, 0, 0))) (Lean.RArray.branch 0 a b)
abbrev Tm.ite (p : Int) (a b c : Tm) : Tm := Lean.RArray.branch 2 (Lean.RArray.leaf (some (0, p, 0, 0, 0, 0))) (Lean.RArray.branch 0 a (Lean.RArray.branch 0 b c))
abbrev Tm.cons (a b : Tm) : Tm := Lean.RArray.branch 3 a b
/-- one more behind a row -/
def tm_sn : Tm → Tm → Tm
  | .branch (_ + 3) a b, t => Tm.cons a (tm_sn b t)
  | _, t => Tm.cons t Tm.nil
def tm_ln : Tm → Nat
  | .branch (_ + 3) _ b => tm_ln b + 1
  | _ => 0
theorem tm_ln_sn (t : Tm) : ∀ a : Tm, tm_ln (tm_sn a t) = tm_ln a + 1
  | .branch (_ + 3) a b => by
    show tm_ln (tm_sn b t) + 1 = tm_ln b + 1 + 1
    rw [tm_ln_sn t b]
  | .leaf (some (0, _, _, _, _, _)) => rfl
  | .leaf (some (_ + 1, _, _, _, _, _)) => rfl
  | .branch 0 (.leaf (some (0, _, _, _, _, _))) _ => rfl
  | .branch 0 (.leaf (some (1, _, _, _, _, _))) _ => rfl
  | .branch 1 (.leaf (some (0, _, _, _, _, _))) (.branch _ _ _) => rfl
  | .branch 1 (.leaf (some (_ + 1, _, _, _, _, _))) (.branch _ _ _) => rfl
  | .branch 2 (.leaf (some (_, _, _, _, _, _))) (.branch _ _ (.branch _ _ _)) => rfl
  | .branch 0 (.leaf (some (2, _, _, _, _, _))) _ => rfl
  | .branch 0 (.leaf (some (_ + 3, _, _, _, _, _))) _ => rfl
  | .leaf none => rfl
  | .branch 0 (.leaf none) _ => rfl
  | .branch 0 (.branch _ _ _) _ => rfl
  | .branch 1 (.leaf none) _ => rfl
  | .branch 1 (.branch _ _ _) _ => rfl
  | .branch 1 (.leaf (some (0, _, _, _, _, _))) (.leaf _) => rfl
  | .branch 1 (.leaf (some (_ + 1, _, _, _, _, _))) (.leaf _) => rfl
  | .branch 2 (.leaf none) _ => rfl
  | .branch 2 (.branch _ _ _) _ => rfl
  | .branch 2 (.leaf (some (_, _, _, _, _, _))) (.leaf _) => rfl
  | .branch 2 (.leaf (some (_, _, _, _, _, _))) (.branch _ _ (.leaf _)) => rfl
/-- where a name stands among the names around -/
def sp_ix : List Int64 → Int64 → Nat
  | [], _ => 0
  | a :: l, w => if a = w then 0 else sp_ix l w + 1
theorem sp_ix_eq : ∀ {L : List Int64} {w : Int64} {j : Nat}, L[j]? = some w → (∀ i, i < j → L[i]? ≠ some w) → sp_ix L w = j
  | [], w, j, h, _ => by simp at h
  | a :: l, w, 0, h, _ => by
    have e : a = w := by simpa using h
    unfold sp_ix; rw [if_pos e]
  | a :: l, w, j + 1, h, hn => by
    have e : ¬ a = w := fun e => hn 0 (by omega) (by simp [e])
    unfold sp_ix; rw [if_neg e, sp_ix_eq (L := l) (j := j) (by simpa using h) (fun i hi => by have := hn (i + 1) (by omega); simpa using this)]
/-- a pattern's names, from its bracket or comma on -/
def sp_pn (T : Nat → Int32) (V : Nat → Int64) : Nat → List Int64 → Nat → Option (List Int64 × Nat)
  | 0, _, _ => none
  | n + 1, N, a =>
    if (T (a + 1)).toInt = 258 ∧ V (a + 1) ∉ N ∧ N.length < 24 then
      if (T (a + 2)).toInt = 44 then sp_pn T V n (N ++ [V (a + 1)]) (a + 2)
      else if (T (a + 2)).toInt = 41 then some (N ++ [V (a + 1)], a + 3) else none
    else none
/-- a pattern, from its kind on -/
def sp_pa (T : Nat → Int32) (V : Nat → Int64) (N : List Int64) (k : Nat) (s : sp_S) : Option (List Int64 × sp_S) :=
  if (T (s.1 + 1)).toInt = 40 then (sp_pn T V 3 N (s.1 + 1)).bind fun q => (sp_te k ((q.1.length : Int) - N.length) (sp_to s q.2)).bind fun s2 => some (q.1, s2)
  else (sp_te k 0 (sp_to s (s.1 + 1))).bind fun s2 => some (N, s2)
/-- arguments, from the bracket or comma on; c so far -/
def sp_ar (T : Nat → Int32) (E : List Int64 → sp_S → Option (Tm × sp_S)) (most : Nat) (N : List Int64) : Nat → Tm → sp_S → Option (Tm × sp_S)
  | 0, _, _ => none
  | n + 1, c, s =>
    if tm_ln c < most then (E N (sp_to s (s.1 + 1))).bind fun q =>
      if (T q.2.1).toInt = 44 then sp_ar T E most N n (tm_sn c q.1) q.2
      else if (T q.2.1).toInt = 41 then some (tm_sn c q.1, sp_to q.2 (q.2.1 + 1)) else none
    else none
def sp_at (T P : Nat → Int32) (V : Nat → Int64) (E : List Int64 → sp_S → Option (Tm × sp_S)) (N : List Int64) (s : sp_S) : Option (Tm × sp_S) :=
  if (T s.1).toInt = 260 then some (Tm.num (P s.1).toInt (Int64.toInt32 (V s.1)).toInt, sp_to s (s.1 + 1))
  else if (T s.1).toInt = 258 then
    if (T (s.1 + 1)).toInt = 40 then (sp_ar T E 2000 N 2001 Tm.nil (sp_to s (s.1 + 1))).bind fun q => some (Tm.call (P s.1).toInt (V s.1) q.1, sp_ca q.2 (V s.1) (tm_ln q.1 : Int))
    else if V s.1 ∈ N then some (Tm.use (P s.1).toInt (sp_ix N (V s.1)), sp_to s (s.1 + 1)) else some (Tm.call (P s.1).toInt (V s.1) Tm.nil, sp_ca (sp_to s (s.1 + 1)) (V s.1) 0)
  else if (T s.1).toInt = 259 then (sp_ki V s).bind fun q =>
    if (T (s.1 + 1)).toInt = 40 then (sp_ar T E 3 N 2001 Tm.nil (sp_to q.2 (s.1 + 1))).bind fun q2 => (sp_te q.1 (tm_ln q2.1 : Int) q2.2).bind fun s3 => some (Tm.made (P s.1).toInt q.1 q2.1, s3)
    else (sp_te q.1 0 (sp_to q.2 (s.1 + 1))).bind fun s3 => some (Tm.made (P s.1).toInt q.1 Tm.nil, s3)
  else if (T s.1).toInt = 40 then (E N (sp_to s (s.1 + 1))).bind fun q => if (T q.2.1).toInt = 41 then some (q.1, sp_to q.2 (q.2.1 + 1)) else none
  else none
def sp_prL (T P : Nat → Int32) (V : Nat → Int64) (E : List Int64 → sp_S → Option (Tm × sp_S)) (N : List Int64) : Nat → Tm × sp_S → Option (Tm × sp_S)
  | 0, _ => none
  | n + 1, s => if (T s.2.1).toInt = 42 then (sp_at T P V E N (sp_to s.2 (s.2.1 + 1))).bind fun q => sp_prL T P V E N n (Tm.bin (P s.2.1).toInt 42 s.1 q.1, q.2) else some s
def sp_pt (T P : Nat → Int32) (V : Nat → Int64) (E : List Int64 → sp_S → Option (Tm × sp_S)) (N : List Int64) (s : sp_S) : Option (Tm × sp_S) := (sp_at T P V E N s).bind (sp_prL T P V E N 2001)
def sp_smL (T P : Nat → Int32) (V : Nat → Int64) (E : List Int64 → sp_S → Option (Tm × sp_S)) (N : List Int64) : Nat → Tm × sp_S → Option (Tm × sp_S)
  | 0, _ => none
  | n + 1, s => if (T s.2.1).toInt = 43 ∨ (T s.2.1).toInt = 45 then (sp_pt T P V E N (sp_to s.2 (s.2.1 + 1))).bind fun q => sp_smL T P V E N n (Tm.bin (P s.2.1).toInt (T s.2.1).toInt s.1 q.1, q.2) else some s
def sp_sm (T P : Nat → Int32) (V : Nat → Int64) (E : List Int64 → sp_S → Option (Tm × sp_S)) (N : List Int64) (s : sp_S) : Option (Tm × sp_S) := (sp_pt T P V E N s).bind (sp_smL T P V E N 2001)
def sp_cm (T P : Nat → Int32) (V : Nat → Int64) (E : List Int64 → sp_S → Option (Tm × sp_S)) (N : List Int64) (s : sp_S) : Option (Tm × sp_S) :=
  (sp_sm T P V E N s).bind fun s1 => if (T s1.2.1).toInt = 60 then (sp_sm T P V E N (sp_to s1.2 (s1.2.1 + 1))).bind fun q => some (Tm.bin (P s1.2.1).toInt 60 s1.1 q.1, q.2) else some s1
def sp_le (T P : Nat → Int32) (V : Nat → Int64) (E : List Int64 → sp_S → Option (Tm × sp_S)) (N : List Int64) (s : sp_S) : Option (Tm × sp_S) :=
  if (T (s.1 + 1)).toInt = 258 ∧ V (s.1 + 1) ∉ N ∧ N.length < 24 then
    if (T (s.1 + 2)).toInt = 61 then (E N (sp_to s (s.1 + 3))).bind fun s1 => if (T s1.2.1).toInt = 263 then (E (N ++ [V (s.1 + 1)]) (sp_to s1.2 (s1.2.1 + 1))).bind fun s2 => some (Tm.tlet (P s.1).toInt N.length s1.1 s2.1, s2.2) else none
    else none
  else none
def sp_if (T P : Nat → Int32) (E : List Int64 → sp_S → Option (Tm × sp_S)) (N : List Int64) (s : sp_S) : Option (Tm × sp_S) :=
  (E N (sp_to s (s.1 + 1))).bind fun s1 => if (T s1.2.1).toInt = 265 then (E N (sp_to s1.2 (s1.2.1 + 1))).bind fun s2 => if (T s2.2.1).toInt = 266 then (E N (sp_to s2.2 (s2.2.1 + 1))).bind fun s3 => some (Tm.ite (P s.1).toInt s1.1 s2.1 s3.1, s3.2) else none else none
/-- what is behind an arm's names -/
def sp_ab (T : Nat → Int32) (E : List Int64 → sp_S → Option (Tm × sp_S)) (N : List Int64) (s : sp_S) : Option (Tm × sp_S) := if (T s.1).toInt = 261 then E N (sp_to s (s.1 + 1)) else none
/-- one arm; -2 for all kinds -/
def sp_am (T P : Nat → Int32) (V : Nat → Int64) (E : List Int64 → sp_S → Option (Tm × sp_S)) (L : List Int64) (Q : List Nat) (s : sp_S) : Option (Int × Tm × sp_S) :=
  if (T s.1).toInt = 95 then (sp_ab T E L (sp_to s (s.1 + 1))).bind fun s2 => some (-2, Tm.arm (P s.1).toInt (-1) L.length 0 s2.1, s2.2)
  else if (T s.1).toInt = 259 then (sp_ki V s).bind fun q => if q.1 ∈ Q then none else (sp_pa T V L q.1 q.2).bind fun p => (sp_ab T E p.1 p.2).bind fun s2 => some ((q.1 : Int), Tm.arm (P s.1).toInt (q.1 : Int) L.length (p.1.length - L.length) s2.1, s2.2)
  else none
/-- n arms at most, from the first token of one on -/
def sp_as (T P : Nat → Int32) (V : Nat → Int64) (E : List Int64 → sp_S → Option (Tm × sp_S)) (N : List Int64) : Nat → List Nat → Tm → sp_S → Option (Tm × sp_S)
  | 0, _, _, _ => none
  | n + 1, seen, c, s => (sp_am T P V E N seen s).bind fun r =>
    if r.1 = -2 then (if (T r.2.2.1).toInt = 125 then some (tm_sn c r.2.1, sp_to r.2.2 (r.2.2.1 + 1)) else none)
    else if (T r.2.2.1).toInt = 124 then sp_as T P V E N n (r.1.toNat :: seen) (tm_sn c r.2.1) (sp_to r.2.2 (r.2.2.1 + 1))
    else if (T r.2.2.1).toInt = 125 then some (tm_sn c r.2.1, sp_to r.2.2 (r.2.2.1 + 1)) else none
def sp_ma (T P : Nat → Int32) (V : Nat → Int64) (E : List Int64 → sp_S → Option (Tm × sp_S)) (N : List Int64) (s : sp_S) : Option (Tm × sp_S) :=
  if (T (s.1 + 1)).toInt = 258 ∧ V (s.1 + 1) ∈ N then if (T (s.1 + 2)).toInt = 123 then (sp_as T P V E N 8 [] Tm.nil (sp_to s (s.1 + 3))).bind fun q => some (Tm.mat (P s.1).toInt (sp_ix N (V (s.1 + 1))) q.1, q.2) else none else none
def sp_e (T P : Nat → Int32) (V : Nat → Int64) (E : List Int64 → sp_S → Option (Tm × sp_S)) (N : List Int64) (s : sp_S) : Option (Tm × sp_S) :=
  if (T s.1).toInt = 262 then sp_le T P V E N s else if (T s.1).toInt = 264 then sp_if T P E N s else if (T s.1).toInt = 267 then sp_ma T P V E N s else sp_cm T P V E N s
/-- an expression, f deep at most -/
def sp_E (T P : Nat → Int32) (V : Nat → Int64) : Nat → List Int64 → sp_S → Option (Tm × sp_S)
  | 0, _, _ => none
  | f + 1, N, s => sp_e T P V (sp_E T P V f) N s
def sp_tn (T : Nat → Int32) (V : Nat → Int64) : Nat → List Int64 → Nat → Option (List Int64 × Nat)
  | n, N, a => if (T a).toInt = 258 then
      match n with
      | 0 => none
      | n + 1 => if V a ∉ N then sp_tn T V n (N ++ [V a]) (a + 1) else none
    else some (N, a)
/-- the functions: how many, words, names told, trees -/
abbrev sp_F := Nat × (Nat → Int64) × (Nat → Int) × (Nat → Tm)
def sp_df (T P : Nat → Int32) (V : Nat → Int64) (s : sp_S) (F : sp_F) : Option (sp_S × sp_F) :=
  if (T s.1).toInt = 268 ∧ F.1 < 30 then
    if (T (s.1 + 1)).toInt = 258 ∧ sp_fi F.2.1 (V (s.1 + 1)) F.1 = F.1 then (sp_tn T V 6 [] (s.1 + 2)).bind fun q =>
      if (T q.2).toInt = 61 then (sp_E T P V 30 q.1 (sp_to s (q.2 + 1))).bind fun s2 =>
        if (T s2.2.1).toInt = 59 then some (sp_to s2.2 (s2.2.1 + 1), (F.1 + 1, vp_updL F.2.1 F.1 (V (s.1 + 1)), (fun k => if k = F.1 then (q.1.length : Int) else F.2.2.1 k), fun k => if k = F.1 then s2.1 else F.2.2.2 k)) else none
      else none
    else none
  else none
def sp_ds (T P : Nat → Int32) (V : Nat → Int64) : Nat → sp_S → sp_F → Option (sp_S × sp_F)
  | 0, _, _ => none
  | n + 1, s, F => (sp_df T P V s F).bind fun r => if (T r.1.1).toInt = 256 then some r else sp_ds T P V n r.1 r.2
/-- a program: its kinds, its functions -/
def sp_pg (T P : Nat → Int32) (V : Nat → Int64) (s : sp_S) (F : sp_F) : Option (sp_S × sp_F) :=
  (sp_ds T P V 31 s F).bind fun r => if ∀ c ∈ r.1.2.2.2.2, sp_fi r.2.2.1 c.1 r.2.1 < r.2.1 ∧ r.2.2.2.1 (sp_fi r.2.2.1 c.1 r.2.1) = c.2 then some r else none
theorem lc_rf {x : Int64} : (lg_cmp x x).toInt = 0 := by rw [(lg_cmp_eq x x).mpr rfl]; rfl
theorem lc_eq {x y : Int64} (h : (lg_cmp x y).toInt = 0) : x = y := (lg_cmp_eq x y).mp (Int32.toInt_inj.mp h)
theorem sp_no1 {f : Nat → Int64} {w : Int64} {i x : Int32} (h : ∀ j : Nat, (j : Int) < i.toInt → f j ≠ w) (h0 : 0 ≤ i.toInt) (hx : x.toInt = i.toInt + 1) (hn : f (Int32.toNatClampNeg i) ≠ w) : ∀ j : Nat, (j : Int) < x.toInt → f j ≠ w := fun j hj => by
  have := zn_nat h0
  by_cases u : j = Int32.toNatClampNeg i
  · rw [u]; exact hn
  · exact h j (by omega)
/-- what a search says -/
def sp_fd (f : Nat → Int64) (w : Int64) (z r : Int32) : Prop := sp_fi f w (Int32.toNatClampNeg z) = if r.toInt = -1 then Int32.toNatClampNeg z else Int32.toNatClampNeg r
theorem sp_fd_n {f : Nat → Int64} {w : Int64} {z r : Int32} (h0 : 0 ≤ z.toInt) (hr : r.toInt = -1) (h : ∀ j : Nat, (j : Int) < z.toInt → f j ≠ w) : sp_fd f w z r := by
  have := zn_nat h0
  unfold sp_fd
  rw [if_pos hr]
  exact sp_fi_none (fun j hj => h j (by omega))
theorem sp_fd_y {f : Nat → Int64} {w : Int64} {z r : Int32} (h0 : 0 ≤ r.toInt) (h1 : r.toInt < z.toInt) (hf : f (Int32.toNatClampNeg r) = w) (h : ∀ j : Nat, (j : Int) < r.toInt → f j ≠ w) : sp_fd f w z r := by
  have := zn_nat h0
  have := zn_nat (x := z) (by omega)
  unfold sp_fd
  rw [if_neg (by omega)]
  exact sp_fi_eq (by omega) (fun j hj => h j (by omega)) (Or.inr hf)
/-- the names around, in their row -/
def sp_nl (gn : Nat → Int64) (ar : Int32) (L : List Int64) : Prop := (L.length : Int) = ar.toInt ∧ ∀ k : Nat, k < L.length → L[k]? = some (gn k)
theorem sp_nl_mem {gn : Nat → Int64} {ar : Int32} {L : List Int64} (h : sp_nl gn ar L) {w : Int64} : w ∈ L ↔ ∃ k : Nat, (k : Int) < ar.toInt ∧ gn k = w := by
  constructor
  · intro g
    obtain ⟨k, hk, e⟩ := List.mem_iff_getElem.mp g
    refine ⟨k, by have := h.1; omega, ?_⟩
    have := h.2 k hk
    rw [List.getElem?_eq_getElem hk, e] at this
    exact (Option.some.inj this).symm
  · rintro ⟨k, hk, e⟩
    have hk2 : k < L.length := by have := h.1; omega
    have := h.2 k hk2
    rw [e] at this
    exact List.mem_of_getElem? this
theorem sp_nl_ap {gn gn2 : Nat → Int64} {ar ar2 : Int32} {L : List Int64} {w : Int64} (h : sp_nl gn ar L) (e : gn2 = vp_updL gn (Int32.toNatClampNeg ar) w) (ha : ar2.toInt = ar.toInt + 1) : sp_nl gn2 ar2 (L ++ [w]) := by
  have h0 := h.1
  have hn := zn_nat (x := ar) (by omega)
  refine ⟨by rw [List.length_append]; show ((L.length + 1 : Nat) : Int) = _; omega, fun k hk => ?_⟩
  rw [List.length_append] at hk
  have hk : k < L.length + 1 := hk
  by_cases u : k = L.length
  · have e2 : Int32.toNatClampNeg ar = L.length := by omega
    rw [u, e, e2]
    simp [vp_updL]
  · have e2 : k ≠ Int32.toNatClampNeg ar := by omega
    rw [List.getElem?_append_left (by omega), h.2 k (by omega), e]
    simp [vp_updL, e2]
theorem sp_nl_dn {gn : Nat → Int64} {ar ar2 : Int32} {L M : List Int64} (h : sp_nl gn ar (L ++ M)) (ha : (L.length : Int) = ar2.toInt) : sp_nl gn ar2 L := ⟨ha, fun k hk => by
  have := h.2 k (by rw [List.length_append]; omega)
  rw [List.getElem?_append_left hk] at this
  exact this⟩
/-- is it a name around? -/
def sp_in (r : Int32) (w : Int64) (L : List Int64) : Prop := (r.toInt = -1 → w ∉ L) ∧ (r.toInt ≠ -1 → w ∈ L ∧ r.toInt = (sp_ix L w : Int))
theorem sp_in_n {gn : Nat → Int64} {ar r : Int32} {L : List Int64} {w : Int64} (h : sp_nl gn ar L) (hr : r.toInt = -1) (hno : ∀ j : Nat, (j : Int) < ar.toInt → gn j ≠ w) : sp_in r w L := ⟨fun _ g => by
  obtain ⟨k, hk, e⟩ := (sp_nl_mem h).mp g
  exact hno k hk e, fun g => absurd hr g⟩
theorem sp_in_y {gn : Nat → Int64} {ar r : Int32} {L : List Int64} {w : Int64} (h : sp_nl gn ar L) (h0 : 0 ≤ r.toInt) (h1 : r.toInt < ar.toInt) (e : gn (Int32.toNatClampNeg r) = w) (hno : ∀ j : Nat, (j : Int) < r.toInt → gn j ≠ w) : sp_in r w L := ⟨fun g => by omega, fun _ => ⟨(sp_nl_mem h).mpr ⟨_, by have := zn_nat h0; omega, e⟩, by
  have hn := zn_nat h0
  have hl := h.1
  rw [sp_ix_eq (j := Int32.toNatClampNeg r) (by rw [h.2 _ (by omega), e]) (fun i hi q => hno i (by omega) (by rw [h.2 i (by omega)] at q; exact Option.some.inj q))]; exact hn.symm⟩⟩
/-- a name may be told here -/
def sp_nn (so : Int32) (wd : Int64) (ar : Int32) (L : List Int64) : Prop := so.toInt = 258 ∧ wd ∉ L ∧ ar.toInt < 24
/-- the word at hand -/
def sp_wd (gw : Nat → Int64) (pa : Int32) (wd : Int64) : Prop := wd = gw (Int32.toNatClampNeg pa)
def sp_bg (so : Int32) : Prop := so.toInt = 262 ∨ so.toInt = 264 ∨ so.toInt = 267 ∨ so.toInt = 260 ∨ so.toInt = 258 ∨ so.toInt = 259 ∨ so.toInt = 40
/-- the kind at hand -/
def sp_kh (wd : Int64) (kz : Int32) (kw : Nat → Int64) (kf : Nat → Int32) (o : Option (Int32 × Int32 × (Nat → Int64) × (Nat → Int32))) : Prop := ∀ (V : Nat → Int64) (a : Nat) (C : List (Int64 × Int)), V a = wd → sp_ki V (a, Int32.toNatClampNeg kz, kw, kf, C) = o.map (fun q => (Int32.toNatClampNeg q.1, (a, Int32.toNatClampNeg q.2.1, q.2.2.1, q.2.2.2, C)))
theorem sp_kh_y {wd : Int64} {kz r : Int32} {kw : Nat → Int64} {kf : Nat → Int32} (h : sp_fd kw wd kz r) (h0 : 0 ≤ r.toInt) (h1 : r.toInt < kz.toInt) : sp_kh wd kz kw kf (some (r, kz, kw, kf)) := fun V a C e => by
  have := zn_nat h0
  have := zn_nat (x := kz) (by omega)
  unfold sp_fd at h
  rw [if_neg (by omega)] at h
  unfold sp_ki
  simp only [e, h]
  rw [if_pos (by omega)]; rfl
theorem sp_kh_a {wd : Int64} {kz r q kz2 : Int32} {kw kw2 : Nat → Int64} {kf kf2 : Nat → Int32} (h : sp_fd kw wd kz q) (hq : q.toInt = -1) (h0 : 0 ≤ kz.toInt) (h20 : kz.toInt < 20) (er : r.toInt = kz.toInt) (ez : kz2.toInt = kz.toInt + 1) (ew : kw2 = vp_updL kw (Int32.toNatClampNeg kz) wd) (ef : kf2 = upd kf (Int32.toNatClampNeg kz) (-1)) : sp_kh wd kz kw kf (some (r, kz2, kw2, kf2)) := fun V a C e => by
  have := zn_nat h0
  have := zn_nat (x := kz2) (by omega)
  have e1 : Int32.toNatClampNeg kz2 = Int32.toNatClampNeg kz + 1 := by omega
  have e2 : r = kz := Int32.toInt_inj.mp er
  unfold sp_fd at h
  rw [if_pos hq] at h
  unfold sp_ki
  simp only [e, h]
  rw [if_neg (by omega), if_neg (by omega), ← ew, ← ef, ← e1, e2]; rfl
theorem sp_kh_x {wd : Int64} {kz q : Int32} {kw : Nat → Int64} {kf : Nat → Int32} (h : sp_fd kw wd kz q) (hq : q.toInt = -1) (h20 : 20 ≤ kz.toInt) : sp_kh wd kz kw kf none := fun V a C e => by
  have := zn_nat (x := kz) (by omega)
  unfold sp_fd at h
  rw [if_pos hq] at h
  unfold sp_ki
  simp only [e, h]
  rw [if_neg (by omega), if_pos (by omega)]; rfl
/-- a kind told to its end -/
def sp_td (ki fi : Int32) (kf : Nat → Int32) (o : Option (Nat → Int32)) : Prop := ∀ (a z : Nat) (kw : Nat → Int64) (C : List (Int64 × Int)), sp_te (Int32.toNatClampNeg ki) fi.toInt (a, z, kw, kf, C) = o.map (fun q => (a, z, kw, q, C))
theorem sp_td_1 {ki fi : Int32} {kf kf2 : Nat → Int32} (h : (kf (Int32.toNatClampNeg ki)).toInt = -1) (e : kf2 = upd kf (Int32.toNatClampNeg ki) fi) : sp_td ki fi kf (some kf2) := fun a z kw C => by
  unfold sp_te
  rw [if_pos h, Int32.ofInt_toInt, ← e]; rfl
theorem sp_td_2 {ki fi : Int32} {kf : Nat → Int32} (h : (kf (Int32.toNatClampNeg ki)).toInt ≠ -1) (e : (kf (Int32.toNatClampNeg ki)).toInt = fi.toInt) : sp_td ki fi kf (some kf) := fun a z kw C => by
  unfold sp_te
  rw [if_neg h, if_pos e]; rfl
theorem sp_td_x {ki fi : Int32} {kf : Nat → Int32} (h : (kf (Int32.toNatClampNeg ki)).toInt ≠ -1) (e : (kf (Int32.toNatClampNeg ki)).toInt ≠ fi.toInt) : sp_td ki fi kf none := fun a z kw C => by
  unfold sp_te
  rw [if_neg h, if_neg e]; rfl

set_option maxHeartbeats 4000000 in
set_option maxRecDepth 100000 in
theorem c_X4_find_s (l : Launch) (dC : Nat → ClassId) (dI : Nat → Nat → Nat) (aK aV : Nat → Nat) (h0 : Nat) (kw : Nat) (kf : Nat) (k1 : ClassId) (k2 : ClassId) (z : Int32) (gw : Nat → Int64) (gf : Nat → Int32) (nm : Int64) (sz : Nat) (hz0 : 0 ≤ z.toInt) (hz1 : z.toInt ≤ 20) : Met l yX4_find (Cond.code yX4_find cX4_find 4 (some .int) :: zw) ({ frames := 8, cells := 0, slots := 0, locals := 200 }) (va_Pc [.ref h0, .long nm] (zP dC dI aK aV sz [(k1, .long), (k2, .int)] [(h0, .inr (4, [.ref kw, .ref kf, .int z])), (kw, .inl (k1, 20, .inr (.inl gw))), (kf, .inl (k2, 20, .inl gf))])) (va_Qi (fun (r : Int32) (u : Unit) => (-1 ≤ r.toInt) ∧ (r.toInt < z.toInt) ∧ (sp_fd gw nm z r)) (fun u => zQ dC dI (va_A [(h0, .inr (4, [.ref kw, .ref kf, .int z])), (kw, .inl (k1, 20, .inr (.inl gw))), (kf, .inl (k2, 20, .inl gf))] sz) [(k1, .long), (k2, .int)] [(h0, .inr (4, [.ref kw, .ref kf, .int z])), (kw, .inl (k1, 20, .inr (.inl gw))), (kf, .inl (k2, 20, .inl gf))]) (va_A [(h0, .inr (4, [.ref kw, .ref kf, .int z])), (kw, .inl (k1, 20, .inr (.inl gw))), (kf, .inl (k2, 20, .inl gf))] sz)) 0 0 (va_A [(h0, .inr (4, [.ref kw, .ref kf, .int z])), (kw, .inl (k1, 20, .inr (.inl gw))), (kf, .inl (k2, 20, .inl gf))] sz) := by
  refine Met.ofW (cc := cX4_find) (maxL := 4) (ret := (some .int)) (by decide) rfl ?_
  intro p e s m args below meth c s₁ B hml hv
  obtain ⟨rfl, hsz, hP, hK, hD0, hN, hT⟩ := hv
  have hx := B.exec
  have hb := B.bytes
  have hr := B.returns
  have hts := atoms_spec (ws := Cond.code yX4_find cX4_find 4 (some .int) :: zw) B.pre
  have hA : ∀ w ∈ zw, w.before _ s = true := fun w h => hts w (List.mem_cons_of_mem _ h)
  have hown : s.vm.findClass RX4 = some m.cls := findClass_of_methodNamed B.named
  have hlocks := B.notSynchronized
  subst hsz
  have hD := hD0.self (sz := s.heap.size)
  generalize hAe : va_A [(h0, .inr (4, [.ref kw, .ref kf, .int z])), (kw, .inl (k1, 20, .inr (.inl gw))), (kf, .inl (k2, 20, .inl gf))] s.heap.size = A at hD hT ⊢
  have hAA : ∀ q : Nat, s.heap.size ≤ q → A q := fun q h => by rw [← hAe]; exact Or.inr h
  have hS : va_S A s.heap s.heap [] := va_S.rf
  have hl := lv_entry ([.ref h0, .long nm]) (n := 4) (Nat.le_of_ble_eq_true rfl)
  rw [lg_entry_eq]
  generalize (lg_sl ([.ref h0, .long nm]) ++ List.replicate (4 - (lg_sl ([.ref h0, .long nm])).length) Slot.unset).toArray = ls at hl ⊢
  have hl : lv_has ls 4 [(0, .ref h0), (1, .long nm)] := hl
  refine lv_iconst (v := 0) hx hb dX4_find_0 (by decide) ?_
  refine lv_istore_n (lv' := [(3, .int 0), (0, .ref h0), (1, .long nm)]) hx hb dX4_find_1 rfl hl (by decide) rfl (fun ls hl => ?_)
  have loop_2 : ∀ (n9 : Nat) (i : Int32) (H : Heap) (locs : List Loc) (ls : Array Slot), (z.toInt - i.toInt + 1).toNat ≤ n9 → 0 ≤ i.toInt → i.toInt ≤ z.toInt → (∀ j : Nat, (j : Int) < Int32.toInt i → gw j ≠ nm) → va_P (dC, dI) vwCl [(h0, .inr (4, [.ref kw, .ref kf, .int z])), (kw, .inl (k1, 20, .inr (.inl gw))), (kf, .inl (k2, 20, .inl gf))] H → va_D A [(h0, .inr (4, [.ref kw, .ref kf, .int z])), (kw, .inl (k1, 20, .inr (.inl gw))), (kf, .inl (k2, 20, .inl gf))] → va_S A s.heap H locs → lv_has ls 4 [(3, .int i), (0, .ref h0), (1, .long nm)] → W p l e (headSpec (Cond.code yX4_find cX4_find 4 (some .int) :: zw) ({ frames := 8, cells := 0, slots := 0, locals := 200 })).room s m #[.ref h0, .long nm] below meth c H locs 0 0 (MQ below (va_Qi (fun (r : Int32) (u : Unit) => (-1 ≤ r.toInt) ∧ (r.toInt < z.toInt) ∧ (sp_fd gw nm z r)) (fun u => zQ dC dI A [(k1, .long), (k2, .int)] [(h0, .inr (4, [.ref kw, .ref kf, .int z])), (kw, .inl (k1, 20, .inr (.inl gw))), (kf, .inl (k2, 20, .inl gf))]) A) #[.ref h0, .long nm] s 0 0 A) (F0 m 2 ls []) := by
    intro n9
    induction n9 with
    | zero => intro i H locs ls hm hi0 hi1 hno; exfalso; omega
    | succ n9 ih =>
      intro i H locs ls hm hi0 hi1 hno hP hD hS hl
      refine lv_iload_n hx hb dX4_find_2 rfl (lv_at hl 0 rfl) ?_
      refine lv_aload_n hx hb dX4_find_3 rfl (lv_at hl 1 rfl) ?_
      refine va_get (D := (dC, dI)) (ci := 4) (v := .int z) (C := RX4) (T := TX4) (N := 3) hx hb hA zin_X4 hown hK hP 0 rfl rfl 2 (by decide) (hA _ wi_273) (fun _ h9 => h9) rfl dX4_find_4 ?_
      refine lv_icmp_ge (tgt := 29) hx hb dX4_find_7 (by decide) (fun c_1 => ?_) (fun c_1 => ?_)
      · have ic_1 : z.toInt ≤ i.toInt := zi_le c_1
        refine lv_iconst (v := (-1)) hx hb dX4_find_29 (by decide) ?_
        have hlit : Int32.toInt (-1) = (-1) := by decide
        have hP9 := hP.sub (ws' := [(h0, .inr (4, [.ref kw, .ref kf, .int z])), (kw, .inl (k1, 20, .inr (.inl gw))), (kf, .inl (k2, 20, .inl gf))]) [0, 1, 2] rfl
        have hD9 := hD.sub (ws' := [(h0, .inr (4, [.ref kw, .ref kf, .int z])), (kw, .inl (k1, 20, .inr (.inl gw))), (kf, .inl (k2, 20, .inl gf))]) [0, 1, 2] (by decide) rfl
        have hK9 := hK.sub (tys' := [(k1, .long), (k2, .int)]) [0, 1] rfl
        exact W.iret (v := (-1)) hx hb hr (fun t ht hW => ⟨⟨(-1), (), rfl, ⟨by omega, by omega, sp_fd_n hz0 (by decide) (fun j hj => hno j (by omega))⟩, by rw [ht]; exact hP9, va_K.moved hW.alike hK9, hD9⟩, hS.F ht⟩) hS.2.2 dX4_find_30
      · have ic_1 : i.toInt < z.toInt := zi_nle c_1
        refine lv_aload_n hx hb dX4_find_10 rfl (lv_at hl 1 rfl) ?_
        refine va_get (D := (dC, dI)) (ci := 4) (v := .ref kw) (C := RX4) (T := TX4) (N := 3) hx hb hA zin_X4 hown hK hP 0 rfl rfl 0 (by decide) (hA _ wi_270) (fun _ h9 => h9) rfl dX4_find_11 ?_
        refine lv_iload_n hx hb dX4_find_14 rfl (lv_at hl 0 rfl) ?_
        refine va_lald hx hb hK hP 1 0 rfl rfl (vp_in_iff.mpr ⟨by omega, by omega⟩) dX4_find_15 ?_
        refine lv_topl (fun x_2 ex_2 => ?_)
        refine lv_lload_n hx hb dX4_find_16 rfl (lv_at hl 2 rfl) ?_
        refine W.lcmp hx hb dX4_find_17 ?_
        refine lv_topi (fun x_3 ex_3 => ?_)
        refine lv_if_ne (tgt := 23) hx hb dX4_find_18 (by decide) (fun c_4 => ?_) (fun c_4 => ?_)
        · have ic_4 : x_3.toInt ≠ 0 := zi_ne c_4
          obtain ⟨x_5, ex_5⟩ : ∃ y : Int32, y = i + Int32.ofInt 1 := ⟨_, rfl⟩
          refine lv_iinc (v := x_5) (lv' := [(3, .int x_5), (0, .ref h0), (1, .long nm)]) hx hb dX4_find_23 hl (k := 0) rfl (by rw [ex_5]) (by decide) rfl (fun ls hl => ?_)
          have ix_5 : x_5.toInt = i.toInt + 1 := by rw [ex_5]; exact zi_addc (by decide) (by omega) (by omega)
          refine lv_goto (tgt := 2) hx hb dX4_find_26 (by decide) ?_
          have hno_6 : ∀ j : Nat, (j : Int) < Int32.toInt x_5 → gw j ≠ nm := sp_no1 hno hi0 (by omega) (fun e9 => absurd (show x_3.toInt = 0 by rw [ex_3, ex_2, e9]; exact lc_rf) (by omega))
          exact ih x_5 _ _ _ (by omega) (by omega) (by omega) hno_6 (hP.sub [0, 1, 2] rfl) (hD.sub [0, 1, 2] (by decide) rfl) hS (lv_sub hl [0, 1, 2] rfl)
        · have ic_4 : x_3.toInt = 0 := zi_eq c_4
          refine lv_iload_n hx hb dX4_find_21 rfl (lv_at hl 0 rfl) ?_
          have hP9 := hP.sub (ws' := [(h0, .inr (4, [.ref kw, .ref kf, .int z])), (kw, .inl (k1, 20, .inr (.inl gw))), (kf, .inl (k2, 20, .inl gf))]) [0, 1, 2] rfl
          have hD9 := hD.sub (ws' := [(h0, .inr (4, [.ref kw, .ref kf, .int z])), (kw, .inl (k1, 20, .inr (.inl gw))), (kf, .inl (k2, 20, .inl gf))]) [0, 1, 2] (by decide) rfl
          have hK9 := hK.sub (tys' := [(k1, .long), (k2, .int)]) [0, 1] rfl
          exact W.iret (v := i) hx hb hr (fun t ht hW => ⟨⟨i, (), rfl, ⟨by omega, by omega, sp_fd_y (by omega) (by omega) ((congrArg _ rfl).trans (ex_2.symm.trans (lc_eq (by rw [← ex_3]; omega)))) hno⟩, by rw [ht]; exact hP9, va_K.moved hW.alike hK9, hD9⟩, hS.F ht⟩) hS.2.2 dX4_find_22
  have hno_7 : ∀ j : Nat, (j : Int) < Int32.toInt 0 → gw j ≠ nm := fun j hj => by exfalso; have h9 : Int32.toInt 0 = 0 := (by decide); omega
  exact loop_2 _ 0 _ _ _ (Nat.le_refl _) (by have h9_0 : Int32.toInt 0 = 0 := (by decide); omega) (by have h9_0 : Int32.toInt 0 = 0 := (by decide); omega) hno_7 (hP.sub [0, 1, 2] rfl) (hD.sub [0, 1, 2] (by decide) rfl) hS (lv_sub hl [0, 1, 2] rfl)
set_option maxHeartbeats 4000000 in
set_option maxRecDepth 100000 in
theorem c_X3_find_s (l : Launch) (dC : Nat → ClassId) (dI : Nat → Nat → Nat) (aK aV : Nat → Nat) (h0 : Nat) (fw : Nat) (fe : Nat) (ff : Nat) (f1 : ClassId) (f2 : ClassId) (f3 : ClassId) (z : Int32) (gw : Nat → Int64) (ge : Nat → Int32) (gf : Nat → Int32) (nm : Int64) (sz : Nat) (hz0 : 0 ≤ z.toInt) (hz1 : z.toInt ≤ 30) : Met l yX3_find (Cond.code yX3_find cX3_find 4 (some .int) :: zw) ({ frames := 8, cells := 0, slots := 0, locals := 200 }) (va_Pc [.ref h0, .long nm] (zP dC dI aK aV sz [(f1, .long), (f2, .int), (f3, .int)] [(h0, .inr (3, [.ref fw, .ref fe, .ref ff, .int z])), (fw, .inl (f1, 30, .inr (.inl gw))), (fe, .inl (f2, 30, .inl ge)), (ff, .inl (f3, 150, .inl gf))])) (va_Qi (fun (r : Int32) (u : Unit) => (-1 ≤ r.toInt) ∧ (r.toInt < z.toInt) ∧ (sp_fd gw nm z r)) (fun u => zQ dC dI (va_A [(h0, .inr (3, [.ref fw, .ref fe, .ref ff, .int z])), (fw, .inl (f1, 30, .inr (.inl gw))), (fe, .inl (f2, 30, .inl ge)), (ff, .inl (f3, 150, .inl gf))] sz) [(f1, .long), (f2, .int), (f3, .int)] [(h0, .inr (3, [.ref fw, .ref fe, .ref ff, .int z])), (fw, .inl (f1, 30, .inr (.inl gw))), (fe, .inl (f2, 30, .inl ge)), (ff, .inl (f3, 150, .inl gf))]) (va_A [(h0, .inr (3, [.ref fw, .ref fe, .ref ff, .int z])), (fw, .inl (f1, 30, .inr (.inl gw))), (fe, .inl (f2, 30, .inl ge)), (ff, .inl (f3, 150, .inl gf))] sz)) 0 0 (va_A [(h0, .inr (3, [.ref fw, .ref fe, .ref ff, .int z])), (fw, .inl (f1, 30, .inr (.inl gw))), (fe, .inl (f2, 30, .inl ge)), (ff, .inl (f3, 150, .inl gf))] sz) := by
  refine Met.ofW (cc := cX3_find) (maxL := 4) (ret := (some .int)) (by decide) rfl ?_
  intro p e s m args below meth c s₁ B hml hv
  obtain ⟨rfl, hsz, hP, hK, hD0, hN, hT⟩ := hv
  have hx := B.exec
  have hb := B.bytes
  have hr := B.returns
  have hts := atoms_spec (ws := Cond.code yX3_find cX3_find 4 (some .int) :: zw) B.pre
  have hA : ∀ w ∈ zw, w.before _ s = true := fun w h => hts w (List.mem_cons_of_mem _ h)
  have hown : s.vm.findClass RX3 = some m.cls := findClass_of_methodNamed B.named
  have hlocks := B.notSynchronized
  subst hsz
  have hD := hD0.self (sz := s.heap.size)
  generalize hAe : va_A [(h0, .inr (3, [.ref fw, .ref fe, .ref ff, .int z])), (fw, .inl (f1, 30, .inr (.inl gw))), (fe, .inl (f2, 30, .inl ge)), (ff, .inl (f3, 150, .inl gf))] s.heap.size = A at hD hT ⊢
  have hAA : ∀ q : Nat, s.heap.size ≤ q → A q := fun q h => by rw [← hAe]; exact Or.inr h
  have hS : va_S A s.heap s.heap [] := va_S.rf
  have hl := lv_entry ([.ref h0, .long nm]) (n := 4) (Nat.le_of_ble_eq_true rfl)
  rw [lg_entry_eq]
  generalize (lg_sl ([.ref h0, .long nm]) ++ List.replicate (4 - (lg_sl ([.ref h0, .long nm])).length) Slot.unset).toArray = ls at hl ⊢
  have hl : lv_has ls 4 [(0, .ref h0), (1, .long nm)] := hl
  refine lv_iconst (v := 0) hx hb dX3_find_0 (by decide) ?_
  refine lv_istore_n (lv' := [(3, .int 0), (0, .ref h0), (1, .long nm)]) hx hb dX3_find_1 rfl hl (by decide) rfl (fun ls hl => ?_)
  have loop_2 : ∀ (n9 : Nat) (i : Int32) (H : Heap) (locs : List Loc) (ls : Array Slot), (z.toInt - i.toInt + 1).toNat ≤ n9 → 0 ≤ i.toInt → i.toInt ≤ z.toInt → (∀ j : Nat, (j : Int) < Int32.toInt i → gw j ≠ nm) → va_P (dC, dI) vwCl [(h0, .inr (3, [.ref fw, .ref fe, .ref ff, .int z])), (fw, .inl (f1, 30, .inr (.inl gw))), (fe, .inl (f2, 30, .inl ge)), (ff, .inl (f3, 150, .inl gf))] H → va_D A [(h0, .inr (3, [.ref fw, .ref fe, .ref ff, .int z])), (fw, .inl (f1, 30, .inr (.inl gw))), (fe, .inl (f2, 30, .inl ge)), (ff, .inl (f3, 150, .inl gf))] → va_S A s.heap H locs → lv_has ls 4 [(3, .int i), (0, .ref h0), (1, .long nm)] → W p l e (headSpec (Cond.code yX3_find cX3_find 4 (some .int) :: zw) ({ frames := 8, cells := 0, slots := 0, locals := 200 })).room s m #[.ref h0, .long nm] below meth c H locs 0 0 (MQ below (va_Qi (fun (r : Int32) (u : Unit) => (-1 ≤ r.toInt) ∧ (r.toInt < z.toInt) ∧ (sp_fd gw nm z r)) (fun u => zQ dC dI A [(f1, .long), (f2, .int), (f3, .int)] [(h0, .inr (3, [.ref fw, .ref fe, .ref ff, .int z])), (fw, .inl (f1, 30, .inr (.inl gw))), (fe, .inl (f2, 30, .inl ge)), (ff, .inl (f3, 150, .inl gf))]) A) #[.ref h0, .long nm] s 0 0 A) (F0 m 2 ls []) := by
    intro n9
    induction n9 with
    | zero => intro i H locs ls hm hi0 hi1 hno; exfalso; omega
    | succ n9 ih =>
      intro i H locs ls hm hi0 hi1 hno hP hD hS hl
      refine lv_iload_n hx hb dX3_find_2 rfl (lv_at hl 0 rfl) ?_
      refine lv_aload_n hx hb dX3_find_3 rfl (lv_at hl 1 rfl) ?_
      refine va_get (D := (dC, dI)) (ci := 3) (v := .int z) (C := RX3) (T := TX3) (N := 4) hx hb hA zin_X3 hown hK hP 0 rfl rfl 3 (by decide) (hA _ wi_295) (fun _ h9 => h9) rfl dX3_find_4 ?_
      refine lv_icmp_ge (tgt := 29) hx hb dX3_find_7 (by decide) (fun c_1 => ?_) (fun c_1 => ?_)
      · have ic_1 : z.toInt ≤ i.toInt := zi_le c_1
        refine lv_iconst (v := (-1)) hx hb dX3_find_29 (by decide) ?_
        have hlit : Int32.toInt (-1) = (-1) := by decide
        have hP9 := hP.sub (ws' := [(h0, .inr (3, [.ref fw, .ref fe, .ref ff, .int z])), (fw, .inl (f1, 30, .inr (.inl gw))), (fe, .inl (f2, 30, .inl ge)), (ff, .inl (f3, 150, .inl gf))]) [0, 1, 2, 3] rfl
        have hD9 := hD.sub (ws' := [(h0, .inr (3, [.ref fw, .ref fe, .ref ff, .int z])), (fw, .inl (f1, 30, .inr (.inl gw))), (fe, .inl (f2, 30, .inl ge)), (ff, .inl (f3, 150, .inl gf))]) [0, 1, 2, 3] (by decide) rfl
        have hK9 := hK.sub (tys' := [(f1, .long), (f2, .int), (f3, .int)]) [0, 1, 2] rfl
        exact W.iret (v := (-1)) hx hb hr (fun t ht hW => ⟨⟨(-1), (), rfl, ⟨by omega, by omega, sp_fd_n hz0 (by decide) (fun j hj => hno j (by omega))⟩, by rw [ht]; exact hP9, va_K.moved hW.alike hK9, hD9⟩, hS.F ht⟩) hS.2.2 dX3_find_30
      · have ic_1 : i.toInt < z.toInt := zi_nle c_1
        refine lv_aload_n hx hb dX3_find_10 rfl (lv_at hl 1 rfl) ?_
        refine va_get (D := (dC, dI)) (ci := 3) (v := .ref fw) (C := RX3) (T := TX3) (N := 4) hx hb hA zin_X3 hown hK hP 0 rfl rfl 0 (by decide) (hA _ wi_290) (fun _ h9 => h9) rfl dX3_find_11 ?_
        refine lv_iload_n hx hb dX3_find_14 rfl (lv_at hl 0 rfl) ?_
        refine va_lald hx hb hK hP 1 0 rfl rfl (vp_in_iff.mpr ⟨by omega, by omega⟩) dX3_find_15 ?_
        refine lv_topl (fun x_2 ex_2 => ?_)
        refine lv_lload_n hx hb dX3_find_16 rfl (lv_at hl 2 rfl) ?_
        refine W.lcmp hx hb dX3_find_17 ?_
        refine lv_topi (fun x_3 ex_3 => ?_)
        refine lv_if_ne (tgt := 23) hx hb dX3_find_18 (by decide) (fun c_4 => ?_) (fun c_4 => ?_)
        · have ic_4 : x_3.toInt ≠ 0 := zi_ne c_4
          obtain ⟨x_5, ex_5⟩ : ∃ y : Int32, y = i + Int32.ofInt 1 := ⟨_, rfl⟩
          refine lv_iinc (v := x_5) (lv' := [(3, .int x_5), (0, .ref h0), (1, .long nm)]) hx hb dX3_find_23 hl (k := 0) rfl (by rw [ex_5]) (by decide) rfl (fun ls hl => ?_)
          have ix_5 : x_5.toInt = i.toInt + 1 := by rw [ex_5]; exact zi_addc (by decide) (by omega) (by omega)
          refine lv_goto (tgt := 2) hx hb dX3_find_26 (by decide) ?_
          have hno_6 : ∀ j : Nat, (j : Int) < Int32.toInt x_5 → gw j ≠ nm := sp_no1 hno hi0 (by omega) (fun e9 => absurd (show x_3.toInt = 0 by rw [ex_3, ex_2, e9]; exact lc_rf) (by omega))
          exact ih x_5 _ _ _ (by omega) (by omega) (by omega) hno_6 (hP.sub [0, 1, 2, 3] rfl) (hD.sub [0, 1, 2, 3] (by decide) rfl) hS (lv_sub hl [0, 1, 2] rfl)
        · have ic_4 : x_3.toInt = 0 := zi_eq c_4
          refine lv_iload_n hx hb dX3_find_21 rfl (lv_at hl 0 rfl) ?_
          have hP9 := hP.sub (ws' := [(h0, .inr (3, [.ref fw, .ref fe, .ref ff, .int z])), (fw, .inl (f1, 30, .inr (.inl gw))), (fe, .inl (f2, 30, .inl ge)), (ff, .inl (f3, 150, .inl gf))]) [0, 1, 2, 3] rfl
          have hD9 := hD.sub (ws' := [(h0, .inr (3, [.ref fw, .ref fe, .ref ff, .int z])), (fw, .inl (f1, 30, .inr (.inl gw))), (fe, .inl (f2, 30, .inl ge)), (ff, .inl (f3, 150, .inl gf))]) [0, 1, 2, 3] (by decide) rfl
          have hK9 := hK.sub (tys' := [(f1, .long), (f2, .int), (f3, .int)]) [0, 1, 2] rfl
          exact W.iret (v := i) hx hb hr (fun t ht hW => ⟨⟨i, (), rfl, ⟨by omega, by omega, sp_fd_y (by omega) (by omega) ((congrArg _ rfl).trans (ex_2.symm.trans (lc_eq (by rw [← ex_3]; omega)))) hno⟩, by rw [ht]; exact hP9, va_K.moved hW.alike hK9, hD9⟩, hS.F ht⟩) hS.2.2 dX3_find_22
  have hno_7 : ∀ j : Nat, (j : Int) < Int32.toInt 0 → gw j ≠ nm := fun j hj => by exfalso; have h9 : Int32.toInt 0 = 0 := (by decide); omega
  exact loop_2 _ 0 _ _ _ (Nat.le_refl _) (by have h9_0 : Int32.toInt 0 = 0 := (by decide); omega) (by have h9_0 : Int32.toInt 0 = 0 := (by decide); omega) hno_7 (hP.sub [0, 1, 2, 3] rfl) (hD.sub [0, 1, 2, 3] (by decide) rfl) hS (lv_sub hl [0, 1, 2] rfl)
set_option maxHeartbeats 4000000 in
set_option maxRecDepth 100000 in
theorem c_X7_slotOf_s (l : Launch) (dC : Nat → ClassId) (dI : Nat → Nat → Nat) (aK aV : Nat → Nat) (h0 : Nat) (ptok : Nat) (pnee : Nat) (pnam : Nat) (pbui : Nat) (pdra : Nat) (ar : Int32) (fu : Int32) (fn : Int32) (fp : Int32) (nk : ClassId) (gn : Nat → Int64) (nm : Int64) (gN : List Int64) (sz : Nat) (hn0 : 0 ≤ ar.toInt) (hn1 : ar.toInt ≤ 24) (hnl : sp_nl gn ar gN) : Met l yX7_slotOf (Cond.code yX7_slotOf cX7_slotOf 4 (some .int) :: zw) ({ frames := 8, cells := 0, slots := 0, locals := 200 }) (va_Pc [.ref h0, .long nm] (zP dC dI aK aV sz [(nk, .long)] [(h0, .inr (7, [.ref ptok, .ref pnee, .ref pnam, .int ar, .ref pbui, .ref pdra, .int fu, .int fn, .int fp])), (pnam, .inl (nk, 24, .inr (.inl gn)))])) (va_Qi (fun (r : Int32) (u : Unit) => (-1 ≤ r.toInt) ∧ (r.toInt < ar.toInt) ∧ (sp_in r nm gN)) (fun u => zQ dC dI (va_A [(h0, .inr (7, [.ref ptok, .ref pnee, .ref pnam, .int ar, .ref pbui, .ref pdra, .int fu, .int fn, .int fp])), (pnam, .inl (nk, 24, .inr (.inl gn)))] sz) [(nk, .long)] [(h0, .inr (7, [.ref ptok, .ref pnee, .ref pnam, .int ar, .ref pbui, .ref pdra, .int fu, .int fn, .int fp])), (pnam, .inl (nk, 24, .inr (.inl gn)))]) (va_A [(h0, .inr (7, [.ref ptok, .ref pnee, .ref pnam, .int ar, .ref pbui, .ref pdra, .int fu, .int fn, .int fp])), (pnam, .inl (nk, 24, .inr (.inl gn)))] sz)) 0 0 (va_A [(h0, .inr (7, [.ref ptok, .ref pnee, .ref pnam, .int ar, .ref pbui, .ref pdra, .int fu, .int fn, .int fp])), (pnam, .inl (nk, 24, .inr (.inl gn)))] sz) := by
  refine Met.ofW (cc := cX7_slotOf) (maxL := 4) (ret := (some .int)) (by decide) rfl ?_
  intro p e s m args below meth c s₁ B hml hv
  obtain ⟨rfl, hsz, hP, hK, hD0, hN, hT⟩ := hv
  have hx := B.exec
  have hb := B.bytes
  have hr := B.returns
  have hts := atoms_spec (ws := Cond.code yX7_slotOf cX7_slotOf 4 (some .int) :: zw) B.pre
  have hA : ∀ w ∈ zw, w.before _ s = true := fun w h => hts w (List.mem_cons_of_mem _ h)
  have hown : s.vm.findClass RX7 = some m.cls := findClass_of_methodNamed B.named
  have hlocks := B.notSynchronized
  subst hsz
  have hD := hD0.self (sz := s.heap.size)
  generalize hAe : va_A [(h0, .inr (7, [.ref ptok, .ref pnee, .ref pnam, .int ar, .ref pbui, .ref pdra, .int fu, .int fn, .int fp])), (pnam, .inl (nk, 24, .inr (.inl gn)))] s.heap.size = A at hD hT ⊢
  have hAA : ∀ q : Nat, s.heap.size ≤ q → A q := fun q h => by rw [← hAe]; exact Or.inr h
  have hS : va_S A s.heap s.heap [] := va_S.rf
  have hl := lv_entry ([.ref h0, .long nm]) (n := 4) (Nat.le_of_ble_eq_true rfl)
  rw [lg_entry_eq]
  generalize (lg_sl ([.ref h0, .long nm]) ++ List.replicate (4 - (lg_sl ([.ref h0, .long nm])).length) Slot.unset).toArray = ls at hl ⊢
  have hl : lv_has ls 4 [(0, .ref h0), (1, .long nm)] := hl
  refine lv_iconst (v := 0) hx hb dX7_slotOf_0 (by decide) ?_
  refine lv_istore_n (lv' := [(3, .int 0), (0, .ref h0), (1, .long nm)]) hx hb dX7_slotOf_1 rfl hl (by decide) rfl (fun ls hl => ?_)
  have loop_2 : ∀ (n9 : Nat) (i : Int32) (H : Heap) (locs : List Loc) (ls : Array Slot), (ar.toInt - i.toInt + 1).toNat ≤ n9 → 0 ≤ i.toInt → i.toInt ≤ ar.toInt → (∀ j : Nat, (j : Int) < Int32.toInt i → gn j ≠ nm) → va_P (dC, dI) vwCl [(h0, .inr (7, [.ref ptok, .ref pnee, .ref pnam, .int ar, .ref pbui, .ref pdra, .int fu, .int fn, .int fp])), (pnam, .inl (nk, 24, .inr (.inl gn)))] H → va_D A [(h0, .inr (7, [.ref ptok, .ref pnee, .ref pnam, .int ar, .ref pbui, .ref pdra, .int fu, .int fn, .int fp])), (pnam, .inl (nk, 24, .inr (.inl gn)))] → va_S A s.heap H locs → lv_has ls 4 [(3, .int i), (0, .ref h0), (1, .long nm)] → W p l e (headSpec (Cond.code yX7_slotOf cX7_slotOf 4 (some .int) :: zw) ({ frames := 8, cells := 0, slots := 0, locals := 200 })).room s m #[.ref h0, .long nm] below meth c H locs 0 0 (MQ below (va_Qi (fun (r : Int32) (u : Unit) => (-1 ≤ r.toInt) ∧ (r.toInt < ar.toInt) ∧ (sp_in r nm gN)) (fun u => zQ dC dI A [(nk, .long)] [(h0, .inr (7, [.ref ptok, .ref pnee, .ref pnam, .int ar, .ref pbui, .ref pdra, .int fu, .int fn, .int fp])), (pnam, .inl (nk, 24, .inr (.inl gn)))]) A) #[.ref h0, .long nm] s 0 0 A) (F0 m 2 ls []) := by
    intro n9
    induction n9 with
    | zero => intro i H locs ls hm hi0 hi1 hno; exfalso; omega
    | succ n9 ih =>
      intro i H locs ls hm hi0 hi1 hno hP hD hS hl
      refine lv_iload_n hx hb dX7_slotOf_2 rfl (lv_at hl 0 rfl) ?_
      refine lv_aload_n hx hb dX7_slotOf_3 rfl (lv_at hl 1 rfl) ?_
      refine va_get (D := (dC, dI)) (ci := 7) (v := .int ar) (C := RX7) (T := TX7) (N := 9) hx hb hA zin_X7 hown hK hP 0 rfl rfl 3 (by decide) (hA _ wi_390) (fun _ h9 => h9) rfl dX7_slotOf_4 ?_
      refine lv_icmp_ge (tgt := 29) hx hb dX7_slotOf_7 (by decide) (fun c_1 => ?_) (fun c_1 => ?_)
      · have ic_1 : ar.toInt ≤ i.toInt := zi_le c_1
        refine lv_iconst (v := (-1)) hx hb dX7_slotOf_29 (by decide) ?_
        have hlit : Int32.toInt (-1) = (-1) := by decide
        have hP9 := hP.sub (ws' := [(h0, .inr (7, [.ref ptok, .ref pnee, .ref pnam, .int ar, .ref pbui, .ref pdra, .int fu, .int fn, .int fp])), (pnam, .inl (nk, 24, .inr (.inl gn)))]) [0, 1] rfl
        have hD9 := hD.sub (ws' := [(h0, .inr (7, [.ref ptok, .ref pnee, .ref pnam, .int ar, .ref pbui, .ref pdra, .int fu, .int fn, .int fp])), (pnam, .inl (nk, 24, .inr (.inl gn)))]) [0, 1] (by decide) rfl
        have hK9 := hK.sub (tys' := [(nk, .long)]) [0] rfl
        exact W.iret (v := (-1)) hx hb hr (fun t ht hW => ⟨⟨(-1), (), rfl, ⟨by omega, by omega, sp_in_n hnl (by decide) (fun j hj => hno j (by omega))⟩, by rw [ht]; exact hP9, va_K.moved hW.alike hK9, hD9⟩, hS.F ht⟩) hS.2.2 dX7_slotOf_30
      · have ic_1 : i.toInt < ar.toInt := zi_nle c_1
        refine lv_aload_n hx hb dX7_slotOf_10 rfl (lv_at hl 1 rfl) ?_
        refine va_get (D := (dC, dI)) (ci := 7) (v := .ref pnam) (C := RX7) (T := TX7) (N := 9) hx hb hA zin_X7 hown hK hP 0 rfl rfl 2 (by decide) (hA _ wi_389) (fun _ h9 => h9) rfl dX7_slotOf_11 ?_
        refine lv_iload_n hx hb dX7_slotOf_14 rfl (lv_at hl 0 rfl) ?_
        refine va_lald hx hb hK hP 1 0 rfl rfl (vp_in_iff.mpr ⟨by omega, by omega⟩) dX7_slotOf_15 ?_
        refine lv_topl (fun x_2 ex_2 => ?_)
        refine lv_lload_n hx hb dX7_slotOf_16 rfl (lv_at hl 2 rfl) ?_
        refine W.lcmp hx hb dX7_slotOf_17 ?_
        refine lv_topi (fun x_3 ex_3 => ?_)
        refine lv_if_ne (tgt := 23) hx hb dX7_slotOf_18 (by decide) (fun c_4 => ?_) (fun c_4 => ?_)
        · have ic_4 : x_3.toInt ≠ 0 := zi_ne c_4
          obtain ⟨x_5, ex_5⟩ : ∃ y : Int32, y = i + Int32.ofInt 1 := ⟨_, rfl⟩
          refine lv_iinc (v := x_5) (lv' := [(3, .int x_5), (0, .ref h0), (1, .long nm)]) hx hb dX7_slotOf_23 hl (k := 0) rfl (by rw [ex_5]) (by decide) rfl (fun ls hl => ?_)
          have ix_5 : x_5.toInt = i.toInt + 1 := by rw [ex_5]; exact zi_addc (by decide) (by omega) (by omega)
          refine lv_goto (tgt := 2) hx hb dX7_slotOf_26 (by decide) ?_
          have hno_6 : ∀ j : Nat, (j : Int) < Int32.toInt x_5 → gn j ≠ nm := sp_no1 hno hi0 (by omega) (fun e9 => absurd (show x_3.toInt = 0 by rw [ex_3, ex_2, e9]; exact lc_rf) (by omega))
          exact ih x_5 _ _ _ (by omega) (by omega) (by omega) hno_6 (hP.sub [0, 1] rfl) (hD.sub [0, 1] (by decide) rfl) hS (lv_sub hl [0, 1, 2] rfl)
        · have ic_4 : x_3.toInt = 0 := zi_eq c_4
          refine lv_iload_n hx hb dX7_slotOf_21 rfl (lv_at hl 0 rfl) ?_
          have hP9 := hP.sub (ws' := [(h0, .inr (7, [.ref ptok, .ref pnee, .ref pnam, .int ar, .ref pbui, .ref pdra, .int fu, .int fn, .int fp])), (pnam, .inl (nk, 24, .inr (.inl gn)))]) [0, 1] rfl
          have hD9 := hD.sub (ws' := [(h0, .inr (7, [.ref ptok, .ref pnee, .ref pnam, .int ar, .ref pbui, .ref pdra, .int fu, .int fn, .int fp])), (pnam, .inl (nk, 24, .inr (.inl gn)))]) [0, 1] (by decide) rfl
          have hK9 := hK.sub (tys' := [(nk, .long)]) [0] rfl
          exact W.iret (v := i) hx hb hr (fun t ht hW => ⟨⟨i, (), rfl, ⟨by omega, by omega, sp_in_y hnl (by omega) (by omega) (ex_2.symm.trans (lc_eq (by rw [← ex_3]; omega))) hno⟩, by rw [ht]; exact hP9, va_K.moved hW.alike hK9, hD9⟩, hS.F ht⟩) hS.2.2 dX7_slotOf_22
  have hno_7 : ∀ j : Nat, (j : Int) < Int32.toInt 0 → gn j ≠ nm := fun j hj => by exfalso; have h9 : Int32.toInt 0 = 0 := (by decide); omega
  exact loop_2 _ 0 _ _ _ (Nat.le_refl _) (by have h9_0 : Int32.toInt 0 = 0 := (by decide); omega) (by have h9_0 : Int32.toInt 0 = 0 := (by decide); omega) hno_7 (hP.sub [0, 1] rfl) (hD.sub [0, 1] (by decide) rfl) hS (lv_sub hl [0, 1, 2] rfl)
set_option maxHeartbeats 4000000 in
set_option maxRecDepth 100000 in
theorem c_X7_newName_s (l : Launch) (dC : Nat → ClassId) (dI : Nat → Nat → Nat) (aK aV : Nat → Nat) (h0 : Nat) (ptok : Nat) (pnee : Nat) (pnam : Nat) (pbui : Nat) (pdra : Nat) (ar : Int32) (fu : Int32) (fn : Int32) (fp : Int32) (ts : Nat) (tp : Nat) (tw : Nat) (t1 : ClassId) (t2 : ClassId) (t3 : ClassId) (z : Int32) (pa : Int32) (so : Int32) (pl : Int32) (wd : Int64) (gs : Nat → Int32) (gp : Nat → Int32) (gw : Nat → Int64) (gco : Nat) (gar : Nat) (gki : Nat) (gfu : Nat) (kw : Nat) (kf : Nat) (k1 : ClassId) (k2 : ClassId) (kz : Int32) (kgw : Nat → Int64) (kgf : Nat → Int32) (nk : ClassId) (gn : Nat → Int64) (gN : List Int64) (sz : Nat) (hlt : l.stackTraces = false) (hz0 : 0 ≤ z.toInt) (hz1 : z.toInt ≤ 2000) (ha0 : -1 ≤ pa.toInt) (ha1 : pa.toInt ≤ z.toInt) (hgz : gs (Int32.toNatClampNeg z) = 256) (hk0 : 0 ≤ kz.toInt) (hk1 : kz.toInt ≤ 20) (hkf : zx 4 kgf) (hn0 : 0 ≤ ar.toInt) (hn1 : ar.toInt ≤ 24) (hnl : sp_nl gn ar gN) : vy_Met l yX7_newName (Cond.code yX7_newName cX7_newName 1 none :: zw) ({ frames := 16, cells := 1, slots := 6, locals := 600 }) (va_Pc [.ref h0] (zP dC dI aK aV sz [(t1, .int), (t2, .int), (t3, .long), (k1, .long), (k2, .int), (nk, .long)] [(h0, .inr (7, [.ref ptok, .ref pnee, .ref pnam, .int ar, .ref pbui, .ref pdra, .int fu, .int fn, .int fp])), (ptok, .inr (10, [.ref ts, .ref tp, .ref tw, .int z, .int pa, .int so, .int pl, .long wd])), (ts, .inl (t1, 2001, .inl gs)), (tp, .inl (t2, 2001, .inl gp)), (tw, .inl (t3, 2001, .inr (.inl gw))), (pdra, .inr (9, [.ref gco, .ref gar, .ref gki, .ref gfu])), (gki, .inr (4, [.ref kw, .ref kf, .int kz])), (kw, .inl (k1, 20, .inr (.inl kgw))), (kf, .inl (k2, 20, .inl kgf)), (pnam, .inl (nk, 24, .inr (.inl gn)))])) (va_Qv (fun u : Unit => (ar.toInt < 24) ∧ (so.toInt = 258) ∧ (sp_nn so wd ar gN)) (fun u => zQ dC dI (va_A [(h0, .inr (7, [.ref ptok, .ref pnee, .ref pnam, .int ar, .ref pbui, .ref pdra, .int fu, .int fn, .int fp])), (ptok, .inr (10, [.ref ts, .ref tp, .ref tw, .int z, .int pa, .int so, .int pl, .long wd])), (ts, .inl (t1, 2001, .inl gs)), (tp, .inl (t2, 2001, .inl gp)), (tw, .inl (t3, 2001, .inr (.inl gw))), (pdra, .inr (9, [.ref gco, .ref gar, .ref gki, .ref gfu])), (gki, .inr (4, [.ref kw, .ref kf, .int kz])), (kw, .inl (k1, 20, .inr (.inl kgw))), (kf, .inl (k2, 20, .inl kgf)), (pnam, .inl (nk, 24, .inr (.inl gn)))] sz) [(t1, .int), (t2, .int), (t3, .long), (k1, .long), (k2, .int), (nk, .long)] [(h0, .inr (7, [.ref ptok, .ref pnee, .ref pnam, .int ar, .ref pbui, .ref pdra, .int fu, .int fn, .int fp])), (ptok, .inr (10, [.ref ts, .ref tp, .ref tw, .int z, .int pa, .int so, .int pl, .long wd])), (ts, .inl (t1, 2001, .inl gs)), (tp, .inl (t2, 2001, .inl gp)), (tw, .inl (t3, 2001, .inr (.inl gw))), (pdra, .inr (9, [.ref gco, .ref gar, .ref gki, .ref gfu])), (gki, .inr (4, [.ref kw, .ref kf, .int kz])), (kw, .inl (k1, 20, .inr (.inl kgw))), (kf, .inl (k2, 20, .inl kgf)), (pnam, .inl (nk, 24, .inr (.inl gn)))]) (va_A [(h0, .inr (7, [.ref ptok, .ref pnee, .ref pnam, .int ar, .ref pbui, .ref pdra, .int fu, .int fn, .int fp])), (ptok, .inr (10, [.ref ts, .ref tp, .ref tw, .int z, .int pa, .int so, .int pl, .long wd])), (ts, .inl (t1, 2001, .inl gs)), (tp, .inl (t2, 2001, .inl gp)), (tw, .inl (t3, 2001, .inr (.inl gw))), (pdra, .inr (9, [.ref gco, .ref gar, .ref gki, .ref gfu])), (gki, .inr (4, [.ref kw, .ref kf, .int kz])), (kw, .inl (k1, 20, .inr (.inl kgw))), (kf, .inl (k2, 20, .inl kgf)), (pnam, .inl (nk, 24, .inr (.inl gn)))] sz)) (vx_X (fun u : Int32 × Int32 => match u with | (fn2, fp2) => (¬ sp_nn so wd ar gN)) (fun E u t => E = "java/lang/IllegalStateException" ∧ (match u with | (fn2, fp2) => zQ dC dI (va_A [(h0, .inr (7, [.ref ptok, .ref pnee, .ref pnam, .int ar, .ref pbui, .ref pdra, .int fu, .int fn, .int fp])), (ptok, .inr (10, [.ref ts, .ref tp, .ref tw, .int z, .int pa, .int so, .int pl, .long wd])), (ts, .inl (t1, 2001, .inl gs)), (tp, .inl (t2, 2001, .inl gp)), (tw, .inl (t3, 2001, .inr (.inl gw))), (pdra, .inr (9, [.ref gco, .ref gar, .ref gki, .ref gfu])), (gki, .inr (4, [.ref kw, .ref kf, .int kz])), (kw, .inl (k1, 20, .inr (.inl kgw))), (kf, .inl (k2, 20, .inl kgf)), (pnam, .inl (nk, 24, .inr (.inl gn)))] sz) [(t1, .int), (t2, .int), (t3, .long), (k1, .long), (k2, .int), (nk, .long)] [(h0, .inr (7, [.ref ptok, .ref pnee, .ref pnam, .int ar, .ref pbui, .ref pdra, .int fu, .int fn2, .int fp2])), (ptok, .inr (10, [.ref ts, .ref tp, .ref tw, .int z, .int pa, .int so, .int pl, .long wd])), (ts, .inl (t1, 2001, .inl gs)), (tp, .inl (t2, 2001, .inl gp)), (tw, .inl (t3, 2001, .inr (.inl gw))), (pdra, .inr (9, [.ref gco, .ref gar, .ref gki, .ref gfu])), (gki, .inr (4, [.ref kw, .ref kf, .int kz])), (kw, .inl (k1, 20, .inr (.inl kgw))), (kf, .inl (k2, 20, .inl kgf)), (pnam, .inl (nk, 24, .inr (.inl gn)))] t)) (va_A [(h0, .inr (7, [.ref ptok, .ref pnee, .ref pnam, .int ar, .ref pbui, .ref pdra, .int fu, .int fn, .int fp])), (ptok, .inr (10, [.ref ts, .ref tp, .ref tw, .int z, .int pa, .int so, .int pl, .long wd])), (ts, .inl (t1, 2001, .inl gs)), (tp, .inl (t2, 2001, .inl gp)), (tw, .inl (t3, 2001, .inr (.inl gw))), (pdra, .inr (9, [.ref gco, .ref gar, .ref gki, .ref gfu])), (gki, .inr (4, [.ref kw, .ref kf, .int kz])), (kw, .inl (k1, 20, .inr (.inl kgw))), (kf, .inl (k2, 20, .inl kgf)), (pnam, .inl (nk, 24, .inr (.inl gn)))] sz)) 0 0 1 6 (va_A [(h0, .inr (7, [.ref ptok, .ref pnee, .ref pnam, .int ar, .ref pbui, .ref pdra, .int fu, .int fn, .int fp])), (ptok, .inr (10, [.ref ts, .ref tp, .ref tw, .int z, .int pa, .int so, .int pl, .long wd])), (ts, .inl (t1, 2001, .inl gs)), (tp, .inl (t2, 2001, .inl gp)), (tw, .inl (t3, 2001, .inr (.inl gw))), (pdra, .inr (9, [.ref gco, .ref gar, .ref gki, .ref gfu])), (gki, .inr (4, [.ref kw, .ref kf, .int kz])), (kw, .inl (k1, 20, .inr (.inl kgw))), (kf, .inl (k2, 20, .inl kgf)), (pnam, .inl (nk, 24, .inr (.inl gn)))] sz) := by
  refine vy_ofW (cc := cX7_newName) (maxL := 1) (ret := none) (by decide) rfl ?_
  intro p e s m args below meth c s₁ B hml hnh hv
  obtain ⟨rfl, hsz, hP, hK, hD0, hN, hT⟩ := hv
  have hx := B.exec
  have hb := B.bytes
  have hr := B.returns
  have hts := atoms_spec (ws := Cond.code yX7_newName cX7_newName 1 none :: zw) B.pre
  have hA : ∀ w ∈ zw, w.before _ s = true := fun w h => hts w (List.mem_cons_of_mem _ h)
  have hown : s.vm.findClass RX7 = some m.cls := findClass_of_methodNamed B.named
  have hlocks := B.notSynchronized
  subst hsz
  have hD := hD0.self (sz := s.heap.size)
  generalize hAe : va_A [(h0, .inr (7, [.ref ptok, .ref pnee, .ref pnam, .int ar, .ref pbui, .ref pdra, .int fu, .int fn, .int fp])), (ptok, .inr (10, [.ref ts, .ref tp, .ref tw, .int z, .int pa, .int so, .int pl, .long wd])), (ts, .inl (t1, 2001, .inl gs)), (tp, .inl (t2, 2001, .inl gp)), (tw, .inl (t3, 2001, .inr (.inl gw))), (pdra, .inr (9, [.ref gco, .ref gar, .ref gki, .ref gfu])), (gki, .inr (4, [.ref kw, .ref kf, .int kz])), (kw, .inl (k1, 20, .inr (.inl kgw))), (kf, .inl (k2, 20, .inl kgf)), (pnam, .inl (nk, 24, .inr (.inl gn)))] s.heap.size = A at hD hT ⊢
  have hAA : ∀ q : Nat, s.heap.size ≤ q → A q := fun q h => by rw [← hAe]; exact Or.inr h
  have hS : va_S A s.heap s.heap [] := va_S.rf
  have hl := lv_entry ([.ref h0]) (n := 1) (Nat.le_of_ble_eq_true rfl)
  rw [lg_entry_eq]
  generalize (lg_sl ([.ref h0]) ++ List.replicate (1 - (lg_sl ([.ref h0])).length) Slot.unset).toArray = ls at hl ⊢
  have hl : lv_has ls 1 [(0, .ref h0)] := hl
  refine lv_aload_n hx hb dX7_newName_0 rfl (lv_at hl 0 rfl) ?_
  refine va_get (D := (dC, dI)) (ci := 7) (v := .ref ptok) (C := RX7) (T := TX7) (N := 9) hx hb hA zin_X7 hown hK hP 0 rfl rfl 0 (by decide) (hA _ wi_387) (fun _ h9 => h9) rfl dX7_newName_1 ?_
  refine va_get (D := (dC, dI)) (ci := 10) (v := .int so) (C := RX10) (T := TX10) (N := 8) hx hb hA zin_X10 hown hK hP 1 rfl rfl 5 (by decide) (hA _ wi_353) (fun _ h9 => h9) rfl dX7_newName_4 ?_
  refine lv_sipush (v := 258) hx hb dX7_newName_7 (by decide) ?_
  refine lv_icmp_eq (tgt := 17) hx hb dX7_newName_10 (by decide) (fun c_1 => ?_) (fun c_1 => ?_)
  · have ic_1 : so.toInt = 258 := zi_eq c_1
    refine lv_aload_n hx hb dX7_newName_17 rfl (lv_at hl 0 rfl) ?_
    refine lv_aload_n hx hb dX7_newName_18 rfl (lv_at hl 0 rfl) ?_
    refine va_get (D := (dC, dI)) (ci := 7) (v := .ref ptok) (C := RX7) (T := TX7) (N := 9) hx hb hA zin_X7 hown hK hP 0 rfl rfl 0 (by decide) (hA _ wi_387) (fun _ h9 => h9) rfl dX7_newName_19 ?_
    refine va_get (D := (dC, dI)) (ci := 10) (v := .long wd) (C := RX10) (T := TX10) (N := 8) hx hb hA zin_X10 hown hK hP 1 rfl rfl 7 (by decide) (hA _ wi_357) (fun _ h9 => h9) rfl dX7_newName_22 ?_
    have hPc := hP.sub (ws' := [(h0, .inr (7, [.ref ptok, .ref pnee, .ref pnam, .int ar, .ref pbui, .ref pdra, .int fu, .int fn, .int fp])), (pnam, .inl (nk, 24, .inr (.inl gn)))]) [0, 9] rfl
    have hDc := hD.sub (ws' := [(h0, .inr (7, [.ref ptok, .ref pnee, .ref pnam, .int ar, .ref pbui, .ref pdra, .int fu, .int fn, .int fp])), (pnam, .inl (nk, 24, .inr (.inl gn)))]) [0, 9] (by decide) rfl
    have hKc := hK.sub (tys' := [(nk, .long)]) [5] rfl
    have hFc := va_free (wc := [(h0, .inr (7, [.ref ptok, .ref pnee, .ref pnam, .int ar, .ref pbui, .ref pdra, .int fu, .int fn, .int fp])), (pnam, .inl (nk, 24, .inr (.inl gn)))]) hD hS hAA [0, 9] rfl
    refine va_calli (va_runV (As := [.long wd]) (rest := []) ⟨hx, hb, hml, hown, hA⟩ (c_X7_slotOf_s l dC dI aK aV h0 ptok pnee pnam pbui pdra ar fu fn fp nk gn wd gN s.heap.size (by omega) (by omega) hnl) (cwV 1 hA (zw_V wi_898 wi_900 wi_11 wi_136 (zw_good wi_901)) rfl rfl rfl (by decide +kernel) ⟨(Nat.le_of_ble_eq_true rfl), (Nat.le_of_ble_eq_true rfl)⟩) ⟨zP_blind, va_recv hKc hPc (ci := 7) (q0 := 0) rfl rfl, zz_pre hKc hPc hDc hN hT hS hFc⟩ rfl rfl hl.1 rfl (lv_room (Nat.le_of_ble_eq_true rfl)) dX7_newName_25 ⟨(Nat.le_of_ble_eq_true rfl), (Nat.le_of_ble_eq_true rfl)⟩) hS (fun q _ h => hFc q h) hFc (fun r_2 u t H1 locs ht hvm hw hB hz1 hk1 hS => ?_)
    obtain ⟨hP1, hK1, hD1⟩ := hB
    rw [ht] at hP1
    have hK1 := va_K.moved hvm.symm hK1
    obtain ⟨hP, hD⟩ := va_join (wr := [(ptok, .inr (10, [.ref ts, .ref tp, .ref tw, .int z, .int pa, .int so, .int pl, .long wd])), (ts, .inl (t1, 2001, .inl gs)), (tp, .inl (t2, 2001, .inl gp)), (tw, .inl (t3, 2001, .inr (.inl gw))), (pdra, .inr (9, [.ref gco, .ref gar, .ref gki, .ref gfu])), (gki, .inr (4, [.ref kw, .ref kf, .int kz])), (kw, .inl (k1, 20, .inr (.inl kgw))), (kf, .inl (k2, 20, .inl kgf))]) (w1 := [(h0, .inr (7, [.ref ptok, .ref pnee, .ref pnam, .int ar, .ref pbui, .ref pdra, .int fu, .int fn, .int fp])), (pnam, .inl (nk, 24, .inr (.inl gn)))]) hP hD [0, 9] [1, 2, 3, 4, 5, 6, 7, 8] rfl rfl (by decide) (by decide) hk1 hFc hP1 hD1
    have hK := (hK.sub (tys' := [(t1, .int), (t2, .int), (t3, .long), (k1, .long), (k2, .int)]) [0, 1, 2, 3, 4] rfl).app hK1
    generalize H1 = H at hP hS ⊢
    have hP : va_P (dC, dI) vwCl [(ptok, .inr (10, [.ref ts, .ref tp, .ref tw, .int z, .int pa, .int so, .int pl, .long wd])), (ts, .inl (t1, 2001, .inl gs)), (tp, .inl (t2, 2001, .inl gp)), (tw, .inl (t3, 2001, .inr (.inl gw))), (pdra, .inr (9, [.ref gco, .ref gar, .ref gki, .ref gfu])), (gki, .inr (4, [.ref kw, .ref kf, .int kz])), (kw, .inl (k1, 20, .inr (.inl kgw))), (kf, .inl (k2, 20, .inl kgf)), (h0, .inr (7, [.ref ptok, .ref pnee, .ref pnam, .int ar, .ref pbui, .ref pdra, .int fu, .int fn, .int fp])), (pnam, .inl (nk, 24, .inr (.inl gn)))] H := hP
    have hD : va_D A [(ptok, .inr (10, [.ref ts, .ref tp, .ref tw, .int z, .int pa, .int so, .int pl, .long wd])), (ts, .inl (t1, 2001, .inl gs)), (tp, .inl (t2, 2001, .inl gp)), (tw, .inl (t3, 2001, .inr (.inl gw))), (pdra, .inr (9, [.ref gco, .ref gar, .ref gki, .ref gfu])), (gki, .inr (4, [.ref kw, .ref kf, .int kz])), (kw, .inl (k1, 20, .inr (.inl kgw))), (kf, .inl (k2, 20, .inl kgf)), (h0, .inr (7, [.ref ptok, .ref pnee, .ref pnam, .int ar, .ref pbui, .ref pdra, .int fu, .int fn, .int fp])), (pnam, .inl (nk, 24, .inr (.inl gn)))] := hD
    have hK : va_K (dC, dI) vwCl [(t1, .int), (t2, .int), (t3, .long), (k1, .long), (k2, .int), (nk, .long)] s := hK
    have hw_r_2 := hw
    try dsimp only at hw_r_2
    obtain ⟨hq_3, hq_4, hq_5⟩ := hw
    refine lv_iconst (v := (-1)) hx hb dX7_newName_28 (by decide) ?_
    refine lv_icmp_eq (tgt := 44) hx hb dX7_newName_29 (by decide) (fun c_6 => ?_) (fun c_6 => ?_)
    · have ic_6 : r_2.toInt = (-1) := zi_eq c_6
      refine lv_aload_n hx hb dX7_newName_44 rfl (lv_at hl 0 rfl) ?_
      refine va_get (D := (dC, dI)) (ci := 7) (v := .int ar) (C := RX7) (T := TX7) (N := 9) hx hb hA zin_X7 hown hK hP 8 rfl rfl 3 (by decide) (hA _ wi_390) (fun _ h9 => h9) rfl dX7_newName_45 ?_
      refine lv_bipush (v := 24) hx hb dX7_newName_48 (by decide) ?_
      refine lv_icmp_lt (tgt := 57) hx hb dX7_newName_50 (by decide) (fun c_7 => ?_) (fun c_7 => ?_)
      · have ic_7 : ar.toInt < 24 := zi_lt c_7
        have hP9 := hP.sub (ws' := [(h0, .inr (7, [.ref ptok, .ref pnee, .ref pnam, .int ar, .ref pbui, .ref pdra, .int fu, .int fn, .int fp])), (ptok, .inr (10, [.ref ts, .ref tp, .ref tw, .int z, .int pa, .int so, .int pl, .long wd])), (ts, .inl (t1, 2001, .inl gs)), (tp, .inl (t2, 2001, .inl gp)), (tw, .inl (t3, 2001, .inr (.inl gw))), (pdra, .inr (9, [.ref gco, .ref gar, .ref gki, .ref gfu])), (gki, .inr (4, [.ref kw, .ref kf, .int kz])), (kw, .inl (k1, 20, .inr (.inl kgw))), (kf, .inl (k2, 20, .inl kgf)), (pnam, .inl (nk, 24, .inr (.inl gn)))]) [8, 0, 1, 2, 3, 4, 5, 6, 7, 9] rfl
        have hD9 := hD.sub (ws' := [(h0, .inr (7, [.ref ptok, .ref pnee, .ref pnam, .int ar, .ref pbui, .ref pdra, .int fu, .int fn, .int fp])), (ptok, .inr (10, [.ref ts, .ref tp, .ref tw, .int z, .int pa, .int so, .int pl, .long wd])), (ts, .inl (t1, 2001, .inl gs)), (tp, .inl (t2, 2001, .inl gp)), (tw, .inl (t3, 2001, .inr (.inl gw))), (pdra, .inr (9, [.ref gco, .ref gar, .ref gki, .ref gfu])), (gki, .inr (4, [.ref kw, .ref kf, .int kz])), (kw, .inl (k1, 20, .inr (.inl kgw))), (kf, .inl (k2, 20, .inl kgf)), (pnam, .inl (nk, 24, .inr (.inl gn)))]) [8, 0, 1, 2, 3, 4, 5, 6, 7, 9] (by decide) rfl
        have hK9 := hK.sub (tys' := [(t1, .int), (t2, .int), (t3, .long), (k1, .long), (k2, .int), (nk, .long)]) [0, 1, 2, 3, 4, 5] rfl
        exact vy_mono vy_ret (vx_ret (W.vret hx hb hr (fun t ht hW => ⟨⟨(), rfl, ⟨by omega, by omega, ⟨by omega, hq_5.1 (by omega), by omega⟩⟩, by rw [ht]; exact hP9, va_K.moved hW.alike hK9, hD9⟩, hS.F ht⟩) hS.2.2 dX7_newName_57))
      · have ic_7 : 24 ≤ ar.toInt := zi_nlt c_7
        refine lv_aload_n hx hb dX7_newName_53 rfl (lv_at hl 0 rfl) ?_
        have hPc := hP.sub (ws' := [(h0, .inr (7, [.ref ptok, .ref pnee, .ref pnam, .int ar, .ref pbui, .ref pdra, .int fu, .int fn, .int fp])), (ptok, .inr (10, [.ref ts, .ref tp, .ref tw, .int z, .int pa, .int so, .int pl, .long wd])), (ts, .inl (t1, 2001, .inl gs)), (tp, .inl (t2, 2001, .inl gp)), (tw, .inl (t3, 2001, .inr (.inl gw))), (pdra, .inr (9, [.ref gco, .ref gar, .ref gki, .ref gfu])), (gki, .inr (4, [.ref kw, .ref kf, .int kz])), (kw, .inl (k1, 20, .inr (.inl kgw))), (kf, .inl (k2, 20, .inl kgf))]) [8, 0, 1, 2, 3, 4, 5, 6, 7] rfl
        have hDc := hD.sub (ws' := [(h0, .inr (7, [.ref ptok, .ref pnee, .ref pnam, .int ar, .ref pbui, .ref pdra, .int fu, .int fn, .int fp])), (ptok, .inr (10, [.ref ts, .ref tp, .ref tw, .int z, .int pa, .int so, .int pl, .long wd])), (ts, .inl (t1, 2001, .inl gs)), (tp, .inl (t2, 2001, .inl gp)), (tw, .inl (t3, 2001, .inr (.inl gw))), (pdra, .inr (9, [.ref gco, .ref gar, .ref gki, .ref gfu])), (gki, .inr (4, [.ref kw, .ref kf, .int kz])), (kw, .inl (k1, 20, .inr (.inl kgw))), (kf, .inl (k2, 20, .inl kgf))]) [8, 0, 1, 2, 3, 4, 5, 6, 7] (by decide) rfl
        have hKc := hK.sub (tys' := [(t1, .int), (t2, .int), (t3, .long), (k1, .long), (k2, .int)]) [0, 1, 2, 3, 4] rfl
        have hFc := va_free (wc := [(h0, .inr (7, [.ref ptok, .ref pnee, .ref pnam, .int ar, .ref pbui, .ref pdra, .int fu, .int fn, .int fp])), (ptok, .inr (10, [.ref ts, .ref tp, .ref tw, .int z, .int pa, .int so, .int pl, .long wd])), (ts, .inl (t1, 2001, .inl gs)), (tp, .inl (t2, 2001, .inl gp)), (tw, .inl (t3, 2001, .inr (.inl gw))), (pdra, .inr (9, [.ref gco, .ref gar, .ref gki, .ref gfu])), (gki, .inr (4, [.ref kw, .ref kf, .int kz])), (kw, .inl (k1, 20, .inr (.inl kgw))), (kf, .inl (k2, 20, .inl kgf))]) hD hS hAA [8, 0, 1, 2, 3, 4, 5, 6, 7] rfl
        refine vy_callv (vy_runV (As := []) (rest := []) ⟨hx, hb, hml, hown, hA⟩ (c_X7_failMany l dC dI aK aV h0 ptok pnee pnam pbui pdra ar fu fn fp ts tp tw t1 t2 t3 z pa so pl wd gs gp gw gco gar gki gfu kw kf k1 k2 kz kgw kgf H.size hlt (by omega) (by omega) (by omega) (by omega) hgz (by omega) (by omega) hkf) (cwV 0 hA (zw_V wi_790 wi_792 wi_4 wi_136 (zw_good wi_793)) rfl rfl rfl (by decide +kernel) ⟨(Nat.le_of_ble_eq_true rfl), (Nat.le_of_ble_eq_true rfl)⟩) ⟨zP_blind, va_recv hKc hPc (ci := 7) (q0 := 0) rfl rfl, zz_pre hKc hPc hDc hN hT hS hFc⟩ rfl rfl hl.1 rfl (lv_room (Nat.le_of_ble_eq_true rfl)) dX7_newName_54 ⟨(Nat.le_of_ble_eq_true rfl), (Nat.le_of_ble_eq_true rfl)⟩) hS (fun q _ h => hFc q h) hFc (fun q _ h => hFc q h) (fun E9 ce9 q9 u t H1 locs ht hvm hw hB hz1 hk1 hS hcell hcv hcl => ?_) (fun u t H1 locs ht hvm hw hB hz1 hk1 hS => absurd hw id)
        obtain ⟨x_fn2_9, x_fp2_10⟩ := u
        obtain ⟨rfl, hP1, hK1, hD1⟩ := hB
        rw [ht] at hP1
        have hK1 := va_K.moved hvm.symm hK1
        obtain ⟨hP, hD⟩ := va_join (wr := [(pnam, .inl (nk, 24, .inr (.inl gn)))]) (w1 := [(h0, .inr (7, [.ref ptok, .ref pnee, .ref pnam, .int ar, .ref pbui, .ref pdra, .int fu, .int x_fn2_9, .int x_fp2_10])), (ptok, .inr (10, [.ref ts, .ref tp, .ref tw, .int z, .int pa, .int so, .int pl, .long wd])), (ts, .inl (t1, 2001, .inl gs)), (tp, .inl (t2, 2001, .inl gp)), (tw, .inl (t3, 2001, .inr (.inl gw))), (pdra, .inr (9, [.ref gco, .ref gar, .ref gki, .ref gfu])), (gki, .inr (4, [.ref kw, .ref kf, .int kz])), (kw, .inl (k1, 20, .inr (.inl kgw))), (kf, .inl (k2, 20, .inl kgf))]) hP hD [8, 0, 1, 2, 3, 4, 5, 6, 7] [9] rfl rfl (by decide) (by decide) hk1 hFc hP1 hD1
        have hK := (hK.sub (tys' := [(nk, .long)]) [5] rfl).app hK1
        clear hPc hDc hFc hP1 hD1 hk1 hz1 ht hvm
        generalize H1 = H at hP hS hcell ⊢
        have hP : va_P (dC, dI) vwCl [(pnam, .inl (nk, 24, .inr (.inl gn))), (h0, .inr (7, [.ref ptok, .ref pnee, .ref pnam, .int ar, .ref pbui, .ref pdra, .int fu, .int x_fn2_9, .int x_fp2_10])), (ptok, .inr (10, [.ref ts, .ref tp, .ref tw, .int z, .int pa, .int so, .int pl, .long wd])), (ts, .inl (t1, 2001, .inl gs)), (tp, .inl (t2, 2001, .inl gp)), (tw, .inl (t3, 2001, .inr (.inl gw))), (pdra, .inr (9, [.ref gco, .ref gar, .ref gki, .ref gfu])), (gki, .inr (4, [.ref kw, .ref kf, .int kz])), (kw, .inl (k1, 20, .inr (.inl kgw))), (kf, .inl (k2, 20, .inl kgf))] H := hP
        have hD : va_D A [(pnam, .inl (nk, 24, .inr (.inl gn))), (h0, .inr (7, [.ref ptok, .ref pnee, .ref pnam, .int ar, .ref pbui, .ref pdra, .int fu, .int x_fn2_9, .int x_fp2_10])), (ptok, .inr (10, [.ref ts, .ref tp, .ref tw, .int z, .int pa, .int so, .int pl, .long wd])), (ts, .inl (t1, 2001, .inl gs)), (tp, .inl (t2, 2001, .inl gp)), (tw, .inl (t3, 2001, .inr (.inl gw))), (pdra, .inr (9, [.ref gco, .ref gar, .ref gki, .ref gfu])), (gki, .inr (4, [.ref kw, .ref kf, .int kz])), (kw, .inl (k1, 20, .inr (.inl kgw))), (kf, .inl (k2, 20, .inl kgf))] := hD
        have hK : va_K (dC, dI) vwCl [(nk, .long), (t1, .int), (t2, .int), (t3, .long), (k1, .long), (k2, .int)] s := hK
        refine vx_widen (k := 1) (n := 6) (Nat.le_of_ble_eq_true rfl) (Nat.le_of_ble_eq_true rfl) ?_
        have hP9 := hP.sub (ws' := [(h0, .inr (7, [.ref ptok, .ref pnee, .ref pnam, .int ar, .ref pbui, .ref pdra, .int fu, .int x_fn2_9, .int x_fp2_10])), (ptok, .inr (10, [.ref ts, .ref tp, .ref tw, .int z, .int pa, .int so, .int pl, .long wd])), (ts, .inl (t1, 2001, .inl gs)), (tp, .inl (t2, 2001, .inl gp)), (tw, .inl (t3, 2001, .inr (.inl gw))), (pdra, .inr (9, [.ref gco, .ref gar, .ref gki, .ref gfu])), (gki, .inr (4, [.ref kw, .ref kf, .int kz])), (kw, .inl (k1, 20, .inr (.inl kgw))), (kf, .inl (k2, 20, .inl kgf)), (pnam, .inl (nk, 24, .inr (.inl gn)))]) [1, 2, 3, 4, 5, 6, 7, 8, 9, 0] rfl
        have hD9 := hD.sub (ws' := [(h0, .inr (7, [.ref ptok, .ref pnee, .ref pnam, .int ar, .ref pbui, .ref pdra, .int fu, .int x_fn2_9, .int x_fp2_10])), (ptok, .inr (10, [.ref ts, .ref tp, .ref tw, .int z, .int pa, .int so, .int pl, .long wd])), (ts, .inl (t1, 2001, .inl gs)), (tp, .inl (t2, 2001, .inl gp)), (tw, .inl (t3, 2001, .inr (.inl gw))), (pdra, .inr (9, [.ref gco, .ref gar, .ref gki, .ref gfu])), (gki, .inr (4, [.ref kw, .ref kf, .int kz])), (kw, .inl (k1, 20, .inr (.inl kgw))), (kf, .inl (k2, 20, .inl kgf)), (pnam, .inl (nk, 24, .inr (.inl gn)))]) [1, 2, 3, 4, 5, 6, 7, 8, 9, 0] (by decide) rfl
        have hK9 := hK.sub (tys' := [(t1, .int), (t2, .int), (t3, .long), (k1, .long), (k2, .int), (nk, .long)]) [1, 2, 3, 4, 5, 0] rfl
        exact vy_monoX vy_thr (vx_out (fun x hx => (hnh x hx).elim) hlocks hcell hcv hcl (fun t ht hvm => ⟨(x_fn2_9, x_fp2_10), (fun h => absurd h.2.2 (by omega)), ⟨rfl, by rw [ht]; exact hP9, va_K.moved hvm hK9, hD9⟩, hS.F ht⟩) hS.2.2 (Nat.le_of_ble_eq_true rfl) (Nat.le_of_ble_eq_true rfl))
    · have ic_6 : r_2.toInt ≠ (-1) := zi_ne c_6
      refine lv_aload_n hx hb dX7_newName_32 rfl (lv_at hl 0 rfl) ?_
      refine lv_iconst (v := 3) hx hb dX7_newName_33 (by decide) ?_
      refine lv_aload_n hx hb dX7_newName_34 rfl (lv_at hl 0 rfl) ?_
      refine va_get (D := (dC, dI)) (ci := 7) (v := .ref ptok) (C := RX7) (T := TX7) (N := 9) hx hb hA zin_X7 hown hK hP 8 rfl rfl 0 (by decide) (hA _ wi_387) (fun _ h9 => h9) rfl dX7_newName_35 ?_
      refine va_get (D := (dC, dI)) (ci := 10) (v := .int pl) (C := RX10) (T := TX10) (N := 8) hx hb hA zin_X10 hown hK hP 0 rfl rfl 6 (by decide) (hA _ wi_355) (fun _ h9 => h9) rfl dX7_newName_38 ?_
      have hPc := hP.sub (ws' := [(h0, .inr (7, [.ref ptok, .ref pnee, .ref pnam, .int ar, .ref pbui, .ref pdra, .int fu, .int fn, .int fp]))]) [8] rfl
      have hDc := hD.sub (ws' := [(h0, .inr (7, [.ref ptok, .ref pnee, .ref pnam, .int ar, .ref pbui, .ref pdra, .int fu, .int fn, .int fp]))]) [8] (by decide) rfl
      have hKc := hK.sub (tys' := []) [] rfl
      have hFc := va_free (wc := [(h0, .inr (7, [.ref ptok, .ref pnee, .ref pnam, .int ar, .ref pbui, .ref pdra, .int fu, .int fn, .int fp]))]) hD hS hAA [8] rfl
      refine vy_callv (vy_runV (As := [.int 3, .int pl]) (rest := []) ⟨hx, hb, hml, hown, hA⟩ (c_X7_fail l dC dI aK aV h0 ptok pnee pnam pbui pdra ar fu fn fp 3 pl H.size hlt) (cwV 2 hA (zw_V wi_806 wi_808 wi_5 wi_136 (zw_good wi_809)) rfl rfl rfl (by decide +kernel) ⟨(Nat.le_of_ble_eq_true rfl), (Nat.le_of_ble_eq_true rfl)⟩) ⟨zP_blind, va_recv hKc hPc (ci := 7) (q0 := 0) rfl rfl, zz_pre hKc hPc hDc hN hT hS hFc⟩ rfl rfl hl.1 rfl (lv_room (Nat.le_of_ble_eq_true rfl)) dX7_newName_41 ⟨(Nat.le_of_ble_eq_true rfl), (Nat.le_of_ble_eq_true rfl)⟩) hS (fun q _ h => hFc q h) hFc (fun q _ h => hFc q h) (fun E9 ce9 q9 u t H1 locs ht hvm hw hB hz1 hk1 hS hcell hcv hcl => ?_) (fun u t H1 locs ht hvm hw hB hz1 hk1 hS => absurd hw id)
      obtain ⟨x_fn2_12, x_fp2_13⟩ := u
      obtain ⟨rfl, hP1, hK1, hD1⟩ := hB
      rw [ht] at hP1
      have hK1 := va_K.moved hvm.symm hK1
      obtain ⟨hP, hD⟩ := va_join (wr := [(ptok, .inr (10, [.ref ts, .ref tp, .ref tw, .int z, .int pa, .int so, .int pl, .long wd])), (ts, .inl (t1, 2001, .inl gs)), (tp, .inl (t2, 2001, .inl gp)), (tw, .inl (t3, 2001, .inr (.inl gw))), (pdra, .inr (9, [.ref gco, .ref gar, .ref gki, .ref gfu])), (gki, .inr (4, [.ref kw, .ref kf, .int kz])), (kw, .inl (k1, 20, .inr (.inl kgw))), (kf, .inl (k2, 20, .inl kgf)), (pnam, .inl (nk, 24, .inr (.inl gn)))]) (w1 := [(h0, .inr (7, [.ref ptok, .ref pnee, .ref pnam, .int ar, .ref pbui, .ref pdra, .int fu, .int x_fn2_12, .int x_fp2_13]))]) hP hD [8] [0, 1, 2, 3, 4, 5, 6, 7, 9] rfl rfl (by decide) (by decide) hk1 hFc hP1 hD1
      have hK := (hK.sub (tys' := [(t1, .int), (t2, .int), (t3, .long), (k1, .long), (k2, .int), (nk, .long)]) [0, 1, 2, 3, 4, 5] rfl).app hK1
      clear hPc hDc hFc hP1 hD1 hk1 hz1 ht hvm
      generalize H1 = H at hP hS hcell ⊢
      have hP : va_P (dC, dI) vwCl [(ptok, .inr (10, [.ref ts, .ref tp, .ref tw, .int z, .int pa, .int so, .int pl, .long wd])), (ts, .inl (t1, 2001, .inl gs)), (tp, .inl (t2, 2001, .inl gp)), (tw, .inl (t3, 2001, .inr (.inl gw))), (pdra, .inr (9, [.ref gco, .ref gar, .ref gki, .ref gfu])), (gki, .inr (4, [.ref kw, .ref kf, .int kz])), (kw, .inl (k1, 20, .inr (.inl kgw))), (kf, .inl (k2, 20, .inl kgf)), (pnam, .inl (nk, 24, .inr (.inl gn))), (h0, .inr (7, [.ref ptok, .ref pnee, .ref pnam, .int ar, .ref pbui, .ref pdra, .int fu, .int x_fn2_12, .int x_fp2_13]))] H := hP
      have hD : va_D A [(ptok, .inr (10, [.ref ts, .ref tp, .ref tw, .int z, .int pa, .int so, .int pl, .long wd])), (ts, .inl (t1, 2001, .inl gs)), (tp, .inl (t2, 2001, .inl gp)), (tw, .inl (t3, 2001, .inr (.inl gw))), (pdra, .inr (9, [.ref gco, .ref gar, .ref gki, .ref gfu])), (gki, .inr (4, [.ref kw, .ref kf, .int kz])), (kw, .inl (k1, 20, .inr (.inl kgw))), (kf, .inl (k2, 20, .inl kgf)), (pnam, .inl (nk, 24, .inr (.inl gn))), (h0, .inr (7, [.ref ptok, .ref pnee, .ref pnam, .int ar, .ref pbui, .ref pdra, .int fu, .int x_fn2_12, .int x_fp2_13]))] := hD
      have hK : va_K (dC, dI) vwCl [(t1, .int), (t2, .int), (t3, .long), (k1, .long), (k2, .int), (nk, .long)] s := hK
      refine vx_widen (k := 1) (n := 6) (Nat.le_of_ble_eq_true rfl) (Nat.le_of_ble_eq_true rfl) ?_
      have hP9 := hP.sub (ws' := [(h0, .inr (7, [.ref ptok, .ref pnee, .ref pnam, .int ar, .ref pbui, .ref pdra, .int fu, .int x_fn2_12, .int x_fp2_13])), (ptok, .inr (10, [.ref ts, .ref tp, .ref tw, .int z, .int pa, .int so, .int pl, .long wd])), (ts, .inl (t1, 2001, .inl gs)), (tp, .inl (t2, 2001, .inl gp)), (tw, .inl (t3, 2001, .inr (.inl gw))), (pdra, .inr (9, [.ref gco, .ref gar, .ref gki, .ref gfu])), (gki, .inr (4, [.ref kw, .ref kf, .int kz])), (kw, .inl (k1, 20, .inr (.inl kgw))), (kf, .inl (k2, 20, .inl kgf)), (pnam, .inl (nk, 24, .inr (.inl gn)))]) [9, 0, 1, 2, 3, 4, 5, 6, 7, 8] rfl
      have hD9 := hD.sub (ws' := [(h0, .inr (7, [.ref ptok, .ref pnee, .ref pnam, .int ar, .ref pbui, .ref pdra, .int fu, .int x_fn2_12, .int x_fp2_13])), (ptok, .inr (10, [.ref ts, .ref tp, .ref tw, .int z, .int pa, .int so, .int pl, .long wd])), (ts, .inl (t1, 2001, .inl gs)), (tp, .inl (t2, 2001, .inl gp)), (tw, .inl (t3, 2001, .inr (.inl gw))), (pdra, .inr (9, [.ref gco, .ref gar, .ref gki, .ref gfu])), (gki, .inr (4, [.ref kw, .ref kf, .int kz])), (kw, .inl (k1, 20, .inr (.inl kgw))), (kf, .inl (k2, 20, .inl kgf)), (pnam, .inl (nk, 24, .inr (.inl gn)))]) [9, 0, 1, 2, 3, 4, 5, 6, 7, 8] (by decide) rfl
      have hK9 := hK.sub (tys' := [(t1, .int), (t2, .int), (t3, .long), (k1, .long), (k2, .int), (nk, .long)]) [0, 1, 2, 3, 4, 5] rfl
      exact vy_monoX vy_thr (vx_out (fun x hx => (hnh x hx).elim) hlocks hcell hcv hcl (fun t ht hvm => ⟨(x_fn2_12, x_fp2_13), (fun h => h.2.1 (hq_5.2 (by omega)).1), ⟨rfl, by rw [ht]; exact hP9, va_K.moved hvm hK9, hD9⟩, hS.F ht⟩) hS.2.2 (Nat.le_of_ble_eq_true rfl) (Nat.le_of_ble_eq_true rfl))
  · have ic_1 : so.toInt ≠ 258 := zi_ne c_1
    refine lv_aload_n hx hb dX7_newName_13 rfl (lv_at hl 0 rfl) ?_
    have hPc := hP.sub (ws' := [(h0, .inr (7, [.ref ptok, .ref pnee, .ref pnam, .int ar, .ref pbui, .ref pdra, .int fu, .int fn, .int fp])), (ptok, .inr (10, [.ref ts, .ref tp, .ref tw, .int z, .int pa, .int so, .int pl, .long wd]))]) [0, 1] rfl
    have hDc := hD.sub (ws' := [(h0, .inr (7, [.ref ptok, .ref pnee, .ref pnam, .int ar, .ref pbui, .ref pdra, .int fu, .int fn, .int fp])), (ptok, .inr (10, [.ref ts, .ref tp, .ref tw, .int z, .int pa, .int so, .int pl, .long wd]))]) [0, 1] (by decide) rfl
    have hKc := hK.sub (tys' := []) [] rfl
    have hFc := va_free (wc := [(h0, .inr (7, [.ref ptok, .ref pnee, .ref pnam, .int ar, .ref pbui, .ref pdra, .int fu, .int fn, .int fp])), (ptok, .inr (10, [.ref ts, .ref tp, .ref tw, .int z, .int pa, .int so, .int pl, .long wd]))]) hD hS hAA [0, 1] rfl
    refine vy_callv (vy_runV (As := []) (rest := []) ⟨hx, hb, hml, hown, hA⟩ (c_X7_failForm l dC dI aK aV h0 ptok pnee pnam pbui pdra ar fu fn fp ts tp tw z pa so pl wd s.heap.size hlt) (cwV 0 hA (zw_V wi_877 wi_879 wi_8 wi_136 (zw_good wi_880)) rfl rfl rfl (by decide +kernel) ⟨(Nat.le_of_ble_eq_true rfl), (Nat.le_of_ble_eq_true rfl)⟩) ⟨zP_blind, va_recv hKc hPc (ci := 7) (q0 := 0) rfl rfl, zz_pre hKc hPc hDc hN hT hS hFc⟩ rfl rfl hl.1 rfl (lv_room (Nat.le_of_ble_eq_true rfl)) dX7_newName_14 ⟨(Nat.le_of_ble_eq_true rfl), (Nat.le_of_ble_eq_true rfl)⟩) hS (fun q _ h => hFc q h) hFc (fun q _ h => hFc q h) (fun E9 ce9 q9 u t H1 locs ht hvm hw hB hz1 hk1 hS hcell hcv hcl => ?_) (fun u t H1 locs ht hvm hw hB hz1 hk1 hS => absurd hw id)
    obtain ⟨x_fn2_15, x_fp2_16⟩ := u
    obtain ⟨rfl, hP1, hK1, hD1⟩ := hB
    rw [ht] at hP1
    have hK1 := va_K.moved hvm.symm hK1
    obtain ⟨hP, hD⟩ := va_join (wr := [(ts, .inl (t1, 2001, .inl gs)), (tp, .inl (t2, 2001, .inl gp)), (tw, .inl (t3, 2001, .inr (.inl gw))), (pdra, .inr (9, [.ref gco, .ref gar, .ref gki, .ref gfu])), (gki, .inr (4, [.ref kw, .ref kf, .int kz])), (kw, .inl (k1, 20, .inr (.inl kgw))), (kf, .inl (k2, 20, .inl kgf)), (pnam, .inl (nk, 24, .inr (.inl gn)))]) (w1 := [(h0, .inr (7, [.ref ptok, .ref pnee, .ref pnam, .int ar, .ref pbui, .ref pdra, .int fu, .int x_fn2_15, .int x_fp2_16])), (ptok, .inr (10, [.ref ts, .ref tp, .ref tw, .int z, .int pa, .int so, .int pl, .long wd]))]) hP hD [0, 1] [2, 3, 4, 5, 6, 7, 8, 9] rfl rfl (by decide) (by decide) hk1 hFc hP1 hD1
    have hK := (hK.sub (tys' := [(t1, .int), (t2, .int), (t3, .long), (k1, .long), (k2, .int), (nk, .long)]) [0, 1, 2, 3, 4, 5] rfl).app hK1
    clear hPc hDc hFc hP1 hD1 hk1 hz1 ht hvm
    generalize H1 = H at hP hS hcell ⊢
    have hP : va_P (dC, dI) vwCl [(ts, .inl (t1, 2001, .inl gs)), (tp, .inl (t2, 2001, .inl gp)), (tw, .inl (t3, 2001, .inr (.inl gw))), (pdra, .inr (9, [.ref gco, .ref gar, .ref gki, .ref gfu])), (gki, .inr (4, [.ref kw, .ref kf, .int kz])), (kw, .inl (k1, 20, .inr (.inl kgw))), (kf, .inl (k2, 20, .inl kgf)), (pnam, .inl (nk, 24, .inr (.inl gn))), (h0, .inr (7, [.ref ptok, .ref pnee, .ref pnam, .int ar, .ref pbui, .ref pdra, .int fu, .int x_fn2_15, .int x_fp2_16])), (ptok, .inr (10, [.ref ts, .ref tp, .ref tw, .int z, .int pa, .int so, .int pl, .long wd]))] H := hP
    have hD : va_D A [(ts, .inl (t1, 2001, .inl gs)), (tp, .inl (t2, 2001, .inl gp)), (tw, .inl (t3, 2001, .inr (.inl gw))), (pdra, .inr (9, [.ref gco, .ref gar, .ref gki, .ref gfu])), (gki, .inr (4, [.ref kw, .ref kf, .int kz])), (kw, .inl (k1, 20, .inr (.inl kgw))), (kf, .inl (k2, 20, .inl kgf)), (pnam, .inl (nk, 24, .inr (.inl gn))), (h0, .inr (7, [.ref ptok, .ref pnee, .ref pnam, .int ar, .ref pbui, .ref pdra, .int fu, .int x_fn2_15, .int x_fp2_16])), (ptok, .inr (10, [.ref ts, .ref tp, .ref tw, .int z, .int pa, .int so, .int pl, .long wd]))] := hD
    have hK : va_K (dC, dI) vwCl [(t1, .int), (t2, .int), (t3, .long), (k1, .long), (k2, .int), (nk, .long)] s := hK
    refine vx_widen (k := 1) (n := 6) (Nat.le_of_ble_eq_true rfl) (Nat.le_of_ble_eq_true rfl) ?_
    have hP9 := hP.sub (ws' := [(h0, .inr (7, [.ref ptok, .ref pnee, .ref pnam, .int ar, .ref pbui, .ref pdra, .int fu, .int x_fn2_15, .int x_fp2_16])), (ptok, .inr (10, [.ref ts, .ref tp, .ref tw, .int z, .int pa, .int so, .int pl, .long wd])), (ts, .inl (t1, 2001, .inl gs)), (tp, .inl (t2, 2001, .inl gp)), (tw, .inl (t3, 2001, .inr (.inl gw))), (pdra, .inr (9, [.ref gco, .ref gar, .ref gki, .ref gfu])), (gki, .inr (4, [.ref kw, .ref kf, .int kz])), (kw, .inl (k1, 20, .inr (.inl kgw))), (kf, .inl (k2, 20, .inl kgf)), (pnam, .inl (nk, 24, .inr (.inl gn)))]) [8, 9, 0, 1, 2, 3, 4, 5, 6, 7] rfl
    have hD9 := hD.sub (ws' := [(h0, .inr (7, [.ref ptok, .ref pnee, .ref pnam, .int ar, .ref pbui, .ref pdra, .int fu, .int x_fn2_15, .int x_fp2_16])), (ptok, .inr (10, [.ref ts, .ref tp, .ref tw, .int z, .int pa, .int so, .int pl, .long wd])), (ts, .inl (t1, 2001, .inl gs)), (tp, .inl (t2, 2001, .inl gp)), (tw, .inl (t3, 2001, .inr (.inl gw))), (pdra, .inr (9, [.ref gco, .ref gar, .ref gki, .ref gfu])), (gki, .inr (4, [.ref kw, .ref kf, .int kz])), (kw, .inl (k1, 20, .inr (.inl kgw))), (kf, .inl (k2, 20, .inl kgf)), (pnam, .inl (nk, 24, .inr (.inl gn)))]) [8, 9, 0, 1, 2, 3, 4, 5, 6, 7] (by decide) rfl
    have hK9 := hK.sub (tys' := [(t1, .int), (t2, .int), (t3, .long), (k1, .long), (k2, .int), (nk, .long)]) [0, 1, 2, 3, 4, 5] rfl
    exact vy_monoX vy_thr (vx_out (fun x hx => (hnh x hx).elim) hlocks hcell hcv hcl (fun t ht hvm => ⟨(x_fn2_15, x_fp2_16), (fun h => absurd h.1 (by omega)), ⟨rfl, by rw [ht]; exact hP9, va_K.moved hvm hK9, hD9⟩, hS.F ht⟩) hS.2.2 (Nat.le_of_ble_eq_true rfl) (Nat.le_of_ble_eq_true rfl))
