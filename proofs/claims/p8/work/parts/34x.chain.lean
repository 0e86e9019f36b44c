/-! the chain alone -/
theorem zli_uq2 {nx : Nat → Int32} : ∀ {A B : List Nat} {x : Int32}, zli nx x A → zli nx x B → A = B
  | [], [], _, _, _ => rfl
  | [], y :: l, x, a, b => by have a : x.toInt = -1 := a; have b := b.1; omega
  | y :: l, [], x, a, b => by have b : x.toInt = -1 := b; have a := a.1; omega
  | y :: l, z :: k, x, a, b => by
    have e : y = z := by have a := a.1; have b := b.1; omega
    subst e
    rw [zli_uq2 a.2 b.2]
/-- the stretch X came behind the tail -/
def zCh (nx : Nat → Int32) (cz ct : Int32) (nx2 : Nat → Int32) (cz2 ct2 : Int32) (X : List Nat) : Prop := 0 ≤ ct.toInt ∧ ct.toInt < cz.toInt ∧ cz.toInt ≤ cz2.toInt ∧ (∀ r : Nat, (r : Int) < cz.toInt → (r : Int) ≠ ct.toInt → nx2 r = nx r) ∧ zli nx2 (nx2 (Int32.toNatClampNeg ct)) X ∧ zla (Int32.toNatClampNeg ct) X = Int32.toNatClampNeg ct2 ∧ 0 ≤ ct2.toInt ∧ (∀ r ∈ X, cz.toInt ≤ (r : Int) ∧ (r : Int) < cz2.toInt) ∧ X.Nodup
theorem zCh_0 {nx : Nat → Int32} {cz ct : Int32} (h0 : 0 ≤ ct.toInt) (h1 : ct.toInt < cz.toInt) (h2 : (nx (Int32.toNatClampNeg ct)).toInt = -1) : zCh nx cz ct nx cz ct [] := ⟨h0, h1, Int.le_refl _, fun _ _ _ => rfl, h2, rfl, h0, fun r hr => (nomatch hr), List.nodup_nil⟩
theorem zCh_of {S S2 : Nat → Nat → Int32} {G G2 : Nat → Nat → Int} {f : Nat} {h c h2 c2 : Int} {X : List Nat} (h0 : zS0 S) (k : zE S S2 G G2 f h c X [] h2 c2) : zCh (S 3) (S 11 0) (S 12 0) (S2 3) (S2 11 0) (S2 12 0) X := by
  obtain ⟨a1, a2, a3, a4, a5, a6, a7, a8, -⟩ := k
  rw [List.append_nil] at a3 a5 a6 a8
  exact ⟨h0.1, h0.2.1, a1.1, a2, a3, a5, a4, a6, a8⟩
theorem zCh_end {nx nx2 : Nat → Int32} {cz ct cz2 ct2 : Int32} {X : List Nat} (h : zCh nx cz ct nx2 cz2 ct2 X) : ct2.toInt < cz2.toInt ∧ (X = [] ∧ ct2 = ct ∨ X ≠ [] ∧ Int32.toNatClampNeg ct2 ∈ X ∧ cz.toInt ≤ ct2.toInt) := by
  obtain ⟨a1, a2, a3, a4, a5, a6, a7, a8, a9⟩ := h
  have n1 := zn_nat a1
  have n2 := zn_nat a7
  by_cases u : X = []
  · subst u
    have e : Int32.toNatClampNeg ct = Int32.toNatClampNeg ct2 := a6
    exact ⟨by omega, Or.inl ⟨rfl, Int32.toInt_inj.mp (by omega)⟩⟩
  · have hm := zla_mem u (Int32.toNatClampNeg ct)
    rw [a6] at hm
    have := a8 _ hm
    exact ⟨by omega, Or.inr ⟨u, hm, by omega⟩⟩
theorem zCh_tr {nA nB nC : Nat → Int32} {zA tA zB tB zC tC : Int32} {X Y : List Nat} (a : zCh nA zA tA nB zB tB X) (b : zCh nB zB tB nC zC tC Y) : zCh nA zA tA nC zC tC (X ++ Y) := by
  have he := zCh_end a
  obtain ⟨a1, a2, a3, a4, a5, a6, a7, a8, a9⟩ := a
  obtain ⟨b1, b2, b3, b4, b5, b6, b7, b8, b9⟩ := b
  have n1 := zn_nat a1
  have n2 := zn_nat b1
  rcases he.2 with ⟨rfl, e⟩ | ⟨hX, hm, hg⟩
  · subst e
    exact ⟨a1, a2, by omega, fun r h1 h2 => by rw [b4 r (by omega) h2, a4 r h1 h2], b5, b6, b7, fun r hr => ⟨by have := (b8 r hr).1; omega, (b8 r hr).2⟩, b9⟩
  · have hc : nC (Int32.toNatClampNeg tA) = nB (Int32.toNatClampNeg tA) := b4 _ (by omega) (by omega)
    refine ⟨a1, a2, by omega, fun r h1 h2 => by rw [b4 r (by omega) (by omega), a4 r h1 h2], ?_, ?_, b7, fun r hr => ?_, ?_⟩
    · rw [hc]
      refine zli_app (d := Int32.toNatClampNeg tA) hX a9 a5 (fun r hr hn => b4 r (a8 r hr).2 (fun g => hn ?_)) ?_
      · rw [a6]; omega
      · rw [a6]; exact b5
    · rw [zla_app, a6]; exact b6
    · rcases List.mem_append.mp hr with g | g
      · exact ⟨(a8 r g).1, by have := (a8 r g).2; omega⟩
      · exact ⟨by have := (b8 r g).1; omega, (b8 r g).2⟩
    · exact List.nodup_append.mpr ⟨a9, b9, fun x hx y hy e => by have h1 := (a8 x hx).2; have h2 := (b8 y hy).1; omega⟩
theorem zCh_ap {nx nx2 : Nat → Int32} {z t z2 t2 : Int32} (h0 : 0 ≤ t.toInt) (h1 : t.toInt < z.toInt) (h2 : (nx (Int32.toNatClampNeg t)).toInt = -1) (ez : z2.toInt = z.toInt + 1) (et : t2 = z) (en : nx2 = upd (upd nx (Int32.toNatClampNeg z) (nx (Int32.toNatClampNeg t))) (Int32.toNatClampNeg t) z) : zCh nx z t nx2 z2 t2 [Int32.toNatClampNeg z] := by
  have n1 := zn_nat h0
  have n2 := zn_nat (x := z) (by omega)
  subst et
  refine ⟨h0, h1, by omega, fun r hr hn => by rw [en, zu_n (by omega), zu_n (by omega)], ?_, rfl, by omega, fun r hr => ?_, by simp⟩
  · rw [en, zu_s]
    refine ⟨n2.symm, ?_⟩
    rw [zu_n (by omega), zu_s]; exact h2
  · rw [List.mem_singleton.mp hr]; omega
theorem zCh_ins {nA nB nC : Nat → Int32} {zA tA zB tB zC tC : Int32} {X : List Nat} (a : zCh nA zA tA nB zB tB X) (hX : X ≠ []) (ez : zC.toInt = zB.toInt + 1) (et : tC = tB) (en : nC = upd (upd nB (Int32.toNatClampNeg zB) (nB (Int32.toNatClampNeg tA))) (Int32.toNatClampNeg tA) zB) : zCh nA zA tA nC zC tC (Int32.toNatClampNeg zB :: X) := by
  obtain ⟨a1, a2, a3, a4, a5, a6, a7, a8, a9⟩ := a
  have n1 := zn_nat a1
  have n2 := zn_nat (x := zB) (by omega)
  subst et
  refine ⟨a1, a2, by omega, fun r hr hn => by rw [en, zu_n (by omega), zu_n (by omega)]; exact a4 r hr hn, ?_, ?_, a7, fun r hr => ?_, ?_⟩
  · rw [en, zu_s]
    refine ⟨n2.symm, ?_⟩
    rw [zu_n (by omega), zu_s]
    exact zli_ext a5 (fun r hr => by have := a8 r hr; rw [zu_n (by omega), zu_n (by omega)])
  · cases X with
    | nil => exact (hX rfl).elim
    | cons y l => exact a6
  · rcases List.mem_cons.mp hr with g | g
    · rw [g]; omega
    · have := a8 r g; omega
  · exact List.nodup_cons.mpr ⟨fun g => by have := a8 _ g; omega, a9⟩
theorem zCh_uq {nA nC : Nat → Int32} {zA tA zC tC : Int32} {X Y : List Nat} (a : zCh nA zA tA nC zC tC X) (b : zCh nA zA tA nC zC tC Y) : X = Y := zli_uq2 a.2.2.2.2.1 b.2.2.2.2.1
/-- rows below z stay -/
def zfp (f g : Nat → Int32) (z : Int32) : Prop := ∀ r : Nat, (r : Int) < z.toInt → g r = f r
theorem zfp_rf {f : Nat → Int32} {z : Int32} : zfp f f z := fun _ _ => rfl
theorem zfp_tr {f g h : Nat → Int32} {z z2 : Int32} (a : zfp f g z) (b : zfp g h z2) (hz : z.toInt ≤ z2.toInt) : zfp f h z := fun r hr => (b r (by omega)).trans (a r hr)
theorem zfp_up {f g h : Nat → Int32} {z k x : Int32} (a : zfp f g z) (e : h = upd g (Int32.toNatClampNeg k) x) (hk : z.toInt ≤ k.toInt) (h0 : 0 ≤ k.toInt) : zfp f h z := fun r hr => by
  have := zn_nat h0
  rw [e, zu_n (by omega)]; exact a r hr
/-- a tree whose code lies in rows X; nothing below moved -/
theorem cI_mv {op a b pl ak an ab al af bu op2 a2 b2 pl2 ak2 an2 ab2 al2 af2 bu2 : Nat → Int32} {H : Int32 → Int64 → Prop} {alo ahi alo2 ahi2 : Int} {t : Tm} {X : List Nat} {cz az : Int32} (h : cI (zcs op a b pl ak an ab al af bu) H alo ahi t false 0 0 0 X) (hX : ∀ r ∈ X, (r : Int) < cz.toInt) (hA : ahi ≤ az.toInt) (f0 : zfp op op2 cz) (f1 : zfp a a2 cz) (f2 : zfp b b2 cz) (f3 : zfp pl pl2 cz) (f4 : zfp ak ak2 az) (f5 : zfp an an2 az) (f6 : zfp ab ab2 az) (f7 : zfp al al2 az) (f8 : zfp af af2 az) (f9 : zfp bu bu2 az) (h1 : alo2 ≤ alo) (h2 : ahi ≤ ahi2) : cI (zcs op2 a2 b2 pl2 ak2 an2 ab2 al2 af2 bu2) H alo2 ahi2 t false 0 0 0 X :=
  cI_st (S := zcs op a b pl ak an ab al af bu) (S2 := zcs op2 a2 b2 pl2 ak2 an2 ab2 al2 af2 bu2) (alo := alo) (ahi := ahi) (fun j _ hj => ⟨f4 j (by omega), f5 j (by omega), f6 j (by omega), f7 j (by omega), f8 j (by omega), f9 j (by omega)⟩) h1 h2 t (fun r hr => ⟨f0 r (hX r hr), f1 r (hX r hr), f2 r (hX r hr), f3 r (hX r hr)⟩) h
/-- behind an expression -/
theorem cI_mz {op a b pl ak an ab al af bu nx kf ff op2 a2 b2 pl2 ak2 an2 ab2 al2 af2 bu2 nx2 kf2 ff2 : Nat → Int32} {G G2 : Nat → Nat → Int} {ct kz cz2 ct2 az2 kz2 : Int32} {H : Int32 → Int64 → Prop} {alo ahi alo2 ahi2 : Int} {t : Tm} {X : List Nat} {cz az : Int32} (h : cI (zcs op a b pl ak an ab al af bu) H alo ahi t false 0 0 0 X) (hX : ∀ r ∈ X, (r : Int) < cz.toInt) (hA : ahi ≤ az.toInt) (F : zfr (zst op a b nx ak an ab al af kf ff cz ct az kz) (zst op2 a2 b2 nx2 ak2 an2 ab2 al2 af2 kf2 ff2 cz2 ct2 az2 kz2) G G2) (f3 : zfp pl pl2 cz) (f9 : zfp bu bu2 az) (h1 : alo2 ≤ alo) (h2 : ahi ≤ ahi2) : cI (zcs op2 a2 b2 pl2 ak2 an2 ab2 al2 af2 bu2) H alo2 ahi2 t false 0 0 0 X := by
  obtain ⟨-, -, -, r, m, -⟩ := F
  exact cI_mv h hX hA (fun q hq => (r q hq).1) (fun q hq => (r q hq).2.1) (fun q hq => (r q hq).2.2.1) f3 (fun q hq => (m q hq).1) (fun q hq => (m q hq).2.1) (fun q hq => (m q hq).2.2.1) (fun q hq => (m q hq).2.2.2.1) (fun q hq => (m q hq).2.2.2.2.1) f9 h1 h2
/-- behind a row that was written -/
theorem cI_ma {op a b pl ak an ab al af bu op2 a2 b2 pl2 : Nat → Int32} {H : Int32 → Int64 → Prop} {alo ahi : Int} {t : Tm} {X : List Nat} {cz o x y w : Int32} (h : cI (zcs op a b pl ak an ab al af bu) H alo ahi t false 0 0 0 X) (hX : ∀ r ∈ X, (r : Int) < cz.toInt) (h0 : 0 ≤ cz.toInt) (e0 : op2 = upd op (Int32.toNatClampNeg cz) o) (e1 : a2 = upd a (Int32.toNatClampNeg cz) x) (e2 : b2 = upd b (Int32.toNatClampNeg cz) y) (e3 : pl2 = upd pl (Int32.toNatClampNeg cz) w) : cI (zcs op2 a2 b2 pl2 ak an ab al af bu) H alo ahi t false 0 0 0 X :=
  cI_st (S := zcs op a b pl ak an ab al af bu) (S2 := zcs op2 a2 b2 pl2 ak an ab al af bu) (alo := alo) (ahi := ahi) (fun j _ hj => ⟨rfl, rfl, rfl, rfl, rfl, rfl⟩) (Int.le_refl _) (Int.le_refl _) t (fun r hr => ⟨zfp_up (z := cz) (f := op) zfp_rf e0 (Int.le_refl _) h0 r (hX r hr), zfp_up (z := cz) (f := a) zfp_rf e1 (Int.le_refl _) h0 r (hX r hr), zfp_up (z := cz) (f := b) zfp_rf e2 (Int.le_refl _) h0 r (hX r hr), zfp_up (z := cz) (f := pl) zfp_rf e3 (Int.le_refl _) h0 r (hX r hr)⟩) h
/-- behind a patch elsewhere -/
theorem cI_pa {op a b pl ak an ab al af bu a2 : Nat → Int32} {H : Int32 → Int64 → Prop} {alo ahi : Int} {t : Tm} {X : List Nat} {k : Nat} {x : Int32} (h : cI (zcs op a b pl ak an ab al af bu) H alo ahi t false 0 0 0 X) (hX : k ∉ X) (e : a2 = upd a k x) : cI (zcs op a2 b pl ak an ab al af bu) H alo ahi t false 0 0 0 X :=
  cI_st (S := zcs op a b pl ak an ab al af bu) (S2 := zcs op a2 b pl ak an ab al af bu) (alo := alo) (ahi := ahi) (fun j _ hj => ⟨rfl, rfl, rfl, rfl, rfl, rfl⟩) (Int.le_refl _) (Int.le_refl _) t (fun r hr => ⟨rfl, by show a2 r = a r; rw [e, zu_n (fun g => hX (by rw [← g]; exact hr))], rfl, rfl⟩) h
theorem cI_wd {S : Nat → Nat → Int32} {H : Int32 → Int64 → Prop} {alo ahi alo2 ahi2 : Int} {t : Tm} {X : List Nat} (h : cI S H alo ahi t false 0 0 0 X) (h1 : alo2 ≤ alo) (h2 : ahi ≤ ahi2) : cI S H alo2 ahi2 t false 0 0 0 X := cI_st (fun _ _ _ => ⟨rfl, rfl, rfl, rfl, rfl, rfl⟩) h1 h2 t (fun _ _ => ⟨rfl, rfl, rfl, rfl⟩) h
/-- what a call's row has ahead of the last look -/
def cH (V : Nat → Int64) (zz : Int32) (x : Int32) (w : Int64) : Prop := (0 ≤ x.toInt ∧ x.toInt ≤ zz.toInt) ∧ V (Int32.toNatClampNeg x) = w
/-- how many kinds with n fields are made in it -/
def tm_bn : Tm → Nat → Int
  | .branch 0 (.leaf (some (0, _, _, _, _, _))) a, n => tm_bn a n
  | .branch 0 (.leaf (some (1, _, _, _, _, _))) a, n => (if 0 < tm_ln a ∧ tm_ln a = n then 1 else 0) + tm_bn a n
  | .branch 1 (.leaf (some (0, _, _, _, _, _))) (.branch _ a b), n => tm_bn a n + tm_bn b n
  | .branch 1 (.leaf (some (_ + 1, _, _, _, _, _))) (.branch _ a b), n => tm_bn a n + tm_bn b n
  | .branch 2 (.leaf (some (_, _, _, _, _, _))) (.branch _ a (.branch _ b c)), n => tm_bn a n + tm_bn b n + tm_bn c n
  | .branch 0 (.leaf (some (2, _, _, _, _, _))) a, n => tm_bn a n
  | .branch 0 (.leaf (some (_ + 3, _, _, _, _, _))) a, n => tm_bn a n
  | .branch (_ + 3) a b, n => tm_bn a n + tm_bn b n
  | _, _ => 0
theorem tm_bn_0 (n : Nat) : ∀ t : Tm, 0 ≤ tm_bn t n
  | .branch 0 (.leaf (some (0, _, _, _, _, _))) a => tm_bn_0 n a
  | .branch 0 (.leaf (some (1, _, _, _, _, _))) a => by have := tm_bn_0 n a; show 0 ≤ (if 0 < tm_ln a ∧ tm_ln a = n then 1 else 0) + tm_bn a n; split <;> omega
  | .branch 1 (.leaf (some (0, _, _, _, _, _))) (.branch _ a b) => by have := tm_bn_0 n a; have := tm_bn_0 n b; show 0 ≤ tm_bn a n + tm_bn b n; omega
  | .branch 1 (.leaf (some (_ + 1, _, _, _, _, _))) (.branch _ a b) => by have := tm_bn_0 n a; have := tm_bn_0 n b; show 0 ≤ tm_bn a n + tm_bn b n; omega
  | .branch 2 (.leaf (some (_, _, _, _, _, _))) (.branch _ a (.branch _ b c)) => by have := tm_bn_0 n a; have := tm_bn_0 n b; have := tm_bn_0 n c; show 0 ≤ tm_bn a n + tm_bn b n + tm_bn c n; omega
  | .branch 0 (.leaf (some (2, _, _, _, _, _))) a => tm_bn_0 n a
  | .branch 0 (.leaf (some (_ + 3, _, _, _, _, _))) a => tm_bn_0 n a
  | .branch (_ + 3) a b => by have := tm_bn_0 n a; have := tm_bn_0 n b; show 0 ≤ tm_bn a n + tm_bn b n; omega
  | .leaf (some (0, _, _, _, _, _)) => Int.le_refl _
  | .leaf (some (_ + 1, _, _, _, _, _)) => Int.le_refl _
  | .branch 0 (.leaf none) _ => Int.le_refl _
  | .branch 0 (.branch _ _ _) _ => Int.le_refl _
  | .branch 1 (.leaf none) _ => Int.le_refl _
  | .branch 1 (.branch _ _ _) _ => Int.le_refl _
  | .branch 1 (.leaf (some (0, _, _, _, _, _))) (.leaf _) => Int.le_refl _
  | .branch 1 (.leaf (some (_ + 1, _, _, _, _, _))) (.leaf _) => Int.le_refl _
  | .branch 2 (.leaf none) _ => Int.le_refl _
  | .branch 2 (.branch _ _ _) _ => Int.le_refl _
  | .branch 2 (.leaf (some (_, _, _, _, _, _))) (.leaf _) => Int.le_refl _
  | .branch 2 (.leaf (some (_, _, _, _, _, _))) (.branch _ _ (.leaf _)) => Int.le_refl _
  | .leaf none => Int.le_refl _
theorem tm_bn_mk (n : Nat) : ∀ t : Tm, (0 < tm_bn t n ↔ tm_mk t n = true)
  | .branch 0 (.leaf (some (0, _, _, _, _, _))) a => tm_bn_mk n a
  | .branch 0 (.leaf (some (1, _, _, _, _, _))) a => by
    have := tm_bn_mk n a
    have h0 := tm_bn_0 n a
    show 0 < (if 0 < tm_ln a ∧ tm_ln a = n then 1 else 0) + tm_bn a n ↔ ((decide (0 < tm_ln a) && decide (tm_ln a = n)) || tm_mk a n) = true
    rw [Bool.or_eq_true, Bool.and_eq_true, decide_eq_true_iff, decide_eq_true_iff, ← this]
    split
    · rename_i g; exact ⟨fun _ => Or.inl g, fun _ => by omega⟩
    · rename_i g; exact ⟨fun h => Or.inr (by omega), fun h => h.elim (fun u => absurd u g) (fun u => by omega)⟩
  | .branch 1 (.leaf (some (0, _, _, _, _, _))) (.branch _ a b) => by
    have h1 := tm_bn_mk n a; have h2 := tm_bn_mk n b; have := tm_bn_0 n a; have := tm_bn_0 n b
    show 0 < tm_bn a n + tm_bn b n ↔ (tm_mk a n || tm_mk b n) = true
    rw [Bool.or_eq_true, ← h1, ← h2]; omega
  | .branch 1 (.leaf (some (_ + 1, _, _, _, _, _))) (.branch _ a b) => by
    have h1 := tm_bn_mk n a; have h2 := tm_bn_mk n b; have := tm_bn_0 n a; have := tm_bn_0 n b
    show 0 < tm_bn a n + tm_bn b n ↔ (tm_mk a n || tm_mk b n) = true
    rw [Bool.or_eq_true, ← h1, ← h2]; omega
  | .branch 2 (.leaf (some (_, _, _, _, _, _))) (.branch _ a (.branch _ b c)) => by
    have h1 := tm_bn_mk n a; have h2 := tm_bn_mk n b; have h3 := tm_bn_mk n c; have := tm_bn_0 n a; have := tm_bn_0 n b; have := tm_bn_0 n c
    show 0 < tm_bn a n + tm_bn b n + tm_bn c n ↔ (tm_mk a n || tm_mk b n || tm_mk c n) = true
    rw [Bool.or_eq_true, Bool.or_eq_true, ← h1, ← h2, ← h3]; omega
  | .branch 0 (.leaf (some (2, _, _, _, _, _))) a => tm_bn_mk n a
  | .branch 0 (.leaf (some (_ + 3, _, _, _, _, _))) a => tm_bn_mk n a
  | .branch (_ + 3) a b => by
    have h1 := tm_bn_mk n a; have h2 := tm_bn_mk n b; have := tm_bn_0 n a; have := tm_bn_0 n b
    show 0 < tm_bn a n + tm_bn b n ↔ (tm_mk a n || tm_mk b n) = true
    rw [Bool.or_eq_true, ← h1, ← h2]; omega
  | .leaf (some (0, _, _, _, _, _)) => by show (0 : Int) < 0 ↔ false = true; simp
  | .leaf (some (_ + 1, _, _, _, _, _)) => by show (0 : Int) < 0 ↔ false = true; simp
  | .branch 0 (.leaf none) _ => by show (0 : Int) < 0 ↔ false = true; simp
  | .branch 0 (.branch _ _ _) _ => by show (0 : Int) < 0 ↔ false = true; simp
  | .branch 1 (.leaf none) _ => by show (0 : Int) < 0 ↔ false = true; simp
  | .branch 1 (.branch _ _ _) _ => by show (0 : Int) < 0 ↔ false = true; simp
  | .branch 1 (.leaf (some (0, _, _, _, _, _))) (.leaf _) => by show (0 : Int) < 0 ↔ false = true; simp
  | .branch 1 (.leaf (some (_ + 1, _, _, _, _, _))) (.leaf _) => by show (0 : Int) < 0 ↔ false = true; simp
  | .branch 2 (.leaf none) _ => by show (0 : Int) < 0 ↔ false = true; simp
  | .branch 2 (.branch _ _ _) _ => by show (0 : Int) < 0 ↔ false = true; simp
  | .branch 2 (.leaf (some (_, _, _, _, _, _))) (.leaf _) => by show (0 : Int) < 0 ↔ false = true; simp
  | .branch 2 (.leaf (some (_, _, _, _, _, _))) (.branch _ _ (.leaf _)) => by show (0 : Int) < 0 ↔ false = true; simp
  | .leaf none => by show (0 : Int) < 0 ↔ false = true; simp
/-- what was built -/
def cB (g g2 : Nat → Int32) (t : Tm) : Prop := ∀ n : Nat, 1 ≤ n → n ≤ 3 → (g2 n).toInt = (g n).toInt + tm_bn t n
/-- a row as it was written -/
def cR (S : Nat → Nat → Int32) (r : Nat) (o x y p : Int32) : Prop := S 0 r = o ∧ S 1 r = x ∧ S 2 r = y ∧ S 3 r = p
theorem cR_ap {op a b pl ak an ab al af bu op2 a2 b2 pl2 : Nat → Int32} {k : Nat} {o x y w : Int32} (e0 : op2 = upd op k o) (e1 : a2 = upd a k x) (e2 : b2 = upd b k y) (e3 : pl2 = upd pl k w) : cR (zcs op2 a2 b2 pl2 ak an ab al af bu) k o x y w := ⟨by show op2 k = o; rw [e0, zu_s], by show a2 k = x; rw [e1, zu_s], by show b2 k = y; rw [e2, zu_s], by show pl2 k = w; rw [e3, zu_s]⟩
theorem cR_ma {op a b pl ak an ab al af bu op2 a2 b2 pl2 : Nat → Int32} {r : Nat} {o x y w o' x' y' w' : Int32} {cz : Int32} (h : cR (zcs op a b pl ak an ab al af bu) r o x y w) (hr : (r : Int) < cz.toInt) (e0 : op2 = upd op (Int32.toNatClampNeg cz) o') (e1 : a2 = upd a (Int32.toNatClampNeg cz) x') (e2 : b2 = upd b (Int32.toNatClampNeg cz) y') (e3 : pl2 = upd pl (Int32.toNatClampNeg cz) w') : cR (zcs op2 a2 b2 pl2 ak an ab al af bu) r o x y w := by
  have hn := zn_nat (x := cz) (by omega)
  have u : r ≠ Int32.toNatClampNeg cz := by omega
  obtain ⟨h0, h1, h2, h3⟩ := h
  exact ⟨by show op2 r = o; rw [e0, zu_n u]; exact h0, by show a2 r = x; rw [e1, zu_n u]; exact h1, by show b2 r = y; rw [e2, zu_n u]; exact h2, by show pl2 r = w; rw [e3, zu_n u]; exact h3⟩
theorem cR_mz {op a b pl ak an ab al af bu nx kf ff op2 a2 b2 pl2 ak2 an2 ab2 al2 af2 bu2 nx2 kf2 ff2 : Nat → Int32} {G G2 : Nat → Nat → Int} {ct kz cz2 ct2 az2 kz2 : Int32} {r : Nat} {o x y w : Int32} {cz az : Int32} (h : cR (zcs op a b pl ak an ab al af bu) r o x y w) (hr : (r : Int) < cz.toInt) (F : zfr (zst op a b nx ak an ab al af kf ff cz ct az kz) (zst op2 a2 b2 nx2 ak2 an2 ab2 al2 af2 kf2 ff2 cz2 ct2 az2 kz2) G G2) (f3 : zfp pl pl2 cz) : cR (zcs op2 a2 b2 pl2 ak2 an2 ab2 al2 af2 bu2) r o x y w := by
  obtain ⟨-, -, -, q, -⟩ := F
  obtain ⟨q0, q1, q2, -⟩ := q r hr
  obtain ⟨h0, h1, h2, h3⟩ := h
  exact ⟨Eq.trans q0 h0, Eq.trans q1 h1, Eq.trans q2 h2, Eq.trans (f3 r hr) h3⟩
theorem cR_pa {op a b pl ak an ab al af bu a2 : Nat → Int32} {r k : Nat} {o x y w v : Int32} (h : cR (zcs op a b pl ak an ab al af bu) r o x y w) (hk : r ≠ k) (e : a2 = upd a k v) : cR (zcs op a2 b pl ak an ab al af bu) r o x y w := ⟨h.1, by show a2 r = x; rw [e, zu_n hk]; exact h.2.1, h.2.2.1, h.2.2.2⟩
theorem cR_ps {op a b pl ak an ab al af bu a2 : Nat → Int32} {r : Nat} {o x y w v : Int32} (h : cR (zcs op a b pl ak an ab al af bu) r o x y w) (e : a2 = upd a r v) : cR (zcs op a2 b pl ak an ab al af bu) r o v y w := ⟨h.1, by show a2 r = v; rw [e, zu_s], h.2.2.1, h.2.2.2⟩
theorem cR_i {S : Nat → Nat → Int32} {r : Nat} {o x y w : Int32} {i : Int} (h : cR S r o x y w) (e : o.toInt = i) : (S 0 r).toInt = i := by rw [h.1]; exact e
theorem cR_x {S : Nat → Nat → Int32} {r : Nat} {o x y w : Int32} {i : Int} (h : cR S r o x y w) (e : x.toInt = i) : (S 1 r).toInt = i := by rw [h.2.1]; exact e
theorem cR_y {S : Nat → Nat → Int32} {r : Nat} {o x y w : Int32} {i : Int} (h : cR S r o x y w) (e : y.toInt = i) : (S 2 r).toInt = i := by rw [h.2.2.1]; exact e
theorem cR_p {S : Nat → Nat → Int32} {r : Nat} {o x y w : Int32} {P : Nat → Int32} {a : Nat} (h : cR S r o x y w) (e : w = P a) : (S 3 r).toInt = (P a).toInt := by rw [h.2.2.2, e]
/-- is it a row of trees? -/
def tm_li : Tm → Prop
  | .leaf none => True
  | .branch (_ + 3) _ b => tm_li b
  | _ => False
theorem tm_li_sn (t : Tm) : ∀ {c : Tm}, tm_li c → tm_li (tm_sn c t)
  | .leaf none, _ => trivial
  | .branch (_ + 3) a b, h => tm_li_sn t (c := b) h
theorem tm_li_0 : ∀ {c : Tm}, tm_li c → tm_ln c = 0 → c = Tm.nil
  | .leaf none, _, _ => rfl
  | .branch (_ + 3) a b, _, h => absurd h (Nat.succ_ne_zero _)
theorem tm_bn_sn {n : Nat} {t : Tm} : ∀ {c : Tm}, tm_li c → tm_bn (tm_sn c t) n = tm_bn c n + tm_bn t n
  | .leaf none, _ => by show tm_bn t n + 0 = 0 + tm_bn t n; omega
  | .branch (_ + 3) a b, h => by
    show tm_bn a n + tm_bn (tm_sn b t) n = tm_bn a n + tm_bn b n + tm_bn t n
    rw [tm_bn_sn (c := b) h]; omega
theorem cI_sn {S : Nat → Nat → Int32} {H : Int32 → Int64 → Prop} {alo ahi : Int} {t : Tm} {Y : List Nat} (ht : cI S H alo ahi t false 0 0 0 Y) : ∀ {c : Tm} {X : List Nat}, tm_li c → cI S H alo ahi c false 0 0 0 X → cI S H alo ahi (tm_sn c t) false 0 0 0 (X ++ Y)
  | .leaf none, X, _, h => by
    obtain ⟨rfl, -⟩ := h
    exact ⟨Y, [], by simp, ht, ⟨rfl, fun g => by cases g⟩, fun g => by cases g⟩
  | .branch (_ + 3) a b, X, hl, h => by
    obtain ⟨U, W, rfl, h1, h2, -⟩ := h
    exact ⟨U, W ++ Y, by simp, h1, cI_sn ht (c := b) hl h2, fun g => by cases g⟩
theorem cB_0 {g : Nat → Int32} {t : Tm} (h : ∀ n, tm_bn t n = 0) : cB g g t := fun n _ _ => by rw [h n]; omega
theorem cB_1 {g g2 : Nat → Int32} {t t2 : Tm} (h : cB g g2 t) (e : ∀ n, tm_bn t2 n = tm_bn t n) : cB g g2 t2 := fun n h1 h2 => by rw [e n]; exact h n h1 h2
theorem cB_2 {g g2 g3 : Nat → Int32} {t t2 u : Tm} (h : cB g g2 t) (h2 : cB g2 g3 t2) (e : ∀ n, tm_bn u n = tm_bn t n + tm_bn t2 n) : cB g g3 u := fun n h1 h3 => by
  have a := h n h1 h3
  have b := h2 n h1 h3
  rw [e n]; omega
theorem cB_3 {g g2 g3 g4 : Nat → Int32} {t t2 t3 u : Tm} (h : cB g g2 t) (h2 : cB g2 g3 t2) (h4 : cB g3 g4 t3) (e : ∀ n, tm_bn u n = tm_bn t n + tm_bn t2 n + tm_bn t3 n) : cB g g4 u := fun n h1 h3 => by
  have a := h n h1 h3
  have b := h2 n h1 h3
  have c := h4 n h1 h3
  rw [e n]; omega
theorem cR_h {S : Nat → Nat → Int32} {H : Int32 → Int64 → Prop} {r : Nat} {o x y w : Int32} {v : Int64} (h : cR S r o x y w) (hH : H x v) : H (S 1 r) v := by rw [h.2.1]; exact hH
/-- what was built is not too much -/
def zbd (g : Nat → Int32) (b : Int) : Prop := ∀ n : Nat, 1 ≤ n → n ≤ 3 → 0 ≤ (g n).toInt ∧ (g n).toInt ≤ b
theorem zbd_le {g : Nat → Int32} {b b2 : Int} (h : zbd g b) (hb : b ≤ b2) : zbd g b2 := fun n h1 h2 => ⟨(h n h1 h2).1, by have := (h n h1 h2).2; omega⟩
theorem cB_m {g g2 g3 : Nat → Int32} {t : Tm} {p : Int} {k : Nat} {r x : Int32} (h : cB g g2 t) (hl : (tm_ln t : Int) = r.toInt) (h1 : 1 ≤ r.toInt) (h3 : r.toInt ≤ 3) (e : g3 = upd g2 (Int32.toNatClampNeg r) x) (ex : x.toInt = (g2 (Int32.toNatClampNeg r)).toInt + 1) : cB g g3 (Tm.made p k t) := fun n a b => by
  have hn := zn_nat (x := r) (by omega)
  have := h n a b
  show (g3 n).toInt = (g n).toInt + ((if 0 < tm_ln t ∧ tm_ln t = n then 1 else 0) + tm_bn t n)
  by_cases u : n = Int32.toNatClampNeg r
  · rw [if_pos ⟨by omega, by omega⟩, e, u, zu_s, ex, ← u]; omega
  · rw [if_neg (fun g => u (by omega)), e, zu_n u]; omega
theorem zbd_u {g2 g3 : Nat → Int32} {b b2 : Int} {r x : Int32} (h : zbd g2 b) (h1 : 1 ≤ r.toInt) (h3 : r.toInt ≤ 3) (e : g3 = upd g2 (Int32.toNatClampNeg r) x) (ex : x.toInt = (g2 (Int32.toNatClampNeg r)).toInt + 1) (hb : b + 1 ≤ b2) : zbd g3 b2 := fun n a c => by
  have hn := zn_nat (x := r) (by omega)
  have hh := h n a c
  by_cases u : n = Int32.toNatClampNeg r
  · rw [e, u, zu_s, ex, ← u]; omega
  · rw [e, zu_n u]; omega
theorem zbd_x {g2 : Nat → Int32} {b : Int} {r v x y : Int32} (h : zbd g2 b) (h1 : 1 ≤ r.toInt) (h3 : r.toInt ≤ 3) (hb : b ≤ 2147000000) (ev : v = g2 (Int32.toNatClampNeg r)) (ex : x = v + y) (hy : y.toInt = 1) : x.toInt = (g2 (Int32.toNatClampNeg r)).toInt + 1 := by
  have hn := zn_nat (x := r) (by omega)
  have hh := h (Int32.toNatClampNeg r) (by omega) (by omega)
  rw [ex, ev]; exact zi_addc hy (by omega) (by omega)
theorem cI_ar {op a b pl ak an ab al af bu ak2 an2 ab2 al2 af2 bu2 : Nat → Int32} {H : Int32 → Int64 → Prop} {alo ahi : Int} {t : Tm} {X : List Nat} (h : cI (zcs op a b pl ak an ab al af bu) H alo ahi t false 0 0 0 X) (e : ∀ j : Nat, alo ≤ (j : Int) → (j : Int) < ahi → ak2 j = ak j ∧ an2 j = an j ∧ ab2 j = ab j ∧ al2 j = al j ∧ af2 j = af j ∧ bu2 j = bu j) : cI (zcs op a b pl ak2 an2 ab2 al2 af2 bu2) H alo ahi t false 0 0 0 X :=
  cI_st (S := zcs op a b pl ak an ab al af bu) (S2 := zcs op a b pl ak2 an2 ab2 al2 af2 bu2) (alo := alo) (ahi := ahi) e (Int.le_refl _) (Int.le_refl _) t (fun r hr => ⟨rfl, rfl, rfl, rfl⟩) h
theorem cR_ar {op a b pl ak an ab al af bu ak2 an2 ab2 al2 af2 bu2 : Nat → Int32} {r : Nat} {o x y w : Int32} (h : cR (zcs op a b pl ak an ab al af bu) r o x y w) : cR (zcs op a b pl ak2 an2 ab2 al2 af2 bu2) r o x y w := h
theorem zCh_oft {S S2 : Nat → Nat → Int32} {G G2 : Nat → Nat → Int} {f : Nat} {h c h2 c2 : Int} {X T : List Nat} (h0 : zS0 S) (k : zE S S2 G G2 f h c X T h2 c2) : zCh (S 3) (S 11 0) (S 12 0) (S2 3) (S2 11 0) (S2 12 0) (X ++ T) := by
  obtain ⟨a1, a2, a3, a4, a5, a6, a7, a8, -⟩ := k
  exact ⟨h0.1, h0.2.1, a1.1, a2, a3, a5, a4, a6, a8⟩
theorem zcs_1 {op a b pl ak an ab al af bu a2 : Nat → Int32} : ∀ k, k ≠ 1 → zcs op a2 b pl ak an ab al af bu k = zcs op a b pl ak an ab al af bu k
  | 0, _ => rfl
  | 1, h => absurd rfl h
  | 2, _ => rfl
  | 3, _ => rfl
  | 4, _ => rfl
  | 5, _ => rfl
  | 6, _ => rfl
  | 7, _ => rfl
  | 8, _ => rfl
  | _ + 9, _ => rfl
/-- of a row: what it does, its number, its place -/
def cQ (S : Nat → Nat → Int32) (r : Nat) (o x p : Int32) : Prop := S 0 r = o ∧ S 1 r = x ∧ S 3 r = p
theorem cQ_mv {op a b pl ak an ab al af bu op2 a2 b2 pl2 ak2 an2 ab2 al2 af2 bu2 : Nat → Int32} {r : Nat} {o x p : Int32} {cz : Int32} (h : cQ (zcs op a b pl ak an ab al af bu) r o x p) (hr : (r : Int) < cz.toInt) (f0 : zfp op op2 cz) (f1 : zfp a a2 cz) (f3 : zfp pl pl2 cz) : cQ (zcs op2 a2 b2 pl2 ak2 an2 ab2 al2 af2 bu2) r o x p := ⟨(f0 r hr).trans h.1, (f1 r hr).trans h.2.1, (f3 r hr).trans h.2.2⟩
theorem cb_y {x : Int32} {n : Nat} {t : Tm} {g g2 : Nat → Int32} (hB : cB g g2 t) (h1 : 1 ≤ n) (h3 : n ≤ 3) (hx : x.toBitVec.getLsbD n = true) (h : (g n).toInt < (g2 n).toInt) : x.toBitVec.getLsbD n = tm_mk t n := by
  have := hB n h1 h3
  rw [hx, (tm_bn_mk n t).mp (by omega)]
theorem cb_n {x : Int32} {n : Nat} {t : Tm} {g g2 : Nat → Int32} (hB : cB g g2 t) (h1 : 1 ≤ n) (h3 : n ≤ 3) (hx : x.toBitVec.getLsbD n = false) (h : (g2 n).toInt ≤ (g n).toInt) : x.toBitVec.getLsbD n = tm_mk t n := by
  have := hB n h1 h3
  have h0 : ¬ tm_mk t n = true := fun q => by have := (tm_bn_mk n t).mpr q; omega
  rw [hx]; exact ((Bool.not_eq_true _).mp h0).symm
theorem cb_3 {x : Int32} {t : Tm} (h1 : x.toBitVec.getLsbD 1 = tm_mk t 1) (h2 : x.toBitVec.getLsbD 2 = tm_mk t 2) (h3 : x.toBitVec.getLsbD 3 = tm_mk t 3) : ∀ n, 1 ≤ n → n ≤ 3 → x.toBitVec.getLsbD n = tm_mk t n := fun n a b => by
  rcases (show n = 1 ∨ n = 2 ∨ n = 3 by omega) with rfl | rfl | rfl
  · exact h1
  · exact h2
  · exact h3
