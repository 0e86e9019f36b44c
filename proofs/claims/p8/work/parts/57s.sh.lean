/-! the needs and the shells of a tree's code -/
/-- rows that follow each other behind d -/
def zsg (nx : Nat → Int32) : Nat → List Nat → Prop
  | _, [] => True
  | d, x :: l => (nx d).toInt = (x : Int) ∧ zsg nx x l
theorem zsg_app {nx : Nat → Int32} : ∀ {X Y : List Nat} {d : Nat}, zsg nx d (X ++ Y) ↔ zsg nx d X ∧ zsg nx (zla d X) Y
  | [], Y, d => ⟨fun h => ⟨trivial, h⟩, fun h => h.2⟩
  | x :: l, Y, d => ⟨fun h => ⟨⟨h.1, (zsg_app.mp h.2).1⟩, (zsg_app.mp h.2).2⟩, fun h => ⟨h.1.1, zsg_app.mpr ⟨h.1.2, h.2⟩⟩⟩
theorem zbit_ge {x : Int32} {k : Nat} (h : 32 ≤ k) : zbit x k = false := by
  unfold zbit; exact BitVec.getLsbD_of_ge _ _ h
theorem zn_li7 {x : Int32} {n : Nat} (h : x.toInt = (n : Int)) : Int32.toNatClampNeg x = n := by
  have := zn_nat (x := x) (by omega)
  omega
/-- what is needed right behind row d -/
def zBe (nx nd : Nat → Int32) (d k : Nat) : Bool := zbit (if (nx d).toInt = -1 then 0 else nd (Int32.toNatClampNeg (nx d))) k
theorem zBe_ge {nx nd : Nat → Int32} {d k : Nat} (h : 32 ≤ k) : zBe nx nd d k = false := zbit_ge h
theorem zBe_1 {nx nd : Nat → Int32} {d x : Nat} (h : (nx d).toInt = (x : Int)) (k : Nat) : zBe nx nd d k = zbit (nd x) k := by
  unfold zBe
  rw [if_neg (by omega), show Int32.toNatClampNeg (nx d) = x from zn_li7 h]
theorem zbe_d {nx nd : Nat → Int32} {row : Int32} {d : Nat} (h : row.toInt = (d : Int)) (k : Nat) : zbit (zbe nx nd row) k = zBe nx nd d k := by
  unfold zbe zBe
  rw [if_neg (by omega), show Int32.toNatClampNeg row = d from zn_li7 h]
section
variable {op a b nx ak an ab al af kf ff pl bu : Nat → Int32} {cz ct az kz : Int32} {nd : Nat → Int32} {H : Int32 → Int64 → Prop} {alo ahi : Int}
/-- a row's needs by what is behind it -/
def zhz (S : Nat → Nat → Int32) (nd : Nat → Int32) (r : Nat) : Prop := ∀ k, k < 32 → zbit (nd r) k = znb S nd r (zbh S nd r) k (Int32.toNatClampNeg (S 0 r))
theorem zeq_hz {S : Nat → Nat → Int32} : ∀ {L : List Nat}, zeq S nd L → ∀ r ∈ L, zhz S nd r
  | r :: l, h, q, hq => (List.mem_cons.mp hq).elim (fun e => e ▸ h.1) (fun g => zeq_hz h.2 q g)
theorem hz_n {r n : Nat} (h : zhz (zst op a b nx ak an ab al af kf ff cz ct az kz) nd r) (ho : (op r).toInt = (n : Int)) (k : Nat) (hk : k < 32) : zbit (nd r) k = znb (zst op a b nx ak an ab al af kf ff cz ct az kz) nd r (zbh (zst op a b nx ak an ab al af kf ff cz ct az kz) nd r) k n := by
  have := h k hk
  rw [show Int32.toNatClampNeg ((zst op a b nx ak an ab al af kf ff cz ct az kz) 0 r) = n from zn_li7 ho] at this
  exact this
/-- rows that ask for nothing themselves -/
def zdf : Nat → Prop
  | 3 => False | 12 => False | 13 => False | 14 => False | 15 => False | 16 => False | 17 => False
  | _ => True
theorem hz_d {r n : Nat} (h : zhz (zst op a b nx ak an ab al af kf ff cz ct az kz) nd r) (ho : (op r).toInt = (n : Int)) (hn : zdf n) (k : Nat) : zbit (nd r) k = zBe nx nd r k := by
  by_cases hk : k < 32
  · rw [hz_n h ho k hk]
    match n, hn with
    | 0, _ => rfl
    | 1, _ => rfl
    | 2, _ => rfl
    | 4, _ => rfl
    | 5, _ => rfl
    | 6, _ => rfl
    | 7, _ => rfl
    | 8, _ => rfl
    | 9, _ => rfl
    | 10, _ => rfl
    | 11, _ => rfl
    | n + 18, _ => rfl
  · rw [zbit_ge (by omega), zBe_ge (by omega)]
theorem hz_use {r s : Nat} (h : zhz (zst op a b nx ak an ab al af kf ff cz ct az kz) nd r) (ho : (op r).toInt = 3) (ha : (a r).toInt = (s : Int)) (hs : s < 32) (k : Nat) : zbit (nd r) k = (zBe nx nd r k || k == s) := by
  by_cases hk : k < 32
  · rw [hz_n (n := 3) h ho k hk]
    show (zBe nx nd r k || k == Int32.toNatClampNeg (a r)) = _
    rw [show Int32.toNatClampNeg (a r) = s from zn_li7 ha]
  · rw [zbit_ge (by omega), zBe_ge (by omega), show (k == s) = false from beq_eq_false_iff_ne.mpr (by omega)]; rfl
theorem hz_let {r s : Nat} (h : zhz (zst op a b nx ak an ab al af kf ff cz ct az kz) nd r) (ho : (op r).toInt = 12) (ha : (a r).toInt = (s : Int)) (k : Nat) : zbit (nd r) k = (zBe nx nd r k && !(k == s)) := by
  by_cases hk : k < 32
  · rw [hz_n (n := 12) h ho k hk]
    show (zBe nx nd r k && !(k == Int32.toNatClampNeg (a r))) = _
    rw [show Int32.toNatClampNeg (a r) = s from zn_li7 ha]
  · rw [zbit_ge (by omega), zBe_ge (by omega)]; rfl
theorem hz_if {r j : Nat} (h : zhz (zst op a b nx ak an ab al af kf ff cz ct az kz) nd r) (ho : (op r).toInt = 13) (ha : (a r).toInt = (j : Int)) (k : Nat) : zbit (nd r) k = (zBe nx nd r k || zBe nx nd j k) := by
  by_cases hk : k < 32
  · rw [hz_n (n := 13) h ho k hk]
    show (zBe nx nd r k || zbit (zbe nx nd (a r)) k) = _
    rw [zbe_d ha]
  · rw [zbit_ge (by omega), zBe_ge (by omega), zBe_ge (by omega)]; rfl
theorem hz_jmp {r j n : Nat} (h : zhz (zst op a b nx ak an ab al af kf ff cz ct az kz) nd r) (ho : (op r).toInt = (n : Int)) (hn : n = 14 ∨ n = 16) (ha : (a r).toInt = (j : Int)) (k : Nat) : zbit (nd r) k = zBe nx nd j k := by
  by_cases hk : k < 32
  · rw [hz_n h ho k hk, ← zbe_d ha]
    rcases hn with rfl | rfl <;> rfl
  · rw [zbit_ge (by omega), zBe_ge (by omega)]
theorem zab_ge {S : Nat → Nat → Int32} {k : Nat} (hk : 32 ≤ k) : ∀ (n : Nat) (x : Int32), zab S nd k n x = false
  | 0, _ => rfl
  | n + 1, x => by
    unfold zab
    split
    · rfl
    · rw [zbit_ge hk, zab_ge hk n]; rfl
theorem hz_mat {r s : Nat} (h : zhz (zst op a b nx ak an ab al af kf ff cz ct az kz) nd r) (ho : (op r).toInt = 15) (ha : (a r).toInt = (s : Int)) (hs : s < 32) (k : Nat) : zbit (nd r) k = (k == s || zab (zst op a b nx ak an ab al af kf ff cz ct az kz) nd k 8 (b r)) := by
  by_cases hk : k < 32
  · rw [hz_n (n := 15) h ho k hk]
    show (k == Int32.toNatClampNeg (a r) || zab (zst op a b nx ak an ab al af kf ff cz ct az kz) nd k 8 (b r)) = _
    rw [show Int32.toNatClampNeg (a r) = s from zn_li7 ha]
  · rw [zbit_ge (by omega), show (k == s) = false from beq_eq_false_iff_ne.mpr (by omega), zab_ge (by omega)]; rfl
/-- an arm's fields -/
theorem zfl_m {k : Int} {m z : Nat} {x : Int32} (hk : 0 ≤ kz.toInt) (hz : z = Int32.toNatClampNeg kz) (hx : x.toInt = if k = -1 then -2 else k) (h : k = -1 ∧ m = 0 ∨ ∃ j : Nat, k = (j : Int) ∧ j < z ∧ (kf j).toInt = (m : Int)) : zfl (zst op a b nx ak an ab al af kf ff cz ct az kz) x = (m : Int) := by
  have hn := zn_nat hk
  rcases h with ⟨h1, h2⟩ | ⟨j, e, j1, j2⟩
  · rw [if_pos h1] at hx
    unfold zfl
    rw [if_neg (by omega)]; omega
  · rw [if_neg (by omega)] at hx
    have ej : Int32.toNatClampNeg x = j := zn_li7 (by omega)
    unfold zfl
    show (if 0 ≤ x.toInt ∧ x.toInt < kz.toInt ∧ 0 < (kf (Int32.toNatClampNeg x)).toInt then (kf (Int32.toNatClampNeg x)).toInt else 0) = (m : Int)
    rw [ej, j2]
    by_cases u : 0 < (m : Int)
    · rw [if_pos ⟨by omega, by omega, u⟩]
    · rw [if_neg (fun g => u g.2.2)]; omega
theorem op_df (o : Int) : ∃ n : Nat, cI_op o = (n : Int) ∧ zdf n := by
  unfold cI_op
  split
  · exact ⟨8, rfl, trivial⟩
  · split
    · exact ⟨9, rfl, trivial⟩
    · split
      · exact ⟨10, rfl, trivial⟩
      · exact ⟨11, rfl, trivial⟩
theorem bo_let {u B e : Bool} (h : B = true → e = false) : ((u || B) && !e) = (u && !e || B) := by
  cases u <;> cases B <;> cases e <;> simp_all
theorem cUb {z : Nat} (hkz : 0 ≤ kz.toInt) (hz : z = Int32.toNatClampNeg kz) : ∀ (t : Tm) {bb : Bool}, tm_sy t bb →
    (tm_k t = 1 ∨ tm_li t → bb = false → ∀ {X : List Nat} {d c : Nat}, cI (zcs op a b pl ak an ab al af bu) H alo ahi t false 0 0 0 X → zsg nx d X → (∀ r ∈ X, zhz (zst op a b nx ak an ab al af kf ff cz ct az kz) nd r) → tm_wf z kf t c → c ≤ 24 → (∀ k, zBe nx nd (zla d X) k = true → k < c) → ∀ k, zBe nx nd d k = (tm_ub t k || zBe nx nd (zla d X) k)) ∧
    (tm_k t = 2 → ∀ {mo : Bool} {pv : Nat} {ar : Int32} {en : Nat} {X : List Nat} {c : Nat}, cI (zcs op a b pl ak an ab al af bu) H alo ahi t mo pv ar en X → zsg nx pv X → (∀ r ∈ X, zhz (zst op a b nx ak an ab al af kf ff cz ct az kz) nd r) → tm_wf z kf t c → (∀ k, zBe nx nd en k = true → k < c) → ∀ k, (zbit (zbe nx nd (ab (Int32.toNatClampNeg ar))) k && !(decide ((af (Int32.toNatClampNeg ar)).toInt ≤ (k : Int)) && decide ((k : Int) < (af (Int32.toNatClampNeg ar)).toInt + zfl (zst op a b nx ak an ab al af kf ff cz ct az kz) (ak (Int32.toNatClampNeg ar))))) = (tm_ub t k || zBe nx nd en k)) ∧
    (tm_li t → bb = true → ∀ {pv : Nat} {ar : Int32} {en : Nat} {X : List Nat} {c n : Nat}, cI (zcs op a b pl ak an ab al af bu) H alo ahi t true pv ar en X → zsg nx pv X → (∀ r ∈ X, zhz (zst op a b nx ak an ab al af kf ff cz ct az kz) nd r) → tm_wf z kf t c → (∀ k, zBe nx nd en k = true → k < c) → tm_ln t ≤ n → ∀ k, zab (zst op a b nx ak an ab al af kf ff cz ct az kz) nd k n ar = (tm_ub t k || (decide (0 < tm_ln t) && zBe nx nd en k)))
  | .leaf (some (0, _, _, _, _, _)), _, _ => by
    refine ⟨fun _ _ X d c h hs hr hw hc hB k => ?_, fun g => absurd (show (1 : Nat) = 2 from g) (by decide), fun g => g.elim⟩
    obtain ⟨r, rfl, h1, -⟩ := h
    rw [zBe_1 hs.1, hz_d (n := 2) (hr r (by simp)) h1 trivial]; rfl
  | .leaf (some (_ + 1, _, _, s, _, _)), _, _ => by
    refine ⟨fun _ _ X d c h hs hr hw hc hB k => ?_, fun g => absurd (show (1 : Nat) = 2 from g) (by decide), fun g => g.elim⟩
    obtain ⟨r, rfl, h1, h2, -⟩ := h
    have hw : s < c := hw
    rw [zBe_1 hs.1, hz_use (hr r (by simp)) h1 h2 (by omega), Bool.or_comm]; rfl
  | .branch 0 (.leaf (some (0, _, _, _, _, _))) x, _, ⟨l, y⟩ => by
    refine ⟨fun _ _ X d c h hs hr hw hc hB k => ?_, fun g => absurd (show (1 : Nat) = 2 from g) (by decide), fun g => g.elim⟩
    rcases h with ⟨q1, q2, r, rfl, h1, -⟩ | ⟨q1, s, Y, r, rfl, h1, -, h2, h3, -⟩
    · rw [zBe_1 hs.1, hz_d (n := 6) (hr r (by simp)) h1 trivial, q2]; rfl
    · obtain ⟨s1, s2⟩ := hs
      obtain ⟨s2, s3⟩ := zsg_app.mp s2
      have er := hz_d (n := 7) (hr r (by simp)) h3 trivial
      have e9 : ∀ k, zBe nx nd (zla s Y) k = zBe nx nd r k := fun k => (zBe_1 s3.1 k).trans (er k)
      have ez : zla d (s :: (Y ++ [r])) = r := by show zla s (Y ++ [r]) = r; rw [zla_app]; rfl
      rw [ez] at hB ⊢
      have e := (cUb hkz hz x y).1 (Or.inr l) rfl h2 s2 (fun q hq => hr q (by simp [hq])) hw hc (fun k g => hB k (by rw [← e9]; exact g)) k
      rw [zBe_1 s1, hz_d (n := 1) (hr s (by simp)) h1 trivial, e, e9]; rfl
  | .branch 0 (.leaf (some (1, _, _, _, _, _))) x, _, ⟨l, y⟩ => by
    refine ⟨fun _ _ X d c h hs hr hw hc hB k => ?_, fun g => absurd (show (1 : Nat) = 2 from g) (by decide), fun g => g.elim⟩
    rcases h with ⟨q1, q2, r, rfl, h1, -⟩ | ⟨q1, s, Y, r, rfl, h1, -, h2, h3, -⟩
    · rw [zBe_1 hs.1, hz_d (n := 4) (hr r (by simp)) h1 trivial, q2]; rfl
    · obtain ⟨s1, s2⟩ := hs
      obtain ⟨s2, s3⟩ := zsg_app.mp s2
      have er := hz_d (n := 5) (hr r (by simp)) h3 trivial
      have e9 : ∀ k, zBe nx nd (zla s Y) k = zBe nx nd r k := fun k => (zBe_1 s3.1 k).trans (er k)
      have ez : zla d (s :: (Y ++ [r])) = r := by show zla s (Y ++ [r]) = r; rw [zla_app]; rfl
      rw [ez] at hB ⊢
      have e := (cUb hkz hz x y).1 (Or.inr l) rfl h2 s2 (fun q hq => hr q (by simp [hq])) hw.2 hc (fun k g => hB k (by rw [← e9]; exact g)) k
      rw [zBe_1 s1, hz_d (n := 1) (hr s (by simp)) h1 trivial, e, e9]; rfl
  | .branch 1 (.leaf (some (0, _, o, _, _, _))) (.branch _ x y), _, ⟨⟨kx, yx⟩, ⟨ky, yy⟩⟩ => by
    refine ⟨fun _ _ X d c h hs hr hw hc hB k => ?_, fun g => absurd (show (1 : Nat) = 2 from g) (by decide), fun g => g.elim⟩
    obtain ⟨s, Y, Z, r, rfl, h1, -, h2, h3, h4, -⟩ := h
    obtain ⟨s1, s2⟩ := hs
    rw [List.append_assoc] at s2
    obtain ⟨s2, s3⟩ := zsg_app.mp s2
    obtain ⟨s3, s4⟩ := zsg_app.mp s3
    obtain ⟨n, hn, hd⟩ := op_df o
    have er := hz_d (n := n) (hr r (by simp)) (h4.trans hn) hd
    have e9 : ∀ k, zBe nx nd (zla (zla s Y) Z) k = zBe nx nd r k := fun k => (zBe_1 s4.1 k).trans (er k)
    have ez : zla d (s :: (Y ++ Z ++ [r])) = r := by show zla s (Y ++ Z ++ [r]) = r; rw [zla_app]; rfl
    rw [ez] at hB ⊢
    have ey := (cUb hkz hz y yy).1 (Or.inl ky) rfl h3 s3 (fun q hq => hr q (by simp [hq])) hw.2 hc (fun k g => hB k (by rw [← e9]; exact g))
    have ex := (cUb hkz hz x yx).1 (Or.inl kx) rfl h2 s2 (fun q hq => hr q (by simp [hq])) hw.1 hc (fun k g => by
      rw [ey, Bool.or_eq_true] at g
      rcases g with g | g
      · exact wf_ub y hw.2 g
      · exact hB k (by rw [← e9]; exact g)) k
    rw [zBe_1 s1, hz_d (n := 1) (hr s (by simp)) h1 trivial, ex, ey, e9, ← Bool.or_assoc]; rfl
  | .branch 1 (.leaf (some (_ + 1, _, _, v, _, _))) (.branch _ x y), _, ⟨⟨kx, yx⟩, ⟨ky, yy⟩⟩ => by
    refine ⟨fun _ _ X d c h hs hr hw hc hB k => ?_, fun g => absurd (show (1 : Nat) = 2 from g) (by decide), fun g => g.elim⟩
    obtain ⟨s, Y, r, Z, rfl, h1, -, h2, h3, h4, h5⟩ := h
    obtain ⟨⟨w1, w1b⟩, w2, w3⟩ := hw
    obtain ⟨s1, s2⟩ := hs
    rw [List.append_assoc] at s2
    obtain ⟨s2, s3⟩ := zsg_app.mp s2
    obtain ⟨s3, s4⟩ := s3
    have ez : zla d (s :: (Y ++ [r] ++ Z)) = zla r Z := by show zla s (Y ++ [r] ++ Z) = zla r Z; rw [zla_app, zla_app]; rfl
    rw [ez] at hB ⊢
    have ey := (cUb hkz hz y yy).1 (Or.inl ky) rfl h5 s4 (fun q hq => hr q (by simp [hq])) w3 (by omega) (fun k g => by have := hB k g; omega)
    have er : ∀ k, zBe nx nd (zla s Y) k = (tm_ub y k && !(k == v) || zBe nx nd (zla r Z) k) := fun k => by
      rw [zBe_1 s3, hz_let (hr r (by simp)) h3 h4, ey]
      exact bo_let (fun g => beq_eq_false_iff_ne.mpr (by have := hB k g; omega))
    have ex := (cUb hkz hz x yx).1 (Or.inl kx) rfl h2 s2 (fun q hq => hr q (by simp [hq])) w2 hc (fun k g => by
      rw [er, Bool.or_eq_true] at g
      rcases g with g | g
      · obtain ⟨g1, g2⟩ := (Bool.and_eq_true _ _).mp g
        have := wf_ub y w3 g1
        rw [Bool.not_eq_true', beq_eq_false_iff_ne] at g2
        omega
      · exact hB k g) k
    rw [zBe_1 s1, hz_d (n := 1) (hr s (by simp)) h1 trivial, ex, er, ← Bool.or_assoc]; rfl
  | .branch 2 (.leaf (some (_, _, _, _, _, _))) (.branch _ x (.branch _ y w)), _, ⟨⟨kx, yx⟩, ⟨ky, yy⟩, ⟨kw, yw⟩⟩ => by
    refine ⟨fun _ _ X d c h hs hr hw hc hB k => ?_, fun g => absurd (show (1 : Nat) = 2 from g) (by decide), fun g => g.elim⟩
    obtain ⟨s, Y, i, Z, j, U, rfl, h1, -, h2, h3, h4, -, h5, h6, h7, h8⟩ := h
    obtain ⟨s1, s2⟩ := hs
    rw [List.append_assoc, List.append_assoc, List.append_assoc] at s2
    obtain ⟨s2, s3⟩ := zsg_app.mp s2
    obtain ⟨s3, s4⟩ := s3
    have s4 : zsg nx i (Z ++ ([j] ++ U)) := s4
    obtain ⟨s4, s5⟩ := zsg_app.mp s4
    obtain ⟨s5, s6⟩ := s5
    have s6 : zsg nx j U := s6
    have ez : zla d (s :: (Y ++ [i] ++ Z ++ [j] ++ U)) = zla j U := by
      show zla s (Y ++ [i] ++ Z ++ [j] ++ U) = zla j U
      rw [zla_app, zla_app]; rfl
    rw [ez] at hB ⊢
    have ew := (cUb hkz hz w yw).1 (Or.inl kw) rfl h8 s6 (fun q hq => hr q (by simp [hq])) hw.2.2 hc hB
    have ej : ∀ k, zBe nx nd (zla i Z) k = zBe nx nd (zla j U) k := fun k => by
      rw [zBe_1 s5, hz_jmp (n := 14) (hr j (by simp)) h6 (Or.inl rfl) h7]
    have ey := (cUb hkz hz y yy).1 (Or.inl ky) rfl h5 s4 (fun q hq => hr q (by simp [hq])) hw.2.1 hc (fun k g => hB k (by rw [← ej]; exact g))
    have ei : ∀ k, zBe nx nd (zla s Y) k = (tm_ub y k || tm_ub w k || zBe nx nd (zla j U) k) := fun k => by
      rw [zBe_1 s3, hz_if (hr i (by simp)) h3 h4, ey, ew, ej]
      cases tm_ub y k <;> cases tm_ub w k <;> cases zBe nx nd (zla j U) k <;> rfl
    have ex := (cUb hkz hz x yx).1 (Or.inl kx) rfl h2 s2 (fun q hq => hr q (by simp [hq])) hw.1 hc (fun k g => by
      rw [ei, Bool.or_eq_true, Bool.or_eq_true] at g
      rcases g with (g | g) | g
      · exact wf_ub y hw.2.1 g
      · exact wf_ub w hw.2.2 g
      · exact hB k g) k
    rw [zBe_1 s1, hz_d (n := 1) (hr s (by simp)) h1 trivial, ex, ei]
    show _ = (tm_ub x k || tm_ub y k || tm_ub w k || zBe nx nd (zla j U) k)
    cases tm_ub x k <;> cases tm_ub y k <;> cases tm_ub w k <;> cases zBe nx nd (zla j U) k <;> rfl
  | .branch 0 (.leaf (some (2, _, _, v, _, _))) x, _, ⟨l, y⟩ => by
    refine ⟨fun _ _ X d c h hs hr hw hc hB k => ?_, fun g => absurd (show (1 : Nat) = 2 from g) (by decide), fun g => g.elim⟩
    obtain ⟨s, m, Y, rfl, h1, -, h2, h3, -, h4⟩ := h
    obtain ⟨⟨w1, w2, w3⟩, w4⟩ := hw
    obtain ⟨s1, s2, s3⟩ := hs
    have e := (cUb hkz hz x y).2.2 l rfl (n := 8) h4 s3 (fun q hq => hr q (by simp [hq])) w4 hB w3 k
    rw [decide_eq_true (show 0 < tm_ln x from Nat.pos_of_ne_zero (fun g => w2 (tm_li_0 l g))), Bool.true_and] at e
    rw [zBe_1 s1, hz_d (n := 1) (hr s (by simp)) h1 trivial, zBe_1 s2, hz_mat (hr m (by simp)) h2 h3 (by omega)]
    show (k == v || zab (zst op a b nx ak an ab al af kf ff cz ct az kz) nd k 8 ((zcs op a b pl ak an ab al af bu) 2 m)) = _
    rw [e, ← Bool.or_assoc]; rfl
  | .branch 0 (.leaf (some (_ + 3, _, kk, hh, m, _))) x, _, ⟨kx, yx⟩ => by
    refine ⟨fun g => g.elim (fun g => absurd (show (2 : Nat) = 1 from g) (by decide)) (fun g => g.elim), fun _ mo pv ar en X c h hs hr hw hE k => ?_, fun g => g.elim⟩
    obtain ⟨Y, v, rfl, ⟨b1, b2, b3⟩, h1, h2, h3, h4, -, h5, h6, h7⟩ := h
    obtain ⟨⟨⟨w1, w1b, w1c⟩, w2⟩, w3⟩ := hw
    obtain ⟨s1, s2⟩ := zsg_app.mp hs
    have ev : ∀ k, zBe nx nd (zla pv Y) k = zBe nx nd en k := fun k => by
      rw [zBe_1 s2.1, hz_jmp (n := 16) (hr v (by simp)) h5 (Or.inr rfl) h6]
    have e := (cUb hkz hz x yx).1 (Or.inl kx) rfl h7 s1 (fun q hq => hr q (by simp [hq])) w3 w1b (fun k g => by have := hE k (by rw [← ev]; exact g); omega) k
    rw [ev] at e
    have ef := zfl_m (op := op) (a := a) (b := b) (nx := nx) (ak := ak) (an := an) (ab := ab) (al := al) (af := af) (ff := ff) (cz := cz) (ct := ct) (az := az) hkz hz (x := ak (Int32.toNatClampNeg ar)) h1 w2
    have h4 : (af (Int32.toNatClampNeg ar)).toInt = (hh : Int) := h4
    rw [zbe_d (show (ab (Int32.toNatClampNeg ar)).toInt = (pv : Int) from h2), e, h4, ef]
    exact bo_let (fun g => by
      have := hE k g
      rw [Bool.and_eq_false_iff, decide_eq_false_iff_not, decide_eq_false_iff_not]; omega)
  | .branch 0 (.leaf none) _, _, _ => ⟨fun _ _ _ _ _ h => h.elim, fun g => absurd (show (0 : Nat) = 2 from g) (by decide), fun g => g.elim⟩
  | .branch 0 (.branch _ _ _) _, _, _ => ⟨fun _ _ _ _ _ h => h.elim, fun g => absurd (show (0 : Nat) = 2 from g) (by decide), fun g => g.elim⟩
  | .branch 1 (.leaf none) _, _, _ => ⟨fun _ _ _ _ _ h => h.elim, fun g => absurd (show (0 : Nat) = 2 from g) (by decide), fun g => g.elim⟩
  | .branch 1 (.branch _ _ _) _, _, _ => ⟨fun _ _ _ _ _ h => h.elim, fun g => absurd (show (0 : Nat) = 2 from g) (by decide), fun g => g.elim⟩
  | .branch 1 (.leaf (some (0, _, _, _, _, _))) (.leaf _), _, _ => ⟨fun _ _ _ _ _ h => h.elim, fun g => absurd (show (0 : Nat) = 2 from g) (by decide), fun g => g.elim⟩
  | .branch 1 (.leaf (some (_ + 1, _, _, _, _, _))) (.leaf _), _, _ => ⟨fun _ _ _ _ _ h => h.elim, fun g => absurd (show (0 : Nat) = 2 from g) (by decide), fun g => g.elim⟩
  | .branch 2 (.leaf none) _, _, _ => ⟨fun _ _ _ _ _ h => h.elim, fun g => absurd (show (0 : Nat) = 2 from g) (by decide), fun g => g.elim⟩
  | .branch 2 (.branch _ _ _) _, _, _ => ⟨fun _ _ _ _ _ h => h.elim, fun g => absurd (show (0 : Nat) = 2 from g) (by decide), fun g => g.elim⟩
  | .branch 2 (.leaf (some (_, _, _, _, _, _))) (.leaf _), _, _ => ⟨fun _ _ _ _ _ h => h.elim, fun g => absurd (show (0 : Nat) = 2 from g) (by decide), fun g => g.elim⟩
  | .branch 2 (.leaf (some (_, _, _, _, _, _))) (.branch _ _ (.leaf _)), _, _ => ⟨fun _ _ _ _ _ h => h.elim, fun g => absurd (show (0 : Nat) = 2 from g) (by decide), fun g => g.elim⟩
  | .leaf none, _, _ => by
    refine ⟨fun _ _ X d c h hs hr hw hc hB k => ?_, fun g => absurd (show (0 : Nat) = 2 from g) (by decide), fun _ _ pv ar en X c n h hs hr hw hE hn k => ?_⟩
    · obtain ⟨rfl, -⟩ := h
      rfl
    · obtain ⟨rfl, h⟩ := h
      have h := h rfl
      cases n with
      | zero => rfl
      | succ n => unfold zab; rw [if_pos h]; rfl
  | .branch (_ + 3) x y, bb, ⟨⟨kx, yx⟩, yy⟩ => by
    refine ⟨fun hp gb X d c h hs hr hw hc hB k => ?_, fun g => absurd (show (0 : Nat) = 2 from g) (by decide), fun gl gb pv ar en X c n h hs hr hw hE hn k => ?_⟩
    · subst gb
      have kx : tm_k x = 1 := kx
      obtain ⟨Y, Z, rfl, h1, h2, -⟩ := h
      obtain ⟨s1, s2⟩ := zsg_app.mp hs
      rw [zla_app] at hB ⊢
      have ey := (cUb hkz hz y yy).1 (Or.inr (hp.elim (fun g => absurd (show (0 : Nat) = 1 from g) (by decide)) id)) rfl h2 s2 (fun q hq => hr q (by simp [hq])) hw.2 hc hB
      have ex := (cUb hkz hz x yx).1 (Or.inl kx) rfl h1 s1 (fun q hq => hr q (by simp [hq])) hw.1 hc (fun k g => by
        rw [ey, Bool.or_eq_true] at g
        rcases g with g | g
        · exact wf_ub y hw.2 g
        · exact hB k g) k
      rw [ex, ey, ← Bool.or_assoc]; rfl
    · subst gb
      have kx : tm_k x = 2 := kx
      obtain ⟨Y, Z, rfl, h1, h2, h3⟩ := h
      obtain ⟨s1, s2⟩ := zsg_app.mp hs
      obtain ⟨b1, b2, b3⟩ := h3 rfl
      have hn : tm_ln y + 1 ≤ n := hn
      obtain ⟨n, rfl⟩ : ∃ q, n = q + 1 := ⟨n - 1, by omega⟩
      have ex := (cUb hkz hz x yx).2.1 kx h1 s1 (fun q hq => hr q (by simp [hq])) hw.1 hE k
      have ey := (cUb hkz hz y yy).2.2 gl rfl (n := n) h2 s2 (fun q hq => hr q (by simp [hq])) hw.2 hE (by omega) k
      unfold zab
      rw [if_neg (by omega)]
      show (zbit (zbe nx nd (ab (Int32.toNatClampNeg ar))) k && !(decide ((af (Int32.toNatClampNeg ar)).toInt ≤ (k : Int)) && decide ((k : Int) < (af (Int32.toNatClampNeg ar)).toInt + zfl (zst op a b nx ak an ab al af kf ff cz ct az kz) (ak (Int32.toNatClampNeg ar)))) || zab (zst op a b nx ak an ab al af kf ff cz ct az kz) nd k n (an (Int32.toNatClampNeg ar))) = (tm_ub x k || tm_ub y k || (decide (0 < tm_ln y + 1) && zBe nx nd en k))
      rw [ex, decide_eq_true (show 0 < tm_ln y + 1 by omega)]
      have ey : zab (zst op a b nx ak an ab al af kf ff cz ct az kz) nd k n (an (Int32.toNatClampNeg ar)) = _ := ey
      rw [ey]
      cases tm_ub x k <;> cases tm_ub y k <;> cases zBe nx nd en k <;> cases decide (0 < tm_ln y) <;> rfl
/-- is an arm's shell kept? -/
def zsI (S : Nat → Nat → Int32) (nd bu : Nat → Int32) (s x : Nat) : Int := if zbit (zbe (S 3) nd (S 6 x)) s = false ∧ 0 < zfl S (S 4 x) ∧ zbit (bu x) (zfl S (S 4 x)).toNat = true then 1 else 0
def zsA (S : Nat → Nat → Int32) (nd bu : Nat → Int32) (s : Nat) : Nat → Int32 → Int
  | 0, _ => 0
  | n + 1, x => if x.toInt = -1 then 0 else zsI S nd bu s (Int32.toNatClampNeg x) + zsA S nd bu s n (S 5 (Int32.toNatClampNeg x))
/-- the shells of rows -/
def zsR (S : Nat → Nat → Int32) (nd bu : Nat → Int32) : List Nat → Int
  | [] => 0
  | r :: l => (if (S 0 r).toInt = 15 then zsA S nd bu (Int32.toNatClampNeg (S 1 r)) 8 (S 2 r) else 0) + zsR S nd bu l
theorem zsR_app {S : Nat → Nat → Int32} {nd bu : Nat → Int32} : ∀ (X Y : List Nat), zsR S nd bu (X ++ Y) = zsR S nd bu X + zsR S nd bu Y
  | [], Y => by show zsR S nd bu Y = 0 + zsR S nd bu Y; omega
  | r :: l, Y => by
    show _ + zsR S nd bu (l ++ Y) = _ + zsR S nd bu l + _
    rw [zsR_app l Y]; omega
theorem zsR_1 {r : Nat} {l : List Nat} {n : Int} (h : (op r).toInt = n) (hn : n ≠ 15) : zsR (zst op a b nx ak an ab al af kf ff cz ct az kz) nd bu (r :: l) = zsR (zst op a b nx ak an ab al af kf ff cz ct az kz) nd bu l := by
  show (if (op r).toInt = 15 then _ else 0) + zsR (zst op a b nx ak an ab al af kf ff cz ct az kz) nd bu l = _
  rw [if_neg (by omega)]; omega
theorem op_15 (o : Int) : cI_op o ≠ 15 := by
  unfold cI_op
  split
  · decide
  · split
    · decide
    · split <;> decide
theorem cSh {z : Nat} (hkz : 0 ≤ kz.toInt) (hz : z = Int32.toNatClampNeg kz) : ∀ (t : Tm) {bb : Bool}, tm_sy t bb →
    (tm_k t = 1 ∨ tm_li t → bb = false → ∀ {X : List Nat} {d c : Nat}, cI (zcs op a b pl ak an ab al af bu) H alo ahi t false 0 0 0 X → zsg nx d X → (∀ r ∈ X, zhz (zst op a b nx ak an ab al af kf ff cz ct az kz) nd r) → tm_wf z kf t c → c ≤ 24 → (∀ k, zBe nx nd (zla d X) k = true → k < c) → zsR (zst op a b nx ak an ab al af kf ff cz ct az kz) nd bu X = tm_sh t (zBe nx nd (zla d X)) 32) ∧
    (tm_k t = 2 → ∀ {mo : Bool} {pv : Nat} {ar : Int32} {en : Nat} {X : List Nat} {c v : Nat}, cI (zcs op a b pl ak an ab al af bu) H alo ahi t mo pv ar en X → zsg nx pv X → (∀ r ∈ X, zhz (zst op a b nx ak an ab al af kf ff cz ct az kz) nd r) → tm_wf z kf t c → (∀ k, zBe nx nd en k = true → k < c) → zsI (zst op a b nx ak an ab al af kf ff cz ct az kz) nd bu v (Int32.toNatClampNeg ar) + zsR (zst op a b nx ak an ab al af kf ff cz ct az kz) nd bu X = tm_sh t (zBe nx nd en) v) ∧
    (tm_li t → bb = true → ∀ {pv : Nat} {ar : Int32} {en : Nat} {X : List Nat} {c n v : Nat}, cI (zcs op a b pl ak an ab al af bu) H alo ahi t true pv ar en X → zsg nx pv X → (∀ r ∈ X, zhz (zst op a b nx ak an ab al af kf ff cz ct az kz) nd r) → tm_wf z kf t c → (∀ k, zBe nx nd en k = true → k < c) → tm_ln t ≤ n → v < 32 → zsA (zst op a b nx ak an ab al af kf ff cz ct az kz) nd bu v n ar + zsR (zst op a b nx ak an ab al af kf ff cz ct az kz) nd bu X = tm_sh t (zBe nx nd en) v)
  | .leaf (some (0, _, _, _, _, _)), _, _ => by
    refine ⟨fun _ _ X d c h hs hr hw hc hB => ?_, fun g => absurd (show (1 : Nat) = 2 from g) (by decide), fun g => g.elim⟩
    obtain ⟨r, rfl, h1, -⟩ := h
    rw [zsR_1 (op := op) (n := 2) h1 (by decide)]; rfl
  | .leaf (some (_ + 1, _, _, s, _, _)), _, _ => by
    refine ⟨fun _ _ X d c h hs hr hw hc hB => ?_, fun g => absurd (show (1 : Nat) = 2 from g) (by decide), fun g => g.elim⟩
    obtain ⟨r, rfl, h1, -⟩ := h
    rw [zsR_1 (op := op) (n := 3) h1 (by decide)]; rfl
  | .branch 0 (.leaf (some (0, _, _, _, _, _))) x, _, ⟨l, y⟩ => by
    refine ⟨fun _ _ X d c h hs hr hw hc hB => ?_, fun g => absurd (show (1 : Nat) = 2 from g) (by decide), fun g => g.elim⟩
    rcases h with ⟨q1, q2, r, rfl, h1, -⟩ | ⟨q1, s, Y, r, rfl, h1, -, h2, h3, -⟩
    · rw [zsR_1 (op := op) (n := 6) h1 (by decide), q2]; rfl
    · obtain ⟨s1, s2⟩ := hs
      obtain ⟨s2, s3⟩ := zsg_app.mp s2
      have er := hz_d (n := 7) (hr r (by simp)) h3 trivial
      have e9 : zBe nx nd (zla s Y) = zBe nx nd r := funext fun k => (zBe_1 s3.1 k).trans (er k)
      have ez : zla d (s :: (Y ++ [r])) = r := by show zla s (Y ++ [r]) = r; rw [zla_app]; rfl
      rw [ez] at hB ⊢
      have e := (cSh hkz hz x y).1 (Or.inr l) rfl h2 s2 (fun q hq => hr q (by simp [hq])) hw hc (by rw [e9]; exact hB)
      rw [zsR_1 (op := op) (n := 1) h1 (by decide), zsR_app, e, e9, zsR_1 (op := op) (n := 7) h3 (by decide)]
      exact Int.add_zero _
  | .branch 0 (.leaf (some (1, _, _, _, _, _))) x, _, ⟨l, y⟩ => by
    refine ⟨fun _ _ X d c h hs hr hw hc hB => ?_, fun g => absurd (show (1 : Nat) = 2 from g) (by decide), fun g => g.elim⟩
    rcases h with ⟨q1, q2, r, rfl, h1, -⟩ | ⟨q1, s, Y, r, rfl, h1, -, h2, h3, -⟩
    · rw [zsR_1 (op := op) (n := 4) h1 (by decide), q2]; rfl
    · obtain ⟨s1, s2⟩ := hs
      obtain ⟨s2, s3⟩ := zsg_app.mp s2
      have er := hz_d (n := 5) (hr r (by simp)) h3 trivial
      have e9 : zBe nx nd (zla s Y) = zBe nx nd r := funext fun k => (zBe_1 s3.1 k).trans (er k)
      have ez : zla d (s :: (Y ++ [r])) = r := by show zla s (Y ++ [r]) = r; rw [zla_app]; rfl
      rw [ez] at hB ⊢
      have e := (cSh hkz hz x y).1 (Or.inr l) rfl h2 s2 (fun q hq => hr q (by simp [hq])) hw.2 hc (by rw [e9]; exact hB)
      rw [zsR_1 (op := op) (n := 1) h1 (by decide), zsR_app, e, e9, zsR_1 (op := op) (n := 5) h3 (by decide)]
      exact Int.add_zero _
  | .branch 1 (.leaf (some (0, _, o, _, _, _))) (.branch _ x y), _, ⟨⟨kx, yx⟩, ⟨ky, yy⟩⟩ => by
    refine ⟨fun _ _ X d c h hs hr hw hc hB => ?_, fun g => absurd (show (1 : Nat) = 2 from g) (by decide), fun g => g.elim⟩
    obtain ⟨s, Y, Z, r, rfl, h1, -, h2, h3, h4, -⟩ := h
    obtain ⟨s1, s2⟩ := hs
    rw [List.append_assoc] at s2
    obtain ⟨s2, s3⟩ := zsg_app.mp s2
    obtain ⟨s3, s4⟩ := zsg_app.mp s3
    obtain ⟨n, hn, hd⟩ := op_df o
    have er := hz_d (n := n) (hr r (by simp)) (h4.trans hn) hd
    have e9 : zBe nx nd (zla (zla s Y) Z) = zBe nx nd r := funext fun k => (zBe_1 s4.1 k).trans (er k)
    have ez : zla d (s :: (Y ++ Z ++ [r])) = r := by show zla s (Y ++ Z ++ [r]) = r; rw [zla_app]; rfl
    rw [ez] at hB ⊢
    have hB2 : ∀ k, zBe nx nd (zla (zla s Y) Z) k = true → k < c := by rw [e9]; exact hB
    have ub := (cUb hkz hz y yy).1 (Or.inl ky) rfl h3 s3 (fun q hq => hr q (by simp [hq])) hw.2 hc hB2
    have ey := (cSh hkz hz y yy).1 (Or.inl ky) rfl h3 s3 (fun q hq => hr q (by simp [hq])) hw.2 hc hB2
    have ex := (cSh hkz hz x yx).1 (Or.inl kx) rfl h2 s2 (fun q hq => hr q (by simp [hq])) hw.1 hc (fun k g => by
      rw [ub, Bool.or_eq_true] at g
      rcases g with g | g
      · exact wf_ub y hw.2 g
      · exact hB2 k g)
    rw [zsR_1 (op := op) (n := 1) h1 (by decide), zsR_app, zsR_app, ex, ey, e9, zsR_1 (op := op) (n := cI_op o) h4 (op_15 o)]
    show _ + _ + 0 = tm_sh x (fun j => zBe nx nd r j || tm_ub y j) 32 + tm_sh y (zBe nx nd r) 32
    rw [show (fun j => zBe nx nd r j || tm_ub y j) = zBe nx nd (zla s Y) from funext fun j => by rw [ub, e9, Bool.or_comm]]
    exact Int.add_zero _
  | .branch 1 (.leaf (some (_ + 1, _, _, v, _, _))) (.branch _ x y), _, ⟨⟨kx, yx⟩, ⟨ky, yy⟩⟩ => by
    refine ⟨fun _ _ X d c h hs hr hw hc hB => ?_, fun g => absurd (show (1 : Nat) = 2 from g) (by decide), fun g => g.elim⟩
    obtain ⟨s, Y, r, Z, rfl, h1, -, h2, h3, h4, h5⟩ := h
    obtain ⟨⟨w1, w1b⟩, w2, w3⟩ := hw
    obtain ⟨s1, s2⟩ := hs
    rw [List.append_assoc] at s2
    obtain ⟨s2, s3⟩ := zsg_app.mp s2
    obtain ⟨s3, s4⟩ := s3
    have s4 : zsg nx r Z := s4
    have ez : zla d (s :: (Y ++ [r] ++ Z)) = zla r Z := by show zla s (Y ++ [r] ++ Z) = zla r Z; rw [zla_app, zla_app]; rfl
    rw [ez] at hB ⊢
    have hB2 : ∀ k, zBe nx nd (zla r Z) k = true → k < c + 1 := fun k g => by have := hB k g; omega
    have ub := (cUb hkz hz y yy).1 (Or.inl ky) rfl h5 s4 (fun q hq => hr q (by simp [hq])) w3 (by omega) hB2
    have ey := (cSh hkz hz y yy).1 (Or.inl ky) rfl h5 s4 (fun q hq => hr q (by simp [hq])) w3 (by omega) hB2
    have er : ∀ k, zBe nx nd (zla s Y) k = (tm_ub y k && !(k == v) || zBe nx nd (zla r Z) k) := fun k => by
      rw [zBe_1 s3, hz_let (hr r (by simp)) h3 h4, ub]
      exact bo_let (fun g => beq_eq_false_iff_ne.mpr (by have := hB k g; omega))
    have ex := (cSh hkz hz x yx).1 (Or.inl kx) rfl h2 s2 (fun q hq => hr q (by simp [hq])) w2 hc (fun k g => by
      rw [er, Bool.or_eq_true] at g
      rcases g with g | g
      · obtain ⟨g1, g2⟩ := (Bool.and_eq_true _ _).mp g
        have := wf_ub y w3 g1
        rw [Bool.not_eq_true', beq_eq_false_iff_ne] at g2
        omega
      · exact hB k g)
    rw [zsR_1 (op := op) (n := 1) h1 (by decide), zsR_app, zsR_app, ex, ey, zsR_1 (op := op) (n := 12) h3 (by decide)]
    show _ + 0 + _ = tm_sh x (fun j => zBe nx nd (zla r Z) j || (tm_ub y j && !(j == v))) 32 + tm_sh y (zBe nx nd (zla r Z)) 32
    rw [show (fun j => zBe nx nd (zla r Z) j || (tm_ub y j && !(j == v))) = zBe nx nd (zla s Y) from funext fun j => by rw [er, Bool.or_comm]]
    omega
  | .branch 2 (.leaf (some (_, _, _, _, _, _))) (.branch _ x (.branch _ y w)), _, ⟨⟨kx, yx⟩, ⟨ky, yy⟩, ⟨kw, yw⟩⟩ => by
    refine ⟨fun _ _ X d c h hs hr hw hc hB => ?_, fun g => absurd (show (1 : Nat) = 2 from g) (by decide), fun g => g.elim⟩
    obtain ⟨s, Y, i, Z, j, U, rfl, h1, -, h2, h3, h4, -, h5, h6, h7, h8⟩ := h
    obtain ⟨s1, s2⟩ := hs
    rw [List.append_assoc, List.append_assoc, List.append_assoc] at s2
    obtain ⟨s2, s3⟩ := zsg_app.mp s2
    obtain ⟨s3, s4⟩ := s3
    have s4 : zsg nx i (Z ++ ([j] ++ U)) := s4
    obtain ⟨s4, s5⟩ := zsg_app.mp s4
    obtain ⟨s5, s6⟩ := s5
    have s6 : zsg nx j U := s6
    have ez : zla d (s :: (Y ++ [i] ++ Z ++ [j] ++ U)) = zla j U := by
      show zla s (Y ++ [i] ++ Z ++ [j] ++ U) = zla j U
      rw [zla_app, zla_app]; rfl
    rw [ez] at hB ⊢
    have ew := (cUb hkz hz w yw).1 (Or.inl kw) rfl h8 s6 (fun q hq => hr q (by simp [hq])) hw.2.2 hc hB
    have fw := (cSh hkz hz w yw).1 (Or.inl kw) rfl h8 s6 (fun q hq => hr q (by simp [hq])) hw.2.2 hc hB
    have ej : zBe nx nd (zla i Z) = zBe nx nd (zla j U) := funext fun k => by
      rw [zBe_1 s5, hz_jmp (n := 14) (hr j (by simp)) h6 (Or.inl rfl) h7]
    have hB2 : ∀ k, zBe nx nd (zla i Z) k = true → k < c := by rw [ej]; exact hB
    have ey := (cUb hkz hz y yy).1 (Or.inl ky) rfl h5 s4 (fun q hq => hr q (by simp [hq])) hw.2.1 hc hB2
    have fy := (cSh hkz hz y yy).1 (Or.inl ky) rfl h5 s4 (fun q hq => hr q (by simp [hq])) hw.2.1 hc hB2
    have ei : ∀ k, zBe nx nd (zla s Y) k = (zBe nx nd (zla j U) k || tm_ub y k || tm_ub w k) := fun k => by
      rw [zBe_1 s3, hz_if (hr i (by simp)) h3 h4, ey, ew, ej]
      cases tm_ub y k <;> cases tm_ub w k <;> cases zBe nx nd (zla j U) k <;> rfl
    have fx := (cSh hkz hz x yx).1 (Or.inl kx) rfl h2 s2 (fun q hq => hr q (by simp [hq])) hw.1 hc (fun k g => by
      rw [ei, Bool.or_eq_true, Bool.or_eq_true] at g
      rcases g with (g | g) | g
      · exact hB k g
      · exact wf_ub y hw.2.1 g
      · exact wf_ub w hw.2.2 g)
    rw [zsR_1 (op := op) (n := 1) h1 (by decide), zsR_app, zsR_app, zsR_app, zsR_app, fx, fy, fw, ej, zsR_1 (op := op) (n := 13) h3 (by decide), zsR_1 (op := op) (n := 14) h6 (by decide)]
    show _ + 0 + _ + 0 + _ = tm_sh x (fun q => zBe nx nd (zla j U) q || tm_ub y q || tm_ub w q) 32 + tm_sh y (zBe nx nd (zla j U)) 32 + tm_sh w (zBe nx nd (zla j U)) 32
    rw [show (fun q => zBe nx nd (zla j U) q || tm_ub y q || tm_ub w q) = zBe nx nd (zla s Y) from funext fun q => (ei q).symm]
    omega
  | .branch 0 (.leaf (some (2, _, _, v, _, _))) x, _, ⟨l, y⟩ => by
    refine ⟨fun _ _ X d c h hs hr hw hc hB => ?_, fun g => absurd (show (1 : Nat) = 2 from g) (by decide), fun g => g.elim⟩
    obtain ⟨s, m, Y, rfl, h1, -, h2, h3, -, h4⟩ := h
    obtain ⟨⟨w1, w2, w3⟩, w4⟩ := hw
    obtain ⟨s1, s2, s3⟩ := hs
    have e := (cSh hkz hz x y).2.2 l rfl (n := 8) (v := v) h4 s3 (fun q hq => hr q (by simp [hq])) w4 hB w3 (by omega)
    rw [zsR_1 (op := op) (n := 1) h1 (by decide)]
    show (if (op m).toInt = 15 then zsA (zst op a b nx ak an ab al af kf ff cz ct az kz) nd bu (Int32.toNatClampNeg (a m)) 8 (b m) else 0) + zsR (zst op a b nx ak an ab al af kf ff cz ct az kz) nd bu Y = _
    rw [if_pos (show (op m).toInt = 15 from h2), show Int32.toNatClampNeg (a m) = v from zn_li7 h3]
    exact e
  | .branch 0 (.leaf (some (_ + 3, _, kk, hh, m, _))) x, _, ⟨kx, yx⟩ => by
    refine ⟨fun g => g.elim (fun g => absurd (show (2 : Nat) = 1 from g) (by decide)) (fun g => g.elim), fun _ mo pv ar en X c v9 h hs hr hw hE => ?_, fun g => g.elim⟩
    obtain ⟨Y, v, rfl, ⟨b1, b2, b3⟩, h1, h2, h3, h4, hb, h5, h6, h7⟩ := h
    obtain ⟨⟨⟨w1, w1b, w1c⟩, w2⟩, w3⟩ := hw
    obtain ⟨s1, s2⟩ := zsg_app.mp hs
    have ev : zBe nx nd (zla pv Y) = zBe nx nd en := funext fun k => by
      rw [zBe_1 s2.1, hz_jmp (n := 16) (hr v (by simp)) h5 (Or.inr rfl) h6]
    have hE2 : ∀ k, zBe nx nd (zla pv Y) k = true → k < c + m := fun k g => by rw [ev] at g; have := hE k g; omega
    have e := (cUb hkz hz x yx).1 (Or.inl kx) rfl h7 s1 (fun q hq => hr q (by simp [hq])) w3 w1b hE2 v9
    have f := (cSh hkz hz x yx).1 (Or.inl kx) rfl h7 s1 (fun q hq => hr q (by simp [hq])) w3 w1b hE2
    rw [ev] at e f
    have ef := zfl_m (op := op) (a := a) (b := b) (nx := nx) (ak := ak) (an := an) (ab := ab) (al := al) (af := af) (ff := ff) (cz := cz) (ct := ct) (az := az) hkz hz (x := ak (Int32.toNatClampNeg ar)) h1 w2
    rw [zsR_app, f, zsR_1 (op := op) (n := 16) h5 (by decide)]
    unfold zsI
    rw [show zbit (zbe ((zst op a b nx ak an ab al af kf ff cz ct az kz) 3) nd ((zst op a b nx ak an ab al af kf ff cz ct az kz) 6 (Int32.toNatClampNeg ar))) v9 = zBe nx nd pv v9 from zbe_d (show (ab (Int32.toNatClampNeg ar)).toInt = (pv : Int) from h2) v9, e, show zfl (zst op a b nx ak an ab al af kf ff cz ct az kz) ((zst op a b nx ak an ab al af kf ff cz ct az kz) 4 (Int32.toNatClampNeg ar)) = (m : Int) from ef]
    show (if _ ∧ _ ∧ zbit (bu (Int32.toNatClampNeg ar)) (m : Int).toNat = true then 1 else 0) + (_ + 0) = (if 0 < m ∧ (tm_ub x v9 || zBe nx nd en v9) = false ∧ tm_mk x m = true then 1 else 0) + tm_sh x (zBe nx nd en) 32
    rw [Int.toNat_natCast]
    have hp : ((tm_ub x v9 || zBe nx nd en v9) = false ∧ 0 < (m : Int) ∧ zbit (bu (Int32.toNatClampNeg ar)) m = true) ↔ (0 < m ∧ (tm_ub x v9 || zBe nx nd en v9) = false ∧ tm_mk x m = true) := by
      constructor
      · intro ⟨g1, g2, g3⟩
        exact ⟨by omega, g1, by rw [← hb m (by omega) (by omega)]; exact g3⟩
      · intro ⟨g1, g2, g3⟩
        exact ⟨g2, by omega, by rw [← hb m (by omega) (by omega)] at g3; exact g3⟩
    by_cases g : 0 < m ∧ (tm_ub x v9 || zBe nx nd en v9) = false ∧ tm_mk x m = true
    · rw [if_pos g, if_pos (hp.mpr g)]; omega
    · rw [if_neg g, if_neg (fun q => g (hp.mp q))]; omega
  | .branch 0 (.leaf none) _, _, _ => ⟨fun _ _ _ _ _ h => h.elim, fun g => absurd (show (0 : Nat) = 2 from g) (by decide), fun g => g.elim⟩
  | .branch 0 (.branch _ _ _) _, _, _ => ⟨fun _ _ _ _ _ h => h.elim, fun g => absurd (show (0 : Nat) = 2 from g) (by decide), fun g => g.elim⟩
  | .branch 1 (.leaf none) _, _, _ => ⟨fun _ _ _ _ _ h => h.elim, fun g => absurd (show (0 : Nat) = 2 from g) (by decide), fun g => g.elim⟩
  | .branch 1 (.branch _ _ _) _, _, _ => ⟨fun _ _ _ _ _ h => h.elim, fun g => absurd (show (0 : Nat) = 2 from g) (by decide), fun g => g.elim⟩
  | .branch 1 (.leaf (some (0, _, _, _, _, _))) (.leaf _), _, _ => ⟨fun _ _ _ _ _ h => h.elim, fun g => absurd (show (0 : Nat) = 2 from g) (by decide), fun g => g.elim⟩
  | .branch 1 (.leaf (some (_ + 1, _, _, _, _, _))) (.leaf _), _, _ => ⟨fun _ _ _ _ _ h => h.elim, fun g => absurd (show (0 : Nat) = 2 from g) (by decide), fun g => g.elim⟩
  | .branch 2 (.leaf none) _, _, _ => ⟨fun _ _ _ _ _ h => h.elim, fun g => absurd (show (0 : Nat) = 2 from g) (by decide), fun g => g.elim⟩
  | .branch 2 (.branch _ _ _) _, _, _ => ⟨fun _ _ _ _ _ h => h.elim, fun g => absurd (show (0 : Nat) = 2 from g) (by decide), fun g => g.elim⟩
  | .branch 2 (.leaf (some (_, _, _, _, _, _))) (.leaf _), _, _ => ⟨fun _ _ _ _ _ h => h.elim, fun g => absurd (show (0 : Nat) = 2 from g) (by decide), fun g => g.elim⟩
  | .branch 2 (.leaf (some (_, _, _, _, _, _))) (.branch _ _ (.leaf _)), _, _ => ⟨fun _ _ _ _ _ h => h.elim, fun g => absurd (show (0 : Nat) = 2 from g) (by decide), fun g => g.elim⟩
  | .leaf none, _, _ => by
    refine ⟨fun _ _ X d c h hs hr hw hc hB => ?_, fun g => absurd (show (0 : Nat) = 2 from g) (by decide), fun _ _ pv ar en X c n v h hs hr hw hE hn hv => ?_⟩
    · obtain ⟨rfl, -⟩ := h
      rfl
    · obtain ⟨rfl, h⟩ := h
      have h := h rfl
      cases n with
      | zero => rfl
      | succ n => unfold zsA; rw [if_pos h]; rfl
  | .branch (_ + 3) x y, bb, ⟨⟨kx, yx⟩, yy⟩ => by
    refine ⟨fun hp gb X d c h hs hr hw hc hB => ?_, fun g => absurd (show (0 : Nat) = 2 from g) (by decide), fun gl gb pv ar en X c n v h hs hr hw hE hn hv => ?_⟩
    · subst gb
      have kx : tm_k x = 1 := kx
      have ly : tm_li y := hp.elim (fun g => absurd (show (0 : Nat) = 1 from g) (by decide)) id
      obtain ⟨Y, Z, rfl, h1, h2, -⟩ := h
      obtain ⟨s1, s2⟩ := zsg_app.mp hs
      rw [zla_app] at hB ⊢
      have ub := (cUb hkz hz y yy).1 (Or.inr ly) rfl h2 s2 (fun q hq => hr q (by simp [hq])) hw.2 hc hB
      have ey := (cSh hkz hz y yy).1 (Or.inr ly) rfl h2 s2 (fun q hq => hr q (by simp [hq])) hw.2 hc hB
      have ex := (cSh hkz hz x yx).1 (Or.inl kx) rfl h1 s1 (fun q hq => hr q (by simp [hq])) hw.1 hc (fun k g => by
        rw [ub, Bool.or_eq_true] at g
        rcases g with g | g
        · exact wf_ub y hw.2 g
        · exact hB k g)
      rw [zsR_app, ex, ey]
      show _ = tm_sh x (if 32 < 32 then _ else fun j => zBe nx nd (zla (zla d Y) Z) j || tm_ub y j) 32 + tm_sh y _ 32
      rw [if_neg (by decide), show (fun j => zBe nx nd (zla (zla d Y) Z) j || tm_ub y j) = zBe nx nd (zla d Y) from funext fun j => by rw [ub, Bool.or_comm]]
    · subst gb
      have kx : tm_k x = 2 := kx
      obtain ⟨Y, Z, rfl, h1, h2, h3⟩ := h
      obtain ⟨s1, s2⟩ := zsg_app.mp hs
      obtain ⟨b1, b2, b3⟩ := h3 rfl
      have hn : tm_ln y + 1 ≤ n := hn
      obtain ⟨n, rfl⟩ : ∃ q, n = q + 1 := ⟨n - 1, by omega⟩
      have ex := (cSh hkz hz x yx).2.1 kx (v := v) h1 s1 (fun q hq => hr q (by simp [hq])) hw.1 hE
      have ey := (cSh hkz hz y yy).2.2 gl rfl (n := n) (v := v) h2 s2 (fun q hq => hr q (by simp [hq])) hw.2 hE (by omega) hv
      have ey : zsA (zst op a b nx ak an ab al af kf ff cz ct az kz) nd bu v n (an (Int32.toNatClampNeg ar)) + zsR (zst op a b nx ak an ab al af kf ff cz ct az kz) nd bu Z = tm_sh y (zBe nx nd en) v := ey
      unfold zsA
      rw [if_neg (by omega), zsR_app]
      show zsI (zst op a b nx ak an ab al af kf ff cz ct az kz) nd bu v (Int32.toNatClampNeg ar) + zsA (zst op a b nx ak an ab al af kf ff cz ct az kz) nd bu v n (an (Int32.toNatClampNeg ar)) + _ = tm_sh x (if v < 32 then zBe nx nd en else _) v + tm_sh y (zBe nx nd en) v
      rw [if_pos hv, ← ex, ← ey]
      omega
end
theorem z32_ext {x y : Int32} (h : ∀ i : Nat, i < 32 → x.toBitVec.getLsbD i = y.toBitVec.getLsbD i) : x = y := Int32.toBitVec_inj.mp (BitVec.eq_of_getLsbD_eq (fun i hi => h i hi))
theorem zsh_n : ∀ j : Fin 32, ((Int32.ofInt (j.val : Int) &&& 31).toBitVec.smod 32).toNat = j.val := by decide +kernel
theorem zbit_sr {x y : Int32} (h0 : 0 ≤ y.toInt) (h1 : y.toInt < 32) : zbit (x >>> (y &&& 31)) 0 = zbit x (Int32.toNatClampNeg y) := by
  have hn := zn_nat h0
  have e := zi_of (y := y) (j := Int32.toNatClampNeg y) hn.symm
  have t := zsh_n ⟨Int32.toNatClampNeg y, by omega⟩
  have t : ((Int32.ofInt ((Int32.toNatClampNeg y : Nat) : Int) &&& 31).toBitVec.smod 32).toNat = Int32.toNatClampNeg y := t
  rw [← e] at t
  unfold zbit
  rw [Int32.toBitVec_shiftRight]
  show (x.toBitVec.sshiftRight ((y &&& 31).toBitVec.smod 32).toNat).getLsbD 0 = _
  rw [t, BitVec.getLsbD_sshiftRight]
  have h3 : Int32.toNatClampNeg y + 0 < 32 := by omega
  simp [h3]
  intro h9
  omega
theorem zbit_one : ∀ k : Fin 32, zbit 1 k.val = (k.val == 0) := by decide +kernel
theorem zbit_and1 {v : Int32} : (v &&& 1 = 1 ↔ zbit v 0 = true) := by
  have h1 := zbit_one ⟨0, by decide⟩
  have h1 : zbit 1 0 = true := h1
  constructor
  · intro h
    have := congrArg (fun x => zbit x 0) h
    have this : zbit (v &&& 1) 0 = zbit 1 0 := this
    rw [zbit_and, h1, Bool.and_true] at this
    exact this
  · intro h
    refine z32_ext (fun i hi => ?_)
    show zbit (v &&& 1) i = zbit 1 i
    rw [zbit_and]
    by_cases g : i = 0
    · rw [g, h, h1]; rfl
    · have := zbit_one ⟨i, hi⟩
      have this : zbit 1 i = (i == 0) := this
      rw [this, beq_false_of_ne g, Bool.and_false]
theorem zbf7 {b : Bool} (h : ¬ b = true) : b = false := by
  cases b with
  | false => rfl
  | true => exact (h rfl).elim
/-- bit y of x, as the code asks for it -/
theorem zask {x y v u : Int32} (h0 : 0 ≤ y.toInt) (h1 : y.toInt < 32) (ev : v = x >>> (y &&& 31)) (eu : u = v &&& 1) : (u.toInt = 1 ↔ zbit x (Int32.toNatClampNeg y) = true) ∧ (u.toInt = 0 ↔ zbit x (Int32.toNatClampNeg y) = false) := by
  have e1 : Int32.toInt 1 = 1 := by decide
  have e0 : Int32.toInt 0 = 0 := by decide
  have k : u = 1 ↔ zbit x (Int32.toNatClampNeg y) = true := by rw [← zbit_sr h0 h1, ← ev, eu]; exact zbit_and1
  have two : u = 1 ∨ u = 0 := by
    by_cases g : zbit v 0 = true
    · exact Or.inl (by rw [eu]; exact zbit_and1.mpr g)
    · right
      rw [eu]
      refine z32_ext (fun i hi => ?_)
      show zbit (v &&& 1) i = zbit 0 i
      rw [zbit_and, zbit_z hi]
      have o := zbit_one ⟨i, hi⟩
      have o : zbit 1 i = (i == 0) := o
      rw [o]
      by_cases g2 : i = 0
      · rw [g2, zbf7 g]; rfl
      · rw [beq_false_of_ne g2, Bool.and_false]
  constructor
  · rw [← k]
    exact ⟨fun h => Int32.toInt_inj.mp (by omega), fun h => by rw [h]; exact e1⟩
  · constructor
    · intro h
      exact zbf7 (fun g => by rw [← k] at g; rw [g] at h; omega)
    · intro h
      rcases two with g | g
      · rw [k] at g; rw [g] at h; cases h
      · rw [g]; exact e0
/-- n shells more of function fn -/
def cS (g g2 : Nat → Int32) (fn fz : Int32) (n : Int) : Prop := (0 ≤ fn.toInt ∧ fn.toInt < fz.toInt → g2 (5 * Int32.toNatClampNeg fn + 4) = g (5 * Int32.toNatClampNeg fn + 4) + Int32.ofInt n) ∧ ∀ j, (0 ≤ fn.toInt ∧ fn.toInt < fz.toInt → j ≠ 5 * Int32.toNatClampNeg fn + 4) → g2 j = g j
theorem cS_0 {g : Nat → Int32} {fn fz : Int32} {n : Int} (h : n = 0) : cS g g fn fz n := by subst h; exact ⟨fun _ => cF_0 _, fun _ _ => rfl⟩
theorem cS_tr {g g1 g2 : Nat → Int32} {fn fz : Int32} {n m k : Int} (p : cS g g1 fn fz n) (q : cS g1 g2 fn fz m) (e : k = n + m) : cS g g2 fn fz k := by
  subst e
  exact ⟨fun h => by rw [q.1 h, p.1 h, Int32.ofInt_add, Int32.add_assoc], fun j h => by rw [q.2 j h, p.2 j h]⟩
theorem cS_1 {g g2 : Nat → Int32} {fn fz : Int32} {w : Nat} {n : Int} (hn : n = 1) (hw : w = 4) (h : (0 ≤ fn.toInt ∧ fn.toInt < fz.toInt ∧ g2 = upd g (5 * Int32.toNatClampNeg fn + w) (g (5 * Int32.toNatClampNeg fn + w) + 1)) ∨ ((fn.toInt < 0 ∨ fz.toInt ≤ fn.toInt) ∧ g2 = g)) : cS g g2 fn fz n := by
  subst hn; subst hw
  rcases h with ⟨h1, h2, e⟩ | ⟨h1, e⟩
  · exact ⟨fun _ => by rw [e, zu_s]; exact cF_1 _, fun j hj => by rw [e, zu_n (hj ⟨h1, h2⟩)]⟩
  · exact ⟨fun h => by omega, fun j _ => by rw [e]⟩
section
variable {S : Nat → Nat → Int32} {nd bu : Nat → Int32} {s x : Nat}
theorem zsI_0a (h : zbit (zbe (S 3) nd (S 6 x)) s = true) : zsI S nd bu s x = 0 := if_neg (fun g => by rw [h] at g; exact absurd g.1 (by decide))
theorem zsI_0b (h : zfl S (S 4 x) ≤ 0) : zsI S nd bu s x = 0 := if_neg (fun g => by have := g.2.1; omega)
theorem zsI_0c (h : zbit (bu x) (zfl S (S 4 x)).toNat = false) : zsI S nd bu s x = 0 := if_neg (fun g => by rw [h] at g; exact absurd g.2.2 (by decide))
theorem zsI_1 (h1 : zbit (zbe (S 3) nd (S 6 x)) s = false) (h2 : 0 < zfl S (S 4 x)) (h3 : zbit (bu x) (zfl S (S 4 x)).toNat = true) : zsI S nd bu s x = 1 := if_pos ⟨h1, h2, h3⟩
/-- arms so far -/
def cSl (S : Nat → Nat → Int32) (nd bu g lf : Nat → Int32) (fn fz : Int32) (s : Nat) (x0 am : Int32) (i : Int) : Prop := ∃ n : Nat, (n : Int) = 8 - i ∧ cS g lf fn fz (zsA S nd bu s 8 x0 - zsA S nd bu s n am)
theorem cSl_0 {g : Nat → Int32} {fn fz x0 am : Int32} {i : Int} (hi : i = 0) (e : am = x0) : cSl S nd bu g g fn fz s x0 am i := ⟨8, by omega, cS_0 (by rw [e]; omega)⟩
theorem cSl_s {g lf lf2 : Nat → Int32} {fn fz x0 am am2 : Int32} {i i2 : Int} (h : cSl S nd bu g lf fn fz s x0 am i) (hi : i < 8) (ha : am.toInt ≠ -1) (d : cS lf lf2 fn fz (zsI S nd bu s (Int32.toNatClampNeg am))) (e : am2 = S 5 (Int32.toNatClampNeg am)) (ei : i2 = i + 1) : cSl S nd bu g lf2 fn fz s x0 am2 i2 := by
  obtain ⟨n, hn, c⟩ := h
  obtain ⟨k, rfl⟩ : ∃ k, n = k + 1 := ⟨n - 1, by omega⟩
  refine ⟨k, by omega, cS_tr c d ?_⟩
  have u : zsA S nd bu s (k + 1) am = zsI S nd bu s (Int32.toNatClampNeg am) + zsA S nd bu s k am2 := by
    conv => lhs; unfold zsA
    rw [if_neg ha, e]
  omega
theorem cSl_e {g lf : Nat → Int32} {fn fz x0 am : Int32} {i : Int} (h : cSl S nd bu g lf fn fz s x0 am i) (hx : am.toInt = -1 ∨ 8 ≤ i) : cS g lf fn fz (zsA S nd bu s 8 x0) := by
  obtain ⟨n, hn, c⟩ := h
  have u : zsA S nd bu s n am = 0 := by
    match n, hn with
    | 0, _ => rfl
    | n + 1, hn =>
      unfold zsA
      rw [if_pos (hx.resolve_right (by omega))]
  rw [u, Int.sub_zero] at c
  exact c
/-- the shells of function g in a chain of rows; fn: the function so far -/
def zsL (S : Nat → Nat → Int32) (nd bu : Nat → Int32) (g : Nat) : List Nat → Int32 → Int
  | [], _ => 0
  | r :: L, fn => if (S 0 r).toInt = 0 then zsL S nd bu g L (S 1 r) else if (S 0 r).toInt = 15 then (if fn.toInt = (g : Int) then zsA S nd bu (Int32.toNatClampNeg (S 1 r)) 8 (S 2 r) else 0) + zsL S nd bu g L fn else zsL S nd bu g L fn
def zsF (S : Nat → Nat → Int32) : List Nat → Int32 → Int32
  | [], fn => fn
  | r :: L, fn => if (S 0 r).toInt = 0 then zsF S L (S 1 r) else zsF S L fn
theorem zsL_app {g : Nat} : ∀ (A B : List Nat) (fn : Int32), zsL S nd bu g (A ++ B) fn = zsL S nd bu g A fn + zsL S nd bu g B (zsF S A fn)
  | [], B, fn => by show zsL S nd bu g B fn = 0 + zsL S nd bu g B fn; omega
  | r :: A, B, fn => by
    show (if (S 0 r).toInt = 0 then zsL S nd bu g (A ++ B) (S 1 r) else if (S 0 r).toInt = 15 then (if fn.toInt = (g : Int) then _ else 0) + zsL S nd bu g (A ++ B) fn else zsL S nd bu g (A ++ B) fn) = (if (S 0 r).toInt = 0 then zsL S nd bu g A (S 1 r) else if (S 0 r).toInt = 15 then (if fn.toInt = (g : Int) then _ else 0) + zsL S nd bu g A fn else zsL S nd bu g A fn) + zsL S nd bu g B (if (S 0 r).toInt = 0 then zsF S A (S 1 r) else zsF S A fn)
    rw [zsL_app A B, zsL_app A B]
    by_cases u : (S 0 r).toInt = 0
    · rw [if_pos u, if_pos u, if_pos u]
    · rw [if_neg u, if_neg u, if_neg u]
      by_cases v : (S 0 r).toInt = 15
      · rw [if_pos v, if_pos v]; omega
      · rw [if_neg v, if_neg v]
theorem zsF_app : ∀ (A B : List Nat) (fn : Int32), zsF S (A ++ B) fn = zsF S B (zsF S A fn)
  | [], B, fn => rfl
  | r :: A, B, fn => by
    show (if (S 0 r).toInt = 0 then zsF S (A ++ B) (S 1 r) else zsF S (A ++ B) fn) = zsF S B (if (S 0 r).toInt = 0 then zsF S A (S 1 r) else zsF S A fn)
    rw [zsF_app A B, zsF_app A B]
    split <;> rfl
/-- rows within one function -/
theorem zsL_in {g : Nat} : ∀ (X : List Nat) (fn : Int32), (∀ r ∈ X, (S 0 r).toInt ≠ 0) → zsL S nd bu g X fn = (if fn.toInt = (g : Int) then zsR S nd bu X else 0) ∧ zsF S X fn = fn
  | [], fn, _ => ⟨by show (0 : Int) = if _ then 0 else 0; split <;> rfl, rfl⟩
  | r :: X, fn, h => by
    obtain ⟨e1, e2⟩ := zsL_in X fn (fun q hq => h q (List.mem_cons_of_mem _ hq))
    have h0 := h r List.mem_cons_self
    refine ⟨?_, ?_⟩
    · show (if (S 0 r).toInt = 0 then _ else if (S 0 r).toInt = 15 then (if fn.toInt = (g : Int) then _ else 0) + zsL S nd bu g X fn else zsL S nd bu g X fn) = if fn.toInt = (g : Int) then (if (S 0 r).toInt = 15 then _ else 0) + zsR S nd bu X else 0
      rw [if_neg h0, e1]
      by_cases v : (S 0 r).toInt = 15
      · rw [if_pos v, if_pos v]; split <;> omega
      · rw [if_neg v, if_neg v]; split <;> omega
    · show (if (S 0 r).toInt = 0 then _ else zsF S X fn) = fn
      rw [if_neg h0]; exact e2
/-- rows marked so far -/
def cMl (S : Nat → Nat → Int32) (nd bu g lf : Nat → Int32) (fz fn : Int32) (L : List Nat) (i : Int) : Prop := (∀ f : Nat, (f : Int) < fz.toInt → lf (5 * f + 4) + Int32.ofInt (zsL S nd bu f (L.drop i.toNat) fn) = g (5 * f + 4) + Int32.ofInt (zsL S nd bu f L (-1))) ∧ ∀ j, (∀ f : Nat, j ≠ 5 * f + 4) → lf j = g j
theorem cMl_0 {g : Nat → Int32} {fz fn : Int32} {L : List Nat} {i : Int} (hi : i = 0) (hf : fn = -1) : cMl S nd bu g g fz fn L i := by
  subst hi; subst hf
  exact ⟨fun f _ => rfl, fun _ _ => rfl⟩
theorem cMl_dr {L : List Nat} {i : Int} (h0 : 0 ≤ i) (h : i.toNat < L.length) : L.drop i.toNat = L.getD i.toNat 0 :: L.drop (i + 1).toNat := by
  rw [List.drop_eq_getElem_cons h, show (i + 1).toNat = i.toNat + 1 by omega, List.getD_eq_getElem?_getD, List.getElem?_eq_getElem h]; rfl
theorem cMl_e {g lf : Nat → Int32} {fz fn fn2 : Int32} {L : List Nat} {i i2 : Int} {r : Nat} (h : cMl S nd bu g lf fz fn L i) (h0 : 0 ≤ i) (hl : i.toNat < L.length) (er : r = L.getD i.toNat 0) (ho : (S 0 r).toInt = 0) (ef : fn2 = S 1 r) (ei : i2 = i + 1) : cMl S nd bu g lf fz fn2 L i2 := by
  subst ei; subst ef
  refine ⟨fun f hf => ?_, h.2⟩
  have := h.1 f hf
  rw [cMl_dr h0 hl, ← er] at this
  rw [← this]
  show _ = lf (5 * f + 4) + Int32.ofInt (if (S 0 r).toInt = 0 then _ else _)
  rw [if_pos ho]
theorem cMl_n {g lf : Nat → Int32} {fz fn : Int32} {L : List Nat} {i i2 : Int} {r : Nat} (h : cMl S nd bu g lf fz fn L i) (h0 : 0 ≤ i) (hl : i.toNat < L.length) (er : r = L.getD i.toNat 0) (ho : (S 0 r).toInt ≠ 0) (ho2 : (S 0 r).toInt ≠ 15) (ei : i2 = i + 1) : cMl S nd bu g lf fz fn L i2 := by
  subst ei
  refine ⟨fun f hf => ?_, h.2⟩
  have := h.1 f hf
  rw [cMl_dr h0 hl, ← er] at this
  rw [← this]
  show _ = lf (5 * f + 4) + Int32.ofInt (if (S 0 r).toInt = 0 then _ else if (S 0 r).toInt = 15 then _ else _)
  rw [if_neg ho, if_neg ho2]
theorem cMl_m {g lf lf2 : Nat → Int32} {fz fn : Int32} {L : List Nat} {i i2 : Int} {r : Nat} (h : cMl S nd bu g lf fz fn L i) (h0 : 0 ≤ i) (hl : i.toNat < L.length) (er : r = L.getD i.toNat 0) (ho2 : (S 0 r).toInt = 15) (c : cS lf lf2 fn fz (zsA S nd bu (Int32.toNatClampNeg (S 1 r)) 8 (S 2 r))) (ei : i2 = i + 1) : cMl S nd bu g lf2 fz fn L i2 := by
  subst ei
  refine ⟨fun f hf => ?_, fun j hj => by rw [c.2 j (fun _ => hj _)]; exact h.2 j hj⟩
  have := h.1 f hf
  rw [cMl_dr h0 hl, ← er] at this
  rw [← this]
  show _ = lf (5 * f + 4) + Int32.ofInt (if (S 0 r).toInt = 0 then _ else if (S 0 r).toInt = 15 then (if fn.toInt = (f : Int) then _ else 0) + _ else _)
  rw [if_neg (by omega), if_pos ho2]
  by_cases u : fn.toInt = (f : Int)
  · have hn : Int32.toNatClampNeg fn = f := zn_li7 u
    have c1 := c.1 ⟨by omega, by omega⟩
    rw [hn] at c1
    rw [if_pos u, c1, Int32.ofInt_add, Int32.add_assoc]
  · rw [if_neg u, c.2 (5 * f + 4) (fun g9 e9 => u (by have := zn_nat g9.1; omega)), Int.zero_add]
theorem cMl_z {g lf : Nat → Int32} {fz fn : Int32} {L : List Nat} {i : Int} (h : cMl S nd bu g lf fz fn L i) (hi : L.length ≤ i.toNat) : (∀ f : Nat, (f : Int) < fz.toInt → lf (5 * f + 4) = g (5 * f + 4) + Int32.ofInt (zsL S nd bu f L (-1))) ∧ ∀ j, (∀ f : Nat, j ≠ 5 * f + 4) → lf j = g j := by
  refine ⟨fun f hf => ?_, h.2⟩
  have := h.1 f hf
  rw [List.drop_eq_nil_of_le hi] at this
  rw [← this]
  show _ = lf (5 * f + 4) + Int32.ofInt 0
  exact cF_0 _
end
/-- nor is any a function's first row -/
theorem cI_00 {S : Nat → Nat → Int32} {H : Int32 → Int64 → Prop} {alo ahi : Int} : ∀ (t : Tm) {mo : Bool} {pv : Nat} {ar : Int32} {en : Nat} {X : List Nat}, cI S H alo ahi t mo pv ar en X → ∀ r ∈ X, (S 0 r).toInt ≠ 0
  | .leaf (some (0, p, v, _, _, _)), _, _, _, _, X, h, r, hr => by
    obtain ⟨q, rfl, a, -⟩ := h
    rw [List.mem_singleton.mp hr]; omega
  | .leaf (some (_ + 1, p, _, s, _, _)), _, _, _, _, X, h, r, hr => by
    obtain ⟨q, rfl, a, -⟩ := h
    rw [List.mem_singleton.mp hr]; omega
  | .branch 0 (.leaf (some (0, p, _, _, _, w))) t, _, _, _, _, X, h, r, hr => by
    rcases h with ⟨-, -, q, rfl, a, -⟩ | ⟨-, s, Y, q, rfl, a, -, c, d, -⟩
    · rw [List.mem_singleton.mp hr]; omega
    · rcases List.mem_cons.mp hr with g | g
      · rw [g]; omega
      · rcases List.mem_append.mp g with g | g
        · exact cI_00 t c r g
        · rw [List.mem_singleton.mp g]; omega
  | .branch 0 (.leaf (some (1, p, _, k, _, _))) t, _, _, _, _, X, h, r, hr => by
    rcases h with ⟨-, -, q, rfl, a, -⟩ | ⟨-, s, Y, q, rfl, a, -, c, d, -⟩
    · rw [List.mem_singleton.mp hr]; omega
    · rcases List.mem_cons.mp hr with g | g
      · rw [g]; omega
      · rcases List.mem_append.mp g with g | g
        · exact cI_00 t c r g
        · rw [List.mem_singleton.mp g]; omega
  | .branch 1 (.leaf (some (0, p, o, _, _, _))) (.branch _ t u), _, _, _, _, X, h, r, hr => by
    obtain ⟨s, Y, Z, q, rfl, a, -, c, d, e, -⟩ := h
    have he : cI_op o ≠ 0 := by unfold cI_op; split; decide; split; decide; split <;> decide
    rcases List.mem_cons.mp hr with g | g
    · rw [g]; omega
    · rcases List.mem_append.mp g with g | g
      · rcases List.mem_append.mp g with g | g
        · exact cI_00 t c r g
        · exact cI_00 u d r g
      · rw [List.mem_singleton.mp g, e]; exact he
  | .branch 1 (.leaf (some (_ + 1, p, _, k, _, _))) (.branch _ t u), _, _, _, _, X, h, r, hr => by
    obtain ⟨s, Y, q, Z, rfl, a, -, c, d, -, f⟩ := h
    rcases List.mem_cons.mp hr with g | g
    · rw [g]; omega
    · rcases List.mem_append.mp g with g | g
      · rcases List.mem_append.mp g with g | g
        · exact cI_00 t c r g
        · rw [List.mem_singleton.mp g]; omega
      · exact cI_00 u f r g
  | .branch 2 (.leaf (some (_, p, _, _, _, _))) (.branch _ t (.branch _ u w)), _, _, _, _, X, h, r, hr => by
    obtain ⟨s, Y, i, Z, j, U, rfl, a, -, c, d, -, -, g1, k, -, m⟩ := h
    rcases List.mem_cons.mp hr with g | g
    · rw [g]; omega
    · rcases List.mem_append.mp g with g | g
      · rcases List.mem_append.mp g with g | g
        · rcases List.mem_append.mp g with g | g
          · rcases List.mem_append.mp g with g | g
            · exact cI_00 t c r g
            · rw [List.mem_singleton.mp g]; omega
          · exact cI_00 u g1 r g
        · rw [List.mem_singleton.mp g]; omega
      · exact cI_00 w m r g
  | .branch 0 (.leaf (some (2, p, _, k, _, _))) t, _, _, _, _, X, h, r, hr => by
    obtain ⟨s, m, Y, rfl, a, -, c, -, -, f⟩ := h
    rcases List.mem_cons.mp hr with g | g
    · rw [g]; omega
    · rcases List.mem_cons.mp g with g | g
      · rw [g]; omega
      · exact cI_00 t f r g
  | .branch 0 (.leaf (some (_ + 3, p, k, hh, m, _))) t, _, _, _, _, X, h, r, hr => by
    obtain ⟨Y, v, rfl, -, -, -, -, -, -, f, -, i⟩ := h
    rcases List.mem_append.mp hr with g | g
    · exact cI_00 t i r g
    · rw [List.mem_singleton.mp g]; omega
  | .branch 0 (.leaf none) _, _, _, _, _, _, h9, _, _ => h9.elim
  | .branch 0 (.branch _ _ _) _, _, _, _, _, _, h9, _, _ => h9.elim
  | .branch 1 (.leaf none) _, _, _, _, _, _, h9, _, _ => h9.elim
  | .branch 1 (.branch _ _ _) _, _, _, _, _, _, h9, _, _ => h9.elim
  | .branch 1 (.leaf (some (0, _, _, _, _, _))) (.leaf _), _, _, _, _, _, h9, _, _ => h9.elim
  | .branch 1 (.leaf (some (_ + 1, _, _, _, _, _))) (.leaf _), _, _, _, _, _, h9, _, _ => h9.elim
  | .branch 2 (.leaf none) _, _, _, _, _, _, h9, _, _ => h9.elim
  | .branch 2 (.branch _ _ _) _, _, _, _, _, _, h9, _, _ => h9.elim
  | .branch 2 (.leaf (some (_, _, _, _, _, _))) (.leaf _), _, _, _, _, _, h9, _, _ => h9.elim
  | .branch 2 (.leaf (some (_, _, _, _, _, _))) (.branch _ _ (.leaf _)), _, _, _, _, _, h9, _, _ => h9.elim
  | .leaf none, _, _, _, _, X, h, r, hr => by
    obtain ⟨rfl, -⟩ := h
    exact nomatch hr
  | .branch (_ + 3) t u, _, _, _, _, X, h, r, hr => by
    obtain ⟨Y, Z, rfl, a, b, -⟩ := h
    rcases List.mem_append.mp hr with g | g
    · exact cI_00 t a r g
    · exact cI_00 u b r g
section
variable {op a b nx ak an ab al af kf ff pl bu : Nat → Int32} {cz ct az kz : Int32} {nd : Nat → Int32} {H : Int32 → Int64 → Prop} {az9 : Int} {en : Nat → Int32} {Tr : Nat → Tm}
theorem cCh_no : ∀ (n : Nat) {A : List Nat} {fn : Int32}, cCh (zcs op a b pl ak an ab al af bu) H az9 en Tr n A → ∀ g : Nat, n ≤ g → fn.toInt ≠ (g : Int) → zsL (zst op a b nx ak an ab al af kf ff cz ct az kz) nd bu g A fn = 0 ∧ (zsF (zst op a b nx ak an ab al af kf ff cz ct az kz) A fn).toInt ≠ (g : Int)
  | 0, A, fn, h, g, _, hf => by
    have h : A = [] := h
    subst h
    exact ⟨rfl, hf⟩
  | n + 1, A, fn, ⟨A1, X, q, e, h1, h2, h3, h4, h5⟩, g, hg, hf => by
    subst e
    obtain ⟨e1, e2⟩ := cCh_no n h1 g (by omega) hf
    have h3 : (op (Int32.toNatClampNeg (en n))).toInt = 0 := h3
    have h4 : (a (Int32.toNatClampNeg (en n))).toInt = (n : Int) := h4
    have h5 : (op q).toInt = 17 := h5
    have hx : ∀ r ∈ X ++ [q], ((zst op a b nx ak an ab al af kf ff cz ct az kz) 0 r).toInt ≠ 0 := fun r hr => by
      rcases List.mem_append.mp hr with g | g
      · exact cI_00 (Tr n) h2 r g
      · rw [List.mem_singleton.mp g]; show (op q).toInt ≠ 0; omega
    obtain ⟨k1, k2⟩ := zsL_in (S := (zst op a b nx ak an ab al af kf ff cz ct az kz)) (nd := nd) (bu := bu) (g := g) (X ++ [q]) (a (Int32.toNatClampNeg (en n))) hx
    rw [zsL_app, zsF_app, e1]
    refine ⟨?_, ?_⟩
    · show 0 + (if (op (Int32.toNatClampNeg (en n))).toInt = 0 then zsL (zst op a b nx ak an ab al af kf ff cz ct az kz) nd bu g (X ++ [q]) (a (Int32.toNatClampNeg (en n))) else _) = 0
      rw [if_pos h3, k1, if_neg (by omega)]; rfl
    · show (if (op (Int32.toNatClampNeg (en n))).toInt = 0 then zsF (zst op a b nx ak an ab al af kf ff cz ct az kz) (X ++ [q]) (a (Int32.toNatClampNeg (en n))) else _).toInt ≠ _
      rw [if_pos h3, k2]; omega
theorem cCh_g : ∀ (n : Nat) {A : List Nat} {fn : Int32}, cCh (zcs op a b pl ak an ab al af bu) H az9 en Tr n A → ∀ g : Nat, g < n → fn.toInt ≠ (g : Int) → ∃ (A1 X B : List Nat) (q : Nat), A = A1 ++ Int32.toNatClampNeg (en g) :: ((X ++ [q]) ++ B) ∧ zsL (zst op a b nx ak an ab al af kf ff cz ct az kz) nd bu g A fn = zsR (zst op a b nx ak an ab al af kf ff cz ct az kz) nd bu X ∧ cI (zcs op a b pl ak an ab al af bu) H 0 az9 (Tr g) false 0 0 0 X ∧ (op q).toInt = 17
  | 0, A, fn, _, g, hg, _ => absurd hg (Nat.not_lt_zero _)
  | n + 1, A, fn, ⟨A1, X, q, e, h1, h2, h3, h4, h5⟩, g, hg, hf => by
    subst e
    have h3 : (op (Int32.toNatClampNeg (en n))).toInt = 0 := h3
    have h4 : (a (Int32.toNatClampNeg (en n))).toInt = (n : Int) := h4
    have h5 : (op q).toInt = 17 := h5
    have hx : ∀ r ∈ X ++ [q], ((zst op a b nx ak an ab al af kf ff cz ct az kz) 0 r).toInt ≠ 0 := fun r hr => by
      rcases List.mem_append.mp hr with g | g
      · exact cI_00 (Tr n) h2 r g
      · rw [List.mem_singleton.mp g]; show (op q).toInt ≠ 0; omega
    obtain ⟨k1, k2⟩ := zsL_in (S := (zst op a b nx ak an ab al af kf ff cz ct az kz)) (nd := nd) (bu := bu) (g := g) (X ++ [q]) (a (Int32.toNatClampNeg (en n))) hx
    have er : zsL (zst op a b nx ak an ab al af kf ff cz ct az kz) nd bu g (Int32.toNatClampNeg (en n) :: (X ++ [q])) (zsF (zst op a b nx ak an ab al af kf ff cz ct az kz) A1 fn) = if (a (Int32.toNatClampNeg (en n))).toInt = (g : Int) then zsR (zst op a b nx ak an ab al af kf ff cz ct az kz) nd bu (X ++ [q]) else 0 := by
      show (if (op (Int32.toNatClampNeg (en n))).toInt = 0 then zsL (zst op a b nx ak an ab al af kf ff cz ct az kz) nd bu g (X ++ [q]) (a (Int32.toNatClampNeg (en n))) else _) = _
      rw [if_pos h3, k1]
    by_cases u : g = n
    · subst u
      refine ⟨A1, X, [], q, by rw [List.append_nil], ?_, h2, h5⟩
      rw [zsL_app, (cCh_no g h1 g (Nat.le_refl _) hf).1, er, if_pos h4, zsR_app, zsR_1 (op := op) (n := 17) h5 (by decide)]
      show 0 + (_ + 0) = _
      omega
    · obtain ⟨A2, X2, B2, q2, e2, m1, m2, m3⟩ := cCh_g n (fn := fn) h1 g (by omega) hf
      refine ⟨A2, X2, B2 ++ Int32.toNatClampNeg (en n) :: (X ++ [q]), q2, by rw [e2]; simp, ?_, m2, m3⟩
      rw [zsL_app, m1, er, if_neg (by omega)]; omega
theorem zli_sg : ∀ {A Y : List Nat} {e : Nat} {x : Int32}, zli nx x (A ++ e :: Y) → zsg nx e Y
  | [], [], _, _, _ => trivial
  | [], y :: Y, e, x, h => ⟨h.2.1, zli_sg (A := []) (x := nx e) h.2⟩
  | z :: A, Y, e, x, h => zli_sg (A := A) (x := nx z) h.2
/-- every function's shells -/
theorem cSh_all {cz9 : Int} {n z : Nat} {L : List Nat} (hkz : 0 ≤ kz.toInt) (hz : z = Int32.toNatClampNeg kz) (h : cCl (zcs op a b pl ak an ab al af bu) nx H cz9 az9 ct en n Tr) (hl : zli nx 0 L) (hne : L ≠ []) (he : zeq (zst op a b nx ak an ab al af kf ff cz ct az kz) nd L) (hw : ∀ g, g < n → ∃ c : Nat, c ≤ 24 ∧ tm_wf z kf (Tr g) c) (hy : ∀ g, g < n → sy_x (Tr g)) : ∀ g, g < n → zsL (zst op a b nx ak an ab al af kf ff cz ct az kz) nd bu g L (-1) = tm_sh (Tr g) (fun _ => false) 32 := by
  obtain ⟨L2, c1, c2, c3, c4⟩ := h
  intro g hg
  have e9 : Int32.toInt (-1) = -1 := by decide
  rcases c4 with ⟨-, -, d⟩ | ⟨-, -, d, -⟩
  · exfalso
    subst d
    cases n with
    | zero => omega
    | succ n =>
      obtain ⟨A, X, q, e, -⟩ := c1
      exact absurd e.symm (by simp)
  · have e := zli_uq2 d hl
    subst e
    obtain ⟨A1, X, B, q, e1, e2, e3, e4⟩ := cCh_g (nx := nx) (ff := ff) (kf := kf) (nd := nd) (cz := cz) (ct := ct) (az := az) (kz := kz) n (fn := -1) c1 g hg (by omega)
    rw [e2]
    rw [e1] at d
    have s0 := zli_sg d
    rw [List.append_assoc] at s0
    obtain ⟨s1, s2⟩ := zsg_app.mp s0
    have hr := zeq_hz he
    have eB : zBe nx nd (zla (Int32.toNatClampNeg (en g)) X) = fun _ => false := funext fun k => by
      rw [zBe_1 s2.1]
      by_cases hk : k < 32
      · rw [hz_n (n := 17) (hr q (by rw [e1]; simp)) e4 k hk]; rfl
      · exact zbit_ge (by omega)
    obtain ⟨c, w1, w2⟩ := hw g hg
    obtain ⟨y1, y2⟩ := hy g hg
    have := (cSh hkz hz (Tr g) y2).1 (Or.inl y1) rfl e3 s1 (fun r h9 => hr r (by rw [e1]; simp [h9])) w2 w1 (fun k g9 => by rw [eB] at g9; cases g9)
    rw [this, eB]
end
