/-! the names that a row needs, a bit each -/
def zbit (x : Int32) (k : Nat) : Bool := x.toBitVec.getLsbD k
theorem zbit_or (x y : Int32) (k : Nat) : zbit (x ||| y) k = (zbit x k || zbit y k) := by
  unfold zbit; rw [Int32.toBitVec_or, BitVec.getLsbD_or]
theorem zbit_and (x y : Int32) (k : Nat) : zbit (x &&& y) k = (zbit x k && zbit y k) := by
  unfold zbit; rw [Int32.toBitVec_and, BitVec.getLsbD_and]
theorem zbit_m1 : ∀ k : Fin 32, zbit (-1) k.val = true := by decide +kernel
theorem zbit_xor1 (x : Int32) {k : Nat} (hk : k < 32) : zbit (x ^^^ (-1)) k = !zbit x k := by
  have h := zbit_m1 ⟨k, hk⟩
  unfold zbit at *
  rw [Int32.toBitVec_xor, BitVec.getLsbD_xor]
  have h : (-1 : Int32).toBitVec.getLsbD k = true := h
  rw [h, Bool.xor_true]
theorem zbit_0 : ∀ k : Fin 32, zbit 0 k.val = false := by decide +kernel
theorem zbit_z {k : Nat} (hk : k < 32) : zbit 0 k = false := zbit_0 ⟨k, hk⟩
theorem zbit_s : ∀ j k : Fin 32, zbit ((1 : Int32) <<< (Int32.ofInt (j.val : Int) &&& 31)) k.val = (k.val == j.val) := by decide +kernel
theorem zi_of {y : Int32} {j : Nat} (h : y.toInt = (j : Int)) : y = Int32.ofInt (j : Int) := by rw [← h]; exact (Int32.ofInt_toInt y).symm
theorem zbit_sh {y : Int32} (h0 : 0 ≤ y.toInt) (h1 : y.toInt < 32) {k : Nat} (hk : k < 32) : zbit ((1 : Int32) <<< (y &&& 31)) k = (k == Int32.toNatClampNeg y) := by
  have hn := zn_nat h0
  have e := zi_of (y := y) (j := Int32.toNatClampNeg y) hn.symm
  have := zbit_s ⟨Int32.toNatClampNeg y, by omega⟩ ⟨k, hk⟩
  have this : zbit ((1 : Int32) <<< (Int32.ofInt ((Int32.toNatClampNeg y : Nat) : Int) &&& 31)) k = (k == Int32.toNatClampNeg y) := this
  rw [← e] at this
  exact this
theorem zbit_f : ∀ (w : Fin 4) (j : Fin 28) (k : Fin 32), zbit (((1 : Int32) <<< (Int32.ofInt (w.val : Int) &&& 31) - 1) <<< (Int32.ofInt (j.val : Int) &&& 31)) k.val = (decide (j.val ≤ k.val) && decide (k.val < j.val + w.val)) := by decide +kernel
theorem zbit_fl {x y : Int32} (h0 : 0 ≤ x.toInt) (h1 : x.toInt < 4) (g0 : 0 ≤ y.toInt) (g1 : y.toInt < 28) {k : Nat} (hk : k < 32) : zbit (((1 : Int32) <<< (x &&& 31) - 1) <<< (y &&& 31)) k = (decide (y.toInt ≤ (k : Int)) && decide ((k : Int) < y.toInt + x.toInt)) := by
  have hx := zn_nat h0
  have hy := zn_nat g0
  have ex := zi_of (y := x) (j := Int32.toNatClampNeg x) hx.symm
  have ey := zi_of (y := y) (j := Int32.toNatClampNeg y) hy.symm
  have t := zbit_f ⟨Int32.toNatClampNeg x, by omega⟩ ⟨Int32.toNatClampNeg y, by omega⟩ ⟨k, hk⟩
  have t : zbit (((1 : Int32) <<< (Int32.ofInt ((Int32.toNatClampNeg x : Nat) : Int) &&& 31) - 1) <<< (Int32.ofInt ((Int32.toNatClampNeg y : Nat) : Int) &&& 31)) k = (decide (Int32.toNatClampNeg y ≤ k) && decide (k < Int32.toNatClampNeg y + Int32.toNatClampNeg x)) := t
  rw [← ex, ← ey] at t
  rw [t]
  congr 1
  · exact decide_eq_decide.mpr (by omega)
  · exact decide_eq_decide.mpr (by omega)
/-- what is needed behind a row -/
def zbe (nx nd : Nat → Int32) (row : Int32) : Int32 := if row.toInt = -1 then 0 else if (nx (Int32.toNatClampNeg row)).toInt = -1 then 0 else nd (Int32.toNatClampNeg (nx (Int32.toNatClampNeg row)))
def zab (S : Nat → Nat → Int32) (nd : Nat → Int32) (k : Nat) : Nat → Int32 → Bool
  | 0, _ => false
  | n + 1, am => if am.toInt = -1 then false else (zbit (zbe (S 3) nd (S 6 (Int32.toNatClampNeg am))) k && !(decide ((S 8 (Int32.toNatClampNeg am)).toInt ≤ (k : Int)) && decide ((k : Int) < (S 8 (Int32.toNatClampNeg am)).toInt + zfl S (S 4 (Int32.toNatClampNeg am))))) || zab S nd k n (S 5 (Int32.toNatClampNeg am))
/-- bit k of what row r needs, by what comes behind it; b: what is needed behind it -/
def znb (S : Nat → Nat → Int32) (nd : Nat → Int32) (r : Nat) (b : Int32) (k : Nat) : Nat → Bool
  | 17 => false
  | 3 => zbit b k || k == Int32.toNatClampNeg (S 1 r)
  | 12 => zbit b k && !(k == Int32.toNatClampNeg (S 1 r))
  | 13 => zbit b k || zbit (zbe (S 3) nd (S 1 r)) k
  | 14 => zbit (zbe (S 3) nd (S 1 r)) k
  | 16 => zbit (zbe (S 3) nd (S 1 r)) k
  | 15 => k == Int32.toNatClampNeg (S 1 r) || zab S nd k 8 (S 2 r)
  | _ => zbit b k
/-- what is needed right behind row r -/
def zbh (S : Nat → Nat → Int32) (nd : Nat → Int32) (r : Nat) : Int32 := if (S 3 r).toInt = -1 then 0 else nd (Int32.toNatClampNeg (S 3 r))
def zeq (S : Nat → Nat → Int32) (nd : Nat → Int32) : List Nat → Prop
  | [] => True
  | r :: po => (∀ k, k < 32 → zbit (nd r) k = znb S nd r (zbh S nd r) k (Int32.toNatClampNeg (S 0 r))) ∧ zeq S nd po
theorem zli_nx {nx : Nat → Int32} : ∀ {po : List Nat} {r : Nat} {x : Int32}, zli nx x (r :: po) → ∀ q ∈ r :: po, (nx q).toInt = -1 ∨ Int32.toNatClampNeg (nx q) ∈ po
  | [], r, x, h, q, hq => by
    have e : q = r := (List.mem_cons.mp hq).elim id (fun g => (nomatch g))
    rw [e]; exact Or.inl h.2
  | y :: po, r, x, h, q, hq => by
    rcases List.mem_cons.mp hq with e | e
    · right
      have h2 : (nx r).toInt = (y : Int) := h.2.1
      have := zn_nat (x := nx r) (by omega)
      rw [e, show Int32.toNatClampNeg (nx r) = y by omega]
      exact List.mem_cons_self
    · rcases zli_nx h.2 q e with u | u
      · exact Or.inl u
      · exact Or.inr (List.mem_cons_of_mem _ u)
theorem zbe_ext {nx nd nd2 : Nat → Int32} {r : Nat} {po : List Nat} {row : Int32} (hch : ∀ q ∈ r :: po, (nx q).toInt = -1 ∨ Int32.toNatClampNeg (nx q) ∈ po) (hag : ∀ q ∈ po, nd2 q = nd q) (hr : row.toInt = -1 ∨ Int32.toNatClampNeg row ∈ r :: po) : zbe nx nd2 row = zbe nx nd row := by
  unfold zbe
  by_cases g : row.toInt = -1
  · rw [if_pos g, if_pos g]
  · rw [if_neg g, if_neg g]
    have hq := hr.resolve_left g
    rcases hch _ hq with u | u
    · rw [if_pos u, if_pos u]
    · by_cases v : (nx (Int32.toNatClampNeg row)).toInt = -1
      · rw [if_pos v, if_pos v]
      · rw [if_neg v, if_neg v, hag _ u]
theorem zab_ext {S : Nat → Nat → Int32} {G : Nat → Nat → Int} {nd nd2 : Nat → Int32} {f r k : Nat} {po : List Nat} (hch : ∀ q ∈ r :: po, (S 3 q).toInt = -1 ∨ Int32.toNatClampNeg (S 3 q) ∈ po) (hag : ∀ q ∈ po, nd2 q = nd q) : ∀ (n : Nat) {AL : List Nat} {x : Int32}, zli (S 5) x AL → (∀ m ∈ AL, zarm S G f r po m) → zab S nd2 k n x = zab S nd k n x
  | 0, _, _, _, _ => rfl
  | n + 1, [], x, h, _ => by
    have h : x.toInt = -1 := h
    unfold zab
    rw [if_pos h, if_pos h]
  | n + 1, y :: AL, x, h, ha => by
    have h1 : x.toInt = (y : Int) := h.1
    have hn := zn_nat (x := x) (by omega)
    have e : Int32.toNatClampNeg x = y := by omega
    unfold zab
    rw [e, if_neg (by omega), if_neg (by omega), zab_ext hch hag n h.2 (fun m hm => ha m (List.mem_cons_of_mem _ hm)), zbe_ext hch hag (Or.inr (ha y List.mem_cons_self).2.2.2.2.2.2.1)]
theorem znb_ext {S : Nat → Nat → Int32} {G : Nat → Nat → Int} {nd nd2 : Nat → Int32} {f r k : Nat} {po : List Nat} {b : Int32} (hch : ∀ q ∈ r :: po, (S 3 q).toInt = -1 ∨ Int32.toNatClampNeg (S 3 q) ∈ po) (hag : ∀ q ∈ po, nd2 q = nd q) (hz : zrow S G f r po) : znb S nd2 r b k (Int32.toNatClampNeg (S 0 r)) = znb S nd r b k (Int32.toNatClampNeg (S 0 r)) := by
  have h8 := hz.2.2.2.2.2.2.2
  generalize Int32.toNatClampNeg (S 0 r) = n at h8 ⊢
  have tg : ∀ h, ztg S G r po h → zbe (S 3) nd2 (S 1 r) = zbe (S 3) nd (S 1 r) := fun h t => zbe_ext hch hag (by
    rcases t with t | t
    · exact Or.inl t
    · exact Or.inr t.2.1)
  match n, h8 with
  | 0, _ => rfl
  | 1, _ => rfl
  | 2, _ => rfl
  | 3, _ => rfl
  | 4, _ => rfl
  | 5, _ => rfl
  | 6, _ => rfl
  | 7, _ => rfl
  | 8, _ => rfl
  | 9, _ => rfl
  | 10, _ => rfl
  | 11, _ => rfl
  | 12, _ => rfl
  | 13, h => simp only [zop] at h; simp only [znb]; rw [tg _ h.2.2.2]
  | 14, h => simp only [zop] at h; simp only [znb]; rw [tg _ h]
  | 15, h =>
    simp only [zop] at h
    obtain ⟨-, -, AL, -, h4, h5⟩ := h
    simp only [znb]
    rw [zab_ext hch hag 8 h4 h5]
  | 16, h => simp only [zop] at h; simp only [znb]; rw [tg _ h]
  | 17, _ => rfl
  | n + 18, h => exact h.elim
theorem zbh_ext {S : Nat → Nat → Int32} {nd nd2 : Nat → Int32} {r : Nat} {po : List Nat} (hch : ∀ q ∈ r :: po, (S 3 q).toInt = -1 ∨ Int32.toNatClampNeg (S 3 q) ∈ po) (hag : ∀ q ∈ po, nd2 q = nd q) : zbh S nd2 r = zbh S nd r := by
  unfold zbh
  rcases hch r List.mem_cons_self with u | u
  · rw [if_pos u, if_pos u]
  · by_cases v : (S 3 r).toInt = -1
    · rw [if_pos v, if_pos v]
    · rw [if_neg v, if_neg v, hag _ u]
theorem zeq_ext {S : Nat → Nat → Int32} {G : Nat → Nat → Int} {nd nd2 : Nat → Int32} : ∀ {X : List Nat} {x : Int32}, zli (S 3) x X → zall S G X → (∀ q ∈ X, nd2 q = nd q) → zeq S nd X → zeq S nd2 X
  | [], _, _, _, _, _ => trivial
  | r :: po, x, hl, ⟨⟨f, z⟩, ha⟩, hag, h => by
    have hch := zli_nx hl
    have hag2 : ∀ q ∈ po, nd2 q = nd q := fun q hq => hag q (List.mem_cons_of_mem _ hq)
    refine ⟨fun k hk => ?_, zeq_ext hl.2 ha hag2 h.2⟩
    rw [hag r List.mem_cons_self, znb_ext hch hag2 z, zbh_ext hch hag2]
    exact h.1 k hk
/-- one row more is marked -/
theorem zeq_st {S : Nat → Nat → Int32} {G : Nat → Nat → Int} {nd nd2 : Nat → Int32} {r : Nat} {po : List Nat} {x v : Int32} (hl : zli (S 3) x (r :: po)) (ha : zall S G (r :: po)) (h : zeq S nd po) (e : nd2 = upd nd r v) (hv : ∀ k, k < 32 → zbit v k = znb S nd r (zbh S nd r) k (Int32.toNatClampNeg (S 0 r))) : zeq S nd2 (r :: po) := by
  obtain ⟨⟨f, z⟩, ha2⟩ := ha
  have hch := zli_nx hl
  have hag : ∀ q ∈ po, nd2 q = nd q := fun q hq => by rw [e, zu_n (show q ≠ r from fun g => z.1 (g ▸ hq))]
  refine ⟨fun k hk => ?_, zeq_ext hl.2 ha2 hag h⟩
  rw [znb_ext hch hag z, zbh_ext hch hag, e, zu_s]
  exact hv k hk
