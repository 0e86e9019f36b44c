/-- the tape's numbers are bytes -/
def zb (g : Nat → Int32) : Prop := ∀ j : Nat, -128 ≤ (g j).toInt ∧ (g j).toInt ≤ 127
theorem zand_all : ∀ k : Fin 256, (Int32.ofInt ((k.val : Int) - 128) &&& 255).toInt = if 0 ≤ (k.val : Int) - 128 then (k.val : Int) - 128 else (k.val : Int) - 128 + 256 := by decide +kernel
theorem zand255 {v x : Int32} (e : v = x &&& 255) (h1 : -128 ≤ x.toInt) (h2 : x.toInt ≤ 127) : v.toInt = x.toInt ∧ 0 ≤ x.toInt ∨ v.toInt = x.toInt + 256 ∧ x.toInt < 0 := by
  have hx : Int32.ofInt x.toInt = x := Int32.ofInt_toInt x
  have h := zand_all ⟨(x.toInt + 128).toNat, by omega⟩
  have e2 : (((⟨(x.toInt + 128).toNat, by omega⟩ : Fin 256).val : Nat) : Int) - 128 = x.toInt := by
    show (((x.toInt + 128).toNat : Nat) : Int) - 128 = x.toInt
    omega
  rw [e2, hx, ← e] at h
  by_cases g : 0 ≤ x.toInt
  · rw [if_pos g] at h; exact Or.inl ⟨h, g⟩
  · rw [if_neg g] at h; exact Or.inr ⟨h, by omega⟩
theorem zb_nar (x : Int32) : -128 ≤ (vp_nar .byte x).toInt ∧ (vp_nar .byte x).toInt ≤ 127 := by
  show -128 ≤ (Int32.toInt8 x).toInt32.toInt ∧ (Int32.toInt8 x).toInt32.toInt ≤ 127
  rw [Int8.toInt_toInt32]
  exact ⟨Int8.le_toInt _, Int8.toInt_le _⟩
theorem zb_upd {g g2 : Nat → Int32} {k : Nat} {x : Int32} (h : zb g) (e : g2 = upd g k (vp_nar .byte x)) : zb g2 := fun j => by
  rw [e]
  by_cases u : j = k
  · rw [u, zu_s]; exact zb_nar x
  · rw [zu_n u]; exact h j
/-- the tokens so far, and where the next one may begin -/
def zpr (gs gp : Nat → Int32) (z fr : Int) : Prop := (∀ i : Nat, (i : Int) + 1 < z → (gp i).toInt + 1 ≤ (gp (i + 1)).toInt ∧ (gs i = 261 → (gp i).toInt + 2 ≤ (gp (i + 1)).toInt)) ∧ (∀ i : Nat, (i : Int) + 1 = z → (gp i).toInt + 1 ≤ fr ∧ (gs i = 261 → (gp i).toInt + 2 ≤ fr)) ∧ (0 < z → 0 ≤ (gp 0).toInt)
theorem zpr_0 {gs gp : Nat → Int32} {z fr : Int} (h : z = 0) : zpr gs gp z fr := ⟨fun i hi => by omega, fun i hi => by omega, fun hi => by omega⟩
theorem zpr_up {gs gp : Nat → Int32} {z fr fr2 : Int} (h : zpr gs gp z fr) (hf : fr ≤ fr2) : zpr gs gp z fr2 := ⟨h.1, fun i hi => ⟨by have := (h.2.1 i hi).1; omega, fun g => by have := (h.2.1 i hi).2 g; omega⟩, h.2.2⟩
theorem zpr_st {gs gp gs2 gp2 : Nat → Int32} {zz f32 v : Int32} {z2 r : Int} (h : zpr gs gp zz.toInt f32.toInt) (hz : 0 ≤ zz.toInt) (hf : 0 ≤ f32.toInt) (e1 : gp2 = upd gp (Int32.toNatClampNeg zz) f32) (e2 : gs2 = upd gs (Int32.toNatClampNeg zz) v) (hr : f32.toInt < r) (hv : v.toInt = 261 → f32.toInt + 2 ≤ r) (ez : z2 = zz.toInt + 1) : zpr gs2 gp2 z2 r := by
  have hn := zn_nat hz
  subst ez
  refine ⟨fun i hi => ?_, fun i hi => ?_, fun _ => ?_⟩
  · have n1 : i ≠ Int32.toNatClampNeg zz := by omega
    rw [e1, e2, zu_n n1, zu_n n1]
    by_cases u : i + 1 = Int32.toNatClampNeg zz
    · rw [u, zu_s]
      exact h.2.1 i (by omega)
    · rw [zu_n u]
      exact h.1 i (by omega)
  · have e : i = Int32.toNatClampNeg zz := by omega
    rw [e, e1, e2, zu_s, zu_s]
    exact ⟨by omega, fun g => hv (by rw [g]; decide)⟩
  · rw [e1]
    by_cases u : 0 = Int32.toNatClampNeg zz
    · rw [u, zu_s]; exact hf
    · rw [zu_n u]; exact h.2.2 (by omega)
theorem zpl_end {gs gp gs2 gp2 : Nat → Int32} {zz en : Int32} {fr : Int} (h : zpr gs gp zz.toInt fr) (hz : 0 ≤ zz.toInt) (h0 : 0 ≤ en.toInt) (h1 : fr ≤ en.toInt) (h2 : en.toInt ≤ 2000) (e2 : gs2 = upd gs (Int32.toNatClampNeg zz) 256) (e1 : gp2 = upd gp (Int32.toNatClampNeg zz) en) : zpl gs2 gp2 zz := by
  have hn := zn_nat hz
  refine ⟨fun i hi => ?_, ?_, by rw [e1, zu_s]; exact h2, by rw [e2, zu_s]⟩
  · have n1 : i ≠ Int32.toNatClampNeg zz := by omega
    rw [e1, e2, zu_n n1, zu_n n1]
    by_cases u : i + 1 = Int32.toNatClampNeg zz
    · rw [u, zu_s]
      have := h.2.1 i (by omega)
      exact ⟨by omega, fun g => by have := this.2 g; omega⟩
    · rw [zu_n u]
      exact h.1 i (by omega)
  · rw [e1]
    by_cases u : 0 = Int32.toNatClampNeg zz
    · rw [u, zu_s]; exact h0
    · rw [zu_n u]; exact h.2.2 (by omega)
/-! tokens out of bytes -/
def lx_wb (c : Int) : Prop := 97 ≤ c ∧ c ≤ 122 ∨ 65 ≤ c ∧ c ≤ 90 ∨ 48 ≤ c ∧ c ≤ 57
def lx_cn (lo hi : Int) (g : Nat → Int32) (p : Nat) : Nat → Int
  | 0 => 0
  | k + 1 => lx_cn lo hi g p k + if lo ≤ (g (p + k)).toInt ∧ (g (p + k)).toInt ≤ hi then 1 else 0
def lx_w (g : Nat → Int32) (p : Nat) : Nat → Int64
  | 0 => 0
  | k + 1 => (lx_w g p k <<< (Int32.toInt64 8 &&& 63)) ||| Int32.toInt64 (g (p + k))
/-- a number of k digits -/
def lx_n (g : Nat → Int32) (p : Nat) : Nat → Int
  | 0 => 0
  | k + 1 => lx_n g p k * 10 + ((g (p + k)).toInt - 48)
def lx_dg (g : Nat → Int32) (p k : Nat) : Prop := ∀ j, j < k → 48 ≤ (g (p + j)).toInt ∧ (g (p + j)).toInt ≤ 57
def lx_pw : Nat → Int
  | 0 => 1
  | k + 1 => 10 * lx_pw k
theorem lx_n_b {g : Nat → Int32} {p : Nat} : ∀ k, lx_dg g p k → 0 ≤ lx_n g p k ∧ lx_n g p k < lx_pw k
  | 0, _ => ⟨Int.le_refl _, by show (0 : Int) < 1; decide⟩
  | k + 1, h => by
    have ih := lx_n_b (g := g) (p := p) k (fun j hj => h j (by omega))
    have hd := h k (by omega)
    show 0 ≤ lx_n g p k * 10 + ((g (p + k)).toInt - 48) ∧ lx_n g p k * 10 + ((g (p + k)).toInt - 48) < 10 * lx_pw k
    omega
theorem lx_pw_8 : ∀ k : Fin 9, lx_pw k.val ≤ 100000000 := by decide
/-- the number so far -/
def lx_nq (g : Nat → Int32) (p k : Nat) (nu : Int32) : Prop := lx_dg g p k → k ≤ 9 → nu.toInt = lx_n g p k
theorem lx_nq_s {g : Nat → Int32} {p k k2 : Nat} {nu nu2 x y c : Int32} (h : lx_nq g p k nu) (ek : k2 = k + 1) (ec : c.toInt = (g (p + k)).toInt) (ex : x = nu * 10) (ey : y = c - 48) (en : nu2 = x + y) : lx_nq g p k2 nu2 := fun hd h9 => by
  subst ek
  have hk : lx_dg g p k := fun j hj => hd j (by omega)
  have e := h hk (by omega)
  have hb := lx_n_b k hk
  have hp := lx_pw_8 ⟨k, by omega⟩
  have hp : lx_pw k ≤ 100000000 := hp
  have hc := hd k (by omega)
  have hx : x.toInt = nu.toInt * 10 := by rw [ex]; exact zi_mulc (by decide) (by omega) (by omega)
  have hy : y.toInt = c.toInt - 48 := by rw [ey]; exact zi_subc (by decide) (by omega) (by omega)
  show nu2.toInt = lx_n g p k * 10 + ((g (p + k)).toInt - 48)
  rw [en, zi_addc hy (by omega) (by omega)]; omega
theorem lx_nq_l {g : Nat → Int32} {p k k2 : Nat} {nu c : Int32} (ek : k2 = k + 1) (ec : c.toInt = (g (p + k)).toInt) (hn : ¬ (48 ≤ c.toInt ∧ c.toInt ≤ 57)) : lx_nq g p k2 nu := fun hd _ => by
  subst ek
  have := hd k (by omega)
  exact absurd (by omega) hn
theorem lx_call {g : Nat → Int32} {p : Nat} {lo hi : Int} : ∀ k : Nat, lx_cn lo hi g p k ≤ (k : Int) ∧ (lx_cn lo hi g p k = (k : Int) → ∀ j, j < k → lo ≤ (g (p + j)).toInt ∧ (g (p + j)).toInt ≤ hi)
  | 0 => ⟨by show (0 : Int) ≤ 0; decide, fun _ j hj => by omega⟩
  | k + 1 => by
    have ih := lx_call (g := g) (p := p) (lo := lo) (hi := hi) k
    have e : lx_cn lo hi g p (k + 1) = lx_cn lo hi g p k + if lo ≤ (g (p + k)).toInt ∧ (g (p + k)).toInt ≤ hi then 1 else 0 := rfl
    rw [e]
    split
    · rename_i u
      refine ⟨by omega, fun h j hj => ?_⟩
      by_cases w : j = k
      · rw [w]; exact u
      · exact ih.2 (by omega) j (by omega)
    · exact ⟨by omega, fun h => by omega⟩
def lx_kw (w : Int64) : Int := if w = 7103860 then 262 else if w = 26990 then 263 else if w = 26982 then 264 else if w = 1952998766 then 265 else if w = 1701606245 then 266 else if w = 469786452840 then 267 else if w = 6714734 then 268 else 258
def lx_st (len sm di fst : Int) (w : Int64) : Int := if di = len then (if len ≤ 9 then 260 else 257) else if 8 < len then 257 else if sm = len then lx_kw w else if sm = len - 1 ∧ 65 ≤ fst ∧ fst ≤ 90 then 259 else 257
def lx_sg (c : Int) : Prop := c = 40 ∨ c = 41 ∨ c = 44 ∨ c = 61 ∨ c = 43 ∨ c = 45 ∨ c = 42 ∨ c = 60 ∨ c = 123 ∨ c = 125 ∨ c = 124 ∨ c = 59 ∨ c = 95
/-- a word from p to e -/
def lx_wd (g : Nat → Int32) (n : Int) (p e : Nat) (t : Int32) (v : Int64) : Prop := p < e ∧ (e : Int) ≤ n ∧ (∀ k : Nat, p ≤ k → k < e → lx_wb (g k).toInt) ∧ ((e : Int) = n ∨ ¬ lx_wb (g e).toInt) ∧ t.toInt = lx_st ((e : Int) - p) (lx_cn 97 122 g p (e - p)) (lx_cn 48 57 g p (e - p)) (g p).toInt (lx_w g p (e - p)) ∧ (t.toInt = 258 ∨ t.toInt = 259 → v = lx_w g p (e - p)) ∧ (t.toInt = 260 → (Int64.toInt32 v).toInt = lx_n g p (e - p))
/-- a sign from p to e -/
def lx_sn (g : Nat → Int32) (n : Int) (p e : Nat) (t : Int32) : Prop := ¬ lx_wb (g p).toInt ∧ (((g p).toInt = 45 ∧ (p : Int) + 1 < n ∧ (g (p + 1)).toInt = 62) ∧ t.toInt = 261 ∧ e = p + 2 ∨ ¬ ((g p).toInt = 45 ∧ (p : Int) + 1 < n ∧ (g (p + 1)).toInt = 62) ∧ e = p + 1 ∧ (lx_sg (g p).toInt ∧ t.toInt = (g p).toInt ∨ ¬ lx_sg (g p).toInt ∧ t.toInt = 257))
/-- the token that comes from f on -/
def lx_tk (g : Nat → Int32) (n : Int) (f p e : Nat) (t : Int32) (v : Int64) : Prop := f ≤ p ∧ (p : Int) < n ∧ (∀ k : Nat, f ≤ k → k < p → (g k).toInt = 32 ∨ (g k).toInt = 10) ∧ (g p).toInt ≠ 32 ∧ (g p).toInt ≠ 10 ∧ (lx_wd g n p e t v ∨ lx_sn g n p e t)
def lx_b (e : Nat → Nat) (i : Nat) : Nat := if i = 0 then 0 else e (i - 1)
/-- the first z tokens, and blanks from there to f -/
def lx_to (g : Nat → Int32) (n : Int) (T P : Nat → Int32) (V : Nat → Int64) (z f : Nat) (e : Nat → Nat) : Prop := (∀ i, i < z → lx_tk g n (lx_b e i) (Int32.toNatClampNeg (P i)) (e i) (T i) (V i) ∧ 0 ≤ (P i).toInt) ∧ lx_b e z ≤ f ∧ ∀ k : Nat, lx_b e z ≤ k → k < f → (g k).toInt = 32 ∨ (g k).toInt = 10
/-- all tokens of the first n bytes -/
def lx_al (g : Nat → Int32) (n : Int) (T P : Nat → Int32) (V : Nat → Int64) (z : Int32) : Prop := 0 ≤ z.toInt ∧ z.toInt ≤ 2000 ∧ (T (Int32.toNatClampNeg z)).toInt = 256 ∧ (P (Int32.toNatClampNeg z)).toInt = n ∧ ∃ e, lx_to g n T P V (Int32.toNatClampNeg z) n.toNat e
theorem lx_to_0 {g : Nat → Int32} {n : Int} {T P : Nat → Int32} {V : Nat → Int64} {z f : Nat} (hz : z = 0) (hf : f = 0) : ∃ e, lx_to g n T P V z f e := ⟨fun _ => 0, fun i hi => by omega, by rw [hz]; exact Nat.zero_le _, fun k _ hk => by omega⟩
theorem lx_to_b {g : Nat → Int32} {n : Int} {T P : Nat → Int32} {V : Nat → Int64} {z f f2 : Nat} (h : ∃ e, lx_to g n T P V z f e) (hb : (g f).toInt = 32 ∨ (g f).toInt = 10) (e2 : f2 = f + 1) : ∃ e, lx_to g n T P V z f2 e := by
  obtain ⟨e, h1, h2, h3⟩ := h
  refine ⟨e, h1, by omega, fun k hk hk2 => ?_⟩
  by_cases u : k = f
  · rw [u]; exact hb
  · exact h3 k hk (by omega)
theorem lx_to_s {g : Nat → Int32} {n : Int} {T P T2 P2 : Nat → Int32} {V V2 : Nat → Int64} {z z2 f r : Nat} {t p32 : Int32} {v : Int64} (h : ∃ e, lx_to g n T P V z f e) (hp : 0 ≤ p32.toInt) (hpf : Int32.toNatClampNeg p32 = f) (hfn : (f : Int) < n) (h32 : (g f).toInt ≠ 32) (h10 : (g f).toInt ≠ 10) (ht : lx_wd g n f r t v ∨ lx_sn g n f r t) (eT : T2 = upd T z t) (eP : P2 = upd P z p32) (eV : V2 = vp_updL V z v) (ez : z2 = z + 1) : ∃ e, lx_to g n T2 P2 V2 z2 r e := by
  obtain ⟨e, h1, h2, h3⟩ := h
  have hv : ∀ i, i ≠ z → V2 i = V i := fun i hi => by rw [eV]; simp [vp_updL, hi]
  have hv2 : V2 z = v := by rw [eV]; simp [vp_updL]
  have hbz : ∀ i, i ≤ z → lx_b (fun i => if i = z then r else e i) i = lx_b e i := fun i hi => by
    unfold lx_b
    by_cases u : i = 0
    · rw [if_pos u, if_pos u]
    · rw [if_neg u, if_neg u]; exact if_neg (by omega)
  refine ⟨fun i => if i = z then r else e i, fun i hi => ?_, ?_, fun k hk hk2 => ?_⟩
  · rw [hbz i (by omega)]
    by_cases u : i = z
    · subst u
      rw [hv2, eT, eP, zu_s, zu_s, hpf]
      show lx_tk g n _ _ (if i = i then r else e i) t v ∧ _
      rw [if_pos rfl]
      exact ⟨⟨h2, hfn, h3, h32, h10, ht⟩, hp⟩
    · rw [hv i u, eT, eP, zu_n u, zu_n u]
      show lx_tk g n _ _ (if i = z then r else e i) _ _ ∧ _
      rw [if_neg u]
      exact h1 i (by omega)
  · subst ez
    unfold lx_b
    rw [if_neg (by omega)]
    show (if z + 1 - 1 = z then r else e _) ≤ r
    rw [if_pos (by omega)]; exact Nat.le_refl _
  · subst ez
    unfold lx_b at hk
    rw [if_neg (by omega)] at hk
    have hk : (if z + 1 - 1 = z then r else e (z + 1 - 1)) ≤ k := hk
    rw [if_pos (by omega)] at hk
    omega
theorem lx_al_mk {g : Nat → Int32} {n : Int} {T P T2 P2 : Nat → Int32} {V V2 : Nat → Int64} {z f32 en : Int32} {v : Int64} (h : ∃ e, lx_to g n T P V (Int32.toNatClampNeg z) (Int32.toNatClampNeg f32) e) (hz : 0 ≤ z.toInt) (hz2 : z.toInt ≤ 2000) (hn : 0 ≤ n) (hf : n ≤ f32.toInt) (eT : T2 = upd T (Int32.toNatClampNeg z) 256) (eP : P2 = upd P (Int32.toNatClampNeg z) en) (een : en.toInt = n) (eV : V2 = vp_updL V (Int32.toNatClampNeg z) v) : lx_al g n T2 P2 V2 z := by
  obtain ⟨e, h1, h2, h3⟩ := h
  have hfn := zn_nat (x := f32) (by omega)
  have hlast : lx_b e (Int32.toNatClampNeg z) ≤ n.toNat := by
    unfold lx_b
    split
    · exact Nat.zero_le _
    · rename_i u
      obtain ⟨-, k1, -, -, -, k2⟩ := (h1 (Int32.toNatClampNeg z - 1) (by omega)).1
      rcases k2 with q | q
      · have := q.2.1; omega
      · rcases q.2 with w | w
        · have := w.1.2.1; have := w.2.2; omega
        · have := w.2.1; omega
  refine ⟨hz, hz2, by rw [eT, zu_s]; decide, by rw [eP, zu_s]; exact een, e, fun i hi => ?_, hlast, fun k hk hk2 => h3 k hk (by omega)⟩
  have u : i ≠ Int32.toNatClampNeg z := by omega
  rw [eT, eP, zu_n u, zu_n u, show V2 i = V i by rw [eV]; simp [vp_updL, u]]
  exact h1 i hi
/-- what a search in a constant says -/
def lx_ix (i : Nat) (c r : Int32) : Prop := (0 ≤ r.toInt → ∃ k, k < zSl.getD i 0 ∧ (zSb.getD i []).getD k 0 = c) ∧ (r.toInt < 0 → ∀ k, k < zSl.getD i 0 → (zSb.getD i []).getD k 0 ≠ c)
theorem lx_ix_y {i : Nat} {c r : Int32} (h0 : 0 ≤ r.toInt) (h1 : r.toInt < ((zSl.getD i 0 : Nat) : Int)) (e : (zSb.getD i []).getD (Int32.toNatClampNeg r) 0 = c) : lx_ix i c r := ⟨fun _ => ⟨_, by have := zn_nat h0; omega, e⟩, fun g => by omega⟩
theorem lx_ix_n {i : Nat} {c r : Int32} {to : Int} (hr : r.toInt < 0) (h1 : ((zSl.getD i 0 : Nat) : Int) ≤ to) (h : ∀ k : Nat, (k : Int) < to → (zSb.getD i []).getD k 0 ≠ c) : lx_ix i c r := ⟨fun g => by omega, fun _ k hk => h k (by omega)⟩
theorem lx_no1 {i : Nat} {c j j2 : Int32} (h : ∀ k : Nat, (k : Int) < j.toInt → (zSb.getD i []).getD k 0 ≠ c) (h0 : 0 ≤ j.toInt) (hx : j2.toInt = j.toInt + 1) (hn : (zSb.getD i []).getD (Int32.toNatClampNeg j) 0 ≠ c) : ∀ k : Nat, (k : Int) < j2.toInt → (zSb.getD i []).getD k 0 ≠ c := fun k hk => by
  have := zn_nat h0
  by_cases u : k = Int32.toNatClampNeg j
  · rw [u]; exact hn
  · exact h k (by omega)
theorem lx_i2b : ∀ k : Fin 256, ((Int32.ofInt (k.val : Int)).toInt8.toInt32).toInt = if k.val < 128 then (k.val : Int) else (k.val : Int) - 256 := by decide +kernel
theorem lx_sg_ix {x c r : Int32} (ec : c = x.toInt8.toInt32) (h0 : 0 ≤ x.toInt) (h1 : x.toInt < 256) (h : lx_ix 0 c r) : (0 ≤ r.toInt ∧ lx_sg x.toInt) ∨ (r.toInt < 0 ∧ ¬ lx_sg x.toInt) := by
  have hx : Int32.ofInt ((x.toInt.toNat : Nat) : Int) = x := by rw [Int.toNat_of_nonneg h0]; exact Int32.ofInt_toInt x
  have hb := lx_i2b ⟨x.toInt.toNat, by omega⟩
  have hb : ((Int32.ofInt ((x.toInt.toNat : Nat) : Int)).toInt8.toInt32).toInt = if x.toInt.toNat < 128 then ((x.toInt.toNat : Nat) : Int) else ((x.toInt.toNat : Nat) : Int) - 256 := hb
  rw [hx, ← ec] at hb
  have tab : ∀ k, k < 13 → ((zSb.getD 0 []).getD k 0).toInt = [40, 41, 44, 61, 43, 45, 42, 60, 123, 125, 124, 59, 95].getD k (0 : Int) := by decide
  by_cases g : 0 ≤ r.toInt
  · left
    refine ⟨g, ?_⟩
    obtain ⟨k, hk, e⟩ := h.1 g
    have hk : k < 13 := hk
    have t := tab k hk
    rw [e] at t
    have hv : ∀ k, k < 13 → lx_sg ([40, 41, 44, 61, 43, 45, 42, 60, 123, 125, 124, 59, 95].getD k (0 : Int)) ∧ 0 ≤ ([40, 41, 44, 61, 43, 45, 42, 60, 123, 125, 124, 59, 95].getD k (0 : Int)) := by unfold lx_sg; decide
    have v := hv k hk
    rw [← t] at v
    have e3 : c.toInt = x.toInt := by
      by_cases u : x.toInt.toNat < 128
      · rw [if_pos u] at hb; omega
      · rw [if_neg u] at hb; omega
    rw [e3] at v; exact v.1
  · right
    refine ⟨by omega, fun hs => ?_⟩
    have hn := h.2 (by omega)
    have e3 : c.toInt = x.toInt := by
      have : x.toInt.toNat < 128 := by unfold lx_sg at hs; omega
      rw [if_pos this] at hb; omega
    have key : ∀ k, k < 13 → c.toInt ≠ [40, 41, 44, 61, 43, 45, 42, 60, 123, 125, 124, 59, 95].getD k (0 : Int) := fun k hk e => hn k hk (Int32.toInt_inj.mp (by rw [tab k hk]; exact e.symm))
    rw [e3] at key
    unfold lx_sg at hs
    rcases hs with q | q | q | q | q | q | q | q | q | q | q | q | q
    · exact key 0 (by decide) q
    · exact key 1 (by decide) q
    · exact key 2 (by decide) q
    · exact key 3 (by decide) q
    · exact key 4 (by decide) q
    · exact key 5 (by decide) q
    · exact key 6 (by decide) q
    · exact key 7 (by decide) q
    · exact key 8 (by decide) q
    · exact key 9 (by decide) q
    · exact key 10 (by decide) q
    · exact key 11 (by decide) q
    · exact key 12 (by decide) q
theorem lx_c1 {lo hi : Int} {g : Nat → Int32} {fr to to2 : Int32} {c : Int} (h : c = lx_cn lo hi g (Int32.toNatClampNeg fr) (Int32.toNatClampNeg to - Int32.toNatClampNeg fr)) (hf : 0 ≤ fr.toInt) (ht : fr.toInt ≤ to.toInt) (e : to2.toInt = to.toInt + 1) (hy : lo ≤ (g (Int32.toNatClampNeg to)).toInt ∧ (g (Int32.toNatClampNeg to)).toInt ≤ hi) : c + 1 = lx_cn lo hi g (Int32.toNatClampNeg fr) (Int32.toNatClampNeg to2 - Int32.toNatClampNeg fr) := by
  have n1 := zn_nat hf
  have n2 := zn_nat (x := to) (by omega)
  have n3 := zn_1 e (by omega)
  rw [n3, show Int32.toNatClampNeg to + 1 - Int32.toNatClampNeg fr = (Int32.toNatClampNeg to - Int32.toNatClampNeg fr) + 1 by omega]
  show _ = lx_cn _ _ _ _ _ + _
  rw [show Int32.toNatClampNeg fr + (Int32.toNatClampNeg to - Int32.toNatClampNeg fr) = Int32.toNatClampNeg to by omega, if_pos hy, ← h]
theorem lx_c0 {lo hi : Int} {g : Nat → Int32} {fr to to2 : Int32} {c : Int} (h : c = lx_cn lo hi g (Int32.toNatClampNeg fr) (Int32.toNatClampNeg to - Int32.toNatClampNeg fr)) (hf : 0 ≤ fr.toInt) (ht : fr.toInt ≤ to.toInt) (e : to2.toInt = to.toInt + 1) (hy : ¬ (lo ≤ (g (Int32.toNatClampNeg to)).toInt ∧ (g (Int32.toNatClampNeg to)).toInt ≤ hi)) : c = lx_cn lo hi g (Int32.toNatClampNeg fr) (Int32.toNatClampNeg to2 - Int32.toNatClampNeg fr) := by
  have n1 := zn_nat hf
  have n2 := zn_nat (x := to) (by omega)
  have n3 := zn_1 e (by omega)
  rw [n3, show Int32.toNatClampNeg to + 1 - Int32.toNatClampNeg fr = (Int32.toNatClampNeg to - Int32.toNatClampNeg fr) + 1 by omega]
  show _ = lx_cn _ _ _ _ _ + _
  rw [show Int32.toNatClampNeg fr + (Int32.toNatClampNeg to - Int32.toNatClampNeg fr) = Int32.toNatClampNeg to by omega, if_neg hy, ← h, Int.add_zero]
theorem lx_w1 {g : Nat → Int32} {fr to to2 : Int32} {b b2 : Int64} (h : b = lx_w g (Int32.toNatClampNeg fr) (Int32.toNatClampNeg to - Int32.toNatClampNeg fr)) (hf : 0 ≤ fr.toInt) (ht : fr.toInt ≤ to.toInt) (e : to2.toInt = to.toInt + 1) (hy : b2 = (b <<< (Int32.toInt64 8 &&& 63)) ||| Int32.toInt64 (g (Int32.toNatClampNeg to))) : b2 = lx_w g (Int32.toNatClampNeg fr) (Int32.toNatClampNeg to2 - Int32.toNatClampNeg fr) := by
  have n1 := zn_nat hf
  have n2 := zn_nat (x := to) (by omega)
  have n3 := zn_1 e (by omega)
  rw [n3, show Int32.toNatClampNeg to + 1 - Int32.toNatClampNeg fr = (Int32.toNatClampNeg to - Int32.toNatClampNeg fr) + 1 by omega]
  show _ = (lx_w _ _ _ <<< _) ||| _
  rw [show Int32.toNatClampNeg fr + (Int32.toNatClampNeg to - Int32.toNatClampNeg fr) = Int32.toNatClampNeg to by omega, ← h]; exact hy
theorem lx_a1 {g : Nat → Int32} {fr to to2 : Int32} (h : ∀ k : Nat, fr.toInt ≤ (k : Int) → (k : Int) < to.toInt → lx_wb (g k).toInt) (h0 : 0 ≤ to.toInt) (e : to2.toInt = to.toInt + 1) (hy : lx_wb (g (Int32.toNatClampNeg to)).toInt) : ∀ k : Nat, fr.toInt ≤ (k : Int) → (k : Int) < to2.toInt → lx_wb (g k).toInt := fun k hk hk2 => by
  have := zn_nat h0
  by_cases u : k = Int32.toNatClampNeg to
  · rw [u]; exact hy
  · exact h k hk (by omega)
theorem lx_st_1 {len sm di f : Int} {w : Int64} (h : di = len) (h9 : len ≤ 9) : (260 : Int) = lx_st len sm di f w := by unfold lx_st; rw [if_pos h, if_pos h9]
theorem lx_st_2 {len sm di f : Int} {w : Int64} (h : di = len) (h9 : 9 < len) : (257 : Int) = lx_st len sm di f w := by unfold lx_st; rw [if_pos h, if_neg (by omega)]
theorem lx_st_3 {len sm di f : Int} {w : Int64} (h : di ≠ len) (h8 : 8 < len) : (257 : Int) = lx_st len sm di f w := by unfold lx_st; rw [if_neg h, if_pos h8]
theorem lx_st_4 {len sm di f : Int} {w : Int64} (h : di ≠ len) (h8 : len ≤ 8) (hs : sm = len) : lx_kw w = lx_st len sm di f w := by unfold lx_st; rw [if_neg h, if_neg (by omega), if_pos hs]
theorem lx_st_5 {len sm di f : Int} {w : Int64} (h : di ≠ len) (h8 : len ≤ 8) (hs : sm = len - 1) (h1 : 65 ≤ f) (h2 : f ≤ 90) : (259 : Int) = lx_st len sm di f w := by unfold lx_st; rw [if_neg h, if_neg (by omega), if_neg (by omega), if_pos ⟨hs, h1, h2⟩]
theorem lx_st_6 {len sm di f : Int} {w : Int64} (h : di ≠ len) (h8 : len ≤ 8) (hs : sm ≠ len) (hn : ¬ (sm = len - 1 ∧ 65 ≤ f ∧ f ≤ 90)) : (257 : Int) = lx_st len sm di f w := by unfold lx_st; rw [if_neg h, if_neg (by omega), if_neg hs, if_neg hn]

set_option maxHeartbeats 4000000 in
set_option maxRecDepth 100000 in
theorem c_J1_indexOfChar_s (l : Launch) (dC : Nat → ClassId) (dI : Nat → Nat → Nat) (aK aV : Nat → Nat) (i : Nat) (ch : Int32) (fr : Int32) (to : Int32) (sz : Nat) (hi : i < 8) (hf0 : fr.toInt = 0) (ht0 : to.toInt = ((zSl.getD i 0 : Nat) : Int)) (ht1 : fr.toInt ≤ to.toInt) (h13 : to.toInt ≤ 13) : Met l yJ1_indexOfChar_4cfef (Cond.code yJ1_indexOfChar_4cfef cJ1_indexOfChar_4cfef 6 (some .int) :: zw) ({ frames := 8, cells := 0, slots := 0, locals := 200 }) (va_Pc [.ref (aV i), .int ch, .int fr, .int to] (zP dC dI aK aV sz [] [])) (va_Qi (fun (r : Int32) (u : Unit) => (-1 ≤ r.toInt) ∧ (lx_ix i (Int32.toInt8 ch).toInt32 r)) (fun u => zQ dC dI (va_A [] sz) [] []) (va_A [] sz)) 0 0 (va_A [] sz) := by
  refine Met.ofW (cc := cJ1_indexOfChar_4cfef) (maxL := 6) (ret := (some .int)) (by decide) rfl ?_
  intro p e s m args below meth c s₁ B hml hv
  obtain ⟨rfl, hsz, hP, hK, hD0, hN, hT⟩ := hv
  have hx := B.exec
  have hb := B.bytes
  have hr := B.returns
  have hts := atoms_spec (ws := Cond.code yJ1_indexOfChar_4cfef cJ1_indexOfChar_4cfef 6 (some .int) :: zw) B.pre
  have hA : ∀ w ∈ zw, w.before _ s = true := fun w h => hts w (List.mem_cons_of_mem _ h)
  have hown : s.vm.findClass RJ1 = some m.cls := findClass_of_methodNamed B.named
  have hlocks := B.notSynchronized
  subst hsz
  have hD := hD0.self (sz := s.heap.size)
  generalize hAe : va_A [] s.heap.size = A at hD hT ⊢
  have hAA : ∀ q : Nat, s.heap.size ≤ q → A q := fun q h => by rw [← hAe]; exact Or.inr h
  have hS : va_S A s.heap s.heap [] := va_S.rf
  have hl := lv_entry ([.ref (aV i), .int ch, .int fr, .int to]) (n := 6) (Nat.le_of_ble_eq_true rfl)
  rw [lg_entry_eq]
  generalize (lg_sl ([.ref (aV i), .int ch, .int fr, .int to]) ++ List.replicate (6 - (lg_sl ([.ref (aV i), .int ch, .int fr, .int to])).length) Slot.unset).toArray = ls at hl ⊢
  have hl : lv_has ls 6 [(0, .ref (aV i)), (1, .int ch), (2, .int fr), (3, .int to)] := hl
  refine lv_iload_n hx hb dJ1_indexOfChar_4cfef_0 rfl (lv_at hl 1 rfl) ?_
  obtain ⟨x_1, ex_1⟩ : ∃ z : Int32, z = (Int32.toInt8 ch).toInt32 := ⟨_, rfl⟩
  refine lv_i2b (v := x_1) hx hb dJ1_indexOfChar_4cfef_1 ex_1.symm ?_
  refine lv_istore (lv' := [(4, .int x_1), (0, .ref (aV i)), (1, .int ch), (2, .int fr), (3, .int to)]) hx hb dJ1_indexOfChar_4cfef_2 hl (by decide) rfl (fun ls hl => ?_)
  refine lv_iload_n hx hb dJ1_indexOfChar_4cfef_4 rfl (lv_at hl 3 rfl) ?_
  refine lv_istore (lv' := [(5, .int fr), (4, .int x_1), (0, .ref (aV i)), (1, .int ch), (2, .int fr), (3, .int to)]) hx hb dJ1_indexOfChar_4cfef_5 hl (by decide) rfl (fun ls hl => ?_)
  have loop_7 : ∀ (n9 : Nat) (j : Int32) (H : Heap) (locs : List Loc) (ls : Array Slot), (to.toInt - j.toInt + 1).toNat ≤ n9 → 0 ≤ j.toInt → j.toInt ≤ to.toInt → (∀ k : Nat, (k : Int) < Int32.toInt j → (zSb.getD i []).getD k 0 ≠ (Int32.toInt8 ch).toInt32) → va_P (dC, dI) vwCl [] H → va_D A [] → va_S A s.heap H locs → lv_has ls 6 [(5, .int j), (4, .int x_1), (0, .ref (aV i)), (1, .int ch), (2, .int fr), (3, .int to)] → W p l e (headSpec (Cond.code yJ1_indexOfChar_4cfef cJ1_indexOfChar_4cfef 6 (some .int) :: zw) ({ frames := 8, cells := 0, slots := 0, locals := 200 })).room s m #[.ref (aV i), .int ch, .int fr, .int to] below meth c H locs 0 0 (MQ below (va_Qi (fun (r : Int32) (u : Unit) => (-1 ≤ r.toInt) ∧ (lx_ix i (Int32.toInt8 ch).toInt32 r)) (fun u => zQ dC dI A [] []) A) #[.ref (aV i), .int ch, .int fr, .int to] s 0 0 A) (F0 m 7 ls []) := by
    intro n9
    induction n9 with
    | zero => intro j H locs ls hm hj0 hj1 hno; exfalso; omega
    | succ n9 ih =>
      intro j H locs ls hm hj0 hj1 hno hP hD hS hl
      refine lv_iload hx hb dJ1_indexOfChar_4cfef_7 (lv_at hl 0 rfl) ?_
      refine lv_iload_n hx hb dJ1_indexOfChar_4cfef_9 rfl (lv_at hl 5 rfl) ?_
      refine lv_icmp_ge (tgt := 31) hx hb dJ1_indexOfChar_4cfef_10 (by decide) (fun c_2 => ?_) (fun c_2 => ?_)
      · have ic_2 : to.toInt ≤ j.toInt := zi_le c_2
        refine lv_iconst (v := (-1)) hx hb dJ1_indexOfChar_4cfef_31 (by decide) ?_
        have hlit : Int32.toInt (-1) = (-1) := by decide
        have hP9 := hP.sub (ws' := []) [] rfl
        have hD9 := hD.sub (ws' := []) [] (by decide) rfl
        have hK9 := hK.sub (tys' := []) [] rfl
        exact W.iret (v := (-1)) hx hb hr (fun t ht hW => ⟨⟨(-1), (), rfl, ⟨by omega, lx_ix_n (by decide) (to := to.toInt) (by omega) (fun k hk => hno k (by omega))⟩, by rw [ht]; exact hP9, va_K.moved hW.alike hK9, hD9⟩, hS.F ht⟩) hS.2.2 dJ1_indexOfChar_4cfef_32
      · have ic_2 : j.toInt < to.toInt := zi_nle c_2
        refine lv_aload_n hx hb dJ1_indexOfChar_4cfef_13 rfl (lv_at hl 2 rfl) ?_
        refine lv_iload hx hb dJ1_indexOfChar_4cfef_14 (lv_at hl 0 rfl) ?_
        refine va_tb (v := .int ((zSb.getD i []).getD (Int32.toNatClampNeg j) 0)) hx hb (hT.2.2.2.1.1 i hi).2.2.2 hS (vp_in_iff.mpr ⟨by omega, by omega⟩) rfl dJ1_indexOfChar_4cfef_16 ?_
        refine lv_topi (fun x_3 ex_3 => ?_)
        refine lv_iload hx hb dJ1_indexOfChar_4cfef_17 (lv_at hl 1 rfl) ?_
        refine lv_icmp_ne (tgt := 25) hx hb dJ1_indexOfChar_4cfef_19 (by decide) (fun c_4 => ?_) (fun c_4 => ?_)
        · have ic_4 : x_3.toInt ≠ x_1.toInt := zi_ne c_4
          obtain ⟨x_5, ex_5⟩ : ∃ y : Int32, y = j + Int32.ofInt 1 := ⟨_, rfl⟩
          refine lv_iinc (v := x_5) (lv' := [(5, .int x_5), (4, .int x_1), (0, .ref (aV i)), (1, .int ch), (2, .int fr), (3, .int to)]) hx hb dJ1_indexOfChar_4cfef_25 hl (k := 0) rfl (by rw [ex_5]) (by decide) rfl (fun ls hl => ?_)
          have ix_5 : x_5.toInt = j.toInt + 1 := by rw [ex_5]; exact zi_addc (by decide) (by omega) (by omega)
          refine lv_goto (tgt := 7) hx hb dJ1_indexOfChar_4cfef_28 (by decide) ?_
          have hno_6 : ∀ k : Nat, (k : Int) < Int32.toInt x_5 → (zSb.getD i []).getD k 0 ≠ (Int32.toInt8 ch).toInt32 := lx_no1 hno (by omega) (by omega) (fun e9 => absurd (show x_3.toInt = x_1.toInt by rw [ex_3, e9, ex_1]) (by omega))
          exact ih x_5 _ _ _ (by omega) (by omega) (by omega) hno_6 (hP.sub [] rfl) (hD.sub [] (by decide) rfl) hS (lv_sub hl [0, 1, 2, 3, 4, 5] rfl)
        · have ic_4 : x_3.toInt = x_1.toInt := zi_eq c_4
          refine lv_iload hx hb dJ1_indexOfChar_4cfef_22 (lv_at hl 0 rfl) ?_
          have hP9 := hP.sub (ws' := []) [] rfl
          have hD9 := hD.sub (ws' := []) [] (by decide) rfl
          have hK9 := hK.sub (tys' := []) [] rfl
          exact W.iret (v := j) hx hb hr (fun t ht hW => ⟨⟨j, (), rfl, ⟨by omega, lx_ix_y (by omega) (by omega) (by rw [← ex_3]; exact (Int32.toInt_inj.mp (by omega)).trans ex_1)⟩, by rw [ht]; exact hP9, va_K.moved hW.alike hK9, hD9⟩, hS.F ht⟩) hS.2.2 dJ1_indexOfChar_4cfef_24
  have hno_7 : ∀ k : Nat, (k : Int) < Int32.toInt fr → (zSb.getD i []).getD k 0 ≠ (Int32.toInt8 ch).toInt32 := fun k hk => by exfalso; omega
  exact loop_7 _ fr _ _ _ (Nat.le_refl _) (by omega) (by omega) hno_7 (hP.sub [] rfl) (hD.sub [] (by decide) rfl) hS (lv_sub hl [0, 1, 2, 3, 4, 5] rfl)
set_option maxHeartbeats 4000000 in
set_option maxRecDepth 100000 in
theorem c_J1_canEncode_s (l : Launch) (dC : Nat → ClassId) (dI : Nat → Nat → Nat) (aK aV : Nat → Nat) (ch : Int32) (sz : Nat) (hc0 : 0 ≤ ch.toInt) (hc1 : ch.toInt < 256) : Met l yJ1_canEncode_9a6ad (Cond.code yJ1_canEncode_9a6ad cJ1_canEncode_9a6ad 1 (some .boolean) :: zw) ({ frames := 8, cells := 0, slots := 0, locals := 200 }) (va_Pc [.int ch] (zP dC dI aK aV sz [] [])) (va_Qi (fun (r : Int32) (u : Unit) => (r.toInt = 1)) (fun u => zQ dC dI (va_A [] sz) [] []) (va_A [] sz)) 0 0 (va_A [] sz) := by
  refine Met.ofW (cc := cJ1_canEncode_9a6ad) (maxL := 1) (ret := (some .boolean)) (by decide) rfl ?_
  intro p e s m args below meth c s₁ B hml hv
  obtain ⟨rfl, hsz, hP, hK, hD0, hN, hT⟩ := hv
  have hx := B.exec
  have hb := B.bytes
  have hr := B.returns
  have hts := atoms_spec (ws := Cond.code yJ1_canEncode_9a6ad cJ1_canEncode_9a6ad 1 (some .boolean) :: zw) B.pre
  have hA : ∀ w ∈ zw, w.before _ s = true := fun w h => hts w (List.mem_cons_of_mem _ h)
  have hown : s.vm.findClass RJ1 = some m.cls := findClass_of_methodNamed B.named
  have hlocks := B.notSynchronized
  subst hsz
  have hD := hD0.self (sz := s.heap.size)
  generalize hAe : va_A [] s.heap.size = A at hD hT ⊢
  have hAA : ∀ q : Nat, s.heap.size ≤ q → A q := fun q h => by rw [← hAe]; exact Or.inr h
  have hS : va_S A s.heap s.heap [] := va_S.rf
  have hl := lv_entry ([.int ch]) (n := 1) (Nat.le_of_ble_eq_true rfl)
  rw [lg_entry_eq]
  generalize (lg_sl ([.int ch]) ++ List.replicate (1 - (lg_sl ([.int ch])).length) Slot.unset).toArray = ls at hl ⊢
  have hl : lv_has ls 1 [(0, .int ch)] := hl
  refine lv_iload_n hx hb dJ1_canEncode_9a6ad_0 rfl (lv_at hl 0 rfl) ?_
  refine lv_if_lt (tgt := 15) hx hb dJ1_canEncode_9a6ad_1 (by decide) (fun c_1 => ?_) (fun c_1 => ?_)
  · have ic_1 : ch.toInt < 0 := zi_lt c_1
    exfalso
    omega
  · have ic_1 : 0 ≤ ch.toInt := zi_nlt c_1
    refine lv_iload_n hx hb dJ1_canEncode_9a6ad_4 rfl (lv_at hl 0 rfl) ?_
    refine lv_sipush (v := 255) hx hb dJ1_canEncode_9a6ad_5 (by decide) ?_
    refine lv_icmp_gt (tgt := 15) hx hb dJ1_canEncode_9a6ad_8 (by decide) (fun c_2 => ?_) (fun c_2 => ?_)
    · have ic_2 : 255 < ch.toInt := zi_lt c_2
      exfalso
      omega
    · have ic_2 : ch.toInt ≤ 255 := zi_nlt c_2
      refine lv_iconst (v := 1) hx hb dJ1_canEncode_9a6ad_11 (by decide) ?_
      refine lv_goto (tgt := 16) hx hb dJ1_canEncode_9a6ad_12 (by decide) ?_
      have hlit : Int32.toInt 1 = 1 := by decide
      have hP9 := hP.sub (ws' := []) [] rfl
      have hD9 := hD.sub (ws' := []) [] (by decide) rfl
      have hK9 := hK.sub (tys' := []) [] rfl
      exact W.zret (v := 1) hx hb hr rfl (fun t ht hW => ⟨⟨1, (), rfl, by omega, by rw [ht]; exact hP9, va_K.moved hW.alike hK9, hD9⟩, hS.F ht⟩) hS.2.2 dJ1_canEncode_9a6ad_16
set_option maxHeartbeats 4000000 in
set_option maxRecDepth 100000 in
theorem c_J1_indexOf_s (l : Launch) (dC : Nat → ClassId) (dI : Nat → Nat → Nat) (aK aV : Nat → Nat) (i : Nat) (ch : Int32) (to : Int32) (sz : Nat) (hi : i < 8) (hc0 : 0 ≤ ch.toInt) (hc1 : ch.toInt < 256) (hto : to.toInt = ((zSl.getD i 0 : Nat) : Int)) (hsl : 0 < zSl.getD i 0) : Met l yJ1_indexOf_4cfef (Cond.code yJ1_indexOf_4cfef cJ1_indexOf_4cfef 4 (some .int) :: zw) ({ frames := 10, cells := 0, slots := 0, locals := 300 }) (va_Pc [.ref (aV i), .int ch, .int 0, .int to] (zP dC dI aK aV sz [] [])) (va_Qi (fun (r : Int32) (u : Unit) => (-1 ≤ r.toInt) ∧ (lx_ix i (Int32.toInt8 ch).toInt32 r)) (fun u => zQ dC dI (va_A [] sz) [] []) (va_A [] sz)) 0 0 (va_A [] sz) := by
  refine Met.ofW (cc := cJ1_indexOf_4cfef) (maxL := 4) (ret := (some .int)) (by decide) rfl ?_
  intro p e s m args below meth c s₁ B hml hv
  obtain ⟨rfl, hsz, hP, hK, hD0, hN, hT⟩ := hv
  have hx := B.exec
  have hb := B.bytes
  have hr := B.returns
  have hts := atoms_spec (ws := Cond.code yJ1_indexOf_4cfef cJ1_indexOf_4cfef 4 (some .int) :: zw) B.pre
  have hA : ∀ w ∈ zw, w.before _ s = true := fun w h => hts w (List.mem_cons_of_mem _ h)
  have hown : s.vm.findClass RJ1 = some m.cls := findClass_of_methodNamed B.named
  have hlocks := B.notSynchronized
  subst hsz
  have hD := hD0.self (sz := s.heap.size)
  generalize hAe : va_A [] s.heap.size = A at hD hT ⊢
  have hAA : ∀ q : Nat, s.heap.size ≤ q → A q := fun q h => by rw [← hAe]; exact Or.inr h
  have hS : va_S A s.heap s.heap [] := va_S.rf
  have hl := lv_entry ([.ref (aV i), .int ch, .int 0, .int to]) (n := 4) (Nat.le_of_ble_eq_true rfl)
  rw [lg_entry_eq]
  generalize (lg_sl ([.ref (aV i), .int ch, .int 0, .int to]) ++ List.replicate (4 - (lg_sl ([.ref (aV i), .int ch, .int 0, .int to])).length) Slot.unset).toArray = ls at hl ⊢
  have hl : lv_has ls 4 [(0, .ref (aV i)), (1, .int ch), (2, .int 0), (3, .int to)] := hl
  refine lv_iload_n hx hb dJ1_indexOf_4cfef_0 rfl (lv_at hl 1 rfl) ?_
  have hPc := hP.sub (ws' := []) [] rfl
  have hDc := hD.sub (ws' := []) [] (by decide) rfl
  have hKc := hK.sub (tys' := []) [] rfl
  have hFc := va_free (wc := []) hD hS hAA [] rfl
  refine va_calli (va_runS (As := [.int ch]) (rest := []) ⟨hx, hb, hml, hown, hA⟩ (c_J1_canEncode_s l dC dI aK aV ch s.heap.size (by omega) (by omega)) (va_cwS 1 hA (zw_S wi_717 wi_718 wi_150 (zw_good wi_719)) rfl rfl rfl (by decide +kernel) ⟨(Nat.le_of_ble_eq_true rfl), (Nat.le_of_ble_eq_true rfl)⟩) ⟨zP_blind, zz_pre hKc hPc hDc hN hT hS hFc⟩ rfl rfl hl.1 rfl (lv_room (Nat.le_of_ble_eq_true rfl)) dJ1_indexOf_4cfef_1 ⟨(Nat.le_of_ble_eq_true rfl), (Nat.le_of_ble_eq_true rfl)⟩) hS (fun q _ h => hFc q h) hFc (fun r_1 u t H1 locs ht hvm hw hB hz1 hk1 hS => ?_)
  obtain ⟨hP1, hK1, hD1⟩ := hB
  rw [ht] at hP1
  have hK1 := va_K.moved hvm.symm hK1
  obtain ⟨hP, hD⟩ := va_join (wr := []) (w1 := []) hP hD [] [] rfl rfl (by decide) (by decide) hk1 hFc hP1 hD1
  have hK := (hK.sub (tys' := []) [] rfl).app hK1
  generalize H1 = H at hP hS ⊢
  have hP : va_P (dC, dI) vwCl [] H := hP
  have hD : va_D A [] := hD
  have hK : va_K (dC, dI) vwCl [] s := hK
  have hw_r_1 := hw
  try dsimp only at hw_r_1
  have hq_2 := hw
  refine lv_if_ne (tgt := 9) hx hb dJ1_indexOf_4cfef_4 (by decide) (fun c_3 => ?_) (fun c_3 => ?_)
  · have ic_3 : r_1.toInt ≠ 0 := zi_ne c_3
    refine lv_iload_n hx hb dJ1_indexOf_4cfef_9 rfl (lv_at hl 2 rfl) ?_
    refine lv_iconst (v := 0) hx hb dJ1_indexOf_4cfef_10 (by decide) ?_
    refine va_mmax hx hb (by rw [hml]; exact hl.1.symm) hown (hA _ wi_720) (hA _ wi_431) (hA _ wi_141) (hA _ wi_432) (Nat.le_of_ble_eq_true rfl) (Nat.le_of_ble_eq_true rfl) (Nat.le_of_ble_eq_true rfl) (Nat.le_of_ble_eq_true rfl) dJ1_indexOf_4cfef_11 ?_
    refine lv_topi (fun x_4 ex_4 => ?_)
    obtain rfl : x_4 = 0 := ex_4.trans (by decide)
    refine lv_istore_n (lv' := [(2, .int 0), (0, .ref (aV i)), (1, .int ch), (3, .int to)]) hx hb dJ1_indexOf_4cfef_14 rfl hl (by decide) rfl (fun ls hl => ?_)
    refine lv_iload_n hx hb dJ1_indexOf_4cfef_15 rfl (lv_at hl 3 rfl) ?_
    refine lv_aload_n hx hb dJ1_indexOf_4cfef_16 rfl (lv_at hl 1 rfl) ?_
    refine va_tlen hx hb (hT.2.2.2.1.1 i hi).2.2.2 hS rfl dJ1_indexOf_4cfef_17 ?_
    refine lv_topi (fun x_5 ex_5 => ?_)
    have ix_5 : x_5.toInt = ((zSl.getD i 0 : Nat) : Int) ∧ zSl.getD i 0 ≤ 13 := ⟨by rw [ex_5]; exact nI_toInt (by have := zSl_le i; omega), zSl_le i⟩
    refine va_mmin hx hb (by rw [hml]; exact hl.1.symm) hown (hA _ wi_721) (hA _ wi_658) (hA _ wi_141) (hA _ wi_659) (Nat.le_of_ble_eq_true rfl) (Nat.le_of_ble_eq_true rfl) (Nat.le_of_ble_eq_true rfl) (Nat.le_of_ble_eq_true rfl) dJ1_indexOf_4cfef_18 ?_
    refine lv_topi (fun x_6 ex_6 => ?_)
    have ix_6 : x_6.toInt ≤ to.toInt ∧ x_6.toInt ≤ x_5.toInt ∧ (x_6.toInt = to.toInt ∨ x_6.toInt = x_5.toInt) := zi_min ex_6 rfl rfl
    refine lv_istore_n (lv' := [(3, .int x_6), (2, .int 0), (0, .ref (aV i)), (1, .int ch)]) hx hb dJ1_indexOf_4cfef_21 rfl hl (by decide) rfl (fun ls hl => ?_)
    refine lv_iload_n hx hb dJ1_indexOf_4cfef_22 rfl (lv_at hl 1 rfl) ?_
    refine lv_iload_n hx hb dJ1_indexOf_4cfef_23 rfl (lv_at hl 0 rfl) ?_
    refine lv_icmp_lt (tgt := 29) hx hb dJ1_indexOf_4cfef_24 (by decide) (fun c_7 => ?_) (fun c_7 => ?_)
    · have ic_7 : 0 < x_6.toInt := zi_lt c_7
      refine lv_aload_n hx hb dJ1_indexOf_4cfef_29 rfl (lv_at hl 2 rfl) ?_
      refine lv_iload_n hx hb dJ1_indexOf_4cfef_30 rfl (lv_at hl 3 rfl) ?_
      refine lv_iload_n hx hb dJ1_indexOf_4cfef_31 rfl (lv_at hl 1 rfl) ?_
      refine lv_iload_n hx hb dJ1_indexOf_4cfef_32 rfl (lv_at hl 0 rfl) ?_
      have hPc := hP.sub (ws' := []) [] rfl
      have hDc := hD.sub (ws' := []) [] (by decide) rfl
      have hKc := hK.sub (tys' := []) [] rfl
      have hFc := va_free (wc := []) hD hS hAA [] rfl
      refine va_calli (va_runS (As := [.ref (aV i), .int ch, .int 0, .int x_6]) (rest := []) ⟨hx, hb, hml, hown, hA⟩ (c_J1_indexOfChar_s l dC dI aK aV i ch 0 x_6 H.size (by omega) (by have h9_0 : Int32.toInt 0 = 0 := (by decide); omega) (by omega) (by have h9_0 : Int32.toInt 0 = 0 := (by decide); omega) (by omega)) (va_cwS 4 hA (zw_S wi_722 wi_723 wi_150 (zw_good wi_724)) rfl rfl rfl (by decide +kernel) ⟨(Nat.le_of_ble_eq_true rfl), (Nat.le_of_ble_eq_true rfl)⟩) ⟨zP_blind, zz_pre hKc hPc hDc hN hT hS hFc⟩ rfl rfl hl.1 rfl (lv_room (Nat.le_of_ble_eq_true rfl)) dJ1_indexOf_4cfef_33 ⟨(Nat.le_of_ble_eq_true rfl), (Nat.le_of_ble_eq_true rfl)⟩) hS (fun q _ h => hFc q h) hFc (fun r_8 u t H1 locs ht hvm hw hB hz1 hk1 hS => ?_)
      obtain ⟨hP1, hK1, hD1⟩ := hB
      rw [ht] at hP1
      have hK1 := va_K.moved hvm.symm hK1
      obtain ⟨hP, hD⟩ := va_join (wr := []) (w1 := []) hP hD [] [] rfl rfl (by decide) (by decide) hk1 hFc hP1 hD1
      have hK := (hK.sub (tys' := []) [] rfl).app hK1
      generalize H1 = H at hP hS ⊢
      have hP : va_P (dC, dI) vwCl [] H := hP
      have hD : va_D A [] := hD
      have hK : va_K (dC, dI) vwCl [] s := hK
      have hw_r_8 := hw
      try dsimp only at hw_r_8
      obtain ⟨hq_9, hq_10⟩ := hw
      have hP9 := hP.sub (ws' := []) [] rfl
      have hD9 := hD.sub (ws' := []) [] (by decide) rfl
      have hK9 := hK.sub (tys' := []) [] rfl
      exact W.iret (v := r_8) hx hb hr (fun t ht hW => ⟨⟨r_8, (), rfl, ⟨by omega, hq_10⟩, by rw [ht]; exact hP9, va_K.moved hW.alike hK9, hD9⟩, hS.F ht⟩) hS.2.2 dJ1_indexOf_4cfef_36
    · have ic_7 : x_6.toInt ≤ 0 := zi_nlt c_7
      exfalso
      omega
  · have ic_3 : r_1.toInt = 0 := zi_eq c_3
    exfalso
    omega
set_option maxHeartbeats 4000000 in
set_option maxRecDepth 100000 in
theorem c_J0_indexOf3_s (l : Launch) (dC : Nat → ClassId) (dI : Nat → Nat → Nat) (aK aV : Nat → Nat) (i : Nat) (ch : Int32) (sz : Nat) (hi : i < 8) (hc0 : 0 ≤ ch.toInt) (hc1 : ch.toInt < 256) (hsl : 0 < zSl.getD i 0) : Met l yJ0_indexOf_7cf53 (Cond.code yJ0_indexOf_7cf53 cJ0_indexOf_7cf53 3 (some .int) :: zw) ({ frames := 12, cells := 0, slots := 0, locals := 400 }) (va_Pc [.ref (aK i), .int ch, .int 0] (zP dC dI aK aV sz [] [])) (va_Qi (fun (r : Int32) (u : Unit) => (-1 ≤ r.toInt) ∧ (lx_ix i (Int32.toInt8 ch).toInt32 r)) (fun u => zQ dC dI (va_A [] sz) [] []) (va_A [] sz)) 0 0 (va_A [] sz) := by
  refine Met.ofW (cc := cJ0_indexOf_7cf53) (maxL := 3) (ret := (some .int)) (by decide) rfl ?_
  intro p e s m args below meth c s₁ B hml hv
  obtain ⟨rfl, hsz, hP, hK, hD0, hN, hT⟩ := hv
  have hx := B.exec
  have hb := B.bytes
  have hr := B.returns
  have hts := atoms_spec (ws := Cond.code yJ0_indexOf_7cf53 cJ0_indexOf_7cf53 3 (some .int) :: zw) B.pre
  have hA : ∀ w ∈ zw, w.before _ s = true := fun w h => hts w (List.mem_cons_of_mem _ h)
  have hown : s.vm.findClass RJ0 = some m.cls := findClass_of_methodNamed B.named
  have hlocks := B.notSynchronized
  subst hsz
  have hD := hD0.self (sz := s.heap.size)
  generalize hAe : va_A [] s.heap.size = A at hD hT ⊢
  have hAA : ∀ q : Nat, s.heap.size ≤ q → A q := fun q h => by rw [← hAe]; exact Or.inr h
  have hS : va_S A s.heap s.heap [] := va_S.rf
  have hl := lv_entry ([.ref (aK i), .int ch, .int 0]) (n := 3) (Nat.le_of_ble_eq_true rfl)
  rw [lg_entry_eq]
  generalize (lg_sl ([.ref (aK i), .int ch, .int 0]) ++ List.replicate (3 - (lg_sl ([.ref (aK i), .int ch, .int 0])).length) Slot.unset).toArray = ls at hl ⊢
  have hl : lv_has ls 3 [(0, .ref (aK i)), (1, .int ch), (2, .int 0)] := hl
  refine lv_aload_n hx hb dJ0_indexOf_7cf53_0 rfl (lv_at hl 0 rfl) ?_
  have hPc := hP.sub (ws' := []) [] rfl
  have hDc := hD.sub (ws' := []) [] (by decide) rfl
  have hKc := hK.sub (tys' := []) [] rfl
  have hFc := va_free (wc := []) hD hS hAA [] rfl
  refine va_calli (va_runV (As := []) (rest := []) ⟨hx, hb, hml, hown, hA⟩ (c_J0_isLatin1_aae02 l dC dI aK aV i s.heap.size (by omega)) (cwV 0 hA (zw_V wi_700 wi_701 wi_702 wi_149 (zw_good wi_703)) rfl rfl rfl (by decide +kernel) ⟨(Nat.le_of_ble_eq_true rfl), (Nat.le_of_ble_eq_true rfl)⟩) ⟨zP_blind, vk_recv hT.2.2.2.1 hi hS, zz_pre hKc hPc hDc hN hT hS hFc⟩ rfl rfl hl.1 rfl (lv_room (Nat.le_of_ble_eq_true rfl)) dJ0_indexOf_7cf53_1 ⟨(Nat.le_of_ble_eq_true rfl), (Nat.le_of_ble_eq_true rfl)⟩) hS (fun q _ h => hFc q h) hFc (fun r_1 u t H1 locs ht hvm hw hB hz1 hk1 hS => ?_)
  obtain ⟨hP1, hK1, hD1⟩ := hB
  rw [ht] at hP1
  have hK1 := va_K.moved hvm.symm hK1
  obtain ⟨hP, hD⟩ := va_join (wr := []) (w1 := []) hP hD [] [] rfl rfl (by decide) (by decide) hk1 hFc hP1 hD1
  have hK := (hK.sub (tys' := []) [] rfl).app hK1
  generalize H1 = H at hP hS ⊢
  have hP : va_P (dC, dI) vwCl [] H := hP
  have hD : va_D A [] := hD
  have hK : va_K (dC, dI) vwCl [] s := hK
  obtain rfl : r_1 = 1 := hw
  refine lv_if_eq (tgt := 23) hx hb dJ0_indexOf_7cf53_4 (by decide) (fun c_0 => absurd c_0 (by decide)) (fun _ => ?_)
  refine lv_aload_n hx hb dJ0_indexOf_7cf53_7 rfl (lv_at hl 0 rfl) ?_
  refine vk_getf (v := .ref (aV i)) hx hb (hT.2.2.2.1.1 i hi).2.2.1 hS hown (hA _ wi_2046) (fun _ h9 => h9) dJ0_indexOf_7cf53_8 ?_
  refine lv_iload_n hx hb dJ0_indexOf_7cf53_11 rfl (lv_at hl 1 rfl) ?_
  refine lv_iload_n hx hb dJ0_indexOf_7cf53_12 rfl (lv_at hl 2 rfl) ?_
  refine lv_aload_n hx hb dJ0_indexOf_7cf53_13 rfl (lv_at hl 0 rfl) ?_
  have hPc := hP.sub (ws' := []) [] rfl
  have hDc := hD.sub (ws' := []) [] (by decide) rfl
  have hKc := hK.sub (tys' := []) [] rfl
  have hFc := va_free (wc := []) hD hS hAA [] rfl
  refine va_calli (va_runV (As := []) (rest := [.int 0, .int ch, .ref (aV i)]) ⟨hx, hb, hml, hown, hA⟩ (c_J0_length_8abf5 l dC dI aK aV i H.size (by omega)) (cwV 0 hA (zw_V wi_706 wi_707 wi_708 wi_149 (zw_good wi_709)) rfl rfl rfl (by decide +kernel) ⟨(Nat.le_of_ble_eq_true rfl), (Nat.le_of_ble_eq_true rfl)⟩) ⟨zP_blind, vk_recv hT.2.2.2.1 hi hS, zz_pre hKc hPc hDc hN hT hS hFc⟩ rfl rfl hl.1 rfl (lv_room (Nat.le_of_ble_eq_true rfl)) dJ0_indexOf_7cf53_14 ⟨(Nat.le_of_ble_eq_true rfl), (Nat.le_of_ble_eq_true rfl)⟩) hS (fun q _ h => hFc q h) hFc (fun r_2 u t H1 locs ht hvm hw hB hz1 hk1 hS => ?_)
  obtain ⟨hP1, hK1, hD1⟩ := hB
  rw [ht] at hP1
  have hK1 := va_K.moved hvm.symm hK1
  obtain ⟨hP, hD⟩ := va_join (wr := []) (w1 := []) hP hD [] [] rfl rfl (by decide) (by decide) hk1 hFc hP1 hD1
  have hK := (hK.sub (tys' := []) [] rfl).app hK1
  generalize H1 = H at hP hS ⊢
  have hP : va_P (dC, dI) vwCl [] H := hP
  have hD : va_D A [] := hD
  have hK : va_K (dC, dI) vwCl [] s := hK
  have hw_r_2 := hw
  try dsimp only at hw_r_2
  have hq_3 := hw
  have hPc := hP.sub (ws' := []) [] rfl
  have hDc := hD.sub (ws' := []) [] (by decide) rfl
  have hKc := hK.sub (tys' := []) [] rfl
  have hFc := va_free (wc := []) hD hS hAA [] rfl
  refine va_calli (va_runS (As := [.ref (aV i), .int ch, .int 0, .int r_2]) (rest := []) ⟨hx, hb, hml, hown, hA⟩ (c_J1_indexOf_s l dC dI aK aV i ch r_2 H.size (by omega) (by omega) (by omega) (by omega) (by omega)) (va_cwS 4 hA (zw_S wi_714 wi_715 wi_150 (zw_good wi_716)) rfl rfl rfl (by decide +kernel) ⟨(Nat.le_of_ble_eq_true rfl), (Nat.le_of_ble_eq_true rfl)⟩) ⟨zP_blind, zz_pre hKc hPc hDc hN hT hS hFc⟩ rfl rfl hl.1 rfl (lv_room (Nat.le_of_ble_eq_true rfl)) dJ0_indexOf_7cf53_17 ⟨(Nat.le_of_ble_eq_true rfl), (Nat.le_of_ble_eq_true rfl)⟩) hS (fun q _ h => hFc q h) hFc (fun r_4 u t H1 locs ht hvm hw hB hz1 hk1 hS => ?_)
  obtain ⟨hP1, hK1, hD1⟩ := hB
  rw [ht] at hP1
  have hK1 := va_K.moved hvm.symm hK1
  obtain ⟨hP, hD⟩ := va_join (wr := []) (w1 := []) hP hD [] [] rfl rfl (by decide) (by decide) hk1 hFc hP1 hD1
  have hK := (hK.sub (tys' := []) [] rfl).app hK1
  generalize H1 = H at hP hS ⊢
  have hP : va_P (dC, dI) vwCl [] H := hP
  have hD : va_D A [] := hD
  have hK : va_K (dC, dI) vwCl [] s := hK
  have hw_r_4 := hw
  try dsimp only at hw_r_4
  obtain ⟨hq_5, hq_6⟩ := hw
  refine lv_goto (tgt := 36) hx hb dJ0_indexOf_7cf53_20 (by decide) ?_
  have hP9 := hP.sub (ws' := []) [] rfl
  have hD9 := hD.sub (ws' := []) [] (by decide) rfl
  have hK9 := hK.sub (tys' := []) [] rfl
  exact W.iret (v := r_4) hx hb hr (fun t ht hW => ⟨⟨r_4, (), rfl, ⟨by omega, hq_6⟩, by rw [ht]; exact hP9, va_K.moved hW.alike hK9, hD9⟩, hS.F ht⟩) hS.2.2 dJ0_indexOf_7cf53_36
set_option maxHeartbeats 4000000 in
set_option maxRecDepth 100000 in
theorem c_J0_indexOf1_s (l : Launch) (dC : Nat → ClassId) (dI : Nat → Nat → Nat) (aK aV : Nat → Nat) (i : Nat) (ch : Int32) (sz : Nat) (hi : i < 8) (hc0 : 0 ≤ ch.toInt) (hc1 : ch.toInt < 256) (hsl : 0 < zSl.getD i 0) : Met l yJ0_indexOf_0f7a4 (Cond.code yJ0_indexOf_0f7a4 cJ0_indexOf_0f7a4 2 (some .int) :: zw) ({ frames := 14, cells := 0, slots := 0, locals := 500 }) (va_Pc [.ref (aK i), .int ch] (zP dC dI aK aV sz [] [])) (va_Qi (fun (r : Int32) (u : Unit) => (-1 ≤ r.toInt) ∧ (lx_ix i (Int32.toInt8 ch).toInt32 r)) (fun u => zQ dC dI (va_A [] sz) [] []) (va_A [] sz)) 0 0 (va_A [] sz) := by
  refine Met.ofW (cc := cJ0_indexOf_0f7a4) (maxL := 2) (ret := (some .int)) (by decide) rfl ?_
  intro p e s m args below meth c s₁ B hml hv
  obtain ⟨rfl, hsz, hP, hK, hD0, hN, hT⟩ := hv
  have hx := B.exec
  have hb := B.bytes
  have hr := B.returns
  have hts := atoms_spec (ws := Cond.code yJ0_indexOf_0f7a4 cJ0_indexOf_0f7a4 2 (some .int) :: zw) B.pre
  have hA : ∀ w ∈ zw, w.before _ s = true := fun w h => hts w (List.mem_cons_of_mem _ h)
  have hown : s.vm.findClass RJ0 = some m.cls := findClass_of_methodNamed B.named
  have hlocks := B.notSynchronized
  subst hsz
  have hD := hD0.self (sz := s.heap.size)
  generalize hAe : va_A [] s.heap.size = A at hD hT ⊢
  have hAA : ∀ q : Nat, s.heap.size ≤ q → A q := fun q h => by rw [← hAe]; exact Or.inr h
  have hS : va_S A s.heap s.heap [] := va_S.rf
  have hl := lv_entry ([.ref (aK i), .int ch]) (n := 2) (Nat.le_of_ble_eq_true rfl)
  rw [lg_entry_eq]
  generalize (lg_sl ([.ref (aK i), .int ch]) ++ List.replicate (2 - (lg_sl ([.ref (aK i), .int ch])).length) Slot.unset).toArray = ls at hl ⊢
  have hl : lv_has ls 2 [(0, .ref (aK i)), (1, .int ch)] := hl
  refine lv_aload_n hx hb dJ0_indexOf_0f7a4_0 rfl (lv_at hl 0 rfl) ?_
  refine lv_iload_n hx hb dJ0_indexOf_0f7a4_1 rfl (lv_at hl 1 rfl) ?_
  refine lv_iconst (v := 0) hx hb dJ0_indexOf_0f7a4_2 (by decide) ?_
  have hPc := hP.sub (ws' := []) [] rfl
  have hDc := hD.sub (ws' := []) [] (by decide) rfl
  have hKc := hK.sub (tys' := []) [] rfl
  have hFc := va_free (wc := []) hD hS hAA [] rfl
  refine va_calli (va_runV (As := [.int ch, .int 0]) (rest := []) ⟨hx, hb, hml, hown, hA⟩ (c_J0_indexOf3_s l dC dI aK aV i ch s.heap.size (by omega) (by omega) (by omega) (by omega)) (cwV 2 hA (zw_V wi_696 wi_697 wi_698 wi_149 (zw_good wi_699)) rfl rfl rfl (by decide +kernel) ⟨(Nat.le_of_ble_eq_true rfl), (Nat.le_of_ble_eq_true rfl)⟩) ⟨zP_blind, vk_recv hT.2.2.2.1 hi hS, zz_pre hKc hPc hDc hN hT hS hFc⟩ rfl rfl hl.1 rfl (lv_room (Nat.le_of_ble_eq_true rfl)) dJ0_indexOf_0f7a4_3 ⟨(Nat.le_of_ble_eq_true rfl), (Nat.le_of_ble_eq_true rfl)⟩) hS (fun q _ h => hFc q h) hFc (fun r_1 u t H1 locs ht hvm hw hB hz1 hk1 hS => ?_)
  obtain ⟨hP1, hK1, hD1⟩ := hB
  rw [ht] at hP1
  have hK1 := va_K.moved hvm.symm hK1
  obtain ⟨hP, hD⟩ := va_join (wr := []) (w1 := []) hP hD [] [] rfl rfl (by decide) (by decide) hk1 hFc hP1 hD1
  have hK := (hK.sub (tys' := []) [] rfl).app hK1
  generalize H1 = H at hP hS ⊢
  have hP : va_P (dC, dI) vwCl [] H := hP
  have hD : va_D A [] := hD
  have hK : va_K (dC, dI) vwCl [] s := hK
  have hw_r_1 := hw
  try dsimp only at hw_r_1
  obtain ⟨hq_2, hq_3⟩ := hw
  have hP9 := hP.sub (ws' := []) [] rfl
  have hD9 := hD.sub (ws' := []) [] (by decide) rfl
  have hK9 := hK.sub (tys' := []) [] rfl
  exact W.iret (v := r_1) hx hb hr (fun t ht hW => ⟨⟨r_1, (), rfl, ⟨by omega, hq_3⟩, by rw [ht]; exact hP9, va_K.moved hW.alike hK9, hD9⟩, hS.F ht⟩) hS.2.2 dJ0_indexOf_0f7a4_6
