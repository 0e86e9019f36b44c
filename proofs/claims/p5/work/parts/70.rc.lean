section
/-! counts and references -/
def zs : Nat → (Nat → Int) → Int
  | 0, _ => 0
  | n + 1, f => zs n f + f n
theorem zs_ext {f g : Nat → Int} : ∀ {n : Nat}, (∀ d, d < n → f d = g d) → zs n f = zs n g
  | 0, _ => rfl
  | n + 1, h => by
    show zs n f + f n = zs n g + g n
    rw [zs_ext (fun d hd => h d (by omega)), h n (by omega)]
theorem zs_0 {f : Nat → Int} : ∀ {n : Nat}, (∀ d, d < n → 0 ≤ f d) → 0 ≤ zs n f
  | 0, _ => Int.le_refl _
  | n + 1, h => by
    have := zs_0 (n := n) (fun d hd => h d (by omega))
    have := h n (by omega)
    show 0 ≤ zs n f + f n
    omega
theorem zs_ge {f : Nat → Int} {x : Nat} : ∀ {n : Nat}, (∀ d, d < n → 0 ≤ f d) → x < n → f x ≤ zs n f
  | 0, _, hx => absurd hx (by omega)
  | n + 1, h, hx => by
    have a := zs_0 (n := n) (fun d hd => h d (by omega))
    have b := h n (by omega)
    show f x ≤ zs n f + f n
    by_cases e : x = n
    · rw [e]; omega
    · have := zs_ge (n := n) (x := x) (fun d hd => h d (by omega)) (by omega)
      omega
theorem zs_up {f g : Nat → Int} {x : Nat} : ∀ {n : Nat}, (∀ d, d < n → d ≠ x → g d = f d) → x < n → zs n g = zs n f - f x + g x
  | 0, _, hx => absurd hx (by omega)
  | n + 1, h, hx => by
    show zs n g + g n = zs n f + f n - f x + g x
    by_cases e : x = n
    · rw [e, zs_ext (f := g) (g := f) (fun d hd => h d (by omega) (by omega))]; omega
    · rw [zs_up (n := n) (x := x) (fun d hd hne => h d (by omega) hne) (by omega), h n (by omega) (by omega)]; omega
theorem zs_add {f g : Nat → Int} : ∀ {n : Nat}, zs n (fun d => f d + g d) = zs n f + zs n g
  | 0 => rfl
  | n + 1 => by
    show zs n (fun d => f d + g d) + (f n + g n) = zs n f + f n + (zs n g + g n)
    rw [zs_add]; omega
/-- references out of a cell: zr v c counts those of a value -/
def zcf (zr : Int64 → Nat → Int) (wd : Nat → Nat) (gv : Nat → Int64) (d c : Nat) : Int := zs (wd d) (fun k => zr (gv (3 * d + k)) c)
def zct (zr : Int64 → Nat → Int) (n : Nat) (lv : Nat → Bool) (wd : Nat → Nat) (gv : Nat → Int64) (c : Nat) : Int := zs n (fun d => if lv d = true then zcf zr wd gv d c else 0)
/-- the counts hold: lv the cells that live, R the references that are held, db a bound of all counts -/
def zI (zr : Int64 → Nat → Int) (n : Nat) (lv : Nat → Bool) (wd : Nat → Nat) (gv : Nat → Int64) (gc : Nat → Int) (R : Nat → Int) (db : Int) : Prop :=
  (∀ c, lv c = true → c < n ∧ 1 ≤ gc c ∧ gc c ≤ db + 1 ∧ R c + zct zr n lv wd gv c ≤ gc c) ∧ (∀ c, lv c = false → R c = 0 ∧ zct zr n lv wd gv c = 0) ∧ ∀ c, 0 ≤ R c
theorem zcf_0 {zr : Int64 → Nat → Int} (h0 : ∀ v c, 0 ≤ zr v c) {wd : Nat → Nat} {gv : Nat → Int64} {d c : Nat} : 0 ≤ zcf zr wd gv d c := zs_0 (fun _ _ => h0 _ _)
theorem zct_i {zr : Int64 → Nat → Int} (h0 : ∀ v c, 0 ≤ zr v c) {lv : Nat → Bool} {wd : Nat → Nat} {gv : Nat → Int64} {c d : Nat} : 0 ≤ (if lv d = true then zcf zr wd gv d c else 0 : Int) := by
  split
  · exact zcf_0 h0
  · exact Int.le_refl _
theorem zct_0 {zr : Int64 → Nat → Int} (h0 : ∀ v c, 0 ≤ zr v c) {n : Nat} {lv : Nat → Bool} {wd : Nat → Nat} {gv : Nat → Int64} {c : Nat} : 0 ≤ zct zr n lv wd gv c := zs_0 (fun _ _ => zct_i h0)
theorem zct_ge {zr : Int64 → Nat → Int} (h0 : ∀ v c, 0 ≤ zr v c) {n : Nat} {lv : Nat → Bool} {wd : Nat → Nat} {gv : Nat → Int64} {c d : Nat} (hd : d < n) (hl : lv d = true) : zcf zr wd gv d c ≤ zct zr n lv wd gv c := by
  have := zs_ge (f := fun d => if lv d = true then zcf zr wd gv d c else 0) (n := n) (x := d) (fun _ _ => zct_i h0) hd
  show zcf zr wd gv d c ≤ zs n _
  have e : (fun d => if lv d = true then zcf zr wd gv d c else 0 : Nat → Int) d = zcf zr wd gv d c := if_pos hl
  rw [← e]; exact this
theorem zI_leak {zr : Int64 → Nat → Int} {n : Nat} {lv : Nat → Bool} {wd : Nat → Nat} {gv : Nat → Int64} {gc : Nat → Int} {R R2 : Nat → Int} {db : Int} (h : zI zr n lv wd gv gc R db) (h1 : ∀ c, R2 c ≤ R c) (h2 : ∀ c, 0 ≤ R2 c) : zI zr n lv wd gv gc R2 db :=
  ⟨fun c hc => ⟨(h.1 c hc).1, (h.1 c hc).2.1, (h.1 c hc).2.2.1, by have := (h.1 c hc).2.2.2; have := h1 c; omega⟩, fun c hc => ⟨by have := (h.2.1 c hc).1; have := h1 c; have := h2 c; omega, (h.2.1 c hc).2⟩, h2⟩
/-- a value is doubled -/
theorem zI_copy {zr : Int64 → Nat → Int} {n : Nat} {lv : Nat → Bool} {wd : Nat → Nat} {gv : Nat → Int64} {gc gc2 : Nat → Int} {R : Nat → Int} {db : Int} {x : Nat} (h : zI zr n lv wd gv gc R db) (hx : lv x = true) (e1 : gc2 x = gc x + 1) (e2 : ∀ c, c ≠ x → gc2 c = gc c) (hz : ∀ c, 0 ≤ R c) : zI zr n lv wd gv gc2 (fun c => R c + if c = x then 1 else 0) (db + 1) := by
  refine ⟨fun c hc => ?_, fun c hc => ?_, fun c => ?_⟩
  · obtain ⟨a, b, d, e⟩ := h.1 c hc
    by_cases g : c = x
    · rw [g] at a b d e ⊢
      show x < n ∧ 1 ≤ gc2 x ∧ gc2 x ≤ db + 1 + 1 ∧ R x + (if x = x then 1 else 0) + zct zr n lv wd gv x ≤ gc2 x
      rw [if_pos rfl]; omega
    · show c < n ∧ 1 ≤ gc2 c ∧ gc2 c ≤ db + 1 + 1 ∧ R c + (if c = x then 1 else 0) + zct zr n lv wd gv c ≤ gc2 c
      rw [if_neg g, e2 c g]; omega
  · have g : c ≠ x := fun g => by rw [g, hx] at hc; exact Bool.noConfusion hc
    show R c + (if c = x then 1 else 0) = 0 ∧ _
    rw [if_neg g, Int.add_zero]; exact h.2.1 c hc
  · show 0 ≤ R c + (if c = x then 1 else 0)
    have := hz c
    split <;> omega
/-- a reference is let go, and others stay -/
theorem zI_dec {zr : Int64 → Nat → Int} {n : Nat} {lv : Nat → Bool} {wd : Nat → Nat} {gv : Nat → Int64} {gc gc2 : Nat → Int} {R R2 : Nat → Int} {db : Int} {x : Nat} (h : zI zr n lv wd gv gc R db) (hR : ∀ c, R c = R2 c + if c = x then 1 else 0) (h2 : ∀ c, 0 ≤ R2 c) (e1 : gc2 x = gc x - 1) (e2 : ∀ c, c ≠ x → gc2 c = gc c) (h1 : 1 ≤ gc2 x) : zI zr n lv wd gv gc2 R2 db := by
  refine ⟨fun c hc => ?_, fun c hc => ?_, h2⟩
  · obtain ⟨a, b, d, e⟩ := h.1 c hc
    have r := hR c
    by_cases g : c = x
    · rw [if_pos g] at r; rw [g] at a b d e r ⊢; exact ⟨a, by omega, by omega, by omega⟩
    · rw [if_neg g] at r; rw [e2 c g]; exact ⟨a, by omega, by omega, by omega⟩
  · have r := hR c
    obtain ⟨a, b⟩ := h.2.1 c hc
    have := h2 c
    refine ⟨?_, b⟩
    split at r <;> omega
theorem zct_die {zr : Int64 → Nat → Int} {n : Nat} {lv lv2 : Nat → Bool} {wd : Nat → Nat} {gv : Nat → Int64} {c x : Nat} (hx : x < n) (hl : lv x = true) (e1 : lv2 x = false) (e2 : ∀ d, d ≠ x → lv2 d = lv d) : zct zr n lv2 wd gv c = zct zr n lv wd gv c - zcf zr wd gv x c := by
  have := zs_up (f := fun d => if lv d = true then zcf zr wd gv d c else 0) (g := fun d => if lv2 d = true then zcf zr wd gv d c else 0) (n := n) (x := x) (fun d _ hd => by show (if lv2 d = true then _ else _) = (if lv d = true then _ else _); rw [e2 d hd]) hx
  show zs n _ = zs n _ - _
  rw [this]
  have p : (if lv x = true then zcf zr wd gv x c else 0 : Int) = zcf zr wd gv x c := if_pos hl
  have q : (if lv2 x = true then zcf zr wd gv x c else 0 : Int) = 0 := if_neg (by rw [e1]; exact Bool.noConfusion)
  rw [p, q]; omega
/-- the last reference is let go: the cell dies, its own references are held -/
theorem zI_die {zr : Int64 → Nat → Int} (h0 : ∀ v c, 0 ≤ zr v c) {n : Nat} {lv lv2 : Nat → Bool} {wd : Nat → Nat} {gv : Nat → Int64} {gc gc2 : Nat → Int} {R R2 : Nat → Int} {db : Int} {x : Nat} (h : zI zr n lv wd gv gc R db) (hR : ∀ c, R c = R2 c + if c = x then 1 else 0) (h2 : ∀ c, 0 ≤ R2 c) (hx : lv x = true) (h1 : gc x ≤ 1) (e1 : lv2 x = false) (e2 : ∀ c, c ≠ x → lv2 c = lv c ∧ gc2 c = gc c) : zI zr n lv2 wd gv gc2 (fun c => R2 c + zcf zr wd gv x c) db := by
  obtain ⟨a, b, d, e⟩ := h.1 x hx
  have rx := hR x
  rw [if_pos rfl] at rx
  have tx := zct_0 h0 (n := n) (lv := lv) (wd := wd) (gv := gv) (c := x)
  have r2x := h2 x
  have fx := zct_ge h0 (zr := zr) (lv := lv) (wd := wd) (gv := gv) (c := x) a hx
  have fx0 := zcf_0 h0 (zr := zr) (wd := wd) (gv := gv) (d := x) (c := x)
  have hd : ∀ c, zct zr n lv2 wd gv c = zct zr n lv wd gv c - zcf zr wd gv x c := fun c => zct_die a hx e1 (fun d hd => (e2 d hd).1)
  refine ⟨fun c hc => ?_, fun c hc => ?_, fun c => ?_⟩
  · have g : c ≠ x := fun g => by rw [g, e1] at hc; exact Bool.noConfusion hc
    rw [(e2 c g).1] at hc
    obtain ⟨p, q, r, s⟩ := h.1 c hc
    have rc := hR c
    rw [if_neg g] at rc
    rw [(e2 c g).2]
    refine ⟨p, q, r, ?_⟩
    show R2 c + zcf zr wd gv x c + zct zr n lv2 wd gv c ≤ gc c
    rw [hd c]; omega
  · show R2 c + zcf zr wd gv x c = 0 ∧ zct zr n lv2 wd gv c = 0
    rw [hd c]
    by_cases g : c = x
    · rw [g]; omega
    · rw [(e2 c g).1] at hc
      obtain ⟨p, q⟩ := h.2.1 c hc
      have rc := hR c
      rw [if_neg g] at rc
      have f0 := zct_ge h0 (zr := zr) (lv := lv) (wd := wd) (gv := gv) (c := c) a hx
      have f1 := zcf_0 h0 (zr := zr) (wd := wd) (gv := gv) (d := x) (c := c)
      omega
  · show 0 ≤ R2 c + zcf zr wd gv x c
    have := zcf_0 h0 (zr := zr) (wd := wd) (gv := gv) (d := x) (c := c)
    have := h2 c
    omega
/-- a cell that doesn't live is filled out of references that are held -/
theorem zI_fill {zr : Int64 → Nat → Int} (h0 : ∀ v c, 0 ≤ zr v c) {n : Nat} {lv lv2 : Nat → Bool} {wd wd2 : Nat → Nat} {gv gv2 : Nat → Int64} {gc gc2 : Nat → Int} {R R2 : Nat → Int} {db : Int} {x : Nat} (h : zI zr n lv wd gv gc R db) (hdb : 0 ≤ db) (hx : lv x = false) (hn : x < n) (e0 : lv2 x = true) (e1 : gc2 x = 1) (e2 : ∀ c, c ≠ x → lv2 c = lv c ∧ gc2 c = gc c ∧ wd2 c = wd c ∧ ∀ k, k < wd c → gv2 (3 * c + k) = gv (3 * c + k)) (hR : ∀ c, R c = R2 c + zcf zr wd2 gv2 x c) (h2 : ∀ c, 0 ≤ R2 c) : zI zr n lv2 wd2 gv2 gc2 (fun c => R2 c + if c = x then 1 else 0) db := by
  have hd : ∀ c, zct zr n lv2 wd2 gv2 c = zct zr n lv wd gv c + zcf zr wd2 gv2 x c := fun c => by
    have := zs_up (f := fun d => if lv d = true then zcf zr wd gv d c else 0) (g := fun d => if lv2 d = true then zcf zr wd2 gv2 d c else 0) (n := n) (x := x) (fun d _ hd => by
      obtain ⟨a, -, b, e⟩ := e2 d hd
      show (if lv2 d = true then zcf zr wd2 gv2 d c else 0) = (if lv d = true then zcf zr wd gv d c else 0)
      rw [a]
      have : zcf zr wd2 gv2 d c = zcf zr wd gv d c := by
        unfold zcf
        rw [b]
        exact zs_ext (fun k hk => by rw [e k hk])
      rw [this]) hn
    show zs n _ = zs n _ + _
    rw [this]
    have p : (if lv x = true then zcf zr wd gv x c else 0 : Int) = 0 := if_neg (by rw [hx]; exact Bool.noConfusion)
    have q : (if lv2 x = true then zcf zr wd2 gv2 x c else 0 : Int) = zcf zr wd2 gv2 x c := if_pos e0
    rw [p, q]; omega
  have fx0 : ∀ c, 0 ≤ zcf zr wd2 gv2 x c := fun c => zcf_0 h0
  refine ⟨fun c hc => ?_, fun c hc => ?_, fun c => ?_⟩
  · have rc := hR c
    have r2 := h2 c
    have f0 := fx0 c
    by_cases g : c = x
    · obtain ⟨p, q⟩ := h.2.1 x hx
      rw [g] at rc r2 f0 ⊢
      show x < n ∧ 1 ≤ gc2 x ∧ gc2 x ≤ db + 1 ∧ R2 x + (if x = x then 1 else 0) + zct zr n lv2 wd2 gv2 x ≤ gc2 x
      rw [if_pos rfl, hd x]; omega
    · rw [(e2 c g).1] at hc
      obtain ⟨p, q, r, s⟩ := h.1 c hc
      show c < n ∧ 1 ≤ gc2 c ∧ gc2 c ≤ db + 1 ∧ R2 c + (if c = x then 1 else 0) + zct zr n lv2 wd2 gv2 c ≤ gc2 c
      rw [if_neg g, hd c, (e2 c g).2.1]; omega
  · have g : c ≠ x := fun g => by rw [g, e0] at hc; exact Bool.noConfusion hc
    rw [(e2 c g).1] at hc
    obtain ⟨p, q⟩ := h.2.1 c hc
    have rc := hR c
    have r2 := h2 c
    have f0 := fx0 c
    show R2 c + (if c = x then 1 else 0) = 0 ∧ zct zr n lv2 wd2 gv2 c = 0
    rw [if_neg g, hd c]; omega
  · show 0 ≤ R2 c + (if c = x then 1 else 0)
    have := h2 c
    split <;> omega
/-- one more cell, that doesn't live -/
theorem zI_grow {zr : Int64 → Nat → Int} {n : Nat} {lv : Nat → Bool} {wd : Nat → Nat} {gv : Nat → Int64} {gc : Nat → Int} {R : Nat → Int} {db : Int} (h : zI zr n lv wd gv gc R db) (hn : lv n = false) : zI zr (n + 1) lv wd gv gc R db := by
  have e : ∀ c, zct zr (n + 1) lv wd gv c = zct zr n lv wd gv c := fun c => by
    show zs n _ + (if lv n = true then _ else 0) = zs n _
    rw [if_neg (by rw [hn]; exact Bool.noConfusion), Int.add_zero]
  refine ⟨fun c hc => ?_, fun c hc => ?_, h.2.2⟩
  · obtain ⟨a, b, d, f⟩ := h.1 c hc
    rw [e c]; exact ⟨by omega, b, d, f⟩
  · rw [e c]; exact h.2.1 c hc

end
section
/-! values: what stands above the 32 low bits -/
def zhs (v : Int64) : Int64 := (v.toUInt64 >>> (Int64.toUInt64 (Int32.toInt64 32) &&& Int64.toUInt64 63)).toInt64
theorem zhs_bv (v : Int64) : (zhs v).toBitVec = v.toBitVec >>> (32 : Nat) := by
  show v.toBitVec >>> ((Int64.toUInt64 (Int32.toInt64 32) &&& Int64.toUInt64 63) % 64).toBitVec = _
  rw [show ((Int64.toUInt64 (Int32.toInt64 32) &&& Int64.toUInt64 63) % 64).toBitVec = 32#64 from by decide]
  rfl
theorem zhs_bit (v : Int64) (i : Nat) : (zhs v).toBitVec.getLsbD i = v.toBitVec.getLsbD (32 + i) := by
  rw [zhs_bv, BitVec.getLsbD_ushiftRight]
theorem zlow_b : ∀ i : Fin 64, (4294967295 : Int64).toBitVec.getLsbD i.val = decide (i.val < 32) := by decide +kernel
theorem zcell_b : ∀ i : Fin 64, (8589934592 : Int64).toBitVec.getLsbD i.val = decide (i.val = 33) := by decide +kernel
theorem zkind_b : ∀ i : Fin 64, (4294967296 : Int64).toBitVec.getLsbD i.val = decide (i.val = 32) := by decide +kernel
theorem ztwo_b : ∀ i : Fin 64, (2 : Int64).toBitVec.getLsbD i.val = decide (i.val = 1) := by decide +kernel
theorem zone_b : ∀ i : Fin 64, (1 : Int64).toBitVec.getLsbD i.val = decide (i.val = 0) := by decide +kernel
theorem z64_ext {x y : Int64} (h : ∀ i : Nat, i < 64 → x.toBitVec.getLsbD i = y.toBitVec.getLsbD i) : x = y := Int64.toBitVec_inj.mp (BitVec.eq_of_getLsbD_eq (fun i hi => h i hi))
theorem zt32_b (v : Int64) {i : Nat} (hi : i < 32) : v.toInt32.toBitVec.getLsbD i = v.toBitVec.getLsbD i := by
  rw [Int64.toBitVec_toInt32, BitVec.getLsbD_signExtend]
  have : i < 64 := by omega
  simp [hi, this]
theorem zt64_b (x : Int32) {i : Nat} (hi : i < 32) : x.toInt64.toBitVec.getLsbD i = x.toBitVec.getLsbD i := by
  rw [Int32.toBitVec_toInt64, BitVec.getLsbD_signExtend]
  have : i < 64 := by omega
  simp [hi, this]
/-- a value's low half, masked -/
theorem zlo_b (x : Int32) {i : Nat} (hi : i < 64) : (x.toInt64 &&& 4294967295).toBitVec.getLsbD i = (decide (i < 32) && x.toBitVec.getLsbD i) := by
  rw [Int64.toBitVec_and, BitVec.getLsbD_and, zlow_b ⟨i, hi⟩]
  by_cases g : i < 32
  · rw [zt64_b x g]; simp [g]
  · simp [g]
theorem zof_int (x : Int32) : zhs (x.toInt64 &&& 4294967295) = 0 ∧ (x.toInt64 &&& 4294967295).toInt32 = x := by
  refine ⟨z64_ext (fun i hi => ?_), z32_ext (fun i hi => ?_)⟩
  · rw [zhs_bit]
    by_cases g : 32 + i < 64
    · rw [zlo_b x g]
      have : ¬ (32 + i < 32) := by omega
      simp [this]
    · rw [BitVec.getLsbD_of_ge _ _ (by omega)]; simp
  · rw [zt32_b _ hi, zlo_b x (by omega)]; simp [hi]
theorem zof_cell (x : Int32) : zhs (8589934592 ||| (x.toInt64 &&& 4294967295)) = 2 ∧ (8589934592 ||| (x.toInt64 &&& 4294967295)).toInt32 = x := by
  refine ⟨z64_ext (fun i hi => ?_), z32_ext (fun i hi => ?_)⟩
  · rw [zhs_bit, ztwo_b ⟨i, hi⟩]
    by_cases g : 32 + i < 64
    · rw [Int64.toBitVec_or, BitVec.getLsbD_or, zlo_b x g, zcell_b ⟨32 + i, g⟩]
      have : ¬ (32 + i < 32) := by omega
      simp only [this, decide_false, Bool.false_and, Bool.or_false]
      exact decide_eq_decide.mpr (by omega)
    · rw [BitVec.getLsbD_of_ge _ _ (by omega)]
      symm
      exact decide_eq_false (by show ¬ i = 1; omega)
  · rw [zt32_b _ hi, Int64.toBitVec_or, BitVec.getLsbD_or, zlo_b x (by omega), zcell_b ⟨i, by omega⟩]
    have : ¬ (i = 33) := by omega
    simp [this, hi]
theorem zof_kind (x : Int32) : zhs (4294967296 ||| (x.toInt64 &&& 4294967295)) = 1 ∧ (4294967296 ||| (x.toInt64 &&& 4294967295)).toInt32 = x := by
  refine ⟨z64_ext (fun i hi => ?_), z32_ext (fun i hi => ?_)⟩
  · rw [zhs_bit, zone_b ⟨i, hi⟩]
    by_cases g : 32 + i < 64
    · rw [Int64.toBitVec_or, BitVec.getLsbD_or, zlo_b x g, zkind_b ⟨32 + i, g⟩]
      have : ¬ (32 + i < 32) := by omega
      simp only [this, decide_false, Bool.false_and, Bool.or_false]
      exact decide_eq_decide.mpr (by omega)
    · rw [BitVec.getLsbD_of_ge _ _ (by omega)]
      symm
      exact decide_eq_false (by show ¬ i = 0; omega)
  · rw [zt32_b _ hi, Int64.toBitVec_or, BitVec.getLsbD_or, zlo_b x (by omega), zkind_b ⟨i, by omega⟩]
    have : ¬ (i = 32) := by omega
    simp [this, hi]
/-- how often a value refers to cell c -/
def zr (v : Int64) (c : Nat) : Int := if zhs v = 2 ∧ v.toInt32.toInt = (c : Int) then 1 else 0
theorem zr_0 (v : Int64) (c : Nat) : 0 ≤ zr v c := by unfold zr; split <;> omega
theorem zr_n {v : Int64} {c : Nat} (h : zhs v ≠ 2) : zr v c = 0 := by unfold zr; rw [if_neg (fun g => h g.1)]
theorem zr_c {v : Int64} (h : zhs v = 2) (h0 : 0 ≤ v.toInt32.toInt) (c : Nat) : zr v c = if c = Int32.toNatClampNeg v.toInt32 then 1 else 0 := by
  have hn := zn_nat h0
  unfold zr
  by_cases g : c = Int32.toNatClampNeg v.toInt32
  · rw [if_pos g, if_pos ⟨h, by omega⟩]
  · rw [if_neg g, if_neg (fun u => g (by omega))]

end
section
set_option maxHeartbeats 4000000 in
set_option maxRecDepth 100000 in
theorem c_X1_isInt_x (l : Launch) (dC : Nat → ClassId) (dI : Nat → Nat → Nat) (aK aV : Nat → Nat) (va : Int64) (sz : Nat)  : Met l yX1_isInt (Cond.code yX1_isInt cX1_isInt 2 (some .boolean) :: zw) ({ frames := 8, cells := 0, slots := 0, locals := 200 }) (va_Pc [.long va] (zP dC dI aK aV sz [] [])) (va_Qi (fun (r : Int32) (u : Unit) => (r.toInt = 1 ∧ zhs va = 0 ∨ r.toInt = 0 ∧ zhs va ≠ 0)) (fun u => zQ dC dI (va_A [] sz) [] []) (va_A [] sz)) 0 0 (va_A [] sz) := by
  refine Met.ofW (cc := cX1_isInt) (maxL := 2) (ret := (some .boolean)) (by decide) rfl ?_
  intro p e s m args below meth c s₁ B hml hv
  obtain ⟨rfl, hsz, hP, hK, hD0, hN, hT⟩ := hv
  have hx := B.exec
  have hb := B.bytes
  have hr := B.returns
  have hts := atoms_spec (ws := Cond.code yX1_isInt cX1_isInt 2 (some .boolean) :: zw) B.pre
  have hA : ∀ w ∈ zw, w.before _ s = true := fun w h => hts w (List.mem_cons_of_mem _ h)
  have hown : s.vm.findClass RX1 = some m.cls := findClass_of_methodNamed B.named
  have hlocks := B.notSynchronized
  subst hsz
  have hD := hD0.self (sz := s.heap.size)
  generalize hAe : va_A [] s.heap.size = A at hD hT ⊢
  have hAA : ∀ q : Nat, s.heap.size ≤ q → A q := fun q h => by rw [← hAe]; exact Or.inr h
  have hS : va_S A s.heap s.heap [] := va_S.rf
  have hl := lv_entry ([.long va]) (n := 2) (Nat.le_of_ble_eq_true rfl)
  rw [lg_entry_eq]
  generalize (lg_sl ([.long va]) ++ List.replicate (2 - (lg_sl ([.long va])).length) Slot.unset).toArray = ls at hl ⊢
  have hl : lv_has ls 2 [(0, .long va)] := hl
  refine lv_lload_n hx hb dX1_isInt_0 rfl (lv_at hl 0 rfl) ?_
  refine lv_bipush (v := 32) hx hb dX1_isInt_1 (by decide) ?_
  refine lv_lushr hx hb dX1_isInt_3 rfl ?_
  refine lv_topl (fun x_1 ex_1 => ?_)
  refine lv_lconst (v := 0) hx hb dX1_isInt_4 (by decide) ?_
  refine W.lcmp hx hb dX1_isInt_5 ?_
  refine lv_topi (fun x_2 ex_2 => ?_)
  refine lv_if_ne (tgt := 13) hx hb dX1_isInt_6 (by decide) (fun c_3 => ?_) (fun c_3 => ?_)
  · have ic_3 : x_2.toInt ≠ 0 := zi_ne c_3
    refine lv_iconst (v := 0) hx hb dX1_isInt_13 (by decide) ?_
    have hlit : Int32.toInt 0 = 0 := by decide
    have hP9 := hP.sub (ws' := []) [] rfl
    have hD9 := hD.sub (ws' := []) [] (by decide) rfl
    have hK9 := hK.sub (tys' := []) [] rfl
    exact W.zret (v := 0) hx hb hr rfl (fun t ht hW => ⟨⟨0, (), rfl, (Or.inr ⟨by decide, fun g => by have h8 : x_2 = 0 := (by rw [ex_2]; exact (lg_cmp_eq _ _).mpr (by rw [ex_1]; exact g)); have h7 := zi_eq h8; have h9 : Int32.toInt 0 = 0 := (by decide); omega⟩), by rw [ht]; exact hP9, va_K.moved hW.alike hK9, hD9⟩, hS.F ht⟩) hS.2.2 dX1_isInt_14
  · have ic_3 : x_2.toInt = 0 := zi_eq c_3
    refine lv_iconst (v := 1) hx hb dX1_isInt_9 (by decide) ?_
    refine lv_goto (tgt := 14) hx hb dX1_isInt_10 (by decide) ?_
    have hlit : Int32.toInt 1 = 1 := by decide
    have hP9 := hP.sub (ws' := []) [] rfl
    have hD9 := hD.sub (ws' := []) [] (by decide) rfl
    have hK9 := hK.sub (tys' := []) [] rfl
    exact W.zret (v := 1) hx hb hr rfl (fun t ht hW => ⟨⟨1, (), rfl, (Or.inl ⟨by decide, by rw [show zhs va = x_1 from ex_1.symm]; exact (lg_cmp_eq _ _).mp (by rw [← ex_2]; exact Int32.toInt_inj.mp (by have h9 : Int32.toInt 0 = 0 := (by decide); omega))⟩), by rw [ht]; exact hP9, va_K.moved hW.alike hK9, hD9⟩, hS.F ht⟩) hS.2.2 dX1_isInt_14
set_option maxHeartbeats 4000000 in
set_option maxRecDepth 100000 in
theorem c_X1_isCell_x (l : Launch) (dC : Nat → ClassId) (dI : Nat → Nat → Nat) (aK aV : Nat → Nat) (va : Int64) (sz : Nat)  : Met l yX1_isCell (Cond.code yX1_isCell cX1_isCell 2 (some .boolean) :: zw) ({ frames := 8, cells := 0, slots := 0, locals := 200 }) (va_Pc [.long va] (zP dC dI aK aV sz [] [])) (va_Qi (fun (r : Int32) (u : Unit) => (r.toInt = 1 ∧ zhs va = 2 ∨ r.toInt = 0 ∧ zhs va ≠ 2)) (fun u => zQ dC dI (va_A [] sz) [] []) (va_A [] sz)) 0 0 (va_A [] sz) := by
  refine Met.ofW (cc := cX1_isCell) (maxL := 2) (ret := (some .boolean)) (by decide) rfl ?_
  intro p e s m args below meth c s₁ B hml hv
  obtain ⟨rfl, hsz, hP, hK, hD0, hN, hT⟩ := hv
  have hx := B.exec
  have hb := B.bytes
  have hr := B.returns
  have hts := atoms_spec (ws := Cond.code yX1_isCell cX1_isCell 2 (some .boolean) :: zw) B.pre
  have hA : ∀ w ∈ zw, w.before _ s = true := fun w h => hts w (List.mem_cons_of_mem _ h)
  have hown : s.vm.findClass RX1 = some m.cls := findClass_of_methodNamed B.named
  have hlocks := B.notSynchronized
  subst hsz
  have hD := hD0.self (sz := s.heap.size)
  generalize hAe : va_A [] s.heap.size = A at hD hT ⊢
  have hAA : ∀ q : Nat, s.heap.size ≤ q → A q := fun q h => by rw [← hAe]; exact Or.inr h
  have hS : va_S A s.heap s.heap [] := va_S.rf
  have hl := lv_entry ([.long va]) (n := 2) (Nat.le_of_ble_eq_true rfl)
  rw [lg_entry_eq]
  generalize (lg_sl ([.long va]) ++ List.replicate (2 - (lg_sl ([.long va])).length) Slot.unset).toArray = ls at hl ⊢
  have hl : lv_has ls 2 [(0, .long va)] := hl
  refine lv_lload_n hx hb dX1_isCell_0 rfl (lv_at hl 0 rfl) ?_
  refine lv_bipush (v := 32) hx hb dX1_isCell_1 (by decide) ?_
  refine lv_lushr hx hb dX1_isCell_3 rfl ?_
  refine lv_topl (fun x_1 ex_1 => ?_)
  refine lv_ldc2 (v := 2) hx hb hown (hA _ wi_1149) dX1_isCell_4 ?_
  refine W.lcmp hx hb dX1_isCell_7 ?_
  refine lv_topi (fun x_2 ex_2 => ?_)
  refine lv_if_ne (tgt := 15) hx hb dX1_isCell_8 (by decide) (fun c_3 => ?_) (fun c_3 => ?_)
  · have ic_3 : x_2.toInt ≠ 0 := zi_ne c_3
    refine lv_iconst (v := 0) hx hb dX1_isCell_15 (by decide) ?_
    have hlit : Int32.toInt 0 = 0 := by decide
    have hP9 := hP.sub (ws' := []) [] rfl
    have hD9 := hD.sub (ws' := []) [] (by decide) rfl
    have hK9 := hK.sub (tys' := []) [] rfl
    exact W.zret (v := 0) hx hb hr rfl (fun t ht hW => ⟨⟨0, (), rfl, (Or.inr ⟨by decide, fun g => by have h8 : x_2 = 0 := (by rw [ex_2]; exact (lg_cmp_eq _ _).mpr (by rw [ex_1]; exact g)); have h7 := zi_eq h8; have h9 : Int32.toInt 0 = 0 := (by decide); omega⟩), by rw [ht]; exact hP9, va_K.moved hW.alike hK9, hD9⟩, hS.F ht⟩) hS.2.2 dX1_isCell_16
  · have ic_3 : x_2.toInt = 0 := zi_eq c_3
    refine lv_iconst (v := 1) hx hb dX1_isCell_11 (by decide) ?_
    refine lv_goto (tgt := 16) hx hb dX1_isCell_12 (by decide) ?_
    have hlit : Int32.toInt 1 = 1 := by decide
    have hP9 := hP.sub (ws' := []) [] rfl
    have hD9 := hD.sub (ws' := []) [] (by decide) rfl
    have hK9 := hK.sub (tys' := []) [] rfl
    exact W.zret (v := 1) hx hb hr rfl (fun t ht hW => ⟨⟨1, (), rfl, (Or.inl ⟨by decide, by rw [show zhs va = x_1 from ex_1.symm]; exact (lg_cmp_eq _ _).mp (by rw [← ex_2]; exact Int32.toInt_inj.mp (by have h9 : Int32.toInt 0 = 0 := (by decide); omega))⟩), by rw [ht]; exact hP9, va_K.moved hW.alike hK9, hD9⟩, hS.F ht⟩) hS.2.2 dX1_isCell_16
set_option maxHeartbeats 4000000 in
set_option maxRecDepth 100000 in
theorem c_X1_ofInt_x (l : Launch) (dC : Nat → ClassId) (dI : Nat → Nat → Nat) (aK aV : Nat → Nat) (nu : Int32) (sz : Nat)  : Met l yX1_ofInt (Cond.code yX1_ofInt cX1_ofInt 1 (some .long) :: zw) ({ frames := 8, cells := 0, slots := 0, locals := 200 }) (va_Pc [.int nu] (zP dC dI aK aV sz [] [])) (va_Ql (fun (r : Int64) (u : Unit) => (zhs r = 0) ∧ (r.toInt32 = nu)) (fun u => zQ dC dI (va_A [] sz) [] []) (va_A [] sz)) 0 0 (va_A [] sz) := by
  refine Met.ofW (cc := cX1_ofInt) (maxL := 1) (ret := (some .long)) (by decide) rfl ?_
  intro p e s m args below meth c s₁ B hml hv
  obtain ⟨rfl, hsz, hP, hK, hD0, hN, hT⟩ := hv
  have hx := B.exec
  have hb := B.bytes
  have hr := B.returns
  have hts := atoms_spec (ws := Cond.code yX1_ofInt cX1_ofInt 1 (some .long) :: zw) B.pre
  have hA : ∀ w ∈ zw, w.before _ s = true := fun w h => hts w (List.mem_cons_of_mem _ h)
  have hown : s.vm.findClass RX1 = some m.cls := findClass_of_methodNamed B.named
  have hlocks := B.notSynchronized
  subst hsz
  have hD := hD0.self (sz := s.heap.size)
  generalize hAe : va_A [] s.heap.size = A at hD hT ⊢
  have hAA : ∀ q : Nat, s.heap.size ≤ q → A q := fun q h => by rw [← hAe]; exact Or.inr h
  have hS : va_S A s.heap s.heap [] := va_S.rf
  have hl := lv_entry ([.int nu]) (n := 1) (Nat.le_of_ble_eq_true rfl)
  rw [lg_entry_eq]
  generalize (lg_sl ([.int nu]) ++ List.replicate (1 - (lg_sl ([.int nu])).length) Slot.unset).toArray = ls at hl ⊢
  have hl : lv_has ls 1 [(0, .int nu)] := hl
  refine lv_iload_n hx hb dX1_ofInt_0 rfl (lv_at hl 0 rfl) ?_
  obtain ⟨x_1, ex_1⟩ : ∃ z : Int64, z = Int32.toInt64 nu := ⟨_, rfl⟩
  refine lv_i2l (v := x_1) hx hb dX1_ofInt_1 ex_1.symm ?_
  refine lv_ldc2 (v := 4294967295) hx hb hown (hA _ wi_1104) dX1_ofInt_2 ?_
  refine lv_land hx hb dX1_ofInt_5 ?_
  refine lv_topl (fun x_2 ex_2 => ?_)
  have hP9 := hP.sub (ws' := []) [] rfl
  have hD9 := hD.sub (ws' := []) [] (by decide) rfl
  have hK9 := hK.sub (tys' := []) [] rfl
  exact W.lret (v := x_2) hx hb hr (fun t ht hW => ⟨⟨x_2, (), rfl, ⟨(by rw [ex_2, ex_1]; exact (zof_int nu).1), (by rw [ex_2, ex_1]; exact (zof_int nu).2)⟩, by rw [ht]; exact hP9, va_K.moved hW.alike hK9, hD9⟩, hS.F ht⟩) hS.2.2 dX1_ofInt_6
set_option maxHeartbeats 4000000 in
set_option maxRecDepth 100000 in
theorem c_X1_ofKind_x (l : Launch) (dC : Nat → ClassId) (dI : Nat → Nat → Nat) (aK aV : Nat → Nat) (nu : Int32) (sz : Nat)  : Met l yX1_ofKind (Cond.code yX1_ofKind cX1_ofKind 1 (some .long) :: zw) ({ frames := 8, cells := 0, slots := 0, locals := 200 }) (va_Pc [.int nu] (zP dC dI aK aV sz [] [])) (va_Ql (fun (r : Int64) (u : Unit) => (zhs r = 1) ∧ (r.toInt32 = nu)) (fun u => zQ dC dI (va_A [] sz) [] []) (va_A [] sz)) 0 0 (va_A [] sz) := by
  refine Met.ofW (cc := cX1_ofKind) (maxL := 1) (ret := (some .long)) (by decide) rfl ?_
  intro p e s m args below meth c s₁ B hml hv
  obtain ⟨rfl, hsz, hP, hK, hD0, hN, hT⟩ := hv
  have hx := B.exec
  have hb := B.bytes
  have hr := B.returns
  have hts := atoms_spec (ws := Cond.code yX1_ofKind cX1_ofKind 1 (some .long) :: zw) B.pre
  have hA : ∀ w ∈ zw, w.before _ s = true := fun w h => hts w (List.mem_cons_of_mem _ h)
  have hown : s.vm.findClass RX1 = some m.cls := findClass_of_methodNamed B.named
  have hlocks := B.notSynchronized
  subst hsz
  have hD := hD0.self (sz := s.heap.size)
  generalize hAe : va_A [] s.heap.size = A at hD hT ⊢
  have hAA : ∀ q : Nat, s.heap.size ≤ q → A q := fun q h => by rw [← hAe]; exact Or.inr h
  have hS : va_S A s.heap s.heap [] := va_S.rf
  have hl := lv_entry ([.int nu]) (n := 1) (Nat.le_of_ble_eq_true rfl)
  rw [lg_entry_eq]
  generalize (lg_sl ([.int nu]) ++ List.replicate (1 - (lg_sl ([.int nu])).length) Slot.unset).toArray = ls at hl ⊢
  have hl : lv_has ls 1 [(0, .int nu)] := hl
  refine lv_ldc2 (v := 4294967296) hx hb hown (hA _ wi_1192) dX1_ofKind_0 ?_
  refine lv_iload_n hx hb dX1_ofKind_3 rfl (lv_at hl 0 rfl) ?_
  obtain ⟨x_1, ex_1⟩ : ∃ z : Int64, z = Int32.toInt64 nu := ⟨_, rfl⟩
  refine lv_i2l (v := x_1) hx hb dX1_ofKind_4 ex_1.symm ?_
  refine lv_ldc2 (v := 4294967295) hx hb hown (hA _ wi_1104) dX1_ofKind_5 ?_
  refine lv_land hx hb dX1_ofKind_8 ?_
  refine lv_topl (fun x_2 ex_2 => ?_)
  refine lv_lor hx hb dX1_ofKind_9 ?_
  refine lv_topl (fun x_3 ex_3 => ?_)
  have hP9 := hP.sub (ws' := []) [] rfl
  have hD9 := hD.sub (ws' := []) [] (by decide) rfl
  have hK9 := hK.sub (tys' := []) [] rfl
  exact W.lret (v := x_3) hx hb hr (fun t ht hW => ⟨⟨x_3, (), rfl, ⟨(by rw [ex_3, ex_2, ex_1]; exact (zof_kind nu).1), (by rw [ex_3, ex_2, ex_1]; exact (zof_kind nu).2)⟩, by rw [ht]; exact hP9, va_K.moved hW.alike hK9, hD9⟩, hS.F ht⟩) hS.2.2 dX1_ofKind_10
set_option maxHeartbeats 4000000 in
set_option maxRecDepth 100000 in
theorem c_X1_ofCell_x (l : Launch) (dC : Nat → ClassId) (dI : Nat → Nat → Nat) (aK aV : Nat → Nat) (nu : Int32) (sz : Nat)  : Met l yX1_ofCell (Cond.code yX1_ofCell cX1_ofCell 1 (some .long) :: zw) ({ frames := 8, cells := 0, slots := 0, locals := 200 }) (va_Pc [.int nu] (zP dC dI aK aV sz [] [])) (va_Ql (fun (r : Int64) (u : Unit) => (zhs r = 2) ∧ (r.toInt32 = nu)) (fun u => zQ dC dI (va_A [] sz) [] []) (va_A [] sz)) 0 0 (va_A [] sz) := by
  refine Met.ofW (cc := cX1_ofCell) (maxL := 1) (ret := (some .long)) (by decide) rfl ?_
  intro p e s m args below meth c s₁ B hml hv
  obtain ⟨rfl, hsz, hP, hK, hD0, hN, hT⟩ := hv
  have hx := B.exec
  have hb := B.bytes
  have hr := B.returns
  have hts := atoms_spec (ws := Cond.code yX1_ofCell cX1_ofCell 1 (some .long) :: zw) B.pre
  have hA : ∀ w ∈ zw, w.before _ s = true := fun w h => hts w (List.mem_cons_of_mem _ h)
  have hown : s.vm.findClass RX1 = some m.cls := findClass_of_methodNamed B.named
  have hlocks := B.notSynchronized
  subst hsz
  have hD := hD0.self (sz := s.heap.size)
  generalize hAe : va_A [] s.heap.size = A at hD hT ⊢
  have hAA : ∀ q : Nat, s.heap.size ≤ q → A q := fun q h => by rw [← hAe]; exact Or.inr h
  have hS : va_S A s.heap s.heap [] := va_S.rf
  have hl := lv_entry ([.int nu]) (n := 1) (Nat.le_of_ble_eq_true rfl)
  rw [lg_entry_eq]
  generalize (lg_sl ([.int nu]) ++ List.replicate (1 - (lg_sl ([.int nu])).length) Slot.unset).toArray = ls at hl ⊢
  have hl : lv_has ls 1 [(0, .int nu)] := hl
  refine lv_ldc2 (v := 8589934592) hx hb hown (hA _ wi_1214) dX1_ofCell_0 ?_
  refine lv_iload_n hx hb dX1_ofCell_3 rfl (lv_at hl 0 rfl) ?_
  obtain ⟨x_1, ex_1⟩ : ∃ z : Int64, z = Int32.toInt64 nu := ⟨_, rfl⟩
  refine lv_i2l (v := x_1) hx hb dX1_ofCell_4 ex_1.symm ?_
  refine lv_ldc2 (v := 4294967295) hx hb hown (hA _ wi_1104) dX1_ofCell_5 ?_
  refine lv_land hx hb dX1_ofCell_8 ?_
  refine lv_topl (fun x_2 ex_2 => ?_)
  refine lv_lor hx hb dX1_ofCell_9 ?_
  refine lv_topl (fun x_3 ex_3 => ?_)
  have hP9 := hP.sub (ws' := []) [] rfl
  have hD9 := hD.sub (ws' := []) [] (by decide) rfl
  have hK9 := hK.sub (tys' := []) [] rfl
  exact W.lret (v := x_3) hx hb hr (fun t ht hW => ⟨⟨x_3, (), rfl, ⟨(by rw [ex_3, ex_2, ex_1]; exact (zof_cell nu).1), (by rw [ex_3, ex_2, ex_1]; exact (zof_cell nu).2)⟩, by rw [ht]; exact hP9, va_K.moved hW.alike hK9, hD9⟩, hS.F ht⟩) hS.2.2 dX1_ofCell_10

end
section
/-! the cells as a whole: those that live, the free ones' chain FL, the doomed ones' chain DL -/
def zgd (v : Int64) : Prop := zhs v = 2 → 0 ≤ v.toInt32.toInt
def zwd (kz : Int32) (kf gk : Nat → Int32) : Nat → Nat := fun d => (zfk kz kf (gk d)).toNat
def zdl (wd : Nat → Nat) (gv : Nat → Int64) : List Nat → Nat → Int
  | [], _ => 0
  | d :: l, c => zcf zr wd gv d c + zdl wd gv l c
theorem zdl_0 {wd : Nat → Nat} {gv : Nat → Int64} : ∀ {l : List Nat} {c : Nat}, 0 ≤ zdl wd gv l c
  | [], _ => Int.le_refl _
  | d :: l, c => by
    have a := zcf_0 zr_0 (wd := wd) (gv := gv) (d := d) (c := c)
    have b := zdl_0 (wd := wd) (gv := gv) (l := l) (c := c)
    show 0 ≤ zcf zr wd gv d c + zdl wd gv l c
    omega
def zCS (wd : Nat → Nat) (gc : Nat → Int32) (gv : Nat → Int64) (fresh ff held dbl : Int32) (lv : Nat → Bool) (R : Nat → Int) (FL DL : List Nat) (dm : Int32) : Prop :=
  zI zr (Int32.toNatClampNeg fresh) lv wd gv (fun c => (gc c).toInt) (fun c => R c + zdl wd gv DL c) dbl.toInt ∧ 0 ≤ fresh.toInt ∧ fresh.toInt ≤ 400 ∧ 0 ≤ dbl.toInt ∧ (∀ c, 0 ≤ R c) ∧
  zli gc ff FL ∧ zli gc dm DL ∧ (FL ++ DL).Nodup ∧ (∀ c ∈ FL ++ DL, c < Int32.toNatClampNeg fresh ∧ lv c = false) ∧ held.toInt + (FL.length : Int) = fresh.toInt ∧ (∀ d, lv d = true ∨ d ∈ DL → ∀ k, k < wd d → zgd (gv (3 * d + k)))
/-- a reference that is held leads to a cell that lives -/
theorem zCS_lv {wd : Nat → Nat} {gc : Nat → Int32} {gv : Nat → Int64} {fresh ff held dbl dm : Int32} {lv : Nat → Bool} {R : Nat → Int} {FL DL : List Nat} (h : zCS wd gc gv fresh ff held dbl lv R FL DL dm) {x : Nat} (hx : 1 ≤ R x) : lv x = true ∧ (x : Int) < fresh.toInt ∧ 1 ≤ (gc x).toInt ∧ (gc x).toInt ≤ dbl.toInt + 1 := by
  obtain ⟨hI, h0, h4, hd, hR, -⟩ := h
  have hn := zn_nat h0
  have hl : lv x = true := by
    by_cases g : lv x = true
    · exact g
    · have := (hI.2.1 x (by cases e : lv x with
        | false => rfl
        | true => exact absurd e g)).1
      have u := zdl_0 (wd := wd) (gv := gv) (l := DL) (c := x)
      have this : R x + zdl wd gv DL x = 0 := this
      omega
  obtain ⟨a, b, d, -⟩ := hI.1 x hl
  exact ⟨hl, by omega, b, d⟩
theorem zCS_li {wd : Nat → Nat} {gc : Nat → Int32} {gv : Nat → Int64} {fresh ff held dbl dm : Int32} {lv : Nat → Bool} {R : Nat → Int} {FL DL : List Nat} (h : zCS wd gc gv fresh ff held dbl lv R FL DL dm) {x : Nat} (hl : lv x = true) : lv x = true ∧ (x : Int) < fresh.toInt ∧ 1 ≤ (gc x).toInt ∧ (gc x).toInt ≤ dbl.toInt + 1 := by
  obtain ⟨hI, h0, h4, hd, hR, -⟩ := h
  have hn := zn_nat h0
  obtain ⟨a, b, d, -⟩ := hI.1 x hl
  exact ⟨hl, by omega, b, d⟩
theorem zli_off {nx nx2 : Nat → Int32} {L : List Nat} {x : Int32} {y : Nat} {v : Int32} (h : zli nx x L) (hy : y ∉ L) (e : nx2 = upd nx y v) : zli nx2 x L := zli_ext h (fun r hr => by rw [e, zu_n (show r ≠ y from fun g => hy (g ▸ hr))])
/-- a value is doubled -/
theorem zCS_copy {wd : Nat → Nat} {gc gc2 : Nat → Int32} {gv : Nat → Int64} {fresh ff held dbl dbl2 dm v : Int32} {lv : Nat → Bool} {R : Nat → Int} {FL DL : List Nat} (h : zCS wd gc gv fresh ff held dbl lv R FL DL dm) {x : Nat} (hx : lv x = true) (e : gc2 = upd gc x v) (ev : v.toInt = (gc x).toInt + 1) (ed : dbl2.toInt = dbl.toInt + 1) : zCS wd gc2 gv fresh ff held dbl2 lv (fun c => R c + if c = x then 1 else 0) FL DL dm := by
  obtain ⟨hI, h0, h4, hd, hR, hf, hdm, hnd, hfl, hh, hg⟩ := h
  have hxn : x ∉ FL ++ DL := fun g => by have := (hfl x g).2; rw [hx] at this; exact Bool.noConfusion this
  have hc := zI_copy (gc2 := fun c => (gc2 c).toInt) (x := x) hI hx (by show (gc2 x).toInt = (gc x).toInt + 1; rw [e, zu_s]; exact ev) (fun c hc => by show (gc2 c).toInt = (gc c).toInt; rw [e, zu_n hc]) hI.2.2
  refine ⟨?_, h0, h4, by omega, fun c => ?_, zli_off hf (fun g => hxn (List.mem_append.mpr (Or.inl g))) e, zli_off hdm (fun g => hxn (List.mem_append.mpr (Or.inr g))) e, hnd, hfl, hh, hg⟩
  · rw [ed]
    have e2 : (fun c => R c + (if c = x then 1 else 0) + zdl wd gv DL c : Nat → Int) = (fun c => R c + zdl wd gv DL c + if c = x then 1 else 0) := by
      funext c; omega
    show zI zr _ lv wd gv _ (fun c => R c + (if c = x then 1 else 0) + zdl wd gv DL c) _
    rw [e2]; exact hc
  · have := hR c
    show 0 ≤ R c + (if c = x then 1 else 0)
    split <;> omega
/-- a reference is let go, and others stay -/
theorem zCS_dec {wd : Nat → Nat} {gc gc2 : Nat → Int32} {gv : Nat → Int64} {fresh ff held dbl dm v : Int32} {lv : Nat → Bool} {R R2 : Nat → Int} {FL DL : List Nat} (h : zCS wd gc gv fresh ff held dbl lv R FL DL dm) {x : Nat} (hR : ∀ c, R c = R2 c + if c = x then 1 else 0) (h2 : ∀ c, 0 ≤ R2 c) (e : gc2 = upd gc x v) (ev : v.toInt = (gc x).toInt - 1) (h1 : 1 ≤ v.toInt) : zCS wd gc2 gv fresh ff held dbl lv R2 FL DL dm := by
  have hx := (zCS_lv h (x := x) (by have := hR x; rw [if_pos rfl] at this; have := h2 x; omega)).1
  obtain ⟨hI, h0, h4, hd, hR0, hf, hdm, hnd, hfl, hh, hg⟩ := h
  have hxn : x ∉ FL ++ DL := fun g => by have := (hfl x g).2; rw [hx] at this; exact Bool.noConfusion this
  refine ⟨zI_dec (x := x) (R2 := fun c => R2 c + zdl wd gv DL c) hI (fun c => ?_) (fun c => ?_) ?_ (fun c hc => ?_) ?_, h0, h4, hd, h2, zli_off hf (fun g => hxn (List.mem_append.mpr (Or.inl g))) e, zli_off hdm (fun g => hxn (List.mem_append.mpr (Or.inr g))) e, hnd, hfl, hh, hg⟩
  · show R c + zdl wd gv DL c = R2 c + zdl wd gv DL c + if c = x then 1 else 0
    rw [hR c]; omega
  · have := h2 c
    have := zdl_0 (wd := wd) (gv := gv) (l := DL) (c := c)
    show 0 ≤ R2 c + zdl wd gv DL c
    omega
  · show (gc2 x).toInt = (gc x).toInt - 1; rw [e, zu_s]; exact ev
  · show (gc2 c).toInt = (gc c).toInt; rw [e, zu_n hc]
  · show 1 ≤ (gc2 x).toInt; rw [e, zu_s]; exact h1
/-- the last reference is let go: the cell goes ahead of the doomed -/
theorem zCS_die {wd : Nat → Nat} {gc gc2 : Nat → Int32} {gv : Nat → Int64} {fresh ff held dbl dm dm2 : Int32} {lv : Nat → Bool} {R R2 : Nat → Int} {FL DL : List Nat} (h : zCS wd gc gv fresh ff held dbl lv R FL DL dm) {x : Nat} (hR : ∀ c, R c = R2 c + if c = x then 1 else 0) (h2 : ∀ c, 0 ≤ R2 c) (h1 : (gc x).toInt ≤ 1) (e : gc2 = upd gc x dm) (em : dm2.toInt = (x : Int)) : zCS wd gc2 gv fresh ff held dbl (fun c => if c = x then false else lv c) R2 FL (x :: DL) dm2 := by
  have hx := zCS_lv h (x := x) (by have := hR x; rw [if_pos rfl] at this; have := h2 x; omega)
  obtain ⟨hI, h0, h4, hd, hR0, hf, hdm, hnd, hfl, hh, hg⟩ := h
  have hn := zn_nat h0
  have hxn : x ∉ FL ++ DL := fun g => by have := (hfl x g).2; rw [hx.1] at this; exact Bool.noConfusion this
  have hxF : x ∉ FL := fun g => hxn (List.mem_append.mpr (Or.inl g))
  have hxD : x ∉ DL := fun g => hxn (List.mem_append.mpr (Or.inr g))
  have hdie := zI_die zr_0 (lv2 := fun c => if c = x then false else lv c) (gc2 := fun c => (gc2 c).toInt) (x := x) (R2 := fun c => R2 c + zdl wd gv DL c) hI (fun c => by
      show R c + zdl wd gv DL c = R2 c + zdl wd gv DL c + if c = x then 1 else 0
      rw [hR c]; omega) (fun c => by
      have := h2 c
      have := zdl_0 (wd := wd) (gv := gv) (l := DL) (c := c)
      show 0 ≤ R2 c + zdl wd gv DL c
      omega) hx.1 h1 (if_pos rfl) (fun c hc => ⟨if_neg hc, by show (gc2 c).toInt = (gc c).toInt; rw [e, zu_n hc]⟩)
  refine ⟨?_, h0, h4, hd, h2, zli_off hf hxF e, ⟨em, ?_⟩, ?_, fun c hc => ?_, hh, fun d hd => ?_⟩
  · have e2 : (fun c => R2 c + zdl wd gv (x :: DL) c : Nat → Int) = (fun c => R2 c + zdl wd gv DL c + zcf zr wd gv x c) := by
      funext c
      show R2 c + (zcf zr wd gv x c + zdl wd gv DL c) = _
      omega
    rw [e2]; exact hdie
  · rw [show gc2 x = dm by rw [e, zu_s]]
    exact zli_off hdm hxD e
  · obtain ⟨n1, n2, n3⟩ := List.nodup_append.mp hnd
    refine List.nodup_append.mpr ⟨n1, List.nodup_cons.mpr ⟨hxD, n2⟩, fun a ha b hb => ?_⟩
    rcases List.mem_cons.mp hb with g | g
    · rw [g]; exact fun u => hxF (u ▸ ha)
    · exact n3 a ha b g
  · show c < _ ∧ (if c = x then false else lv c) = false
    by_cases g : c = x
    · rw [if_pos g, g]; exact ⟨by omega, rfl⟩
    · rw [if_neg g]
      refine hfl c (List.mem_append.mpr ?_)
      rcases List.mem_append.mp hc with u | u
      · exact Or.inl u
      · exact Or.inr ((List.mem_cons.mp u).resolve_left g)
  · refine hg d ?_
    by_cases g : d = x
    · rw [g]; exact Or.inl hx.1
    · rcases hd with u | u
      · have u : (if d = x then false else lv d) = true := u
        rw [if_neg g] at u; exact Or.inl u
      · exact Or.inr ((List.mem_cons.mp u).resolve_left g)
/-- a cell that nothing holds goes to the free ones -/
theorem zCS_free {wd : Nat → Nat} {gc gc2 : Nat → Int32} {gv : Nat → Int64} {fresh ff ff2 held held2 dbl dm : Int32} {lv : Nat → Bool} {R : Nat → Int} {FL DL : List Nat} (h : zCS wd gc gv fresh ff held dbl lv R FL DL dm) {x : Nat} (hx : lv x = false) (hxn : x ∉ FL ++ DL) (hxf : (x : Int) < fresh.toInt) (e : gc2 = upd gc x ff) (ef : ff2.toInt = (x : Int)) (eh : held2.toInt = held.toInt - 1) : zCS wd gc2 gv fresh ff2 held2 dbl lv R (x :: FL) DL dm := by
  obtain ⟨hI, h0, h4, hd, hR0, hf, hdm, hnd, hfl, hh, hg⟩ := h
  have hn := zn_nat h0
  have hxF : x ∉ FL := fun g => hxn (List.mem_append.mpr (Or.inl g))
  have hxD : x ∉ DL := fun g => hxn (List.mem_append.mpr (Or.inr g))
  have hlx : ∀ c, lv c = true → c ≠ x := fun c hc g => by rw [g, hx] at hc; exact Bool.noConfusion hc
  refine ⟨⟨fun c hc => ?_, hI.2.1, hI.2.2⟩, h0, h4, hd, hR0, ⟨ef, ?_⟩, zli_off hdm hxD e, ?_, fun c hc => ?_, ?_, hg⟩
  · have := hI.1 c hc
    have e1 : (gc2 c).toInt = (gc c).toInt := by rw [e, zu_n (hlx c hc)]
    show c < _ ∧ 1 ≤ (gc2 c).toInt ∧ (gc2 c).toInt ≤ _ ∧ _ ≤ (gc2 c).toInt
    rw [e1]; exact this
  · rw [show gc2 x = ff by rw [e, zu_s]]
    exact zli_off hf hxF e
  · exact List.nodup_cons.mpr ⟨hxn, hnd⟩
  · rcases List.mem_cons.mp hc with g | g
    · rw [g]; exact ⟨by omega, hx⟩
    · exact hfl c g
  · rw [List.length_cons]; omega

end
section
theorem wi_1148 : Cond.code yX1_isCell cX1_isCell 2 (some .boolean) ∈ zw := zw_in (List.mem_of_getElem? (i := 1148) (by decide +kernel)) (by decide +kernel)
theorem wi_1146 : Cond.methodLink RX1 78 yX1_isCell ∈ zw := zw_in (List.mem_of_getElem? (i := 1146) (by decide +kernel)) (by decide +kernel)
theorem wi_1147 : Cond.static yX1_isCell ∈ zw := zw_in (List.mem_of_getElem? (i := 1147) (by decide +kernel)) (by decide +kernel)
theorem wi_140 : Cond.initialized RX1 ∈ zw := zw_in (List.mem_of_getElem? (i := 140) (by decide +kernel)) (by decide +kernel)
theorem wi_436 : Cond.fieldLink RX1 49 "ReuseHouse$Cells" "count" "[I" ∈ zw := zw_in (List.mem_of_getElem? (i := 436) (by decide +kernel)) (by decide +kernel)
theorem dX1_copy_0 : decode cX1_copy 0 = .ok (.lload_n 1, 1) := by decide +kernel
theorem dX1_copy_1 : decode cX1_copy 1 = .ok (.invokestatic 78, 3) := by decide +kernel
theorem dX1_copy_4 : decode cX1_copy 4 = .ok (.ifCond .eq 24, 3) := by decide +kernel
theorem dX1_copy_7 : decode cX1_copy 7 = .ok (.aload_n 0, 1) := by decide +kernel
theorem dX1_copy_8 : decode cX1_copy 8 = .ok (.getfield 49, 3) := by decide +kernel
theorem dX1_copy_11 : decode cX1_copy 11 = .ok (.lload_n 1, 1) := by decide +kernel
theorem dX1_copy_12 : decode cX1_copy 12 = .ok (.l2i, 1) := by decide +kernel
theorem dX1_copy_13 : decode cX1_copy 13 = .ok (.dup2, 1) := by decide +kernel
theorem dX1_copy_14 : decode cX1_copy 14 = .ok (.iaload, 1) := by decide +kernel
theorem dX1_copy_15 : decode cX1_copy 15 = .ok (.iconst 1, 1) := by decide +kernel
theorem dX1_copy_16 : decode cX1_copy 16 = .ok (.iadd, 1) := by decide +kernel
theorem dX1_copy_17 : decode cX1_copy 17 = .ok (.iastore, 1) := by decide +kernel
theorem dX1_copy_18 : decode cX1_copy 18 = .ok (.aload_n 0, 1) := by decide +kernel
theorem dX1_copy_19 : decode cX1_copy 19 = .ok (.dup, 1) := by decide +kernel
theorem dX1_copy_20 : decode cX1_copy 20 = .ok (.getfield 36, 3) := by decide +kernel
theorem dX1_copy_23 : decode cX1_copy 23 = .ok (.iconst 1, 1) := by decide +kernel
theorem dX1_copy_24 : decode cX1_copy 24 = .ok (.iadd, 1) := by decide +kernel
theorem dX1_copy_25 : decode cX1_copy 25 = .ok (.putfield 36, 3) := by decide +kernel
theorem dX1_copy_28 : decode cX1_copy 28 = .ok (.return_, 1) := by decide +kernel
theorem zup_le {gc gc2 : Nat → Int32} {x : Nat} {v : Int32} (e : gc2 = upd gc x v) (h : (gc x).toInt ≤ v.toInt) (c : Nat) : (gc c).toInt ≤ (gc2 c).toInt := by
  rw [e]
  by_cases g : c = x
  · rw [g, zu_s]; exact h
  · rw [zu_n g]; exact Int.le_refl _
theorem zCS_R {wd : Nat → Nat} {gc : Nat → Int32} {gv : Nat → Int64} {fresh ff held dbl dm : Int32} {lv : Nat → Bool} {R R2 : Nat → Int} {FL DL : List Nat} (e : ∀ c, R2 c = R c) (h : zCS wd gc gv fresh ff held dbl lv R FL DL dm) : zCS wd gc gv fresh ff held dbl lv R2 FL DL dm := by
  have : R2 = R := funext e
  rw [this]; exact h

end
section
theorem dX1_lower_0 : decode cX1_lower 0 = .ok (.lload_n 1, 1) := by decide +kernel
theorem dX1_lower_1 : decode cX1_lower 1 = .ok (.invokestatic 78, 3) := by decide +kernel
theorem dX1_lower_4 : decode cX1_lower 4 = .ok (.ifCond .ne 5, 3) := by decide +kernel
theorem dX1_lower_7 : decode cX1_lower 7 = .ok (.iload_n 3, 1) := by decide +kernel
theorem dX1_lower_8 : decode cX1_lower 8 = .ok (.ireturn, 1) := by decide +kernel
theorem dX1_lower_9 : decode cX1_lower 9 = .ok (.lload_n 1, 1) := by decide +kernel
theorem dX1_lower_10 : decode cX1_lower 10 = .ok (.l2i, 1) := by decide +kernel
theorem dX1_lower_11 : decode cX1_lower 11 = .ok (.istore 4, 2) := by decide +kernel
theorem dX1_lower_13 : decode cX1_lower 13 = .ok (.aload_n 0, 1) := by decide +kernel
theorem dX1_lower_14 : decode cX1_lower 14 = .ok (.getfield 49, 3) := by decide +kernel
theorem dX1_lower_17 : decode cX1_lower 17 = .ok (.iload 4, 2) := by decide +kernel
theorem dX1_lower_19 : decode cX1_lower 19 = .ok (.dup2, 1) := by decide +kernel
theorem dX1_lower_20 : decode cX1_lower 20 = .ok (.iaload, 1) := by decide +kernel
theorem dX1_lower_21 : decode cX1_lower 21 = .ok (.iconst 1, 1) := by decide +kernel
theorem dX1_lower_22 : decode cX1_lower 22 = .ok (.isub, 1) := by decide +kernel
theorem dX1_lower_23 : decode cX1_lower 23 = .ok (.iastore, 1) := by decide +kernel
theorem dX1_lower_24 : decode cX1_lower 24 = .ok (.aload_n 0, 1) := by decide +kernel
theorem dX1_lower_25 : decode cX1_lower 25 = .ok (.getfield 49, 3) := by decide +kernel
theorem dX1_lower_28 : decode cX1_lower 28 = .ok (.iload 4, 2) := by decide +kernel
theorem dX1_lower_30 : decode cX1_lower 30 = .ok (.iaload, 1) := by decide +kernel
theorem dX1_lower_31 : decode cX1_lower 31 = .ok (.ifCond .le 5, 3) := by decide +kernel
theorem dX1_lower_34 : decode cX1_lower 34 = .ok (.iload_n 3, 1) := by decide +kernel
theorem dX1_lower_35 : decode cX1_lower 35 = .ok (.ireturn, 1) := by decide +kernel
theorem dX1_lower_36 : decode cX1_lower 36 = .ok (.aload_n 0, 1) := by decide +kernel
theorem dX1_lower_37 : decode cX1_lower 37 = .ok (.getfield 49, 3) := by decide +kernel
theorem dX1_lower_40 : decode cX1_lower 40 = .ok (.iload 4, 2) := by decide +kernel
theorem dX1_lower_42 : decode cX1_lower 42 = .ok (.iload_n 3, 1) := by decide +kernel
theorem dX1_lower_43 : decode cX1_lower 43 = .ok (.iastore, 1) := by decide +kernel
theorem dX1_lower_44 : decode cX1_lower 44 = .ok (.iload 4, 2) := by decide +kernel
theorem dX1_lower_46 : decode cX1_lower 46 = .ok (.ireturn, 1) := by decide +kernel
theorem zlv_if {lv : Nat → Bool} {x c : Nat} (h : (if c = x then false else lv c) = true) : lv c = true := by
  by_cases g : c = x
  · rw [if_pos g] at h; exact Bool.noConfusion h
  · rw [if_neg g] at h; exact h

end
section
theorem zlen : ∀ (n : Nat) {L : List Nat}, L.Nodup → (∀ x ∈ L, x < n) → L.length ≤ n
  | 0, [], _, _ => Nat.le_refl _
  | 0, x :: l, _, h => absurd (h x List.mem_cons_self) (by omega)
  | n + 1, L, hn, h => by
    by_cases g : n ∈ L
    · have := zlen n (L := L.erase n) (hn.erase n) (fun x hx => by
        have u := (hn.mem_erase_iff).mp hx
        have := h x u.2
        have := u.1
        omega)
      rw [List.length_erase_of_mem g] at this
      omega
    · exact Nat.le_succ_of_le (zlen n hn (fun x hx => by
        have := h x hx
        have : x ≠ n := fun e => g (e ▸ hx)
        omega))
theorem zCS_held {wd : Nat → Nat} {gc : Nat → Int32} {gv : Nat → Int64} {fresh ff held dbl dm : Int32} {lv : Nat → Bool} {R : Nat → Int} {FL DL : List Nat} (h : zCS wd gc gv fresh ff held dbl lv R FL DL dm) : 0 ≤ held.toInt ∧ held.toInt ≤ 400 ∧ 0 ≤ fresh.toInt ∧ fresh.toInt ≤ 400 := by
  obtain ⟨hI, h0, h4, hd, hR0, hf, hdm, hnd, hfl, hh, hg⟩ := h
  have hn := zn_nat h0
  have := zlen (Int32.toNatClampNeg fresh) (List.nodup_append.mp hnd).1 (fun x hx => (hfl x (List.mem_append.mpr (Or.inl hx))).1)
  omega
/-- the first free cell is taken -/
theorem zCS_take1 {wd : Nat → Nat} {gc : Nat → Int32} {gv : Nat → Int64} {fresh ff ff2 held held2 dbl dm : Int32} {lv : Nat → Bool} {R : Nat → Int} {FL DL : List Nat} (h : zCS wd gc gv fresh ff held dbl lv R FL DL dm) (hne : ff.toInt ≠ -1) (ef : ff2 = gc (Int32.toNatClampNeg ff)) (eh : held2.toInt = held.toInt + 1) : 0 ≤ ff.toInt ∧ ff.toInt < fresh.toInt ∧ lv (Int32.toNatClampNeg ff) = false ∧ ∃ FL2, zCS wd gc gv fresh ff2 held2 dbl lv R FL2 DL dm ∧ Int32.toNatClampNeg ff ∉ FL2 ++ DL ∧ (∀ c ∈ FL2, c ∈ FL) ∧ Int32.toNatClampNeg ff ∈ FL := by
  obtain ⟨hI, h0, h4, hd, hR0, hf, hdm, hnd, hfl, hh, hg⟩ := h
  have hn := zn_nat h0
  cases FL with
  | nil => exact (hne hf).elim
  | cons y FL =>
    have h1 : ff.toInt = (y : Int) := hf.1
    have hy := zn_nat (x := ff) (by omega)
    have e : Int32.toNatClampNeg ff = y := by omega
    have hm := hfl y List.mem_cons_self
    rw [e]
    have hnd2 : (y :: (FL ++ DL)).Nodup := hnd
    refine ⟨by omega, by omega, hm.2, FL, ⟨hI, h0, h4, hd, hR0, by rw [ef, e]; exact hf.2, hdm, (List.nodup_cons.mp hnd2).2, fun c hc => hfl c (List.mem_cons_of_mem _ hc), ?_, hg⟩, (List.nodup_cons.mp hnd2).1, fun c hc => List.mem_cons_of_mem _ hc, List.mem_cons_self⟩
    rw [List.length_cons] at hh
    omega
/-- a cell that was never used is taken -/
theorem zCS_take2 {wd : Nat → Nat} {gc : Nat → Int32} {gv : Nat → Int64} {fresh fresh2 ff held held2 dbl dm : Int32} {lv : Nat → Bool} {R : Nat → Int} {FL DL : List Nat} (h : zCS wd gc gv fresh ff held dbl lv R FL DL dm) (hne : ff.toInt = -1) (hl : held.toInt < 400) (ef : fresh2.toInt = fresh.toInt + 1) (eh : held2.toInt = held.toInt + 1) : fresh.toInt < 400 ∧ lv (Int32.toNatClampNeg fresh) = false ∧ FL = [] ∧ zCS wd gc gv fresh2 ff held2 dbl lv R [] DL dm ∧ Int32.toNatClampNeg fresh ∉ DL := by
  obtain ⟨hI, h0, h4, hd, hR0, hf, hdm, hnd, hfl, hh, hg⟩ := h
  have hn := zn_nat h0
  have hn2 := zn_nat (x := fresh2) (by omega)
  have e : Int32.toNatClampNeg fresh2 = Int32.toNatClampNeg fresh + 1 := by omega
  cases FL with
  | cons y FL => have h1 : ff.toInt = (y : Int) := hf.1; omega
  | nil =>
    have hlv : lv (Int32.toNatClampNeg fresh) = false := by
      cases g : lv (Int32.toNatClampNeg fresh) with
      | false => rfl
      | true => have := (hI.1 _ g).1; omega
    have hh : held.toInt + ((0 : Nat) : Int) = fresh.toInt := hh
    refine ⟨by omega, hlv, rfl, ⟨by rw [e]; exact zI_grow hI hlv, by omega, by omega, hd, hR0, hf, hdm, hnd, fun c hc => ⟨by have := (hfl c hc).1; omega, (hfl c hc).2⟩, by show held2.toInt + ((0 : Nat) : Int) = _; omega, hg⟩, fun g => by have := (hfl _ (List.mem_append.mpr (Or.inr g))).1; omega⟩

end
section
theorem wi_430 : Cond.methodLink RX1 39 Lib.Math.max.name ∈ zw := zw_in (List.mem_of_getElem? (i := 430) (by decide +kernel)) (by decide +kernel)
theorem dX1_free_0 : decode cX1_free 0 = .ok (.aload_n 0, 1) := by decide +kernel
theorem dX1_free_1 : decode cX1_free 1 = .ok (.getfield 49, 3) := by decide +kernel
theorem dX1_free_4 : decode cX1_free 4 = .ok (.iload_n 1, 1) := by decide +kernel
theorem dX1_free_5 : decode cX1_free 5 = .ok (.aload_n 0, 1) := by decide +kernel
theorem dX1_free_6 : decode cX1_free 6 = .ok (.getfield 18, 3) := by decide +kernel
theorem dX1_free_9 : decode cX1_free 9 = .ok (.iastore, 1) := by decide +kernel
theorem dX1_free_10 : decode cX1_free 10 = .ok (.aload_n 0, 1) := by decide +kernel
theorem dX1_free_11 : decode cX1_free 11 = .ok (.iload_n 1, 1) := by decide +kernel
theorem dX1_free_12 : decode cX1_free 12 = .ok (.putfield 18, 3) := by decide +kernel
theorem dX1_free_15 : decode cX1_free 15 = .ok (.aload_n 0, 1) := by decide +kernel
theorem dX1_free_16 : decode cX1_free 16 = .ok (.dup, 1) := by decide +kernel
theorem dX1_free_17 : decode cX1_free 17 = .ok (.getfield 21, 3) := by decide +kernel
theorem dX1_free_20 : decode cX1_free 20 = .ok (.iconst 1, 1) := by decide +kernel
theorem dX1_free_21 : decode cX1_free 21 = .ok (.isub, 1) := by decide +kernel
theorem dX1_free_22 : decode cX1_free 22 = .ok (.putfield 21, 3) := by decide +kernel
theorem dX1_free_25 : decode cX1_free 25 = .ok (.aload_n 0, 1) := by decide +kernel
theorem dX1_free_26 : decode cX1_free 26 = .ok (.dup, 1) := by decide +kernel
theorem dX1_free_27 : decode cX1_free 27 = .ok (.getfield 33, 3) := by decide +kernel
theorem dX1_free_30 : decode cX1_free 30 = .ok (.iconst 1, 1) := by decide +kernel
theorem dX1_free_31 : decode cX1_free 31 = .ok (.iadd, 1) := by decide +kernel
theorem dX1_free_32 : decode cX1_free 32 = .ok (.putfield 33, 3) := by decide +kernel
theorem dX1_free_35 : decode cX1_free 35 = .ok (.return_, 1) := by decide +kernel
theorem dX1_take_0 : decode cX1_take 0 = .ok (.aload_n 0, 1) := by decide +kernel
theorem dX1_take_1 : decode cX1_take 1 = .ok (.getfield 21, 3) := by decide +kernel
theorem dX1_take_4 : decode cX1_take 4 = .ok (.aload_n 0, 1) := by decide +kernel
theorem dX1_take_5 : decode cX1_take 5 = .ok (.getfield 9, 3) := by decide +kernel
theorem dX1_take_8 : decode cX1_take 8 = .ok (.if_icmp .lt 5, 3) := by decide +kernel
theorem dX1_take_11 : decode cX1_take 11 = .ok (.iconst (-1), 1) := by decide +kernel
theorem dX1_take_12 : decode cX1_take 12 = .ok (.ireturn, 1) := by decide +kernel
theorem dX1_take_13 : decode cX1_take 13 = .ok (.aload_n 0, 1) := by decide +kernel
theorem dX1_take_14 : decode cX1_take 14 = .ok (.getfield 18, 3) := by decide +kernel
theorem dX1_take_17 : decode cX1_take 17 = .ok (.istore_n 1, 1) := by decide +kernel
theorem dX1_take_18 : decode cX1_take 18 = .ok (.iload_n 1, 1) := by decide +kernel
theorem dX1_take_19 : decode cX1_take 19 = .ok (.iconst (-1), 1) := by decide +kernel
theorem dX1_take_20 : decode cX1_take 20 = .ok (.if_icmp .ne 21, 3) := by decide +kernel
theorem dX1_take_23 : decode cX1_take 23 = .ok (.aload_n 0, 1) := by decide +kernel
theorem dX1_take_24 : decode cX1_take 24 = .ok (.getfield 15, 3) := by decide +kernel
theorem dX1_take_27 : decode cX1_take 27 = .ok (.istore_n 1, 1) := by decide +kernel
theorem dX1_take_28 : decode cX1_take 28 = .ok (.aload_n 0, 1) := by decide +kernel
theorem dX1_take_29 : decode cX1_take 29 = .ok (.dup, 1) := by decide +kernel
theorem dX1_take_30 : decode cX1_take 30 = .ok (.getfield 15, 3) := by decide +kernel
theorem dX1_take_33 : decode cX1_take 33 = .ok (.iconst 1, 1) := by decide +kernel
theorem dX1_take_34 : decode cX1_take 34 = .ok (.iadd, 1) := by decide +kernel
theorem dX1_take_35 : decode cX1_take 35 = .ok (.putfield 15, 3) := by decide +kernel
theorem dX1_take_38 : decode cX1_take 38 = .ok (.goto 13, 3) := by decide +kernel
theorem dX1_take_41 : decode cX1_take 41 = .ok (.aload_n 0, 1) := by decide +kernel
theorem dX1_take_42 : decode cX1_take 42 = .ok (.aload_n 0, 1) := by decide +kernel
theorem dX1_take_43 : decode cX1_take 43 = .ok (.getfield 49, 3) := by decide +kernel
theorem dX1_take_46 : decode cX1_take 46 = .ok (.iload_n 1, 1) := by decide +kernel
theorem dX1_take_47 : decode cX1_take 47 = .ok (.iaload, 1) := by decide +kernel
theorem dX1_take_48 : decode cX1_take 48 = .ok (.putfield 18, 3) := by decide +kernel
theorem dX1_take_51 : decode cX1_take 51 = .ok (.aload_n 0, 1) := by decide +kernel
theorem dX1_take_52 : decode cX1_take 52 = .ok (.dup, 1) := by decide +kernel
theorem dX1_take_53 : decode cX1_take 53 = .ok (.getfield 27, 3) := by decide +kernel
theorem dX1_take_56 : decode cX1_take 56 = .ok (.iconst 1, 1) := by decide +kernel
theorem dX1_take_57 : decode cX1_take 57 = .ok (.iadd, 1) := by decide +kernel
theorem dX1_take_58 : decode cX1_take 58 = .ok (.putfield 27, 3) := by decide +kernel
theorem dX1_take_61 : decode cX1_take 61 = .ok (.aload_n 0, 1) := by decide +kernel
theorem dX1_take_62 : decode cX1_take 62 = .ok (.dup, 1) := by decide +kernel
theorem dX1_take_63 : decode cX1_take 63 = .ok (.getfield 21, 3) := by decide +kernel
theorem dX1_take_66 : decode cX1_take 66 = .ok (.iconst 1, 1) := by decide +kernel
theorem dX1_take_67 : decode cX1_take 67 = .ok (.iadd, 1) := by decide +kernel
theorem dX1_take_68 : decode cX1_take 68 = .ok (.putfield 21, 3) := by decide +kernel
theorem dX1_take_71 : decode cX1_take 71 = .ok (.aload_n 0, 1) := by decide +kernel
theorem dX1_take_72 : decode cX1_take 72 = .ok (.aload_n 0, 1) := by decide +kernel
theorem dX1_take_73 : decode cX1_take 73 = .ok (.getfield 24, 3) := by decide +kernel
theorem dX1_take_76 : decode cX1_take 76 = .ok (.aload_n 0, 1) := by decide +kernel
theorem dX1_take_77 : decode cX1_take 77 = .ok (.getfield 21, 3) := by decide +kernel
theorem dX1_take_80 : decode cX1_take 80 = .ok (.invokestatic 39, 3) := by decide +kernel
theorem dX1_take_83 : decode cX1_take 83 = .ok (.putfield 24, 3) := by decide +kernel
theorem dX1_take_86 : decode cX1_take 86 = .ok (.iload_n 1, 1) := by decide +kernel
theorem dX1_take_87 : decode cX1_take 87 = .ok (.ireturn, 1) := by decide +kernel
set_option maxHeartbeats 4000000 in
set_option maxRecDepth 100000 in
theorem c_X1_take_x4000 (l : Launch) (dC : Nat → ClassId) (dI : Nat → Nat → Nat) (aK aV : Nat → Nat) (h0 : Nat) (ek : Nat) (ec : Nat) (ef : Nat) (cki : Nat) (e1 : ClassId) (e2 : ClassId) (e3 : ClassId) (e_limit : Int32) (e_fresh : Int32) (e_firstFree : Int32) (e_held : Int32) (e_mostHeld : Int32) (e_made : Int32) (e_reused : Int32) (e_freed : Int32) (e_doubled : Int32) (gk : Nat → Int32) (gc : Nat → Int32) (gv : Nat → Int64) (sz : Nat) (hff : e_firstFree.toInt = -1) (hhe : e_held.toInt = e_fresh.toInt) (hfr : 0 ≤ e_fresh.toInt) (hli : e_limit.toInt ≤ 4000) : Met l yX1_take (Cond.code yX1_take cX1_take 2 (some .int) :: zw) ({ frames := 8, cells := 0, slots := 0, locals := 200 }) (va_Pc [.ref h0] (zP dC dI aK aV sz [(e1, .int), (e2, .int), (e3, .long)] [(h0, .inr (1, [.ref ek, .ref ec, .ref ef, .ref cki, .int e_limit, .int e_fresh, .int e_firstFree, .int e_held, .int e_mostHeld, .int e_made, .int e_reused, .int e_freed, .int e_doubled])), (ek, .inl (e1, 4000, .inl gk)), (ec, .inl (e2, 4000, .inl gc)), (ef, .inl (e3, 12000, .inr (.inl gv)))])) (va_Qi (fun (r : Int32) (u : Int32 × Int32 × Int32 × Int32 × Int32) => match u with | (fr2, ff2, he2, mh2, md2) => (r.toInt = -1 ∧ fr2.toInt = e_fresh.toInt ∧ e_limit.toInt ≤ e_fresh.toInt ∨ r.toInt = e_fresh.toInt ∧ r.toInt < 4000 ∧ fr2.toInt = e_fresh.toInt + 1) ∧ (ff2.toInt = -1) ∧ (he2.toInt = fr2.toInt)) (fun u => match u with | (fr2, ff2, he2, mh2, md2) => zQ dC dI (va_A [(h0, .inr (1, [.ref ek, .ref ec, .ref ef, .ref cki, .int e_limit, .int e_fresh, .int e_firstFree, .int e_held, .int e_mostHeld, .int e_made, .int e_reused, .int e_freed, .int e_doubled])), (ek, .inl (e1, 4000, .inl gk)), (ec, .inl (e2, 4000, .inl gc)), (ef, .inl (e3, 12000, .inr (.inl gv)))] sz) [(e1, .int), (e2, .int), (e3, .long)] [(h0, .inr (1, [.ref ek, .ref ec, .ref ef, .ref cki, .int e_limit, .int fr2, .int ff2, .int he2, .int mh2, .int md2, .int e_reused, .int e_freed, .int e_doubled])), (ek, .inl (e1, 4000, .inl gk)), (ec, .inl (e2, 4000, .inl gc)), (ef, .inl (e3, 12000, .inr (.inl gv)))]) (va_A [(h0, .inr (1, [.ref ek, .ref ec, .ref ef, .ref cki, .int e_limit, .int e_fresh, .int e_firstFree, .int e_held, .int e_mostHeld, .int e_made, .int e_reused, .int e_freed, .int e_doubled])), (ek, .inl (e1, 4000, .inl gk)), (ec, .inl (e2, 4000, .inl gc)), (ef, .inl (e3, 12000, .inr (.inl gv)))] sz)) 0 0 (va_A [(h0, .inr (1, [.ref ek, .ref ec, .ref ef, .ref cki, .int e_limit, .int e_fresh, .int e_firstFree, .int e_held, .int e_mostHeld, .int e_made, .int e_reused, .int e_freed, .int e_doubled])), (ek, .inl (e1, 4000, .inl gk)), (ec, .inl (e2, 4000, .inl gc)), (ef, .inl (e3, 12000, .inr (.inl gv)))] sz) := by
  refine Met.ofW (cc := cX1_take) (maxL := 2) (ret := (some .int)) (by decide) rfl ?_
  intro p e s m args below meth c s₁ B hml hv
  obtain ⟨rfl, hsz, hP, hK, hD0, hN, hT⟩ := hv
  have hx := B.exec
  have hb := B.bytes
  have hr := B.returns
  have hts := atoms_spec (ws := Cond.code yX1_take cX1_take 2 (some .int) :: zw) B.pre
  have hA : ∀ w ∈ zw, w.before _ s = true := fun w h => hts w (List.mem_cons_of_mem _ h)
  have hown : s.vm.findClass RX1 = some m.cls := findClass_of_methodNamed B.named
  have hlocks := B.notSynchronized
  subst hsz
  have hD := hD0.self (sz := s.heap.size)
  generalize hAe : va_A [(h0, .inr (1, [.ref ek, .ref ec, .ref ef, .ref cki, .int e_limit, .int e_fresh, .int e_firstFree, .int e_held, .int e_mostHeld, .int e_made, .int e_reused, .int e_freed, .int e_doubled])), (ek, .inl (e1, 4000, .inl gk)), (ec, .inl (e2, 4000, .inl gc)), (ef, .inl (e3, 12000, .inr (.inl gv)))] s.heap.size = A at hD hT ⊢
  have hAA : ∀ q : Nat, s.heap.size ≤ q → A q := fun q h => by rw [← hAe]; exact Or.inr h
  have hS : va_S A s.heap s.heap [] := va_S.rf
  have hl := lv_entry ([.ref h0]) (n := 2) (Nat.le_of_ble_eq_true rfl)
  rw [lg_entry_eq]
  generalize (lg_sl ([.ref h0]) ++ List.replicate (2 - (lg_sl ([.ref h0])).length) Slot.unset).toArray = ls at hl ⊢
  have hl : lv_has ls 2 [(0, .ref h0)] := hl
  refine lv_aload_n hx hb dX1_take_0 rfl (lv_at hl 0 rfl) ?_
  refine va_get (D := (dC, dI)) (ci := 1) (v := .int e_held) (C := RX1) (T := TX1) (N := 13) hx hb hA zin_X1 hown hK hP 0 rfl rfl 7 (by decide) (hA _ wi_444) (fun _ h9 => h9) rfl dX1_take_1 ?_
  refine lv_aload_n hx hb dX1_take_4 rfl (lv_at hl 0 rfl) ?_
  refine va_get (D := (dC, dI)) (ci := 1) (v := .int e_limit) (C := RX1) (T := TX1) (N := 13) hx hb hA zin_X1 hown hK hP 0 rfl rfl 4 (by decide) (hA _ wi_441) (fun _ h9 => h9) rfl dX1_take_5 ?_
  refine lv_icmp_lt (tgt := 13) hx hb dX1_take_8 (by decide) (fun c_1 => ?_) (fun c_1 => ?_)
  · have ic_1 : e_held.toInt < e_limit.toInt := zi_lt c_1
    refine lv_aload_n hx hb dX1_take_13 rfl (lv_at hl 0 rfl) ?_
    refine va_get (D := (dC, dI)) (ci := 1) (v := .int e_firstFree) (C := RX1) (T := TX1) (N := 13) hx hb hA zin_X1 hown hK hP 0 rfl rfl 6 (by decide) (hA _ wi_443) (fun _ h9 => h9) rfl dX1_take_14 ?_
    refine lv_istore_n (lv' := [(1, .int e_firstFree), (0, .ref h0)]) hx hb dX1_take_17 rfl hl (by decide) rfl (fun ls hl => ?_)
    refine lv_iload_n hx hb dX1_take_18 rfl (lv_at hl 0 rfl) ?_
    refine lv_iconst (v := (-1)) hx hb dX1_take_19 (by decide) ?_
    refine lv_icmp_ne (tgt := 41) hx hb dX1_take_20 (by decide) (fun c_2 => ?_) (fun c_2 => ?_)
    · have ic_2 : e_firstFree.toInt ≠ (-1) := zi_ne c_2
      exfalso
      omega
    · have ic_2 : e_firstFree.toInt = (-1) := zi_eq c_2
      refine lv_aload_n hx hb dX1_take_23 rfl (lv_at hl 1 rfl) ?_
      refine va_get (D := (dC, dI)) (ci := 1) (v := .int e_fresh) (C := RX1) (T := TX1) (N := 13) hx hb hA zin_X1 hown hK hP 0 rfl rfl 5 (by decide) (hA _ wi_442) (fun _ h9 => h9) rfl dX1_take_24 ?_
      refine lv_istore_n (lv' := [(1, .int e_fresh), (0, .ref h0)]) hx hb dX1_take_27 rfl hl (by decide) rfl (fun ls hl => ?_)
      refine lv_aload_n hx hb dX1_take_28 rfl (lv_at hl 1 rfl) ?_
      refine lv_dup hx hb dX1_take_29 rfl ?_
      refine va_get (D := (dC, dI)) (ci := 1) (v := .int e_fresh) (C := RX1) (T := TX1) (N := 13) hx hb hA zin_X1 hown hK hP 0 rfl rfl 5 (by decide) (hA _ wi_442) (fun _ h9 => h9) rfl dX1_take_30 ?_
      refine lv_iconst (v := 1) hx hb dX1_take_33 (by decide) ?_
      refine lv_iadd hx hb dX1_take_34 ?_
      refine lv_topi (fun x_3 ex_3 => ?_)
      have ix_3 : x_3.toInt = e_fresh.toInt + 1 := by rw [ex_3]; exact zi_addc (by decide) (by omega) (by omega)
      refine va_put (D := (dC, dI)) (ci := 1) (v := .int x_3) (ty := .int) (C := RX1) (T := TX1) (N := 13) hx hb hA zin_X1 tyX1 tyX1_ok nmX1 hown hK hP hD hS 0 rfl rfl 5 (by decide) (hA _ wi_442) (fun _ h9 => h9) rfl (by decide +kernel) rfl rfl (Nat.le_of_ble_eq_true rfl) dX1_take_35 (fun H locs hP hD hS => ?_)
      have hP : va_P (dC, dI) vwCl [(h0, .inr (1, [.ref ek, .ref ec, .ref ef, .ref cki, .int e_limit, .int x_3, .int e_firstFree, .int e_held, .int e_mostHeld, .int e_made, .int e_reused, .int e_freed, .int e_doubled])), (ek, .inl (e1, 4000, .inl gk)), (ec, .inl (e2, 4000, .inl gc)), (ef, .inl (e3, 12000, .inr (.inl gv)))] H := hP
      have hD : va_D A [(h0, .inr (1, [.ref ek, .ref ec, .ref ef, .ref cki, .int e_limit, .int x_3, .int e_firstFree, .int e_held, .int e_mostHeld, .int e_made, .int e_reused, .int e_freed, .int e_doubled])), (ek, .inl (e1, 4000, .inl gk)), (ec, .inl (e2, 4000, .inl gc)), (ef, .inl (e3, 12000, .inr (.inl gv)))] := hD
      refine lv_goto (tgt := 51) hx hb dX1_take_38 (by decide) ?_
      refine lv_aload_n hx hb dX1_take_51 rfl (lv_at hl 1 rfl) ?_
      refine lv_dup hx hb dX1_take_52 rfl ?_
      refine va_get (D := (dC, dI)) (ci := 1) (v := .int e_made) (C := RX1) (T := TX1) (N := 13) hx hb hA zin_X1 hown hK hP 0 rfl rfl 9 (by decide) (hA _ wi_448) (fun _ h9 => h9) rfl dX1_take_53 ?_
      refine lv_iconst (v := 1) hx hb dX1_take_56 (by decide) ?_
      refine lv_iadd hx hb dX1_take_57 ?_
      refine lv_topi (fun x_4 ex_4 => ?_)
      refine va_put (D := (dC, dI)) (ci := 1) (v := .int x_4) (ty := .int) (C := RX1) (T := TX1) (N := 13) hx hb hA zin_X1 tyX1 tyX1_ok nmX1 hown hK hP hD hS 0 rfl rfl 9 (by decide) (hA _ wi_448) (fun _ h9 => h9) rfl (by decide +kernel) rfl rfl (Nat.le_of_ble_eq_true rfl) dX1_take_58 (fun H locs hP hD hS => ?_)
      have hP : va_P (dC, dI) vwCl [(h0, .inr (1, [.ref ek, .ref ec, .ref ef, .ref cki, .int e_limit, .int x_3, .int e_firstFree, .int e_held, .int e_mostHeld, .int x_4, .int e_reused, .int e_freed, .int e_doubled])), (ek, .inl (e1, 4000, .inl gk)), (ec, .inl (e2, 4000, .inl gc)), (ef, .inl (e3, 12000, .inr (.inl gv)))] H := hP
      have hD : va_D A [(h0, .inr (1, [.ref ek, .ref ec, .ref ef, .ref cki, .int e_limit, .int x_3, .int e_firstFree, .int e_held, .int e_mostHeld, .int x_4, .int e_reused, .int e_freed, .int e_doubled])), (ek, .inl (e1, 4000, .inl gk)), (ec, .inl (e2, 4000, .inl gc)), (ef, .inl (e3, 12000, .inr (.inl gv)))] := hD
      refine lv_aload_n hx hb dX1_take_61 rfl (lv_at hl 1 rfl) ?_
      refine lv_dup hx hb dX1_take_62 rfl ?_
      refine va_get (D := (dC, dI)) (ci := 1) (v := .int e_held) (C := RX1) (T := TX1) (N := 13) hx hb hA zin_X1 hown hK hP 0 rfl rfl 7 (by decide) (hA _ wi_444) (fun _ h9 => h9) rfl dX1_take_63 ?_
      refine lv_iconst (v := 1) hx hb dX1_take_66 (by decide) ?_
      refine lv_iadd hx hb dX1_take_67 ?_
      refine lv_topi (fun x_5 ex_5 => ?_)
      have ix_5 : x_5.toInt = e_held.toInt + 1 := by rw [ex_5]; exact zi_addc (by decide) (by omega) (by omega)
      refine va_put (D := (dC, dI)) (ci := 1) (v := .int x_5) (ty := .int) (C := RX1) (T := TX1) (N := 13) hx hb hA zin_X1 tyX1 tyX1_ok nmX1 hown hK hP hD hS 0 rfl rfl 7 (by decide) (hA _ wi_444) (fun _ h9 => h9) rfl (by decide +kernel) rfl rfl (Nat.le_of_ble_eq_true rfl) dX1_take_68 (fun H locs hP hD hS => ?_)
      have hP : va_P (dC, dI) vwCl [(h0, .inr (1, [.ref ek, .ref ec, .ref ef, .ref cki, .int e_limit, .int x_3, .int e_firstFree, .int x_5, .int e_mostHeld, .int x_4, .int e_reused, .int e_freed, .int e_doubled])), (ek, .inl (e1, 4000, .inl gk)), (ec, .inl (e2, 4000, .inl gc)), (ef, .inl (e3, 12000, .inr (.inl gv)))] H := hP
      have hD : va_D A [(h0, .inr (1, [.ref ek, .ref ec, .ref ef, .ref cki, .int e_limit, .int x_3, .int e_firstFree, .int x_5, .int e_mostHeld, .int x_4, .int e_reused, .int e_freed, .int e_doubled])), (ek, .inl (e1, 4000, .inl gk)), (ec, .inl (e2, 4000, .inl gc)), (ef, .inl (e3, 12000, .inr (.inl gv)))] := hD
      refine lv_aload_n hx hb dX1_take_71 rfl (lv_at hl 1 rfl) ?_
      refine lv_aload_n hx hb dX1_take_72 rfl (lv_at hl 1 rfl) ?_
      refine va_get (D := (dC, dI)) (ci := 1) (v := .int e_mostHeld) (C := RX1) (T := TX1) (N := 13) hx hb hA zin_X1 hown hK hP 0 rfl rfl 8 (by decide) (hA _ wi_446) (fun _ h9 => h9) rfl dX1_take_73 ?_
      refine lv_aload_n hx hb dX1_take_76 rfl (lv_at hl 1 rfl) ?_
      refine va_get (D := (dC, dI)) (ci := 1) (v := .int x_5) (C := RX1) (T := TX1) (N := 13) hx hb hA zin_X1 hown hK hP 0 rfl rfl 7 (by decide) (hA _ wi_444) (fun _ h9 => h9) rfl dX1_take_77 ?_
      refine va_mmax hx hb (by rw [hml]; exact hl.1.symm) hown (hA _ wi_430) (hA _ wi_431) (hA _ wi_141) (hA _ wi_432) (Nat.le_of_ble_eq_true rfl) (Nat.le_of_ble_eq_true rfl) (Nat.le_of_ble_eq_true rfl) (Nat.le_of_ble_eq_true rfl) dX1_take_80 ?_
      refine lv_topi (fun x_6 ex_6 => ?_)
      have ix_6 : x_6.toInt ≥ e_mostHeld.toInt ∧ x_6.toInt ≥ x_5.toInt ∧ (x_6.toInt = e_mostHeld.toInt ∨ x_6.toInt = x_5.toInt) := zi_max ex_6 rfl rfl
      refine va_put (D := (dC, dI)) (ci := 1) (v := .int x_6) (ty := .int) (C := RX1) (T := TX1) (N := 13) hx hb hA zin_X1 tyX1 tyX1_ok nmX1 hown hK hP hD hS 0 rfl rfl 8 (by decide) (hA _ wi_446) (fun _ h9 => h9) rfl (by decide +kernel) rfl rfl (Nat.le_of_ble_eq_true rfl) dX1_take_83 (fun H locs hP hD hS => ?_)
      have hP : va_P (dC, dI) vwCl [(h0, .inr (1, [.ref ek, .ref ec, .ref ef, .ref cki, .int e_limit, .int x_3, .int e_firstFree, .int x_5, .int x_6, .int x_4, .int e_reused, .int e_freed, .int e_doubled])), (ek, .inl (e1, 4000, .inl gk)), (ec, .inl (e2, 4000, .inl gc)), (ef, .inl (e3, 12000, .inr (.inl gv)))] H := hP
      have hD : va_D A [(h0, .inr (1, [.ref ek, .ref ec, .ref ef, .ref cki, .int e_limit, .int x_3, .int e_firstFree, .int x_5, .int x_6, .int x_4, .int e_reused, .int e_freed, .int e_doubled])), (ek, .inl (e1, 4000, .inl gk)), (ec, .inl (e2, 4000, .inl gc)), (ef, .inl (e3, 12000, .inr (.inl gv)))] := hD
      refine lv_iload_n hx hb dX1_take_86 rfl (lv_at hl 0 rfl) ?_
      have hP9 := hP.sub (ws' := [(h0, .inr (1, [.ref ek, .ref ec, .ref ef, .ref cki, .int e_limit, .int x_3, .int e_firstFree, .int x_5, .int x_6, .int x_4, .int e_reused, .int e_freed, .int e_doubled])), (ek, .inl (e1, 4000, .inl gk)), (ec, .inl (e2, 4000, .inl gc)), (ef, .inl (e3, 12000, .inr (.inl gv)))]) [0, 1, 2, 3] rfl
      have hD9 := hD.sub (ws' := [(h0, .inr (1, [.ref ek, .ref ec, .ref ef, .ref cki, .int e_limit, .int x_3, .int e_firstFree, .int x_5, .int x_6, .int x_4, .int e_reused, .int e_freed, .int e_doubled])), (ek, .inl (e1, 4000, .inl gk)), (ec, .inl (e2, 4000, .inl gc)), (ef, .inl (e3, 12000, .inr (.inl gv)))]) [0, 1, 2, 3] (by decide) rfl
      have hK9 := hK.sub (tys' := [(e1, .int), (e2, .int), (e3, .long)]) [0, 1, 2] rfl
      exact W.iret (v := e_fresh) hx hb hr (fun t ht hW => ⟨⟨e_fresh, (x_3, e_firstFree, x_5, x_6, x_4), rfl, ⟨by omega, by omega, by omega⟩, by rw [ht]; exact hP9, va_K.moved hW.alike hK9, hD9⟩, hS.F ht⟩) hS.2.2 dX1_take_87
  · have ic_1 : e_limit.toInt ≤ e_held.toInt := zi_nlt c_1
    refine lv_iconst (v := (-1)) hx hb dX1_take_11 (by decide) ?_
    have hlit : Int32.toInt (-1) = (-1) := by decide
    have hP9 := hP.sub (ws' := [(h0, .inr (1, [.ref ek, .ref ec, .ref ef, .ref cki, .int e_limit, .int e_fresh, .int e_firstFree, .int e_held, .int e_mostHeld, .int e_made, .int e_reused, .int e_freed, .int e_doubled])), (ek, .inl (e1, 4000, .inl gk)), (ec, .inl (e2, 4000, .inl gc)), (ef, .inl (e3, 12000, .inr (.inl gv)))]) [0, 1, 2, 3] rfl
    have hD9 := hD.sub (ws' := [(h0, .inr (1, [.ref ek, .ref ec, .ref ef, .ref cki, .int e_limit, .int e_fresh, .int e_firstFree, .int e_held, .int e_mostHeld, .int e_made, .int e_reused, .int e_freed, .int e_doubled])), (ek, .inl (e1, 4000, .inl gk)), (ec, .inl (e2, 4000, .inl gc)), (ef, .inl (e3, 12000, .inr (.inl gv)))]) [0, 1, 2, 3] (by decide) rfl
    have hK9 := hK.sub (tys' := [(e1, .int), (e2, .int), (e3, .long)]) [0, 1, 2] rfl
    exact W.iret (v := (-1)) hx hb hr (fun t ht hW => ⟨⟨(-1), (e_fresh, e_firstFree, e_held, e_mostHeld, e_made), rfl, ⟨by omega, by omega, by omega⟩, by rw [ht]; exact hP9, va_K.moved hW.alike hK9, hD9⟩, hS.F ht⟩) hS.2.2 dX1_take_12

end
section
theorem wi_1237 : Cond.code yX1_isInt cX1_isInt 2 (some .boolean) ∈ zw := zw_in (List.mem_of_getElem? (i := 1237) (by decide +kernel)) (by decide +kernel)
theorem wi_1250 : Cond.methodLink RX1 74 yX1_isInt ∈ zw := zw_in (List.mem_of_getElem? (i := 1250) (by decide +kernel)) (by decide +kernel)
theorem wi_1236 : Cond.static yX1_isInt ∈ zw := zw_in (List.mem_of_getElem? (i := 1236) (by decide +kernel)) (by decide +kernel)
theorem dX1_kindOf_0 : decode cX1_kindOf 0 = .ok (.lload_n 1, 1) := by decide +kernel
theorem dX1_kindOf_1 : decode cX1_kindOf 1 = .ok (.invokestatic 74, 3) := by decide +kernel
theorem dX1_kindOf_4 : decode cX1_kindOf 4 = .ok (.ifCond .eq 5, 3) := by decide +kernel
theorem dX1_kindOf_7 : decode cX1_kindOf 7 = .ok (.iconst (-1), 1) := by decide +kernel
theorem dX1_kindOf_8 : decode cX1_kindOf 8 = .ok (.ireturn, 1) := by decide +kernel
theorem dX1_kindOf_9 : decode cX1_kindOf 9 = .ok (.lload_n 1, 1) := by decide +kernel
theorem dX1_kindOf_10 : decode cX1_kindOf 10 = .ok (.invokestatic 78, 3) := by decide +kernel
theorem dX1_kindOf_13 : decode cX1_kindOf 13 = .ok (.ifCond .eq 13, 3) := by decide +kernel
theorem dX1_kindOf_16 : decode cX1_kindOf 16 = .ok (.aload_n 0, 1) := by decide +kernel
theorem dX1_kindOf_17 : decode cX1_kindOf 17 = .ok (.getfield 45, 3) := by decide +kernel
theorem dX1_kindOf_20 : decode cX1_kindOf 20 = .ok (.lload_n 1, 1) := by decide +kernel
theorem dX1_kindOf_21 : decode cX1_kindOf 21 = .ok (.l2i, 1) := by decide +kernel
theorem dX1_kindOf_22 : decode cX1_kindOf 22 = .ok (.iaload, 1) := by decide +kernel
theorem dX1_kindOf_23 : decode cX1_kindOf 23 = .ok (.goto 5, 3) := by decide +kernel
theorem dX1_kindOf_26 : decode cX1_kindOf 26 = .ok (.lload_n 1, 1) := by decide +kernel
theorem dX1_kindOf_27 : decode cX1_kindOf 27 = .ok (.l2i, 1) := by decide +kernel
theorem dX1_kindOf_28 : decode cX1_kindOf 28 = .ok (.ireturn, 1) := by decide +kernel
theorem zn_3 {i w y : Int32} (h : y.toInt = i.toInt * 3 + w.toInt) (hi : 0 ≤ i.toInt) (hw : 0 ≤ w.toInt) : Int32.toNatClampNeg y = 3 * Int32.toNatClampNeg i + Int32.toNatClampNeg w := by
  have := zn_nat hi
  have := zn_nat hw
  have := zn_nat (x := y) (by omega)
  omega
set_option maxHeartbeats 4000000 in
set_option maxRecDepth 100000 in
theorem c_X1_width_x400 (l : Launch) (dC : Nat → ClassId) (dI : Nat → Nat → Nat) (aK aV : Nat → Nat) (h0 : Nat) (ek : Nat) (ec : Nat) (ef : Nat) (cki : Nat) (e1 : ClassId) (e2 : ClassId) (e3 : ClassId) (e_limit : Int32) (e_fresh : Int32) (e_firstFree : Int32) (e_held : Int32) (e_mostHeld : Int32) (e_made : Int32) (e_reused : Int32) (e_freed : Int32) (e_doubled : Int32) (gk : Nat → Int32) (gc : Nat → Int32) (gv : Nat → Int64) (kw : Nat) (kf : Nat) (k1 : ClassId) (k2 : ClassId) (z : Int32) (gw : Nat → Int64) (gf : Nat → Int32) (ce : Int32) (sz : Nat) (hz0 : 0 ≤ z.toInt) (hz1 : z.toInt ≤ 20) (hgf : zx 4 gf) (hc0 : 0 ≤ ce.toInt) (hc1 : ce.toInt < 400) : Met l yX1_width (Cond.code yX1_width cX1_width 2 (some .int) :: zw) ({ frames := 10, cells := 0, slots := 0, locals := 300 }) (va_Pc [.ref h0, .int ce] (zP dC dI aK aV sz [(e1, .int), (e2, .int), (e3, .long), (k1, .long), (k2, .int)] [(h0, .inr (1, [.ref ek, .ref ec, .ref ef, .ref cki, .int e_limit, .int e_fresh, .int e_firstFree, .int e_held, .int e_mostHeld, .int e_made, .int e_reused, .int e_freed, .int e_doubled])), (ek, .inl (e1, 400, .inl gk)), (ec, .inl (e2, 400, .inl gc)), (ef, .inl (e3, 1200, .inr (.inl gv))), (cki, .inr (4, [.ref kw, .ref kf, .int z])), (kw, .inl (k1, 20, .inr (.inl gw))), (kf, .inl (k2, 20, .inl gf))])) (va_Qi (fun (r : Int32) (u : Unit) => (0 ≤ r.toInt) ∧ (r.toInt ≤ 3) ∧ (r.toInt = zfk z gf (gk (Int32.toNatClampNeg ce)))) (fun u => zQ dC dI (va_A [(h0, .inr (1, [.ref ek, .ref ec, .ref ef, .ref cki, .int e_limit, .int e_fresh, .int e_firstFree, .int e_held, .int e_mostHeld, .int e_made, .int e_reused, .int e_freed, .int e_doubled])), (ek, .inl (e1, 400, .inl gk)), (ec, .inl (e2, 400, .inl gc)), (ef, .inl (e3, 1200, .inr (.inl gv))), (cki, .inr (4, [.ref kw, .ref kf, .int z])), (kw, .inl (k1, 20, .inr (.inl gw))), (kf, .inl (k2, 20, .inl gf))] sz) [(e1, .int), (e2, .int), (e3, .long), (k1, .long), (k2, .int)] [(h0, .inr (1, [.ref ek, .ref ec, .ref ef, .ref cki, .int e_limit, .int e_fresh, .int e_firstFree, .int e_held, .int e_mostHeld, .int e_made, .int e_reused, .int e_freed, .int e_doubled])), (ek, .inl (e1, 400, .inl gk)), (ec, .inl (e2, 400, .inl gc)), (ef, .inl (e3, 1200, .inr (.inl gv))), (cki, .inr (4, [.ref kw, .ref kf, .int z])), (kw, .inl (k1, 20, .inr (.inl gw))), (kf, .inl (k2, 20, .inl gf))]) (va_A [(h0, .inr (1, [.ref ek, .ref ec, .ref ef, .ref cki, .int e_limit, .int e_fresh, .int e_firstFree, .int e_held, .int e_mostHeld, .int e_made, .int e_reused, .int e_freed, .int e_doubled])), (ek, .inl (e1, 400, .inl gk)), (ec, .inl (e2, 400, .inl gc)), (ef, .inl (e3, 1200, .inr (.inl gv))), (cki, .inr (4, [.ref kw, .ref kf, .int z])), (kw, .inl (k1, 20, .inr (.inl gw))), (kf, .inl (k2, 20, .inl gf))] sz)) 0 0 (va_A [(h0, .inr (1, [.ref ek, .ref ec, .ref ef, .ref cki, .int e_limit, .int e_fresh, .int e_firstFree, .int e_held, .int e_mostHeld, .int e_made, .int e_reused, .int e_freed, .int e_doubled])), (ek, .inl (e1, 400, .inl gk)), (ec, .inl (e2, 400, .inl gc)), (ef, .inl (e3, 1200, .inr (.inl gv))), (cki, .inr (4, [.ref kw, .ref kf, .int z])), (kw, .inl (k1, 20, .inr (.inl gw))), (kf, .inl (k2, 20, .inl gf))] sz) := by
  refine Met.ofW (cc := cX1_width) (maxL := 2) (ret := (some .int)) (by decide) rfl ?_
  intro p e s m args below meth c s₁ B hml hv
  obtain ⟨rfl, hsz, hP, hK, hD0, hN, hT⟩ := hv
  have hx := B.exec
  have hb := B.bytes
  have hr := B.returns
  have hts := atoms_spec (ws := Cond.code yX1_width cX1_width 2 (some .int) :: zw) B.pre
  have hA : ∀ w ∈ zw, w.before _ s = true := fun w h => hts w (List.mem_cons_of_mem _ h)
  have hown : s.vm.findClass RX1 = some m.cls := findClass_of_methodNamed B.named
  have hlocks := B.notSynchronized
  subst hsz
  have hD := hD0.self (sz := s.heap.size)
  generalize hAe : va_A [(h0, .inr (1, [.ref ek, .ref ec, .ref ef, .ref cki, .int e_limit, .int e_fresh, .int e_firstFree, .int e_held, .int e_mostHeld, .int e_made, .int e_reused, .int e_freed, .int e_doubled])), (ek, .inl (e1, 400, .inl gk)), (ec, .inl (e2, 400, .inl gc)), (ef, .inl (e3, 1200, .inr (.inl gv))), (cki, .inr (4, [.ref kw, .ref kf, .int z])), (kw, .inl (k1, 20, .inr (.inl gw))), (kf, .inl (k2, 20, .inl gf))] s.heap.size = A at hD hT ⊢
  have hAA : ∀ q : Nat, s.heap.size ≤ q → A q := fun q h => by rw [← hAe]; exact Or.inr h
  have hS : va_S A s.heap s.heap [] := va_S.rf
  have hl := lv_entry ([.ref h0, .int ce]) (n := 2) (Nat.le_of_ble_eq_true rfl)
  rw [lg_entry_eq]
  generalize (lg_sl ([.ref h0, .int ce]) ++ List.replicate (2 - (lg_sl ([.ref h0, .int ce])).length) Slot.unset).toArray = ls at hl ⊢
  have hl : lv_has ls 2 [(0, .ref h0), (1, .int ce)] := hl
  refine lv_aload_n hx hb dX1_width_0 rfl (lv_at hl 0 rfl) ?_
  refine va_get (D := (dC, dI)) (ci := 1) (v := .ref cki) (C := RX1) (T := TX1) (N := 13) hx hb hA zin_X1 hown hK hP 0 rfl rfl 3 (by decide) (hA _ wi_439) (fun _ h9 => h9) rfl dX1_width_1 ?_
  refine lv_aload_n hx hb dX1_width_4 rfl (lv_at hl 0 rfl) ?_
  refine va_get (D := (dC, dI)) (ci := 1) (v := .ref ek) (C := RX1) (T := TX1) (N := 13) hx hb hA zin_X1 hown hK hP 0 rfl rfl 0 (by decide) (hA _ wi_435) (fun _ h9 => h9) rfl dX1_width_5 ?_
  refine lv_iload_n hx hb dX1_width_8 rfl (lv_at hl 1 rfl) ?_
  refine va_iald hx hb hK hP 1 0 rfl rfl (vp_in_iff.mpr ⟨by omega, by omega⟩) dX1_width_9 ?_
  refine lv_topi (fun x_1 ex_1 => ?_)
  have hPc := hP.sub (ws' := [(cki, .inr (4, [.ref kw, .ref kf, .int z])), (kw, .inl (k1, 20, .inr (.inl gw))), (kf, .inl (k2, 20, .inl gf))]) [4, 5, 6] rfl
  have hDc := hD.sub (ws' := [(cki, .inr (4, [.ref kw, .ref kf, .int z])), (kw, .inl (k1, 20, .inr (.inl gw))), (kf, .inl (k2, 20, .inl gf))]) [4, 5, 6] (by decide) rfl
  have hKc := hK.sub (tys' := [(k1, .long), (k2, .int)]) [3, 4] rfl
  have hFc := va_free (wc := [(cki, .inr (4, [.ref kw, .ref kf, .int z])), (kw, .inl (k1, 20, .inr (.inl gw))), (kf, .inl (k2, 20, .inl gf))]) hD hS hAA [4, 5, 6] rfl
  refine va_calli (va_runV (As := [.int x_1]) (rest := []) ⟨hx, hb, hml, hown, hA⟩ (c_X4_fieldsOf_x l dC dI aK aV cki kw kf k1 k2 z gw gf x_1 s.heap.size (by omega) (by omega) hgf) (cwV 1 hA (zw_V wi_1154 wi_803 wi_804 wi_134 (zw_good wi_805)) rfl rfl rfl (by decide +kernel) ⟨(Nat.le_of_ble_eq_true rfl), (Nat.le_of_ble_eq_true rfl)⟩) ⟨zP_blind, va_recv hKc hPc (ci := 4) (q0 := 0) rfl rfl, zz_pre hKc hPc hDc hN hT hS hFc⟩ rfl rfl hl.1 rfl (lv_room (Nat.le_of_ble_eq_true rfl)) dX1_width_10 ⟨(Nat.le_of_ble_eq_true rfl), (Nat.le_of_ble_eq_true rfl)⟩) hS (fun q _ h => hFc q h) hFc (fun r_2 u t H1 locs ht hvm hw hB hz1 hk1 hS => ?_)
  obtain ⟨hP1, hK1, hD1⟩ := hB
  rw [ht] at hP1
  have hK1 := va_K.moved hvm.symm hK1
  obtain ⟨hP, hD⟩ := va_join (wr := [(h0, .inr (1, [.ref ek, .ref ec, .ref ef, .ref cki, .int e_limit, .int e_fresh, .int e_firstFree, .int e_held, .int e_mostHeld, .int e_made, .int e_reused, .int e_freed, .int e_doubled])), (ek, .inl (e1, 400, .inl gk)), (ec, .inl (e2, 400, .inl gc)), (ef, .inl (e3, 1200, .inr (.inl gv)))]) (w1 := [(cki, .inr (4, [.ref kw, .ref kf, .int z])), (kw, .inl (k1, 20, .inr (.inl gw))), (kf, .inl (k2, 20, .inl gf))]) hP hD [4, 5, 6] [0, 1, 2, 3] rfl rfl (by decide) (by decide) hk1 hFc hP1 hD1
  have hK := (hK.sub (tys' := [(e1, .int), (e2, .int), (e3, .long)]) [0, 1, 2] rfl).app hK1
  generalize H1 = H at hP hS ⊢
  have hP : va_P (dC, dI) vwCl [(h0, .inr (1, [.ref ek, .ref ec, .ref ef, .ref cki, .int e_limit, .int e_fresh, .int e_firstFree, .int e_held, .int e_mostHeld, .int e_made, .int e_reused, .int e_freed, .int e_doubled])), (ek, .inl (e1, 400, .inl gk)), (ec, .inl (e2, 400, .inl gc)), (ef, .inl (e3, 1200, .inr (.inl gv))), (cki, .inr (4, [.ref kw, .ref kf, .int z])), (kw, .inl (k1, 20, .inr (.inl gw))), (kf, .inl (k2, 20, .inl gf))] H := hP
  have hD : va_D A [(h0, .inr (1, [.ref ek, .ref ec, .ref ef, .ref cki, .int e_limit, .int e_fresh, .int e_firstFree, .int e_held, .int e_mostHeld, .int e_made, .int e_reused, .int e_freed, .int e_doubled])), (ek, .inl (e1, 400, .inl gk)), (ec, .inl (e2, 400, .inl gc)), (ef, .inl (e3, 1200, .inr (.inl gv))), (cki, .inr (4, [.ref kw, .ref kf, .int z])), (kw, .inl (k1, 20, .inr (.inl gw))), (kf, .inl (k2, 20, .inl gf))] := hD
  have hK : va_K (dC, dI) vwCl [(e1, .int), (e2, .int), (e3, .long), (k1, .long), (k2, .int)] s := hK
  have hw_r_2 := hw
  try dsimp only at hw_r_2
  obtain ⟨hq_3, hq_4, hq_5⟩ := hw
  have hP9 := hP.sub (ws' := [(h0, .inr (1, [.ref ek, .ref ec, .ref ef, .ref cki, .int e_limit, .int e_fresh, .int e_firstFree, .int e_held, .int e_mostHeld, .int e_made, .int e_reused, .int e_freed, .int e_doubled])), (ek, .inl (e1, 400, .inl gk)), (ec, .inl (e2, 400, .inl gc)), (ef, .inl (e3, 1200, .inr (.inl gv))), (cki, .inr (4, [.ref kw, .ref kf, .int z])), (kw, .inl (k1, 20, .inr (.inl gw))), (kf, .inl (k2, 20, .inl gf))]) [0, 1, 2, 3, 4, 5, 6] rfl
  have hD9 := hD.sub (ws' := [(h0, .inr (1, [.ref ek, .ref ec, .ref ef, .ref cki, .int e_limit, .int e_fresh, .int e_firstFree, .int e_held, .int e_mostHeld, .int e_made, .int e_reused, .int e_freed, .int e_doubled])), (ek, .inl (e1, 400, .inl gk)), (ec, .inl (e2, 400, .inl gc)), (ef, .inl (e3, 1200, .inr (.inl gv))), (cki, .inr (4, [.ref kw, .ref kf, .int z])), (kw, .inl (k1, 20, .inr (.inl gw))), (kf, .inl (k2, 20, .inl gf))]) [0, 1, 2, 3, 4, 5, 6] (by decide) rfl
  have hK9 := hK.sub (tys' := [(e1, .int), (e2, .int), (e3, .long), (k1, .long), (k2, .int)]) [0, 1, 2, 3, 4] rfl
  exact W.iret (v := r_2) hx hb hr (fun t ht hW => ⟨⟨r_2, (), rfl, ⟨by omega, by omega, (by rw [hq_5, ex_1])⟩, by rw [ht]; exact hP9, va_K.moved hW.alike hK9, hD9⟩, hS.F ht⟩) hS.2.2 dX1_width_13
set_option maxHeartbeats 4000000 in
set_option maxRecDepth 100000 in
theorem c_X1_field_x400 (l : Launch) (dC : Nat → ClassId) (dI : Nat → Nat → Nat) (aK aV : Nat → Nat) (h0 : Nat) (ek : Nat) (ec : Nat) (ef : Nat) (cki : Nat) (e1 : ClassId) (e2 : ClassId) (e3 : ClassId) (e_limit : Int32) (e_fresh : Int32) (e_firstFree : Int32) (e_held : Int32) (e_mostHeld : Int32) (e_made : Int32) (e_reused : Int32) (e_freed : Int32) (e_doubled : Int32) (gk : Nat → Int32) (gc : Nat → Int32) (gv : Nat → Int64) (ce : Int32) (k : Int32) (sz : Nat) (hc0 : 0 ≤ ce.toInt) (hc1 : ce.toInt < 400) (hk0 : 0 ≤ k.toInt) (hk1 : k.toInt < 3) : Met l yX1_field (Cond.code yX1_field cX1_field 3 (some .long) :: zw) ({ frames := 8, cells := 0, slots := 0, locals := 200 }) (va_Pc [.ref h0, .int ce, .int k] (zP dC dI aK aV sz [(e1, .int), (e2, .int), (e3, .long)] [(h0, .inr (1, [.ref ek, .ref ec, .ref ef, .ref cki, .int e_limit, .int e_fresh, .int e_firstFree, .int e_held, .int e_mostHeld, .int e_made, .int e_reused, .int e_freed, .int e_doubled])), (ek, .inl (e1, 400, .inl gk)), (ec, .inl (e2, 400, .inl gc)), (ef, .inl (e3, 1200, .inr (.inl gv)))])) (va_Ql (fun (r : Int64) (u : Unit) => (r = gv (3 * Int32.toNatClampNeg ce + Int32.toNatClampNeg k))) (fun u => zQ dC dI (va_A [(h0, .inr (1, [.ref ek, .ref ec, .ref ef, .ref cki, .int e_limit, .int e_fresh, .int e_firstFree, .int e_held, .int e_mostHeld, .int e_made, .int e_reused, .int e_freed, .int e_doubled])), (ek, .inl (e1, 400, .inl gk)), (ec, .inl (e2, 400, .inl gc)), (ef, .inl (e3, 1200, .inr (.inl gv)))] sz) [(e1, .int), (e2, .int), (e3, .long)] [(h0, .inr (1, [.ref ek, .ref ec, .ref ef, .ref cki, .int e_limit, .int e_fresh, .int e_firstFree, .int e_held, .int e_mostHeld, .int e_made, .int e_reused, .int e_freed, .int e_doubled])), (ek, .inl (e1, 400, .inl gk)), (ec, .inl (e2, 400, .inl gc)), (ef, .inl (e3, 1200, .inr (.inl gv)))]) (va_A [(h0, .inr (1, [.ref ek, .ref ec, .ref ef, .ref cki, .int e_limit, .int e_fresh, .int e_firstFree, .int e_held, .int e_mostHeld, .int e_made, .int e_reused, .int e_freed, .int e_doubled])), (ek, .inl (e1, 400, .inl gk)), (ec, .inl (e2, 400, .inl gc)), (ef, .inl (e3, 1200, .inr (.inl gv)))] sz)) 0 0 (va_A [(h0, .inr (1, [.ref ek, .ref ec, .ref ef, .ref cki, .int e_limit, .int e_fresh, .int e_firstFree, .int e_held, .int e_mostHeld, .int e_made, .int e_reused, .int e_freed, .int e_doubled])), (ek, .inl (e1, 400, .inl gk)), (ec, .inl (e2, 400, .inl gc)), (ef, .inl (e3, 1200, .inr (.inl gv)))] sz) := by
  refine Met.ofW (cc := cX1_field) (maxL := 3) (ret := (some .long)) (by decide) rfl ?_
  intro p e s m args below meth c s₁ B hml hv
  obtain ⟨rfl, hsz, hP, hK, hD0, hN, hT⟩ := hv
  have hx := B.exec
  have hb := B.bytes
  have hr := B.returns
  have hts := atoms_spec (ws := Cond.code yX1_field cX1_field 3 (some .long) :: zw) B.pre
  have hA : ∀ w ∈ zw, w.before _ s = true := fun w h => hts w (List.mem_cons_of_mem _ h)
  have hown : s.vm.findClass RX1 = some m.cls := findClass_of_methodNamed B.named
  have hlocks := B.notSynchronized
  subst hsz
  have hD := hD0.self (sz := s.heap.size)
  generalize hAe : va_A [(h0, .inr (1, [.ref ek, .ref ec, .ref ef, .ref cki, .int e_limit, .int e_fresh, .int e_firstFree, .int e_held, .int e_mostHeld, .int e_made, .int e_reused, .int e_freed, .int e_doubled])), (ek, .inl (e1, 400, .inl gk)), (ec, .inl (e2, 400, .inl gc)), (ef, .inl (e3, 1200, .inr (.inl gv)))] s.heap.size = A at hD hT ⊢
  have hAA : ∀ q : Nat, s.heap.size ≤ q → A q := fun q h => by rw [← hAe]; exact Or.inr h
  have hS : va_S A s.heap s.heap [] := va_S.rf
  have hl := lv_entry ([.ref h0, .int ce, .int k]) (n := 3) (Nat.le_of_ble_eq_true rfl)
  rw [lg_entry_eq]
  generalize (lg_sl ([.ref h0, .int ce, .int k]) ++ List.replicate (3 - (lg_sl ([.ref h0, .int ce, .int k])).length) Slot.unset).toArray = ls at hl ⊢
  have hl : lv_has ls 3 [(0, .ref h0), (1, .int ce), (2, .int k)] := hl
  refine lv_aload_n hx hb dX1_field_0 rfl (lv_at hl 0 rfl) ?_
  refine va_get (D := (dC, dI)) (ci := 1) (v := .ref ef) (C := RX1) (T := TX1) (N := 13) hx hb hA zin_X1 hown hK hP 0 rfl rfl 2 (by decide) (hA _ wi_438) (fun _ h9 => h9) rfl dX1_field_1 ?_
  refine lv_iload_n hx hb dX1_field_4 rfl (lv_at hl 1 rfl) ?_
  refine lv_iconst (v := 3) hx hb dX1_field_5 (by decide) ?_
  refine lv_imul hx hb dX1_field_6 ?_
  refine lv_topi (fun x_1 ex_1 => ?_)
  have ix_1 : x_1.toInt = ce.toInt * 3 := by rw [ex_1]; exact zi_mulc (by decide) (by omega) (by omega)
  refine lv_iload_n hx hb dX1_field_7 rfl (lv_at hl 2 rfl) ?_
  refine lv_iadd hx hb dX1_field_8 ?_
  refine lv_topi (fun x_2 ex_2 => ?_)
  have ix_2 : x_2.toInt = x_1.toInt + k.toInt := by rw [ex_2]; exact zi_addc rfl (by omega) (by omega)
  refine va_lald hx hb hK hP 3 2 rfl rfl (vp_in_iff.mpr ⟨by omega, by omega⟩) dX1_field_9 ?_
  refine lv_topl (fun x_3 ex_3 => ?_)
  have hP9 := hP.sub (ws' := [(h0, .inr (1, [.ref ek, .ref ec, .ref ef, .ref cki, .int e_limit, .int e_fresh, .int e_firstFree, .int e_held, .int e_mostHeld, .int e_made, .int e_reused, .int e_freed, .int e_doubled])), (ek, .inl (e1, 400, .inl gk)), (ec, .inl (e2, 400, .inl gc)), (ef, .inl (e3, 1200, .inr (.inl gv)))]) [0, 1, 2, 3] rfl
  have hD9 := hD.sub (ws' := [(h0, .inr (1, [.ref ek, .ref ec, .ref ef, .ref cki, .int e_limit, .int e_fresh, .int e_firstFree, .int e_held, .int e_mostHeld, .int e_made, .int e_reused, .int e_freed, .int e_doubled])), (ek, .inl (e1, 400, .inl gk)), (ec, .inl (e2, 400, .inl gc)), (ef, .inl (e3, 1200, .inr (.inl gv)))]) [0, 1, 2, 3] (by decide) rfl
  have hK9 := hK.sub (tys' := [(e1, .int), (e2, .int), (e3, .long)]) [0, 1, 2] rfl
  exact W.lret (v := x_3) hx hb hr (fun t ht hW => ⟨⟨x_3, (), rfl, (by rw [ex_3]; exact congrArg gv (zn_3 (by omega) (by omega) (by omega))), by rw [ht]; exact hP9, va_K.moved hW.alike hK9, hD9⟩, hS.F ht⟩) hS.2.2 dX1_field_10
set_option maxHeartbeats 4000000 in
set_option maxRecDepth 100000 in
theorem c_X1_kindOf_x400 (l : Launch) (dC : Nat → ClassId) (dI : Nat → Nat → Nat) (aK aV : Nat → Nat) (h0 : Nat) (ek : Nat) (ec : Nat) (ef : Nat) (cki : Nat) (e1 : ClassId) (e2 : ClassId) (e3 : ClassId) (e_limit : Int32) (e_fresh : Int32) (e_firstFree : Int32) (e_held : Int32) (e_mostHeld : Int32) (e_made : Int32) (e_reused : Int32) (e_freed : Int32) (e_doubled : Int32) (gk : Nat → Int32) (gc : Nat → Int32) (gv : Nat → Int64) (va : Int64) (sz : Nat) (hgd : zhs va = 2 → 0 ≤ (va.toInt32).toInt ∧ (va.toInt32).toInt < 400) : Met l yX1_kindOf (Cond.code yX1_kindOf cX1_kindOf 3 (some .int) :: zw) ({ frames := 10, cells := 0, slots := 0, locals := 300 }) (va_Pc [.ref h0, .long va] (zP dC dI aK aV sz [(e1, .int), (e2, .int), (e3, .long)] [(h0, .inr (1, [.ref ek, .ref ec, .ref ef, .ref cki, .int e_limit, .int e_fresh, .int e_firstFree, .int e_held, .int e_mostHeld, .int e_made, .int e_reused, .int e_freed, .int e_doubled])), (ek, .inl (e1, 400, .inl gk)), (ec, .inl (e2, 400, .inl gc)), (ef, .inl (e3, 1200, .inr (.inl gv)))])) (va_Qi (fun (r : Int32) (u : Unit) => (zhs va = 0 ∧ r = -1 ∨ zhs va = 2 ∧ r = gk (Int32.toNatClampNeg va.toInt32) ∨ zhs va ≠ 0 ∧ zhs va ≠ 2 ∧ r = va.toInt32)) (fun u => zQ dC dI (va_A [(h0, .inr (1, [.ref ek, .ref ec, .ref ef, .ref cki, .int e_limit, .int e_fresh, .int e_firstFree, .int e_held, .int e_mostHeld, .int e_made, .int e_reused, .int e_freed, .int e_doubled])), (ek, .inl (e1, 400, .inl gk)), (ec, .inl (e2, 400, .inl gc)), (ef, .inl (e3, 1200, .inr (.inl gv)))] sz) [(e1, .int), (e2, .int), (e3, .long)] [(h0, .inr (1, [.ref ek, .ref ec, .ref ef, .ref cki, .int e_limit, .int e_fresh, .int e_firstFree, .int e_held, .int e_mostHeld, .int e_made, .int e_reused, .int e_freed, .int e_doubled])), (ek, .inl (e1, 400, .inl gk)), (ec, .inl (e2, 400, .inl gc)), (ef, .inl (e3, 1200, .inr (.inl gv)))]) (va_A [(h0, .inr (1, [.ref ek, .ref ec, .ref ef, .ref cki, .int e_limit, .int e_fresh, .int e_firstFree, .int e_held, .int e_mostHeld, .int e_made, .int e_reused, .int e_freed, .int e_doubled])), (ek, .inl (e1, 400, .inl gk)), (ec, .inl (e2, 400, .inl gc)), (ef, .inl (e3, 1200, .inr (.inl gv)))] sz)) 0 0 (va_A [(h0, .inr (1, [.ref ek, .ref ec, .ref ef, .ref cki, .int e_limit, .int e_fresh, .int e_firstFree, .int e_held, .int e_mostHeld, .int e_made, .int e_reused, .int e_freed, .int e_doubled])), (ek, .inl (e1, 400, .inl gk)), (ec, .inl (e2, 400, .inl gc)), (ef, .inl (e3, 1200, .inr (.inl gv)))] sz) := by
  refine Met.ofW (cc := cX1_kindOf) (maxL := 3) (ret := (some .int)) (by decide) rfl ?_
  intro p e s m args below meth c s₁ B hml hv
  obtain ⟨rfl, hsz, hP, hK, hD0, hN, hT⟩ := hv
  have hx := B.exec
  have hb := B.bytes
  have hr := B.returns
  have hts := atoms_spec (ws := Cond.code yX1_kindOf cX1_kindOf 3 (some .int) :: zw) B.pre
  have hA : ∀ w ∈ zw, w.before _ s = true := fun w h => hts w (List.mem_cons_of_mem _ h)
  have hown : s.vm.findClass RX1 = some m.cls := findClass_of_methodNamed B.named
  have hlocks := B.notSynchronized
  subst hsz
  have hD := hD0.self (sz := s.heap.size)
  generalize hAe : va_A [(h0, .inr (1, [.ref ek, .ref ec, .ref ef, .ref cki, .int e_limit, .int e_fresh, .int e_firstFree, .int e_held, .int e_mostHeld, .int e_made, .int e_reused, .int e_freed, .int e_doubled])), (ek, .inl (e1, 400, .inl gk)), (ec, .inl (e2, 400, .inl gc)), (ef, .inl (e3, 1200, .inr (.inl gv)))] s.heap.size = A at hD hT ⊢
  have hAA : ∀ q : Nat, s.heap.size ≤ q → A q := fun q h => by rw [← hAe]; exact Or.inr h
  have hS : va_S A s.heap s.heap [] := va_S.rf
  have hl := lv_entry ([.ref h0, .long va]) (n := 3) (Nat.le_of_ble_eq_true rfl)
  rw [lg_entry_eq]
  generalize (lg_sl ([.ref h0, .long va]) ++ List.replicate (3 - (lg_sl ([.ref h0, .long va])).length) Slot.unset).toArray = ls at hl ⊢
  have hl : lv_has ls 3 [(0, .ref h0), (1, .long va)] := hl
  refine lv_lload_n hx hb dX1_kindOf_0 rfl (lv_at hl 1 rfl) ?_
  have hPc := hP.sub (ws' := []) [] rfl
  have hDc := hD.sub (ws' := []) [] (by decide) rfl
  have hKc := hK.sub (tys' := []) [] rfl
  have hFc := va_free (wc := []) hD hS hAA [] rfl
  refine va_calli (va_runS (As := [.long va]) (rest := []) ⟨hx, hb, hml, hown, hA⟩ (c_X1_isInt_x l dC dI aK aV va s.heap.size) (va_cwS 1 hA (zw_S wi_1250 wi_1236 wi_140 (zw_good wi_1237)) rfl rfl rfl (by decide +kernel) ⟨(Nat.le_of_ble_eq_true rfl), (Nat.le_of_ble_eq_true rfl)⟩) ⟨zP_blind, zz_pre hKc hPc hDc hN hT hS hFc⟩ rfl rfl hl.1 rfl (lv_room (Nat.le_of_ble_eq_true rfl)) dX1_kindOf_1 ⟨(Nat.le_of_ble_eq_true rfl), (Nat.le_of_ble_eq_true rfl)⟩) hS (fun q _ h => hFc q h) hFc (fun r_1 u t H1 locs ht hvm hw hB hz1 hk1 hS => ?_)
  obtain ⟨hP1, hK1, hD1⟩ := hB
  rw [ht] at hP1
  have hK1 := va_K.moved hvm.symm hK1
  obtain ⟨hP, hD⟩ := va_join (wr := [(h0, .inr (1, [.ref ek, .ref ec, .ref ef, .ref cki, .int e_limit, .int e_fresh, .int e_firstFree, .int e_held, .int e_mostHeld, .int e_made, .int e_reused, .int e_freed, .int e_doubled])), (ek, .inl (e1, 400, .inl gk)), (ec, .inl (e2, 400, .inl gc)), (ef, .inl (e3, 1200, .inr (.inl gv)))]) (w1 := []) hP hD [] [0, 1, 2, 3] rfl rfl (by decide) (by decide) hk1 hFc hP1 hD1
  have hK := (hK.sub (tys' := [(e1, .int), (e2, .int), (e3, .long)]) [0, 1, 2] rfl).app hK1
  generalize H1 = H at hP hS ⊢
  have hP : va_P (dC, dI) vwCl [(h0, .inr (1, [.ref ek, .ref ec, .ref ef, .ref cki, .int e_limit, .int e_fresh, .int e_firstFree, .int e_held, .int e_mostHeld, .int e_made, .int e_reused, .int e_freed, .int e_doubled])), (ek, .inl (e1, 400, .inl gk)), (ec, .inl (e2, 400, .inl gc)), (ef, .inl (e3, 1200, .inr (.inl gv)))] H := hP
  have hD : va_D A [(h0, .inr (1, [.ref ek, .ref ec, .ref ef, .ref cki, .int e_limit, .int e_fresh, .int e_firstFree, .int e_held, .int e_mostHeld, .int e_made, .int e_reused, .int e_freed, .int e_doubled])), (ek, .inl (e1, 400, .inl gk)), (ec, .inl (e2, 400, .inl gc)), (ef, .inl (e3, 1200, .inr (.inl gv)))] := hD
  have hK : va_K (dC, dI) vwCl [(e1, .int), (e2, .int), (e3, .long)] s := hK
  have hw_r_1 := hw
  try dsimp only at hw_r_1
  have hq_2 := hw
  refine lv_if_eq (tgt := 9) hx hb dX1_kindOf_4 (by decide) (fun c_3 => ?_) (fun c_3 => ?_)
  · have ic_3 : r_1.toInt = 0 := zi_eq c_3
    have hnint9 : zhs va ≠ 0 := hq_2.elim (fun g => absurd g.1 (by omega)) (fun g => g.2)
    refine lv_lload_n hx hb dX1_kindOf_9 rfl (lv_at hl 1 rfl) ?_
    have hPc := hP.sub (ws' := []) [] rfl
    have hDc := hD.sub (ws' := []) [] (by decide) rfl
    have hKc := hK.sub (tys' := []) [] rfl
    have hFc := va_free (wc := []) hD hS hAA [] rfl
    refine va_calli (va_runS (As := [.long va]) (rest := []) ⟨hx, hb, hml, hown, hA⟩ (c_X1_isCell_x l dC dI aK aV va H.size) (va_cwS 1 hA (zw_S wi_1146 wi_1147 wi_140 (zw_good wi_1148)) rfl rfl rfl (by decide +kernel) ⟨(Nat.le_of_ble_eq_true rfl), (Nat.le_of_ble_eq_true rfl)⟩) ⟨zP_blind, zz_pre hKc hPc hDc hN hT hS hFc⟩ rfl rfl hl.1 rfl (lv_room (Nat.le_of_ble_eq_true rfl)) dX1_kindOf_10 ⟨(Nat.le_of_ble_eq_true rfl), (Nat.le_of_ble_eq_true rfl)⟩) hS (fun q _ h => hFc q h) hFc (fun r_4 u t H1 locs ht hvm hw hB hz1 hk1 hS => ?_)
    obtain ⟨hP1, hK1, hD1⟩ := hB
    rw [ht] at hP1
    have hK1 := va_K.moved hvm.symm hK1
    obtain ⟨hP, hD⟩ := va_join (wr := [(h0, .inr (1, [.ref ek, .ref ec, .ref ef, .ref cki, .int e_limit, .int e_fresh, .int e_firstFree, .int e_held, .int e_mostHeld, .int e_made, .int e_reused, .int e_freed, .int e_doubled])), (ek, .inl (e1, 400, .inl gk)), (ec, .inl (e2, 400, .inl gc)), (ef, .inl (e3, 1200, .inr (.inl gv)))]) (w1 := []) hP hD [] [0, 1, 2, 3] rfl rfl (by decide) (by decide) hk1 hFc hP1 hD1
    have hK := (hK.sub (tys' := [(e1, .int), (e2, .int), (e3, .long)]) [0, 1, 2] rfl).app hK1
    generalize H1 = H at hP hS ⊢
    have hP : va_P (dC, dI) vwCl [(h0, .inr (1, [.ref ek, .ref ec, .ref ef, .ref cki, .int e_limit, .int e_fresh, .int e_firstFree, .int e_held, .int e_mostHeld, .int e_made, .int e_reused, .int e_freed, .int e_doubled])), (ek, .inl (e1, 400, .inl gk)), (ec, .inl (e2, 400, .inl gc)), (ef, .inl (e3, 1200, .inr (.inl gv)))] H := hP
    have hD : va_D A [(h0, .inr (1, [.ref ek, .ref ec, .ref ef, .ref cki, .int e_limit, .int e_fresh, .int e_firstFree, .int e_held, .int e_mostHeld, .int e_made, .int e_reused, .int e_freed, .int e_doubled])), (ek, .inl (e1, 400, .inl gk)), (ec, .inl (e2, 400, .inl gc)), (ef, .inl (e3, 1200, .inr (.inl gv)))] := hD
    have hK : va_K (dC, dI) vwCl [(e1, .int), (e2, .int), (e3, .long)] s := hK
    have hw_r_4 := hw
    try dsimp only at hw_r_4
    have hq_5 := hw
    refine lv_if_eq (tgt := 26) hx hb dX1_kindOf_13 (by decide) (fun c_6 => ?_) (fun c_6 => ?_)
    · have ic_6 : r_4.toInt = 0 := zi_eq c_6
      have hncell9 : zhs va ≠ 2 := hq_5.elim (fun g => absurd g.1 (by omega)) (fun g => g.2)
      refine lv_lload_n hx hb dX1_kindOf_26 rfl (lv_at hl 1 rfl) ?_
      refine lv_l2i hx hb dX1_kindOf_27 rfl ?_
      refine lv_topi (fun x_7 ex_7 => ?_)
      have hP9 := hP.sub (ws' := [(h0, .inr (1, [.ref ek, .ref ec, .ref ef, .ref cki, .int e_limit, .int e_fresh, .int e_firstFree, .int e_held, .int e_mostHeld, .int e_made, .int e_reused, .int e_freed, .int e_doubled])), (ek, .inl (e1, 400, .inl gk)), (ec, .inl (e2, 400, .inl gc)), (ef, .inl (e3, 1200, .inr (.inl gv)))]) [0, 1, 2, 3] rfl
      have hD9 := hD.sub (ws' := [(h0, .inr (1, [.ref ek, .ref ec, .ref ef, .ref cki, .int e_limit, .int e_fresh, .int e_firstFree, .int e_held, .int e_mostHeld, .int e_made, .int e_reused, .int e_freed, .int e_doubled])), (ek, .inl (e1, 400, .inl gk)), (ec, .inl (e2, 400, .inl gc)), (ef, .inl (e3, 1200, .inr (.inl gv)))]) [0, 1, 2, 3] (by decide) rfl
      have hK9 := hK.sub (tys' := [(e1, .int), (e2, .int), (e3, .long)]) [0, 1, 2] rfl
      exact W.iret (v := x_7) hx hb hr (fun t ht hW => ⟨⟨x_7, (), rfl, (Or.inr (Or.inr ⟨hnint9, hncell9, ex_7⟩)), by rw [ht]; exact hP9, va_K.moved hW.alike hK9, hD9⟩, hS.F ht⟩) hS.2.2 dX1_kindOf_28
    · have ic_6 : r_4.toInt ≠ 0 := zi_ne c_6
      have hcell9 : zhs va = 2 := hq_5.elim (fun g => g.2) (fun g => absurd g.1 (by omega))
      have hg9 := hgd hcell9
      refine lv_aload_n hx hb dX1_kindOf_16 rfl (lv_at hl 0 rfl) ?_
      refine va_get (D := (dC, dI)) (ci := 1) (v := .ref ek) (C := RX1) (T := TX1) (N := 13) hx hb hA zin_X1 hown hK hP 0 rfl rfl 0 (by decide) (hA _ wi_435) (fun _ h9 => h9) rfl dX1_kindOf_17 ?_
      refine lv_lload_n hx hb dX1_kindOf_20 rfl (lv_at hl 1 rfl) ?_
      refine lv_l2i hx hb dX1_kindOf_21 rfl ?_
      refine lv_topi (fun x_8 ex_8 => ?_)
      have ix_8 : x_8.toInt = (va.toInt32).toInt := by rw [ex_8]
      refine va_iald hx hb hK hP 1 0 rfl rfl (vp_in_iff.mpr ⟨by omega, by omega⟩) dX1_kindOf_22 ?_
      refine lv_topi (fun x_9 ex_9 => ?_)
      refine lv_goto (tgt := 28) hx hb dX1_kindOf_23 (by decide) ?_
      have hP9 := hP.sub (ws' := [(h0, .inr (1, [.ref ek, .ref ec, .ref ef, .ref cki, .int e_limit, .int e_fresh, .int e_firstFree, .int e_held, .int e_mostHeld, .int e_made, .int e_reused, .int e_freed, .int e_doubled])), (ek, .inl (e1, 400, .inl gk)), (ec, .inl (e2, 400, .inl gc)), (ef, .inl (e3, 1200, .inr (.inl gv)))]) [0, 1, 2, 3] rfl
      have hD9 := hD.sub (ws' := [(h0, .inr (1, [.ref ek, .ref ec, .ref ef, .ref cki, .int e_limit, .int e_fresh, .int e_firstFree, .int e_held, .int e_mostHeld, .int e_made, .int e_reused, .int e_freed, .int e_doubled])), (ek, .inl (e1, 400, .inl gk)), (ec, .inl (e2, 400, .inl gc)), (ef, .inl (e3, 1200, .inr (.inl gv)))]) [0, 1, 2, 3] (by decide) rfl
      have hK9 := hK.sub (tys' := [(e1, .int), (e2, .int), (e3, .long)]) [0, 1, 2] rfl
      exact W.iret (v := x_9) hx hb hr (fun t ht hW => ⟨⟨x_9, (), rfl, (Or.inr (Or.inl ⟨hcell9, by rw [ex_9, ex_8]⟩)), by rw [ht]; exact hP9, va_K.moved hW.alike hK9, hD9⟩, hS.F ht⟩) hS.2.2 dX1_kindOf_28
  · have ic_3 : r_1.toInt ≠ 0 := zi_ne c_3
    have hint9 : zhs va = 0 := hq_2.elim (fun g => g.2) (fun g => absurd g.1 (by omega))
    refine lv_iconst (v := (-1)) hx hb dX1_kindOf_7 (by decide) ?_
    have hlit : Int32.toInt (-1) = (-1) := by decide
    have hP9 := hP.sub (ws' := [(h0, .inr (1, [.ref ek, .ref ec, .ref ef, .ref cki, .int e_limit, .int e_fresh, .int e_firstFree, .int e_held, .int e_mostHeld, .int e_made, .int e_reused, .int e_freed, .int e_doubled])), (ek, .inl (e1, 400, .inl gk)), (ec, .inl (e2, 400, .inl gc)), (ef, .inl (e3, 1200, .inr (.inl gv)))]) [0, 1, 2, 3] rfl
    have hD9 := hD.sub (ws' := [(h0, .inr (1, [.ref ek, .ref ec, .ref ef, .ref cki, .int e_limit, .int e_fresh, .int e_firstFree, .int e_held, .int e_mostHeld, .int e_made, .int e_reused, .int e_freed, .int e_doubled])), (ek, .inl (e1, 400, .inl gk)), (ec, .inl (e2, 400, .inl gc)), (ef, .inl (e3, 1200, .inr (.inl gv)))]) [0, 1, 2, 3] (by decide) rfl
    have hK9 := hK.sub (tys' := [(e1, .int), (e2, .int), (e3, .long)]) [0, 1, 2] rfl
    exact W.iret (v := (-1)) hx hb hr (fun t ht hW => ⟨⟨(-1), (), rfl, (Or.inl ⟨hint9, rfl⟩), by rw [ht]; exact hP9, va_K.moved hW.alike hK9, hD9⟩, hS.F ht⟩) hS.2.2 dX1_kindOf_8
set_option maxHeartbeats 4000000 in
set_option maxRecDepth 100000 in
theorem c_X1_width_x4000 (l : Launch) (dC : Nat → ClassId) (dI : Nat → Nat → Nat) (aK aV : Nat → Nat) (h0 : Nat) (ek : Nat) (ec : Nat) (ef : Nat) (cki : Nat) (e1 : ClassId) (e2 : ClassId) (e3 : ClassId) (e_limit : Int32) (e_fresh : Int32) (e_firstFree : Int32) (e_held : Int32) (e_mostHeld : Int32) (e_made : Int32) (e_reused : Int32) (e_freed : Int32) (e_doubled : Int32) (gk : Nat → Int32) (gc : Nat → Int32) (gv : Nat → Int64) (kw : Nat) (kf : Nat) (k1 : ClassId) (k2 : ClassId) (z : Int32) (gw : Nat → Int64) (gf : Nat → Int32) (ce : Int32) (sz : Nat) (hz0 : 0 ≤ z.toInt) (hz1 : z.toInt ≤ 20) (hgf : zx 4 gf) (hc0 : 0 ≤ ce.toInt) (hc1 : ce.toInt < 4000) : Met l yX1_width (Cond.code yX1_width cX1_width 2 (some .int) :: zw) ({ frames := 10, cells := 0, slots := 0, locals := 300 }) (va_Pc [.ref h0, .int ce] (zP dC dI aK aV sz [(e1, .int), (e2, .int), (e3, .long), (k1, .long), (k2, .int)] [(h0, .inr (1, [.ref ek, .ref ec, .ref ef, .ref cki, .int e_limit, .int e_fresh, .int e_firstFree, .int e_held, .int e_mostHeld, .int e_made, .int e_reused, .int e_freed, .int e_doubled])), (ek, .inl (e1, 4000, .inl gk)), (ec, .inl (e2, 4000, .inl gc)), (ef, .inl (e3, 12000, .inr (.inl gv))), (cki, .inr (4, [.ref kw, .ref kf, .int z])), (kw, .inl (k1, 20, .inr (.inl gw))), (kf, .inl (k2, 20, .inl gf))])) (va_Qi (fun (r : Int32) (u : Unit) => (0 ≤ r.toInt) ∧ (r.toInt ≤ 3) ∧ (r.toInt = zfk z gf (gk (Int32.toNatClampNeg ce)))) (fun u => zQ dC dI (va_A [(h0, .inr (1, [.ref ek, .ref ec, .ref ef, .ref cki, .int e_limit, .int e_fresh, .int e_firstFree, .int e_held, .int e_mostHeld, .int e_made, .int e_reused, .int e_freed, .int e_doubled])), (ek, .inl (e1, 4000, .inl gk)), (ec, .inl (e2, 4000, .inl gc)), (ef, .inl (e3, 12000, .inr (.inl gv))), (cki, .inr (4, [.ref kw, .ref kf, .int z])), (kw, .inl (k1, 20, .inr (.inl gw))), (kf, .inl (k2, 20, .inl gf))] sz) [(e1, .int), (e2, .int), (e3, .long), (k1, .long), (k2, .int)] [(h0, .inr (1, [.ref ek, .ref ec, .ref ef, .ref cki, .int e_limit, .int e_fresh, .int e_firstFree, .int e_held, .int e_mostHeld, .int e_made, .int e_reused, .int e_freed, .int e_doubled])), (ek, .inl (e1, 4000, .inl gk)), (ec, .inl (e2, 4000, .inl gc)), (ef, .inl (e3, 12000, .inr (.inl gv))), (cki, .inr (4, [.ref kw, .ref kf, .int z])), (kw, .inl (k1, 20, .inr (.inl gw))), (kf, .inl (k2, 20, .inl gf))]) (va_A [(h0, .inr (1, [.ref ek, .ref ec, .ref ef, .ref cki, .int e_limit, .int e_fresh, .int e_firstFree, .int e_held, .int e_mostHeld, .int e_made, .int e_reused, .int e_freed, .int e_doubled])), (ek, .inl (e1, 4000, .inl gk)), (ec, .inl (e2, 4000, .inl gc)), (ef, .inl (e3, 12000, .inr (.inl gv))), (cki, .inr (4, [.ref kw, .ref kf, .int z])), (kw, .inl (k1, 20, .inr (.inl gw))), (kf, .inl (k2, 20, .inl gf))] sz)) 0 0 (va_A [(h0, .inr (1, [.ref ek, .ref ec, .ref ef, .ref cki, .int e_limit, .int e_fresh, .int e_firstFree, .int e_held, .int e_mostHeld, .int e_made, .int e_reused, .int e_freed, .int e_doubled])), (ek, .inl (e1, 4000, .inl gk)), (ec, .inl (e2, 4000, .inl gc)), (ef, .inl (e3, 12000, .inr (.inl gv))), (cki, .inr (4, [.ref kw, .ref kf, .int z])), (kw, .inl (k1, 20, .inr (.inl gw))), (kf, .inl (k2, 20, .inl gf))] sz) := by
  refine Met.ofW (cc := cX1_width) (maxL := 2) (ret := (some .int)) (by decide) rfl ?_
  intro p e s m args below meth c s₁ B hml hv
  obtain ⟨rfl, hsz, hP, hK, hD0, hN, hT⟩ := hv
  have hx := B.exec
  have hb := B.bytes
  have hr := B.returns
  have hts := atoms_spec (ws := Cond.code yX1_width cX1_width 2 (some .int) :: zw) B.pre
  have hA : ∀ w ∈ zw, w.before _ s = true := fun w h => hts w (List.mem_cons_of_mem _ h)
  have hown : s.vm.findClass RX1 = some m.cls := findClass_of_methodNamed B.named
  have hlocks := B.notSynchronized
  subst hsz
  have hD := hD0.self (sz := s.heap.size)
  generalize hAe : va_A [(h0, .inr (1, [.ref ek, .ref ec, .ref ef, .ref cki, .int e_limit, .int e_fresh, .int e_firstFree, .int e_held, .int e_mostHeld, .int e_made, .int e_reused, .int e_freed, .int e_doubled])), (ek, .inl (e1, 4000, .inl gk)), (ec, .inl (e2, 4000, .inl gc)), (ef, .inl (e3, 12000, .inr (.inl gv))), (cki, .inr (4, [.ref kw, .ref kf, .int z])), (kw, .inl (k1, 20, .inr (.inl gw))), (kf, .inl (k2, 20, .inl gf))] s.heap.size = A at hD hT ⊢
  have hAA : ∀ q : Nat, s.heap.size ≤ q → A q := fun q h => by rw [← hAe]; exact Or.inr h
  have hS : va_S A s.heap s.heap [] := va_S.rf
  have hl := lv_entry ([.ref h0, .int ce]) (n := 2) (Nat.le_of_ble_eq_true rfl)
  rw [lg_entry_eq]
  generalize (lg_sl ([.ref h0, .int ce]) ++ List.replicate (2 - (lg_sl ([.ref h0, .int ce])).length) Slot.unset).toArray = ls at hl ⊢
  have hl : lv_has ls 2 [(0, .ref h0), (1, .int ce)] := hl
  refine lv_aload_n hx hb dX1_width_0 rfl (lv_at hl 0 rfl) ?_
  refine va_get (D := (dC, dI)) (ci := 1) (v := .ref cki) (C := RX1) (T := TX1) (N := 13) hx hb hA zin_X1 hown hK hP 0 rfl rfl 3 (by decide) (hA _ wi_439) (fun _ h9 => h9) rfl dX1_width_1 ?_
  refine lv_aload_n hx hb dX1_width_4 rfl (lv_at hl 0 rfl) ?_
  refine va_get (D := (dC, dI)) (ci := 1) (v := .ref ek) (C := RX1) (T := TX1) (N := 13) hx hb hA zin_X1 hown hK hP 0 rfl rfl 0 (by decide) (hA _ wi_435) (fun _ h9 => h9) rfl dX1_width_5 ?_
  refine lv_iload_n hx hb dX1_width_8 rfl (lv_at hl 1 rfl) ?_
  refine va_iald hx hb hK hP 1 0 rfl rfl (vp_in_iff.mpr ⟨by omega, by omega⟩) dX1_width_9 ?_
  refine lv_topi (fun x_1 ex_1 => ?_)
  have hPc := hP.sub (ws' := [(cki, .inr (4, [.ref kw, .ref kf, .int z])), (kw, .inl (k1, 20, .inr (.inl gw))), (kf, .inl (k2, 20, .inl gf))]) [4, 5, 6] rfl
  have hDc := hD.sub (ws' := [(cki, .inr (4, [.ref kw, .ref kf, .int z])), (kw, .inl (k1, 20, .inr (.inl gw))), (kf, .inl (k2, 20, .inl gf))]) [4, 5, 6] (by decide) rfl
  have hKc := hK.sub (tys' := [(k1, .long), (k2, .int)]) [3, 4] rfl
  have hFc := va_free (wc := [(cki, .inr (4, [.ref kw, .ref kf, .int z])), (kw, .inl (k1, 20, .inr (.inl gw))), (kf, .inl (k2, 20, .inl gf))]) hD hS hAA [4, 5, 6] rfl
  refine va_calli (va_runV (As := [.int x_1]) (rest := []) ⟨hx, hb, hml, hown, hA⟩ (c_X4_fieldsOf_x l dC dI aK aV cki kw kf k1 k2 z gw gf x_1 s.heap.size (by omega) (by omega) hgf) (cwV 1 hA (zw_V wi_1154 wi_803 wi_804 wi_134 (zw_good wi_805)) rfl rfl rfl (by decide +kernel) ⟨(Nat.le_of_ble_eq_true rfl), (Nat.le_of_ble_eq_true rfl)⟩) ⟨zP_blind, va_recv hKc hPc (ci := 4) (q0 := 0) rfl rfl, zz_pre hKc hPc hDc hN hT hS hFc⟩ rfl rfl hl.1 rfl (lv_room (Nat.le_of_ble_eq_true rfl)) dX1_width_10 ⟨(Nat.le_of_ble_eq_true rfl), (Nat.le_of_ble_eq_true rfl)⟩) hS (fun q _ h => hFc q h) hFc (fun r_2 u t H1 locs ht hvm hw hB hz1 hk1 hS => ?_)
  obtain ⟨hP1, hK1, hD1⟩ := hB
  rw [ht] at hP1
  have hK1 := va_K.moved hvm.symm hK1
  obtain ⟨hP, hD⟩ := va_join (wr := [(h0, .inr (1, [.ref ek, .ref ec, .ref ef, .ref cki, .int e_limit, .int e_fresh, .int e_firstFree, .int e_held, .int e_mostHeld, .int e_made, .int e_reused, .int e_freed, .int e_doubled])), (ek, .inl (e1, 4000, .inl gk)), (ec, .inl (e2, 4000, .inl gc)), (ef, .inl (e3, 12000, .inr (.inl gv)))]) (w1 := [(cki, .inr (4, [.ref kw, .ref kf, .int z])), (kw, .inl (k1, 20, .inr (.inl gw))), (kf, .inl (k2, 20, .inl gf))]) hP hD [4, 5, 6] [0, 1, 2, 3] rfl rfl (by decide) (by decide) hk1 hFc hP1 hD1
  have hK := (hK.sub (tys' := [(e1, .int), (e2, .int), (e3, .long)]) [0, 1, 2] rfl).app hK1
  generalize H1 = H at hP hS ⊢
  have hP : va_P (dC, dI) vwCl [(h0, .inr (1, [.ref ek, .ref ec, .ref ef, .ref cki, .int e_limit, .int e_fresh, .int e_firstFree, .int e_held, .int e_mostHeld, .int e_made, .int e_reused, .int e_freed, .int e_doubled])), (ek, .inl (e1, 4000, .inl gk)), (ec, .inl (e2, 4000, .inl gc)), (ef, .inl (e3, 12000, .inr (.inl gv))), (cki, .inr (4, [.ref kw, .ref kf, .int z])), (kw, .inl (k1, 20, .inr (.inl gw))), (kf, .inl (k2, 20, .inl gf))] H := hP
  have hD : va_D A [(h0, .inr (1, [.ref ek, .ref ec, .ref ef, .ref cki, .int e_limit, .int e_fresh, .int e_firstFree, .int e_held, .int e_mostHeld, .int e_made, .int e_reused, .int e_freed, .int e_doubled])), (ek, .inl (e1, 4000, .inl gk)), (ec, .inl (e2, 4000, .inl gc)), (ef, .inl (e3, 12000, .inr (.inl gv))), (cki, .inr (4, [.ref kw, .ref kf, .int z])), (kw, .inl (k1, 20, .inr (.inl gw))), (kf, .inl (k2, 20, .inl gf))] := hD
  have hK : va_K (dC, dI) vwCl [(e1, .int), (e2, .int), (e3, .long), (k1, .long), (k2, .int)] s := hK
  have hw_r_2 := hw
  try dsimp only at hw_r_2
  obtain ⟨hq_3, hq_4, hq_5⟩ := hw
  have hP9 := hP.sub (ws' := [(h0, .inr (1, [.ref ek, .ref ec, .ref ef, .ref cki, .int e_limit, .int e_fresh, .int e_firstFree, .int e_held, .int e_mostHeld, .int e_made, .int e_reused, .int e_freed, .int e_doubled])), (ek, .inl (e1, 4000, .inl gk)), (ec, .inl (e2, 4000, .inl gc)), (ef, .inl (e3, 12000, .inr (.inl gv))), (cki, .inr (4, [.ref kw, .ref kf, .int z])), (kw, .inl (k1, 20, .inr (.inl gw))), (kf, .inl (k2, 20, .inl gf))]) [0, 1, 2, 3, 4, 5, 6] rfl
  have hD9 := hD.sub (ws' := [(h0, .inr (1, [.ref ek, .ref ec, .ref ef, .ref cki, .int e_limit, .int e_fresh, .int e_firstFree, .int e_held, .int e_mostHeld, .int e_made, .int e_reused, .int e_freed, .int e_doubled])), (ek, .inl (e1, 4000, .inl gk)), (ec, .inl (e2, 4000, .inl gc)), (ef, .inl (e3, 12000, .inr (.inl gv))), (cki, .inr (4, [.ref kw, .ref kf, .int z])), (kw, .inl (k1, 20, .inr (.inl gw))), (kf, .inl (k2, 20, .inl gf))]) [0, 1, 2, 3, 4, 5, 6] (by decide) rfl
  have hK9 := hK.sub (tys' := [(e1, .int), (e2, .int), (e3, .long), (k1, .long), (k2, .int)]) [0, 1, 2, 3, 4] rfl
  exact W.iret (v := r_2) hx hb hr (fun t ht hW => ⟨⟨r_2, (), rfl, ⟨by omega, by omega, (by rw [hq_5, ex_1])⟩, by rw [ht]; exact hP9, va_K.moved hW.alike hK9, hD9⟩, hS.F ht⟩) hS.2.2 dX1_width_13
set_option maxHeartbeats 4000000 in
set_option maxRecDepth 100000 in
theorem c_X1_field_x4000 (l : Launch) (dC : Nat → ClassId) (dI : Nat → Nat → Nat) (aK aV : Nat → Nat) (h0 : Nat) (ek : Nat) (ec : Nat) (ef : Nat) (cki : Nat) (e1 : ClassId) (e2 : ClassId) (e3 : ClassId) (e_limit : Int32) (e_fresh : Int32) (e_firstFree : Int32) (e_held : Int32) (e_mostHeld : Int32) (e_made : Int32) (e_reused : Int32) (e_freed : Int32) (e_doubled : Int32) (gk : Nat → Int32) (gc : Nat → Int32) (gv : Nat → Int64) (ce : Int32) (k : Int32) (sz : Nat) (hc0 : 0 ≤ ce.toInt) (hc1 : ce.toInt < 4000) (hk0 : 0 ≤ k.toInt) (hk1 : k.toInt < 3) : Met l yX1_field (Cond.code yX1_field cX1_field 3 (some .long) :: zw) ({ frames := 8, cells := 0, slots := 0, locals := 200 }) (va_Pc [.ref h0, .int ce, .int k] (zP dC dI aK aV sz [(e1, .int), (e2, .int), (e3, .long)] [(h0, .inr (1, [.ref ek, .ref ec, .ref ef, .ref cki, .int e_limit, .int e_fresh, .int e_firstFree, .int e_held, .int e_mostHeld, .int e_made, .int e_reused, .int e_freed, .int e_doubled])), (ek, .inl (e1, 4000, .inl gk)), (ec, .inl (e2, 4000, .inl gc)), (ef, .inl (e3, 12000, .inr (.inl gv)))])) (va_Ql (fun (r : Int64) (u : Unit) => (r = gv (3 * Int32.toNatClampNeg ce + Int32.toNatClampNeg k))) (fun u => zQ dC dI (va_A [(h0, .inr (1, [.ref ek, .ref ec, .ref ef, .ref cki, .int e_limit, .int e_fresh, .int e_firstFree, .int e_held, .int e_mostHeld, .int e_made, .int e_reused, .int e_freed, .int e_doubled])), (ek, .inl (e1, 4000, .inl gk)), (ec, .inl (e2, 4000, .inl gc)), (ef, .inl (e3, 12000, .inr (.inl gv)))] sz) [(e1, .int), (e2, .int), (e3, .long)] [(h0, .inr (1, [.ref ek, .ref ec, .ref ef, .ref cki, .int e_limit, .int e_fresh, .int e_firstFree, .int e_held, .int e_mostHeld, .int e_made, .int e_reused, .int e_freed, .int e_doubled])), (ek, .inl (e1, 4000, .inl gk)), (ec, .inl (e2, 4000, .inl gc)), (ef, .inl (e3, 12000, .inr (.inl gv)))]) (va_A [(h0, .inr (1, [.ref ek, .ref ec, .ref ef, .ref cki, .int e_limit, .int e_fresh, .int e_firstFree, .int e_held, .int e_mostHeld, .int e_made, .int e_reused, .int e_freed, .int e_doubled])), (ek, .inl (e1, 4000, .inl gk)), (ec, .inl (e2, 4000, .inl gc)), (ef, .inl (e3, 12000, .inr (.inl gv)))] sz)) 0 0 (va_A [(h0, .inr (1, [.ref ek, .ref ec, .ref ef, .ref cki, .int e_limit, .int e_fresh, .int e_firstFree, .int e_held, .int e_mostHeld, .int e_made, .int e_reused, .int e_freed, .int e_doubled])), (ek, .inl (e1, 4000, .inl gk)), (ec, .inl (e2, 4000, .inl gc)), (ef, .inl (e3, 12000, .inr (.inl gv)))] sz) := by
  refine Met.ofW (cc := cX1_field) (maxL := 3) (ret := (some .long)) (by decide) rfl ?_
  intro p e s m args below meth c s₁ B hml hv
  obtain ⟨rfl, hsz, hP, hK, hD0, hN, hT⟩ := hv
  have hx := B.exec
  have hb := B.bytes
  have hr := B.returns
  have hts := atoms_spec (ws := Cond.code yX1_field cX1_field 3 (some .long) :: zw) B.pre
  have hA : ∀ w ∈ zw, w.before _ s = true := fun w h => hts w (List.mem_cons_of_mem _ h)
  have hown : s.vm.findClass RX1 = some m.cls := findClass_of_methodNamed B.named
  have hlocks := B.notSynchronized
  subst hsz
  have hD := hD0.self (sz := s.heap.size)
  generalize hAe : va_A [(h0, .inr (1, [.ref ek, .ref ec, .ref ef, .ref cki, .int e_limit, .int e_fresh, .int e_firstFree, .int e_held, .int e_mostHeld, .int e_made, .int e_reused, .int e_freed, .int e_doubled])), (ek, .inl (e1, 4000, .inl gk)), (ec, .inl (e2, 4000, .inl gc)), (ef, .inl (e3, 12000, .inr (.inl gv)))] s.heap.size = A at hD hT ⊢
  have hAA : ∀ q : Nat, s.heap.size ≤ q → A q := fun q h => by rw [← hAe]; exact Or.inr h
  have hS : va_S A s.heap s.heap [] := va_S.rf
  have hl := lv_entry ([.ref h0, .int ce, .int k]) (n := 3) (Nat.le_of_ble_eq_true rfl)
  rw [lg_entry_eq]
  generalize (lg_sl ([.ref h0, .int ce, .int k]) ++ List.replicate (3 - (lg_sl ([.ref h0, .int ce, .int k])).length) Slot.unset).toArray = ls at hl ⊢
  have hl : lv_has ls 3 [(0, .ref h0), (1, .int ce), (2, .int k)] := hl
  refine lv_aload_n hx hb dX1_field_0 rfl (lv_at hl 0 rfl) ?_
  refine va_get (D := (dC, dI)) (ci := 1) (v := .ref ef) (C := RX1) (T := TX1) (N := 13) hx hb hA zin_X1 hown hK hP 0 rfl rfl 2 (by decide) (hA _ wi_438) (fun _ h9 => h9) rfl dX1_field_1 ?_
  refine lv_iload_n hx hb dX1_field_4 rfl (lv_at hl 1 rfl) ?_
  refine lv_iconst (v := 3) hx hb dX1_field_5 (by decide) ?_
  refine lv_imul hx hb dX1_field_6 ?_
  refine lv_topi (fun x_1 ex_1 => ?_)
  have ix_1 : x_1.toInt = ce.toInt * 3 := by rw [ex_1]; exact zi_mulc (by decide) (by omega) (by omega)
  refine lv_iload_n hx hb dX1_field_7 rfl (lv_at hl 2 rfl) ?_
  refine lv_iadd hx hb dX1_field_8 ?_
  refine lv_topi (fun x_2 ex_2 => ?_)
  have ix_2 : x_2.toInt = x_1.toInt + k.toInt := by rw [ex_2]; exact zi_addc rfl (by omega) (by omega)
  refine va_lald hx hb hK hP 3 2 rfl rfl (vp_in_iff.mpr ⟨by omega, by omega⟩) dX1_field_9 ?_
  refine lv_topl (fun x_3 ex_3 => ?_)
  have hP9 := hP.sub (ws' := [(h0, .inr (1, [.ref ek, .ref ec, .ref ef, .ref cki, .int e_limit, .int e_fresh, .int e_firstFree, .int e_held, .int e_mostHeld, .int e_made, .int e_reused, .int e_freed, .int e_doubled])), (ek, .inl (e1, 4000, .inl gk)), (ec, .inl (e2, 4000, .inl gc)), (ef, .inl (e3, 12000, .inr (.inl gv)))]) [0, 1, 2, 3] rfl
  have hD9 := hD.sub (ws' := [(h0, .inr (1, [.ref ek, .ref ec, .ref ef, .ref cki, .int e_limit, .int e_fresh, .int e_firstFree, .int e_held, .int e_mostHeld, .int e_made, .int e_reused, .int e_freed, .int e_doubled])), (ek, .inl (e1, 4000, .inl gk)), (ec, .inl (e2, 4000, .inl gc)), (ef, .inl (e3, 12000, .inr (.inl gv)))]) [0, 1, 2, 3] (by decide) rfl
  have hK9 := hK.sub (tys' := [(e1, .int), (e2, .int), (e3, .long)]) [0, 1, 2] rfl
  exact W.lret (v := x_3) hx hb hr (fun t ht hW => ⟨⟨x_3, (), rfl, (by rw [ex_3]; exact congrArg gv (zn_3 (by omega) (by omega) (by omega))), by rw [ht]; exact hP9, va_K.moved hW.alike hK9, hD9⟩, hS.F ht⟩) hS.2.2 dX1_field_10
set_option maxHeartbeats 4000000 in
set_option maxRecDepth 100000 in
theorem c_X1_kindOf_x4000 (l : Launch) (dC : Nat → ClassId) (dI : Nat → Nat → Nat) (aK aV : Nat → Nat) (h0 : Nat) (ek : Nat) (ec : Nat) (ef : Nat) (cki : Nat) (e1 : ClassId) (e2 : ClassId) (e3 : ClassId) (e_limit : Int32) (e_fresh : Int32) (e_firstFree : Int32) (e_held : Int32) (e_mostHeld : Int32) (e_made : Int32) (e_reused : Int32) (e_freed : Int32) (e_doubled : Int32) (gk : Nat → Int32) (gc : Nat → Int32) (gv : Nat → Int64) (va : Int64) (sz : Nat) (hgd : zhs va = 2 → 0 ≤ (va.toInt32).toInt ∧ (va.toInt32).toInt < 4000) : Met l yX1_kindOf (Cond.code yX1_kindOf cX1_kindOf 3 (some .int) :: zw) ({ frames := 10, cells := 0, slots := 0, locals := 300 }) (va_Pc [.ref h0, .long va] (zP dC dI aK aV sz [(e1, .int), (e2, .int), (e3, .long)] [(h0, .inr (1, [.ref ek, .ref ec, .ref ef, .ref cki, .int e_limit, .int e_fresh, .int e_firstFree, .int e_held, .int e_mostHeld, .int e_made, .int e_reused, .int e_freed, .int e_doubled])), (ek, .inl (e1, 4000, .inl gk)), (ec, .inl (e2, 4000, .inl gc)), (ef, .inl (e3, 12000, .inr (.inl gv)))])) (va_Qi (fun (r : Int32) (u : Unit) => (zhs va = 0 ∧ r = -1 ∨ zhs va = 2 ∧ r = gk (Int32.toNatClampNeg va.toInt32) ∨ zhs va ≠ 0 ∧ zhs va ≠ 2 ∧ r = va.toInt32)) (fun u => zQ dC dI (va_A [(h0, .inr (1, [.ref ek, .ref ec, .ref ef, .ref cki, .int e_limit, .int e_fresh, .int e_firstFree, .int e_held, .int e_mostHeld, .int e_made, .int e_reused, .int e_freed, .int e_doubled])), (ek, .inl (e1, 4000, .inl gk)), (ec, .inl (e2, 4000, .inl gc)), (ef, .inl (e3, 12000, .inr (.inl gv)))] sz) [(e1, .int), (e2, .int), (e3, .long)] [(h0, .inr (1, [.ref ek, .ref ec, .ref ef, .ref cki, .int e_limit, .int e_fresh, .int e_firstFree, .int e_held, .int e_mostHeld, .int e_made, .int e_reused, .int e_freed, .int e_doubled])), (ek, .inl (e1, 4000, .inl gk)), (ec, .inl (e2, 4000, .inl gc)), (ef, .inl (e3, 12000, .inr (.inl gv)))]) (va_A [(h0, .inr (1, [.ref ek, .ref ec, .ref ef, .ref cki, .int e_limit, .int e_fresh, .int e_firstFree, .int e_held, .int e_mostHeld, .int e_made, .int e_reused, .int e_freed, .int e_doubled])), (ek, .inl (e1, 4000, .inl gk)), (ec, .inl (e2, 4000, .inl gc)), (ef, .inl (e3, 12000, .inr (.inl gv)))] sz)) 0 0 (va_A [(h0, .inr (1, [.ref ek, .ref ec, .ref ef, .ref cki, .int e_limit, .int e_fresh, .int e_firstFree, .int e_held, .int e_mostHeld, .int e_made, .int e_reused, .int e_freed, .int e_doubled])), (ek, .inl (e1, 4000, .inl gk)), (ec, .inl (e2, 4000, .inl gc)), (ef, .inl (e3, 12000, .inr (.inl gv)))] sz) := by
  refine Met.ofW (cc := cX1_kindOf) (maxL := 3) (ret := (some .int)) (by decide) rfl ?_
  intro p e s m args below meth c s₁ B hml hv
  obtain ⟨rfl, hsz, hP, hK, hD0, hN, hT⟩ := hv
  have hx := B.exec
  have hb := B.bytes
  have hr := B.returns
  have hts := atoms_spec (ws := Cond.code yX1_kindOf cX1_kindOf 3 (some .int) :: zw) B.pre
  have hA : ∀ w ∈ zw, w.before _ s = true := fun w h => hts w (List.mem_cons_of_mem _ h)
  have hown : s.vm.findClass RX1 = some m.cls := findClass_of_methodNamed B.named
  have hlocks := B.notSynchronized
  subst hsz
  have hD := hD0.self (sz := s.heap.size)
  generalize hAe : va_A [(h0, .inr (1, [.ref ek, .ref ec, .ref ef, .ref cki, .int e_limit, .int e_fresh, .int e_firstFree, .int e_held, .int e_mostHeld, .int e_made, .int e_reused, .int e_freed, .int e_doubled])), (ek, .inl (e1, 4000, .inl gk)), (ec, .inl (e2, 4000, .inl gc)), (ef, .inl (e3, 12000, .inr (.inl gv)))] s.heap.size = A at hD hT ⊢
  have hAA : ∀ q : Nat, s.heap.size ≤ q → A q := fun q h => by rw [← hAe]; exact Or.inr h
  have hS : va_S A s.heap s.heap [] := va_S.rf
  have hl := lv_entry ([.ref h0, .long va]) (n := 3) (Nat.le_of_ble_eq_true rfl)
  rw [lg_entry_eq]
  generalize (lg_sl ([.ref h0, .long va]) ++ List.replicate (3 - (lg_sl ([.ref h0, .long va])).length) Slot.unset).toArray = ls at hl ⊢
  have hl : lv_has ls 3 [(0, .ref h0), (1, .long va)] := hl
  refine lv_lload_n hx hb dX1_kindOf_0 rfl (lv_at hl 1 rfl) ?_
  have hPc := hP.sub (ws' := []) [] rfl
  have hDc := hD.sub (ws' := []) [] (by decide) rfl
  have hKc := hK.sub (tys' := []) [] rfl
  have hFc := va_free (wc := []) hD hS hAA [] rfl
  refine va_calli (va_runS (As := [.long va]) (rest := []) ⟨hx, hb, hml, hown, hA⟩ (c_X1_isInt_x l dC dI aK aV va s.heap.size) (va_cwS 1 hA (zw_S wi_1250 wi_1236 wi_140 (zw_good wi_1237)) rfl rfl rfl (by decide +kernel) ⟨(Nat.le_of_ble_eq_true rfl), (Nat.le_of_ble_eq_true rfl)⟩) ⟨zP_blind, zz_pre hKc hPc hDc hN hT hS hFc⟩ rfl rfl hl.1 rfl (lv_room (Nat.le_of_ble_eq_true rfl)) dX1_kindOf_1 ⟨(Nat.le_of_ble_eq_true rfl), (Nat.le_of_ble_eq_true rfl)⟩) hS (fun q _ h => hFc q h) hFc (fun r_1 u t H1 locs ht hvm hw hB hz1 hk1 hS => ?_)
  obtain ⟨hP1, hK1, hD1⟩ := hB
  rw [ht] at hP1
  have hK1 := va_K.moved hvm.symm hK1
  obtain ⟨hP, hD⟩ := va_join (wr := [(h0, .inr (1, [.ref ek, .ref ec, .ref ef, .ref cki, .int e_limit, .int e_fresh, .int e_firstFree, .int e_held, .int e_mostHeld, .int e_made, .int e_reused, .int e_freed, .int e_doubled])), (ek, .inl (e1, 4000, .inl gk)), (ec, .inl (e2, 4000, .inl gc)), (ef, .inl (e3, 12000, .inr (.inl gv)))]) (w1 := []) hP hD [] [0, 1, 2, 3] rfl rfl (by decide) (by decide) hk1 hFc hP1 hD1
  have hK := (hK.sub (tys' := [(e1, .int), (e2, .int), (e3, .long)]) [0, 1, 2] rfl).app hK1
  generalize H1 = H at hP hS ⊢
  have hP : va_P (dC, dI) vwCl [(h0, .inr (1, [.ref ek, .ref ec, .ref ef, .ref cki, .int e_limit, .int e_fresh, .int e_firstFree, .int e_held, .int e_mostHeld, .int e_made, .int e_reused, .int e_freed, .int e_doubled])), (ek, .inl (e1, 4000, .inl gk)), (ec, .inl (e2, 4000, .inl gc)), (ef, .inl (e3, 12000, .inr (.inl gv)))] H := hP
  have hD : va_D A [(h0, .inr (1, [.ref ek, .ref ec, .ref ef, .ref cki, .int e_limit, .int e_fresh, .int e_firstFree, .int e_held, .int e_mostHeld, .int e_made, .int e_reused, .int e_freed, .int e_doubled])), (ek, .inl (e1, 4000, .inl gk)), (ec, .inl (e2, 4000, .inl gc)), (ef, .inl (e3, 12000, .inr (.inl gv)))] := hD
  have hK : va_K (dC, dI) vwCl [(e1, .int), (e2, .int), (e3, .long)] s := hK
  have hw_r_1 := hw
  try dsimp only at hw_r_1
  have hq_2 := hw
  refine lv_if_eq (tgt := 9) hx hb dX1_kindOf_4 (by decide) (fun c_3 => ?_) (fun c_3 => ?_)
  · have ic_3 : r_1.toInt = 0 := zi_eq c_3
    have hnint9 : zhs va ≠ 0 := hq_2.elim (fun g => absurd g.1 (by omega)) (fun g => g.2)
    refine lv_lload_n hx hb dX1_kindOf_9 rfl (lv_at hl 1 rfl) ?_
    have hPc := hP.sub (ws' := []) [] rfl
    have hDc := hD.sub (ws' := []) [] (by decide) rfl
    have hKc := hK.sub (tys' := []) [] rfl
    have hFc := va_free (wc := []) hD hS hAA [] rfl
    refine va_calli (va_runS (As := [.long va]) (rest := []) ⟨hx, hb, hml, hown, hA⟩ (c_X1_isCell_x l dC dI aK aV va H.size) (va_cwS 1 hA (zw_S wi_1146 wi_1147 wi_140 (zw_good wi_1148)) rfl rfl rfl (by decide +kernel) ⟨(Nat.le_of_ble_eq_true rfl), (Nat.le_of_ble_eq_true rfl)⟩) ⟨zP_blind, zz_pre hKc hPc hDc hN hT hS hFc⟩ rfl rfl hl.1 rfl (lv_room (Nat.le_of_ble_eq_true rfl)) dX1_kindOf_10 ⟨(Nat.le_of_ble_eq_true rfl), (Nat.le_of_ble_eq_true rfl)⟩) hS (fun q _ h => hFc q h) hFc (fun r_4 u t H1 locs ht hvm hw hB hz1 hk1 hS => ?_)
    obtain ⟨hP1, hK1, hD1⟩ := hB
    rw [ht] at hP1
    have hK1 := va_K.moved hvm.symm hK1
    obtain ⟨hP, hD⟩ := va_join (wr := [(h0, .inr (1, [.ref ek, .ref ec, .ref ef, .ref cki, .int e_limit, .int e_fresh, .int e_firstFree, .int e_held, .int e_mostHeld, .int e_made, .int e_reused, .int e_freed, .int e_doubled])), (ek, .inl (e1, 4000, .inl gk)), (ec, .inl (e2, 4000, .inl gc)), (ef, .inl (e3, 12000, .inr (.inl gv)))]) (w1 := []) hP hD [] [0, 1, 2, 3] rfl rfl (by decide) (by decide) hk1 hFc hP1 hD1
    have hK := (hK.sub (tys' := [(e1, .int), (e2, .int), (e3, .long)]) [0, 1, 2] rfl).app hK1
    generalize H1 = H at hP hS ⊢
    have hP : va_P (dC, dI) vwCl [(h0, .inr (1, [.ref ek, .ref ec, .ref ef, .ref cki, .int e_limit, .int e_fresh, .int e_firstFree, .int e_held, .int e_mostHeld, .int e_made, .int e_reused, .int e_freed, .int e_doubled])), (ek, .inl (e1, 4000, .inl gk)), (ec, .inl (e2, 4000, .inl gc)), (ef, .inl (e3, 12000, .inr (.inl gv)))] H := hP
    have hD : va_D A [(h0, .inr (1, [.ref ek, .ref ec, .ref ef, .ref cki, .int e_limit, .int e_fresh, .int e_firstFree, .int e_held, .int e_mostHeld, .int e_made, .int e_reused, .int e_freed, .int e_doubled])), (ek, .inl (e1, 4000, .inl gk)), (ec, .inl (e2, 4000, .inl gc)), (ef, .inl (e3, 12000, .inr (.inl gv)))] := hD
    have hK : va_K (dC, dI) vwCl [(e1, .int), (e2, .int), (e3, .long)] s := hK
    have hw_r_4 := hw
    try dsimp only at hw_r_4
    have hq_5 := hw
    refine lv_if_eq (tgt := 26) hx hb dX1_kindOf_13 (by decide) (fun c_6 => ?_) (fun c_6 => ?_)
    · have ic_6 : r_4.toInt = 0 := zi_eq c_6
      have hncell9 : zhs va ≠ 2 := hq_5.elim (fun g => absurd g.1 (by omega)) (fun g => g.2)
      refine lv_lload_n hx hb dX1_kindOf_26 rfl (lv_at hl 1 rfl) ?_
      refine lv_l2i hx hb dX1_kindOf_27 rfl ?_
      refine lv_topi (fun x_7 ex_7 => ?_)
      have hP9 := hP.sub (ws' := [(h0, .inr (1, [.ref ek, .ref ec, .ref ef, .ref cki, .int e_limit, .int e_fresh, .int e_firstFree, .int e_held, .int e_mostHeld, .int e_made, .int e_reused, .int e_freed, .int e_doubled])), (ek, .inl (e1, 4000, .inl gk)), (ec, .inl (e2, 4000, .inl gc)), (ef, .inl (e3, 12000, .inr (.inl gv)))]) [0, 1, 2, 3] rfl
      have hD9 := hD.sub (ws' := [(h0, .inr (1, [.ref ek, .ref ec, .ref ef, .ref cki, .int e_limit, .int e_fresh, .int e_firstFree, .int e_held, .int e_mostHeld, .int e_made, .int e_reused, .int e_freed, .int e_doubled])), (ek, .inl (e1, 4000, .inl gk)), (ec, .inl (e2, 4000, .inl gc)), (ef, .inl (e3, 12000, .inr (.inl gv)))]) [0, 1, 2, 3] (by decide) rfl
      have hK9 := hK.sub (tys' := [(e1, .int), (e2, .int), (e3, .long)]) [0, 1, 2] rfl
      exact W.iret (v := x_7) hx hb hr (fun t ht hW => ⟨⟨x_7, (), rfl, (Or.inr (Or.inr ⟨hnint9, hncell9, ex_7⟩)), by rw [ht]; exact hP9, va_K.moved hW.alike hK9, hD9⟩, hS.F ht⟩) hS.2.2 dX1_kindOf_28
    · have ic_6 : r_4.toInt ≠ 0 := zi_ne c_6
      have hcell9 : zhs va = 2 := hq_5.elim (fun g => g.2) (fun g => absurd g.1 (by omega))
      have hg9 := hgd hcell9
      refine lv_aload_n hx hb dX1_kindOf_16 rfl (lv_at hl 0 rfl) ?_
      refine va_get (D := (dC, dI)) (ci := 1) (v := .ref ek) (C := RX1) (T := TX1) (N := 13) hx hb hA zin_X1 hown hK hP 0 rfl rfl 0 (by decide) (hA _ wi_435) (fun _ h9 => h9) rfl dX1_kindOf_17 ?_
      refine lv_lload_n hx hb dX1_kindOf_20 rfl (lv_at hl 1 rfl) ?_
      refine lv_l2i hx hb dX1_kindOf_21 rfl ?_
      refine lv_topi (fun x_8 ex_8 => ?_)
      have ix_8 : x_8.toInt = (va.toInt32).toInt := by rw [ex_8]
      refine va_iald hx hb hK hP 1 0 rfl rfl (vp_in_iff.mpr ⟨by omega, by omega⟩) dX1_kindOf_22 ?_
      refine lv_topi (fun x_9 ex_9 => ?_)
      refine lv_goto (tgt := 28) hx hb dX1_kindOf_23 (by decide) ?_
      have hP9 := hP.sub (ws' := [(h0, .inr (1, [.ref ek, .ref ec, .ref ef, .ref cki, .int e_limit, .int e_fresh, .int e_firstFree, .int e_held, .int e_mostHeld, .int e_made, .int e_reused, .int e_freed, .int e_doubled])), (ek, .inl (e1, 4000, .inl gk)), (ec, .inl (e2, 4000, .inl gc)), (ef, .inl (e3, 12000, .inr (.inl gv)))]) [0, 1, 2, 3] rfl
      have hD9 := hD.sub (ws' := [(h0, .inr (1, [.ref ek, .ref ec, .ref ef, .ref cki, .int e_limit, .int e_fresh, .int e_firstFree, .int e_held, .int e_mostHeld, .int e_made, .int e_reused, .int e_freed, .int e_doubled])), (ek, .inl (e1, 4000, .inl gk)), (ec, .inl (e2, 4000, .inl gc)), (ef, .inl (e3, 12000, .inr (.inl gv)))]) [0, 1, 2, 3] (by decide) rfl
      have hK9 := hK.sub (tys' := [(e1, .int), (e2, .int), (e3, .long)]) [0, 1, 2] rfl
      exact W.iret (v := x_9) hx hb hr (fun t ht hW => ⟨⟨x_9, (), rfl, (Or.inr (Or.inl ⟨hcell9, by rw [ex_9, ex_8]⟩)), by rw [ht]; exact hP9, va_K.moved hW.alike hK9, hD9⟩, hS.F ht⟩) hS.2.2 dX1_kindOf_28
  · have ic_3 : r_1.toInt ≠ 0 := zi_ne c_3
    have hint9 : zhs va = 0 := hq_2.elim (fun g => g.2) (fun g => absurd g.1 (by omega))
    refine lv_iconst (v := (-1)) hx hb dX1_kindOf_7 (by decide) ?_
    have hlit : Int32.toInt (-1) = (-1) := by decide
    have hP9 := hP.sub (ws' := [(h0, .inr (1, [.ref ek, .ref ec, .ref ef, .ref cki, .int e_limit, .int e_fresh, .int e_firstFree, .int e_held, .int e_mostHeld, .int e_made, .int e_reused, .int e_freed, .int e_doubled])), (ek, .inl (e1, 4000, .inl gk)), (ec, .inl (e2, 4000, .inl gc)), (ef, .inl (e3, 12000, .inr (.inl gv)))]) [0, 1, 2, 3] rfl
    have hD9 := hD.sub (ws' := [(h0, .inr (1, [.ref ek, .ref ec, .ref ef, .ref cki, .int e_limit, .int e_fresh, .int e_firstFree, .int e_held, .int e_mostHeld, .int e_made, .int e_reused, .int e_freed, .int e_doubled])), (ek, .inl (e1, 4000, .inl gk)), (ec, .inl (e2, 4000, .inl gc)), (ef, .inl (e3, 12000, .inr (.inl gv)))]) [0, 1, 2, 3] (by decide) rfl
    have hK9 := hK.sub (tys' := [(e1, .int), (e2, .int), (e3, .long)]) [0, 1, 2] rfl
    exact W.iret (v := (-1)) hx hb hr (fun t ht hW => ⟨⟨(-1), (), rfl, (Or.inl ⟨hint9, rfl⟩), by rw [ht]; exact hP9, va_K.moved hW.alike hK9, hD9⟩, hS.F ht⟩) hS.2.2 dX1_kindOf_8

end
section
/-- what is doomed and not freed is lost -/
theorem zCS_leak {wd : Nat → Nat} {gc : Nat → Int32} {gv : Nat → Int64} {fresh ff held dbl dm : Int32} {lv : Nat → Bool} {R : Nat → Int} {FL DL : List Nat} (h : zCS wd gc gv fresh ff held dbl lv R FL DL dm) : zCS wd gc gv fresh ff held dbl lv R FL [] (-1) := by
  obtain ⟨hI, h0, h4, hd, hR0, hf, hdm, hnd, hfl, hh, hg⟩ := h
  refine ⟨zI_leak hI (fun c => ?_) (fun c => ?_), h0, h4, hd, hR0, hf, by show (-1 : Int32).toInt = -1; decide, ?_, fun c hc => hfl c ?_, hh, fun d hd => hg d (hd.elim Or.inl (fun g => (nomatch g)))⟩
  · have := zdl_0 (wd := wd) (gv := gv) (l := DL) (c := c)
    show R c + 0 ≤ R c + zdl wd gv DL c
    omega
  · have := hR0 c
    show 0 ≤ R c + 0
    omega
  · rw [List.append_nil]; exact (List.nodup_append.mp hnd).1
  · rw [List.append_nil] at hc; exact List.mem_append.mpr (Or.inl hc)
/-- the first of the doomed is taken in hand: its own references are held -/
theorem zCS_pop {wd : Nat → Nat} {gc : Nat → Int32} {gv : Nat → Int64} {fresh ff held dbl dm : Int32} {lv : Nat → Bool} {R : Nat → Int} {FL DL : List Nat} (h : zCS wd gc gv fresh ff held dbl lv R FL DL dm) (hne : dm.toInt ≠ -1) : 0 ≤ dm.toInt ∧ dm.toInt < fresh.toInt ∧ lv (Int32.toNatClampNeg dm) = false ∧ (∀ k, k < wd (Int32.toNatClampNeg dm) → zgd (gv (3 * Int32.toNatClampNeg dm + k))) ∧ Int32.toNatClampNeg dm ∈ DL ∧ ∃ DL2, zCS wd gc gv fresh ff held dbl lv (fun c => R c + zcf zr wd gv (Int32.toNatClampNeg dm) c) FL DL2 (gc (Int32.toNatClampNeg dm)) ∧ Int32.toNatClampNeg dm ∉ FL ++ DL2 ∧ ∀ c ∈ DL2, c ∈ DL := by
  obtain ⟨hI, h0, h4, hd, hR0, hf, hdm, hnd, hfl, hh, hg⟩ := h
  have hn := zn_nat h0
  cases DL with
  | nil => exact (hne hdm).elim
  | cons y DL =>
    have h1 : dm.toInt = (y : Int) := hdm.1
    have hy := zn_nat (x := dm) (by omega)
    have e : Int32.toNatClampNeg dm = y := by omega
    rw [e]
    have hm := hfl y (List.mem_append.mpr (Or.inr List.mem_cons_self))
    obtain ⟨n1, n2, n3⟩ := List.nodup_append.mp hnd
    have hyF : y ∉ FL := fun g => n3 y g y List.mem_cons_self rfl
    have hyD := (List.nodup_cons.mp n2).1
    refine ⟨by omega, by omega, hm.2, fun k hk => hg y (Or.inr List.mem_cons_self) k hk, List.mem_cons_self, DL, ⟨?_, h0, h4, hd, fun c => ?_, hf, hdm.2, ?_, fun c hc => hfl c ?_, hh, fun d hd => hg d (hd.elim Or.inl (fun g => Or.inr (List.mem_cons_of_mem _ g)))⟩, fun g => ?_, fun c hc => List.mem_cons_of_mem _ hc⟩
    · have e2 : (fun c => R c + zcf zr wd gv y c + zdl wd gv DL c : Nat → Int) = (fun c => R c + zdl wd gv (y :: DL) c) := by
        funext c
        show _ = R c + (zcf zr wd gv y c + zdl wd gv DL c)
        omega
      rw [e2]; exact hI
    · have := hR0 c
      have := zcf_0 zr_0 (wd := wd) (gv := gv) (d := y) (c := c)
      show 0 ≤ R c + zcf zr wd gv y c
      omega
    · exact List.nodup_append.mpr ⟨n1, (List.nodup_cons.mp n2).2, fun a ha b hb => n3 a ha b (List.mem_cons_of_mem _ hb)⟩
    · rcases List.mem_append.mp hc with u | u
      · exact List.mem_append.mpr (Or.inl u)
      · exact List.mem_append.mpr (Or.inr (List.mem_cons_of_mem _ u))
    · exact (List.mem_append.mp g).elim hyF hyD
/-- what is left of a sum from k on -/
def zrm (n k : Nat) (f : Nat → Int) : Int := zs n (fun j => if k ≤ j then f j else 0)
theorem zrm_0 {n : Nat} {f : Nat → Int} : zrm n 0 f = zs n f := zs_ext (fun d _ => if_pos (Nat.zero_le d))
theorem zs_z {f : Nat → Int} : ∀ {n : Nat}, (∀ d, d < n → f d = 0) → zs n f = 0
  | 0, _ => rfl
  | n + 1, h => by
    show zs n f + f n = 0
    rw [zs_z (fun d hd => h d (by omega)), h n (by omega)]; rfl
theorem zrm_e {n k : Nat} {f : Nat → Int} (h : n ≤ k) : zrm n k f = 0 := zs_z (fun d hd => if_neg (by omega))
theorem zrm_s {n k : Nat} {f : Nat → Int} (h : k < n) : zrm n k f = zrm n (k + 1) f + f k := by
  have := zs_up (f := fun j => if k + 1 ≤ j then f j else 0) (g := fun j => if k ≤ j then f j else 0) (n := n) (x := k) (fun d _ hd => by
    show (if k ≤ d then f d else 0) = (if k + 1 ≤ d then f d else 0)
    by_cases g : k ≤ d
    · rw [if_pos g, if_pos (by omega)]
    · rw [if_neg g, if_neg (by omega)]) h
  unfold zrm
  rw [this, if_neg (by omega : ¬ k + 1 ≤ k), if_pos (Nat.le_refl k)]; omega
theorem zrm_p {n k : Nat} {f : Nat → Int} (h : ∀ j, 0 ≤ f j) : 0 ≤ zrm n k f := zs_0 (fun d _ => by
  show 0 ≤ (if k ≤ d then f d else 0)
  have := h d
  split <;> omega)

end
section
theorem wi_1145 : Cond.code yX1_lower cX1_lower 5 (some .int) ∈ zw := zw_in (List.mem_of_getElem? (i := 1145) (by decide +kernel)) (by decide +kernel)
theorem wi_1142 : Cond.methodLink RX1 88 yX1_lower ∈ zw := zw_in (List.mem_of_getElem? (i := 1142) (by decide +kernel)) (by decide +kernel)
theorem wi_1144 : Cond.instanceMethod yX1_lower ∈ zw := zw_in (List.mem_of_getElem? (i := 1144) (by decide +kernel)) (by decide +kernel)
theorem wi_45 : Cond.selects RX1 yX1_lower yX1_lower ∈ zw := zw_in (List.mem_of_getElem? (i := 45) (by decide +kernel)) (by decide +kernel)
theorem wi_1153 : Cond.code yX1_width cX1_width 2 (some .int) ∈ zw := zw_in (List.mem_of_getElem? (i := 1153) (by decide +kernel)) (by decide +kernel)
theorem wi_1150 : Cond.methodLink RX1 85 yX1_width ∈ zw := zw_in (List.mem_of_getElem? (i := 1150) (by decide +kernel)) (by decide +kernel)
theorem wi_1151 : Cond.instanceMethod yX1_width ∈ zw := zw_in (List.mem_of_getElem? (i := 1151) (by decide +kernel)) (by decide +kernel)
theorem wi_1152 : Cond.selects RX1 yX1_width yX1_width ∈ zw := zw_in (List.mem_of_getElem? (i := 1152) (by decide +kernel)) (by decide +kernel)
theorem wi_1162 : Cond.code yX1_free cX1_free 2 none ∈ zw := zw_in (List.mem_of_getElem? (i := 1162) (by decide +kernel)) (by decide +kernel)
theorem wi_1159 : Cond.methodLink RX1 96 yX1_free ∈ zw := zw_in (List.mem_of_getElem? (i := 1159) (by decide +kernel)) (by decide +kernel)
theorem wi_1160 : Cond.instanceMethod yX1_free ∈ zw := zw_in (List.mem_of_getElem? (i := 1160) (by decide +kernel)) (by decide +kernel)
theorem wi_1161 : Cond.selects RX1 yX1_free yX1_free ∈ zw := zw_in (List.mem_of_getElem? (i := 1161) (by decide +kernel)) (by decide +kernel)
theorem wi_1158 : Cond.code yX1_field cX1_field 3 (some .long) ∈ zw := zw_in (List.mem_of_getElem? (i := 1158) (by decide +kernel)) (by decide +kernel)
theorem wi_1155 : Cond.methodLink RX1 92 yX1_field ∈ zw := zw_in (List.mem_of_getElem? (i := 1155) (by decide +kernel)) (by decide +kernel)
theorem wi_1156 : Cond.instanceMethod yX1_field ∈ zw := zw_in (List.mem_of_getElem? (i := 1156) (by decide +kernel)) (by decide +kernel)
theorem wi_1157 : Cond.selects RX1 yX1_field yX1_field ∈ zw := zw_in (List.mem_of_getElem? (i := 1157) (by decide +kernel)) (by decide +kernel)
theorem dX1_drop_0 : decode cX1_drop 0 = .ok (.aload_n 0, 1) := by decide +kernel
theorem dX1_drop_1 : decode cX1_drop 1 = .ok (.lload_n 1, 1) := by decide +kernel
theorem dX1_drop_2 : decode cX1_drop 2 = .ok (.iconst (-1), 1) := by decide +kernel
theorem dX1_drop_3 : decode cX1_drop 3 = .ok (.invokevirtual 88, 3) := by decide +kernel
theorem dX1_drop_6 : decode cX1_drop 6 = .ok (.istore_n 3, 1) := by decide +kernel
theorem dX1_drop_7 : decode cX1_drop 7 = .ok (.iconst 0, 1) := by decide +kernel
theorem dX1_drop_8 : decode cX1_drop 8 = .ok (.istore 4, 2) := by decide +kernel
theorem dX1_drop_10 : decode cX1_drop 10 = .ok (.iload 4, 2) := by decide +kernel
theorem dX1_drop_12 : decode cX1_drop 12 = .ok (.aload_n 0, 1) := by decide +kernel
theorem dX1_drop_13 : decode cX1_drop 13 = .ok (.getfield 45, 3) := by decide +kernel
theorem dX1_drop_16 : decode cX1_drop 16 = .ok (.arraylength, 1) := by decide +kernel
theorem dX1_drop_17 : decode cX1_drop 17 = .ok (.if_icmp .ge 65, 3) := by decide +kernel
theorem dX1_drop_20 : decode cX1_drop 20 = .ok (.iload_n 3, 1) := by decide +kernel
theorem dX1_drop_21 : decode cX1_drop 21 = .ok (.iconst (-1), 1) := by decide +kernel
theorem dX1_drop_22 : decode cX1_drop 22 = .ok (.if_icmp .eq 60, 3) := by decide +kernel
theorem dX1_drop_25 : decode cX1_drop 25 = .ok (.iload_n 3, 1) := by decide +kernel
theorem dX1_drop_26 : decode cX1_drop 26 = .ok (.istore 5, 2) := by decide +kernel
theorem dX1_drop_28 : decode cX1_drop 28 = .ok (.aload_n 0, 1) := by decide +kernel
theorem dX1_drop_29 : decode cX1_drop 29 = .ok (.getfield 49, 3) := by decide +kernel
theorem dX1_drop_32 : decode cX1_drop 32 = .ok (.iload 5, 2) := by decide +kernel
theorem dX1_drop_34 : decode cX1_drop 34 = .ok (.iaload, 1) := by decide +kernel
theorem dX1_drop_35 : decode cX1_drop 35 = .ok (.istore_n 3, 1) := by decide +kernel
theorem dX1_drop_36 : decode cX1_drop 36 = .ok (.iconst 0, 1) := by decide +kernel
theorem dX1_drop_37 : decode cX1_drop 37 = .ok (.istore 6, 2) := by decide +kernel
theorem dX1_drop_39 : decode cX1_drop 39 = .ok (.iload 6, 2) := by decide +kernel
theorem dX1_drop_41 : decode cX1_drop 41 = .ok (.aload_n 0, 1) := by decide +kernel
theorem dX1_drop_42 : decode cX1_drop 42 = .ok (.iload 5, 2) := by decide +kernel
theorem dX1_drop_44 : decode cX1_drop 44 = .ok (.invokevirtual 85, 3) := by decide +kernel
theorem dX1_drop_47 : decode cX1_drop 47 = .ok (.if_icmp .ge 23, 3) := by decide +kernel
theorem dX1_drop_50 : decode cX1_drop 50 = .ok (.aload_n 0, 1) := by decide +kernel
theorem dX1_drop_51 : decode cX1_drop 51 = .ok (.aload_n 0, 1) := by decide +kernel
theorem dX1_drop_52 : decode cX1_drop 52 = .ok (.iload 5, 2) := by decide +kernel
theorem dX1_drop_54 : decode cX1_drop 54 = .ok (.iload 6, 2) := by decide +kernel
theorem dX1_drop_56 : decode cX1_drop 56 = .ok (.invokevirtual 92, 3) := by decide +kernel
theorem dX1_drop_59 : decode cX1_drop 59 = .ok (.iload_n 3, 1) := by decide +kernel
theorem dX1_drop_60 : decode cX1_drop 60 = .ok (.invokevirtual 88, 3) := by decide +kernel
theorem dX1_drop_63 : decode cX1_drop 63 = .ok (.istore_n 3, 1) := by decide +kernel
theorem dX1_drop_64 : decode cX1_drop 64 = .ok (.iinc 6 1, 3) := by decide +kernel
theorem dX1_drop_67 : decode cX1_drop 67 = .ok (.goto (-28), 3) := by decide +kernel
theorem dX1_drop_70 : decode cX1_drop 70 = .ok (.aload_n 0, 1) := by decide +kernel
theorem dX1_drop_71 : decode cX1_drop 71 = .ok (.iload 5, 2) := by decide +kernel
theorem dX1_drop_73 : decode cX1_drop 73 = .ok (.invokevirtual 96, 3) := by decide +kernel
theorem dX1_drop_76 : decode cX1_drop 76 = .ok (.iinc 4 1, 3) := by decide +kernel
theorem dX1_drop_79 : decode cX1_drop 79 = .ok (.goto (-69), 3) := by decide +kernel
theorem dX1_drop_82 : decode cX1_drop 82 = .ok (.return_, 1) := by decide +kernel

end
section
/-- a cell in hand is filled out of references that are held -/
theorem zCS_fill {wd wd2 : Nat → Nat} {gc gc2 : Nat → Int32} {gv gv2 : Nat → Int64} {fresh ff held dbl : Int32} {lv : Nat → Bool} {R R2 : Nat → Int} {FL : List Nat} (h : zCS wd gc gv fresh ff held dbl lv R FL [] (-1)) {x : Nat} (hx : lv x = false) (hxF : x ∉ FL) (hxf : (x : Int) < fresh.toInt) (e1 : gc2 = upd gc x 1) (hw : ∀ c, c ≠ x → wd2 c = wd c) (hv : ∀ c, c ≠ x → ∀ k, k < wd c → gv2 (3 * c + k) = gv (3 * c + k)) (hR : ∀ c, R c = R2 c + zcf zr wd2 gv2 x c) (h2 : ∀ c, 0 ≤ R2 c) (hgd : ∀ k, k < wd2 x → zgd (gv2 (3 * x + k))) : zCS wd2 gc2 gv2 fresh ff held dbl (fun c => if c = x then true else lv c) (fun c => R2 c + if c = x then 1 else 0) FL [] (-1) := by
  obtain ⟨hI, h0, h4, hd, hR0, hf, hdm, hnd, hfl, hh, hg⟩ := h
  have hn := zn_nat h0
  have e0 : (fun c => R c + zdl wd gv [] c : Nat → Int) = R := by
    funext c
    show R c + 0 = R c
    omega
  have e2 : (fun c => R2 c + (if c = x then 1 else 0) + zdl wd2 gv2 [] c : Nat → Int) = (fun c => R2 c + if c = x then 1 else 0) := by
    funext c
    show R2 c + (if c = x then 1 else 0) + 0 = _
    omega
  rw [e0] at hI
  refine ⟨?_, h0, h4, hd, fun c => ?_, zli_off hf hxF e1, hdm, hnd, fun c hc => ?_, hh, fun d hd k hk => ?_⟩
  · show zI zr _ _ wd2 gv2 _ (fun c => R2 c + (if c = x then 1 else 0) + zdl wd2 gv2 [] c) _
    rw [e2]
    exact zI_fill zr_0 (x := x) hI hd hx (by omega) (if_pos rfl) (by show (gc2 x).toInt = 1; rw [e1, zu_s]; decide) (fun c hc => ⟨if_neg hc, by show (gc2 c).toInt = (gc c).toInt; rw [e1, zu_n hc], hw c hc, hv c hc⟩) hR h2
  · have := h2 c
    show 0 ≤ R2 c + (if c = x then 1 else 0)
    split <;> omega
  · have hcx : c ≠ x := fun g => by rw [List.append_nil] at hc; exact hxF (g ▸ hc)
    show c < _ ∧ (if c = x then true else lv c) = false
    rw [if_neg hcx]; exact hfl c hc
  · by_cases g : d = x
    · rw [g] at hk ⊢; exact hgd k hk
    · rw [hw d g] at hk
      rw [hv d g k hk]
      refine hg d ?_ k hk
      rcases hd with u | u
      · have u : (if d = x then true else lv d) = true := u
        rw [if_neg g] at u; exact Or.inl u
      · exact nomatch u
/-- a cell's fields, those below i written -/
def zfw (gv gv2 : Nat → Int64) (x : Nat) (st : Nat → Int64) (fi i : Nat) : Prop := (∀ k, k < i → gv2 (3 * x + k) = st (fi + k)) ∧ ∀ j, ¬ (3 * x ≤ j ∧ j < 3 * x + 3) → gv2 j = gv j
theorem zfw_0 {gv st : Nat → Int64} {x fi i : Nat} (h : i = 0) : zfw gv gv x st fi i := ⟨fun k hk => by omega, fun _ _ => rfl⟩
theorem zfw_s {gv gl gv2 st : Nat → Int64} {x fi i i2 a : Nat} {v : Int64} (h : zfw gv gl x st fi i) (e : gv2 = vp_updL gl a v) (ea : a = 3 * x + i) (ev : v = st (fi + i)) (hi : i < 3) (ei : i2 = i + 1) : zfw gv gv2 x st fi i2 := by
  refine ⟨fun k hk => ?_, fun j hj => ?_⟩
  · rw [e]
    unfold vp_updL
    by_cases g : 3 * x + k = a
    · rw [if_pos g, ev, show k = i by omega]
    · rw [if_neg g]; exact h.1 k (by omega)
  · rw [e]
    unfold vp_updL
    rw [if_neg (by omega)]; exact h.2 j hj

end
