/-! counts and references -/
def zs : Nat → (Nat → Int) → Int
  | 0, _ => 0
  | n + 1, f => zs n f + f n
theorem zs_ext {f g : Nat → Int} : ∀ {n : Nat}, (∀ d, d < n → f d = g d) → zs n f = zs n g
  | 0, _ => rfl
  | n + 1, h => by
    show zs n f + f n = zs n g + g n
    rw [zs_ext (fun d hd => h d (by omega)), h n (by omega)]
theorem zs_0 {f : Nat → Int} : ∀ {n : Nat}, (∀ d, d < n → 0 ≤ f d) → 0 ≤ zs n f
  | 0, _ => Int.le_refl _
  | n + 1, h => by
    have := zs_0 (n := n) (fun d hd => h d (by omega))
    have := h n (by omega)
    show 0 ≤ zs n f + f n
    omega
theorem zs_ge {f : Nat → Int} {x : Nat} : ∀ {n : Nat}, (∀ d, d < n → 0 ≤ f d) → x < n → f x ≤ zs n f
  | 0, _, hx => absurd hx (by omega)
  | n + 1, h, hx => by
    have a := zs_0 (n := n) (fun d hd => h d (by omega))
    have b := h n (by omega)
    show f x ≤ zs n f + f n
    by_cases e : x = n
    · rw [e]; omega
    · have := zs_ge (n := n) (x := x) (fun d hd => h d (by omega)) (by omega)
      omega
theorem zs_up {f g : Nat → Int} {x : Nat} : ∀ {n : Nat}, (∀ d, d < n → d ≠ x → g d = f d) → x < n → zs n g = zs n f - f x + g x
  | 0, _, hx => absurd hx (by omega)
  | n + 1, h, hx => by
    show zs n g + g n = zs n f + f n - f x + g x
    by_cases e : x = n
    · rw [e, zs_ext (f := g) (g := f) (fun d hd => h d (by omega) (by omega))]; omega
    · rw [zs_up (n := n) (x := x) (fun d hd hne => h d (by omega) hne) (by omega), h n (by omega) (by omega)]; omega
theorem zs_add {f g : Nat → Int} : ∀ {n : Nat}, zs n (fun d => f d + g d) = zs n f + zs n g
  | 0 => rfl
  | n + 1 => by
    show zs n (fun d => f d + g d) + (f n + g n) = zs n f + f n + (zs n g + g n)
    rw [zs_add]; omega
/-- references out of a cell: zr v c counts those of a value -/
def zcf (zr : Int64 → Nat → Int) (wd : Nat → Nat) (gv : Nat → Int64) (d c : Nat) : Int := zs (wd d) (fun k => zr (gv (3 * d + k)) c)
def zct (zr : Int64 → Nat → Int) (n : Nat) (lv : Nat → Bool) (wd : Nat → Nat) (gv : Nat → Int64) (c : Nat) : Int := zs n (fun d => if lv d = true then zcf zr wd gv d c else 0)
/-- the counts hold: lv the cells that live, R the references that are held, db a bound of all counts -/
def zI (zr : Int64 → Nat → Int) (n : Nat) (lv : Nat → Bool) (wd : Nat → Nat) (gv : Nat → Int64) (gc : Nat → Int) (R : Nat → Int) (db : Int) : Prop :=
  (∀ c, lv c = true → c < n ∧ 1 ≤ gc c ∧ gc c ≤ db + 1 ∧ R c + zct zr n lv wd gv c ≤ gc c) ∧ (∀ c, lv c = false → R c = 0 ∧ zct zr n lv wd gv c = 0) ∧ ∀ c, 0 ≤ R c
theorem zcf_0 {zr : Int64 → Nat → Int} (h0 : ∀ v c, 0 ≤ zr v c) {wd : Nat → Nat} {gv : Nat → Int64} {d c : Nat} : 0 ≤ zcf zr wd gv d c := zs_0 (fun _ _ => h0 _ _)
theorem zct_i {zr : Int64 → Nat → Int} (h0 : ∀ v c, 0 ≤ zr v c) {lv : Nat → Bool} {wd : Nat → Nat} {gv : Nat → Int64} {c d : Nat} : 0 ≤ (if lv d = true then zcf zr wd gv d c else 0 : Int) := by
  split
  · exact zcf_0 h0
  · exact Int.le_refl _
theorem zct_0 {zr : Int64 → Nat → Int} (h0 : ∀ v c, 0 ≤ zr v c) {n : Nat} {lv : Nat → Bool} {wd : Nat → Nat} {gv : Nat → Int64} {c : Nat} : 0 ≤ zct zr n lv wd gv c := zs_0 (fun _ _ => zct_i h0)
theorem zct_ge {zr : Int64 → Nat → Int} (h0 : ∀ v c, 0 ≤ zr v c) {n : Nat} {lv : Nat → Bool} {wd : Nat → Nat} {gv : Nat → Int64} {c d : Nat} (hd : d < n) (hl : lv d = true) : zcf zr wd gv d c ≤ zct zr n lv wd gv c := by
  have := zs_ge (f := fun d => if lv d = true then zcf zr wd gv d c else 0) (n := n) (x := d) (fun _ _ => zct_i h0) hd
  show zcf zr wd gv d c ≤ zs n _
  have e : (fun d => if lv d = true then zcf zr wd gv d c else 0 : Nat → Int) d = zcf zr wd gv d c := if_pos hl
  rw [← e]; exact this
theorem zI_leak {zr : Int64 → Nat → Int} {n : Nat} {lv : Nat → Bool} {wd : Nat → Nat} {gv : Nat → Int64} {gc : Nat → Int} {R R2 : Nat → Int} {db : Int} (h : zI zr n lv wd gv gc R db) (h1 : ∀ c, R2 c ≤ R c) (h2 : ∀ c, 0 ≤ R2 c) : zI zr n lv wd gv gc R2 db :=
  ⟨fun c hc => ⟨(h.1 c hc).1, (h.1 c hc).2.1, (h.1 c hc).2.2.1, by have := (h.1 c hc).2.2.2; have := h1 c; omega⟩, fun c hc => ⟨by have := (h.2.1 c hc).1; have := h1 c; have := h2 c; omega, (h.2.1 c hc).2⟩, h2⟩
/-- a value is doubled -/
theorem zI_copy {zr : Int64 → Nat → Int} {n : Nat} {lv : Nat → Bool} {wd : Nat → Nat} {gv : Nat → Int64} {gc gc2 : Nat → Int} {R : Nat → Int} {db : Int} {x : Nat} (h : zI zr n lv wd gv gc R db) (hx : lv x = true) (e1 : gc2 x = gc x + 1) (e2 : ∀ c, c ≠ x → gc2 c = gc c) (hz : ∀ c, 0 ≤ R c) : zI zr n lv wd gv gc2 (fun c => R c + if c = x then 1 else 0) (db + 1) := by
  refine ⟨fun c hc => ?_, fun c hc => ?_, fun c => ?_⟩
  · obtain ⟨a, b, d, e⟩ := h.1 c hc
    by_cases g : c = x
    · rw [g] at a b d e ⊢
      show x < n ∧ 1 ≤ gc2 x ∧ gc2 x ≤ db + 1 + 1 ∧ R x + (if x = x then 1 else 0) + zct zr n lv wd gv x ≤ gc2 x
      rw [if_pos rfl]; omega
    · show c < n ∧ 1 ≤ gc2 c ∧ gc2 c ≤ db + 1 + 1 ∧ R c + (if c = x then 1 else 0) + zct zr n lv wd gv c ≤ gc2 c
      rw [if_neg g, e2 c g]; omega
  · have g : c ≠ x := fun g => by rw [g, hx] at hc; exact Bool.noConfusion hc
    show R c + (if c = x then 1 else 0) = 0 ∧ _
    rw [if_neg g, Int.add_zero]; exact h.2.1 c hc
  · show 0 ≤ R c + (if c = x then 1 else 0)
    have := hz c
    split <;> omega
/-- a reference is let go, and others stay -/
theorem zI_dec {zr : Int64 → Nat → Int} {n : Nat} {lv : Nat → Bool} {wd : Nat → Nat} {gv : Nat → Int64} {gc gc2 : Nat → Int} {R R2 : Nat → Int} {db : Int} {x : Nat} (h : zI zr n lv wd gv gc R db) (hR : ∀ c, R c = R2 c + if c = x then 1 else 0) (h2 : ∀ c, 0 ≤ R2 c) (e1 : gc2 x = gc x - 1) (e2 : ∀ c, c ≠ x → gc2 c = gc c) (h1 : 1 ≤ gc2 x) : zI zr n lv wd gv gc2 R2 db := by
  refine ⟨fun c hc => ?_, fun c hc => ?_, h2⟩
  · obtain ⟨a, b, d, e⟩ := h.1 c hc
    have r := hR c
    by_cases g : c = x
    · rw [if_pos g] at r; rw [g] at a b d e r ⊢; exact ⟨a, by omega, by omega, by omega⟩
    · rw [if_neg g] at r; rw [e2 c g]; exact ⟨a, by omega, by omega, by omega⟩
  · have r := hR c
    obtain ⟨a, b⟩ := h.2.1 c hc
    have := h2 c
    refine ⟨?_, b⟩
    split at r <;> omega
theorem zct_die {zr : Int64 → Nat → Int} {n : Nat} {lv lv2 : Nat → Bool} {wd : Nat → Nat} {gv : Nat → Int64} {c x : Nat} (hx : x < n) (hl : lv x = true) (e1 : lv2 x = false) (e2 : ∀ d, d ≠ x → lv2 d = lv d) : zct zr n lv2 wd gv c = zct zr n lv wd gv c - zcf zr wd gv x c := by
  have := zs_up (f := fun d => if lv d = true then zcf zr wd gv d c else 0) (g := fun d => if lv2 d = true then zcf zr wd gv d c else 0) (n := n) (x := x) (fun d _ hd => by show (if lv2 d = true then _ else _) = (if lv d = true then _ else _); rw [e2 d hd]) hx
  show zs n _ = zs n _ - _
  rw [this]
  have p : (if lv x = true then zcf zr wd gv x c else 0 : Int) = zcf zr wd gv x c := if_pos hl
  have q : (if lv2 x = true then zcf zr wd gv x c else 0 : Int) = 0 := if_neg (by rw [e1]; exact Bool.noConfusion)
  rw [p, q]; omega
/-- the last reference is let go: the cell dies, its own references are held -/
theorem zI_die {zr : Int64 → Nat → Int} (h0 : ∀ v c, 0 ≤ zr v c) {n : Nat} {lv lv2 : Nat → Bool} {wd : Nat → Nat} {gv : Nat → Int64} {gc gc2 : Nat → Int} {R R2 : Nat → Int} {db : Int} {x : Nat} (h : zI zr n lv wd gv gc R db) (hR : ∀ c, R c = R2 c + if c = x then 1 else 0) (h2 : ∀ c, 0 ≤ R2 c) (hx : lv x = true) (h1 : gc x ≤ 1) (e1 : lv2 x = false) (e2 : ∀ c, c ≠ x → lv2 c = lv c ∧ gc2 c = gc c) : zI zr n lv2 wd gv gc2 (fun c => R2 c + zcf zr wd gv x c) db := by
  obtain ⟨a, b, d, e⟩ := h.1 x hx
  have rx := hR x
  rw [if_pos rfl] at rx
  have tx := zct_0 h0 (n := n) (lv := lv) (wd := wd) (gv := gv) (c := x)
  have r2x := h2 x
  have fx := zct_ge h0 (zr := zr) (lv := lv) (wd := wd) (gv := gv) (c := x) a hx
  have fx0 := zcf_0 h0 (zr := zr) (wd := wd) (gv := gv) (d := x) (c := x)
  have hd : ∀ c, zct zr n lv2 wd gv c = zct zr n lv wd gv c - zcf zr wd gv x c := fun c => zct_die a hx e1 (fun d hd => (e2 d hd).1)
  refine ⟨fun c hc => ?_, fun c hc => ?_, fun c => ?_⟩
  · have g : c ≠ x := fun g => by rw [g, e1] at hc; exact Bool.noConfusion hc
    rw [(e2 c g).1] at hc
    obtain ⟨p, q, r, s⟩ := h.1 c hc
    have rc := hR c
    rw [if_neg g] at rc
    rw [(e2 c g).2]
    refine ⟨p, q, r, ?_⟩
    show R2 c + zcf zr wd gv x c + zct zr n lv2 wd gv c ≤ gc c
    rw [hd c]; omega
  · show R2 c + zcf zr wd gv x c = 0 ∧ zct zr n lv2 wd gv c = 0
    rw [hd c]
    by_cases g : c = x
    · rw [g]; omega
    · rw [(e2 c g).1] at hc
      obtain ⟨p, q⟩ := h.2.1 c hc
      have rc := hR c
      rw [if_neg g] at rc
      have f0 := zct_ge h0 (zr := zr) (lv := lv) (wd := wd) (gv := gv) (c := c) a hx
      have f1 := zcf_0 h0 (zr := zr) (wd := wd) (gv := gv) (d := x) (c := c)
      omega
  · show 0 ≤ R2 c + zcf zr wd gv x c
    have := zcf_0 h0 (zr := zr) (wd := wd) (gv := gv) (d := x) (c := c)
    have := h2 c
    omega
/-- a cell that doesn't live is filled out of references that are held -/
theorem zI_fill {zr : Int64 → Nat → Int} (h0 : ∀ v c, 0 ≤ zr v c) {n : Nat} {lv lv2 : Nat → Bool} {wd wd2 : Nat → Nat} {gv gv2 : Nat → Int64} {gc gc2 : Nat → Int} {R R2 : Nat → Int} {db : Int} {x : Nat} (h : zI zr n lv wd gv gc R db) (hdb : 0 ≤ db) (hx : lv x = false) (hn : x < n) (e0 : lv2 x = true) (e1 : gc2 x = 1) (e2 : ∀ c, c ≠ x → lv2 c = lv c ∧ gc2 c = gc c ∧ wd2 c = wd c ∧ ∀ k, k < wd c → gv2 (3 * c + k) = gv (3 * c + k)) (hR : ∀ c, R c = R2 c + zcf zr wd2 gv2 x c) (h2 : ∀ c, 0 ≤ R2 c) : zI zr n lv2 wd2 gv2 gc2 (fun c => R2 c + if c = x then 1 else 0) db := by
  have hd : ∀ c, zct zr n lv2 wd2 gv2 c = zct zr n lv wd gv c + zcf zr wd2 gv2 x c := fun c => by
    have := zs_up (f := fun d => if lv d = true then zcf zr wd gv d c else 0) (g := fun d => if lv2 d = true then zcf zr wd2 gv2 d c else 0) (n := n) (x := x) (fun d _ hd => by
      obtain ⟨a, -, b, e⟩ := e2 d hd
      show (if lv2 d = true then zcf zr wd2 gv2 d c else 0) = (if lv d = true then zcf zr wd gv d c else 0)
      rw [a]
      have : zcf zr wd2 gv2 d c = zcf zr wd gv d c := by
        unfold zcf
        rw [b]
        exact zs_ext (fun k hk => by rw [e k hk])
      rw [this]) hn
    show zs n _ = zs n _ + _
    rw [this]
    have p : (if lv x = true then zcf zr wd gv x c else 0 : Int) = 0 := if_neg (by rw [hx]; exact Bool.noConfusion)
    have q : (if lv2 x = true then zcf zr wd2 gv2 x c else 0 : Int) = zcf zr wd2 gv2 x c := if_pos e0
    rw [p, q]; omega
  have fx0 : ∀ c, 0 ≤ zcf zr wd2 gv2 x c := fun c => zcf_0 h0
  refine ⟨fun c hc => ?_, fun c hc => ?_, fun c => ?_⟩
  · have rc := hR c
    have r2 := h2 c
    have f0 := fx0 c
    by_cases g : c = x
    · obtain ⟨p, q⟩ := h.2.1 x hx
      rw [g] at rc r2 f0 ⊢
      show x < n ∧ 1 ≤ gc2 x ∧ gc2 x ≤ db + 1 ∧ R2 x + (if x = x then 1 else 0) + zct zr n lv2 wd2 gv2 x ≤ gc2 x
      rw [if_pos rfl, hd x]; omega
    · rw [(e2 c g).1] at hc
      obtain ⟨p, q, r, s⟩ := h.1 c hc
      show c < n ∧ 1 ≤ gc2 c ∧ gc2 c ≤ db + 1 ∧ R2 c + (if c = x then 1 else 0) + zct zr n lv2 wd2 gv2 c ≤ gc2 c
      rw [if_neg g, hd c, (e2 c g).2.1]; omega
  · have g : c ≠ x := fun g => by rw [g, e0] at hc; exact Bool.noConfusion hc
    rw [(e2 c g).1] at hc
    obtain ⟨p, q⟩ := h.2.1 c hc
    have rc := hR c
    have r2 := h2 c
    have f0 := fx0 c
    show R2 c + (if c = x then 1 else 0) = 0 ∧ zct zr n lv2 wd2 gv2 c = 0
    rw [if_neg g, hd c]; omega
  · show 0 ≤ R2 c + (if c = x then 1 else 0)
    have := h2 c
    split <;> omega
/-- one more cell, that doesn't live -/
theorem zI_grow {zr : Int64 → Nat → Int} {n : Nat} {lv : Nat → Bool} {wd : Nat → Nat} {gv : Nat → Int64} {gc : Nat → Int} {R : Nat → Int} {db : Int} (h : zI zr n lv wd gv gc R db) (hn : lv n = false) : zI zr (n + 1) lv wd gv gc R db := by
  have e : ∀ c, zct zr (n + 1) lv wd gv c = zct zr n lv wd gv c := fun c => by
    show zs n _ + (if lv n = true then _ else 0) = zs n _
    rw [if_neg (by rw [hn]; exact Bool.noConfusion), Int.add_zero]
  refine ⟨fun c hc => ?_, fun c hc => ?_, h.2.2⟩
  · obtain ⟨a, b, d, f⟩ := h.1 c hc
    rw [e c]; exact ⟨by omega, b, d, f⟩
  · rw [e c]; exact h.2.1 c hc
