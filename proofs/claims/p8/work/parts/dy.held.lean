/-! names that are held, values that are held -/
def zpp (op : Int) (pr : Nat → Int32) : Nat → Bool := fun j => decide (((j / 24 : Nat) : Int) < op) && zbit (pr (j / 24)) (j % 24)
theorem zpp_iff {op : Int} {pr : Nat → Int32} {j : Nat} : zpp op pr j = true ↔ ((j / 24 : Nat) : Int) < op ∧ zbit (pr (j / 24)) (j % 24) = true := by
  unfold zpp; rw [Bool.and_eq_true, decide_eq_true_iff]
def zSO (kz : Int32) (fd : Nat → Int32) (sl : Nat → Int64) (p : Nat → Bool) : Prop := ∀ j, j < 2400 → p j = true → zHv kz fd (sl j)
theorem zSO_sub {kz : Int32} {fd : Nat → Int32} {sl : Nat → Int64} {p p2 : Nat → Bool} (h : zSO kz fd sl p) (hp : ∀ j, p2 j = true → p j = true) : zSO kz fd sl p2 := fun j hj h2 => h j hj (hp j h2)
theorem zSO_in {kz : Int32} {fd : Nat → Int32} {sl sl2 : Nat → Int64} {p p2 : Nat → Bool} {t : Nat} {v : Int64} (h : zSO kz fd sl p) (hv : zHv kz fd v) (e : sl2 = vp_updL sl t v) (hp : ∀ j, p2 j = true → zpA p t j = true) : zSO kz fd sl2 p2 := fun j hj h2 => by
  by_cases g : j = t
  · rw [e, g, zul_s]; exact hv
  · rw [e, zul_n g]; exact h j hj (by have := hp j h2; rw [zpA_n g] at this; exact this)
theorem zH_sub {pl kz : Int32} {fd gk gc : Nat → Int32} {gv : Nat → Int64} {lv : Nat → Bool} {db : Int} {fr sh : Nat → Int32} {fc sc np : Int} {sl : Nat → Int64} {p p2 : Nat → Bool} {Rv : Nat → Int} (h : zH pl kz fd gk gc gv lv (fun c => zRS 2400 sl p c + Rv c) db fr sh fc sc np) (hp : ∀ j, p2 j = true → p j = true) (hv : ∀ c, 0 ≤ Rv c) : zH pl kz fd gk gc gv lv (fun c => zRS 2400 sl p2 c + Rv c) db fr sh fc sc np :=
  zH_leak h (fun c => by have := zRS_le (n := 2400) (st := sl) hp c; show zRS 2400 sl p2 c + Rv c ≤ zRS 2400 sl p c + Rv c; omega) (fun c => by have := zRS_0 (n := 2400) (st := sl) (p := p2) (c := c); have := hv c; show 0 ≤ zRS 2400 sl p2 c + Rv c; omega)
theorem zH_out {pl kz : Int32} {fd gk gc : Nat → Int32} {gv : Nat → Int64} {lv : Nat → Bool} {db : Int} {fr sh : Nat → Int32} {fc sc np : Int} {sl : Nat → Int64} {p p2 : Nat → Bool} {Rv : Nat → Int} {t : Nat} (h : zH pl kz fd gk gc gv lv (fun c => zRS 2400 sl p c + Rv c) db fr sh fc sc np) (ht : t < 2400) (h1 : p t = true) (hp : ∀ j, p2 j = true → p j = true ∧ j ≠ t) (hv : ∀ c, 0 ≤ Rv c) : zH pl kz fd gk gc gv lv (fun c => zRS 2400 sl p2 c + Rv c + zr (sl t) c) db fr sh fc sc np :=
  zH_leak h (fun c => by
    have a := zRS_rm (st := sl) ht h1 c
    have b := zRS_le (n := 2400) (st := sl) (p := zpR p t) (p2 := p2) (fun j hj => by rw [zpR_n (hp j hj).2]; exact (hp j hj).1) c
    show zRS 2400 sl p2 c + Rv c + zr (sl t) c ≤ zRS 2400 sl p c + Rv c
    omega) (fun c => by have := zRS_0 (n := 2400) (st := sl) (p := p2) (c := c); have := hv c; have := zr_0 (sl t) c; show 0 ≤ zRS 2400 sl p2 c + Rv c + zr (sl t) c; omega)
theorem zH_in {pl kz : Int32} {fd gk gc : Nat → Int32} {gv : Nat → Int64} {lv : Nat → Bool} {db : Int} {fr sh : Nat → Int32} {fc sc np : Int} {sl sl2 : Nat → Int64} {p p2 : Nat → Bool} {Rv : Nat → Int} {t : Nat} {v : Int64} (h : zH pl kz fd gk gc gv lv (fun c => zRS 2400 sl p c + Rv c + zr v c) db fr sh fc sc np) (e : sl2 = vp_updL sl t v) (hp : ∀ j, p2 j = true → zpA p t j = true) (hv : ∀ c, 0 ≤ Rv c) : zH pl kz fd gk gc gv lv (fun c => zRS 2400 sl2 p2 c + Rv c) db fr sh fc sc np :=
  zH_leak h (fun c => by
    have a := zRS_ad (n := 2400) (st := sl) (p := p) (t := t) (v := v) c
    have b := zRS_le (n := 2400) (st := sl2) (p := zpA p t) (p2 := p2) hp c
    rw [← e] at a
    show zRS 2400 sl2 p2 c + Rv c ≤ zRS 2400 sl p c + Rv c + zr v c
    omega) (fun c => by have := zRS_0 (n := 2400) (st := sl2) (p := p2) (c := c); have := hv c; show 0 ≤ zRS 2400 sl2 p2 c + Rv c; omega)
theorem zH_val {pl kz : Int32} {fd gk gc : Nat → Int32} {gv : Nat → Int64} {lv : Nat → Bool} {db : Int} {fr sh : Nat → Int32} {fc sc np : Int} {sl : Nat → Int64} {p : Nat → Bool} {Rv : Nat → Int} {t : Nat} (h : zH pl kz fd gk gc gv lv (fun c => zRS 2400 sl p c + Rv c) db fr sh fc sc np) (ht : t < 2400) (h1 : p t = true) (hs : zSO kz fd sl p) (hv : ∀ c, 0 ≤ Rv c) : zhs (sl t) = 2 → 0 ≤ (sl t).toInt32.toInt ∧ lv (Int32.toNatClampNeg (sl t).toInt32) = true := fun h2 => by
  have h0 := zHv_c (hs t ht h1) h2
  refine ⟨h0, zH_lv h ?_⟩
  have a := zRS_rm (st := sl) ht h1 (Int32.toNatClampNeg (sl t).toInt32)
  rw [zr_c h2 h0, if_pos rfl] at a
  have := zRS_0 (n := 2400) (st := sl) (p := zpR p t) (c := Int32.toNatClampNeg (sl t).toInt32)
  have := hv (Int32.toNatClampNeg (sl t).toInt32)
  show 1 ≤ zRS 2400 sl p _ + Rv _
  omega
/-- a value in the hand leads to a cell that lives -/
theorem zH_hand {pl kz : Int32} {fd gk gc : Nat → Int32} {gv : Nat → Int64} {lv : Nat → Bool} {db : Int} {fr sh : Nat → Int32} {fc sc np : Int} {R : Nat → Int} {v : Int64} (h : zH pl kz fd gk gc gv lv (fun c => R c + zr v c) db fr sh fc sc np) (hk : zHv kz fd v) (hR : ∀ c, 0 ≤ R c) : zhs v = 2 → 0 ≤ v.toInt32.toInt ∧ lv (Int32.toNatClampNeg v.toInt32) = true := fun h2 => by
  have h0 := zHv_c hk h2
  refine ⟨h0, zH_lv h ?_⟩
  show 1 ≤ R _ + zr v _
  rw [zr_c h2 h0, if_pos rfl]
  have := hR (Int32.toNatClampNeg v.toInt32)
  omega
/-! present bits -/
theorem zpp_and {op : Int} {pr pr2 : Nat → Int32} {f : Nat} {mk : Int32} (e : pr2 = upd pr f (pr f &&& mk)) {j : Nat} (h : zpp op pr2 j = true) : zpp op pr j = true := by
  rw [zpp_iff] at h ⊢
  refine ⟨h.1, ?_⟩
  have h2 := h.2
  by_cases g : j / 24 = f
  · rw [e, g, zu_s, zbit_and, Bool.and_eq_true] at h2; rw [g]; exact h2.1
  · rw [e, zu_n g] at h2; exact h2
theorem zpp_rm {op : Int} {pr pr2 : Nat → Int32} {f s : Nat} {b : Int32} (e : pr2 = upd pr f (pr f &&& (b ^^^ (-1)))) (hs : s < 24) (hb : zbit b s = true) {j : Nat} (h : zpp op pr2 j = true) : zpp op pr j = true ∧ j ≠ 24 * f + s := by
  refine ⟨zpp_and e h, fun g => ?_⟩
  rw [zpp_iff] at h
  have h2 := h.2
  rw [show j / 24 = f by omega, show j % 24 = s by omega, e, zu_s, zbit_an (by omega), hb, Bool.and_eq_true] at h2
  exact Bool.noConfusion h2.2
theorem zpp_set {op : Int} {pr pr2 : Nat → Int32} {f s : Nat} {b : Int32} (e : pr2 = upd pr f (pr f ||| b)) (hb : ∀ i, i < 32 → zbit b i = (i == s)) {j : Nat} (h : zpp op pr2 j = true) : zpA (zpp op pr) (24 * f + s) j = true := by
  rw [zpp_iff] at h
  have h2 := h.2
  by_cases g : j / 24 = f
  · rw [e, g, zu_s, zbit_or, hb _ (by omega), Bool.or_eq_true] at h2
    rcases h2 with u | u
    · exact zpA_i (zpp_iff.mpr ⟨h.1, by rw [g]; exact u⟩)
    · have u : j % 24 = s := beq_iff_eq.mp u
      rw [show j = 24 * f + s by omega]; exact zpA_s
  · rw [e, zu_n g] at h2; exact zpA_i (zpp_iff.mpr ⟨h.1, h2⟩)
theorem zpp_open {op op2 : Int} {pr pr2 : Nat → Int32} {f : Nat} (e : pr2 = upd pr f 0) (hf : (f : Int) = op) (ho : op2 = op + 1) {j : Nat} (h : zpp op2 pr2 j = true) : zpp op pr j = true := by
  rw [zpp_iff] at h ⊢
  have h2 := h.2
  by_cases g : j / 24 = f
  · rw [e, g, zu_s, zbit_z (by omega)] at h2; exact Bool.noConfusion h2
  · rw [e, zu_n g] at h2; exact ⟨by omega, h2⟩
theorem zpp_le {op op2 : Int} {pr : Nat → Int32} (ho : op2 ≤ op) {j : Nat} (h : zpp op2 pr j = true) : zpp op pr j = true := by
  rw [zpp_iff] at h ⊢
  exact ⟨by omega, h.2⟩
theorem zpp_at {op : Int} {pr : Nat → Int32} {f s : Nat} (hf : (f : Int) < op) (hs : s < 24) (h : zbit (pr f) s = true) : zpp op pr (24 * f + s) = true := by
  rw [zpp_iff, show (24 * f + s) / 24 = f by omega, show (24 * f + s) % 24 = s by omega]; exact ⟨hf, h⟩
/-- the names of call f below k that are in g are gone -/
def zpk (p : Nat → Bool) (f k : Nat) (g : Int32) : Nat → Bool := fun j => p j && !(decide (24 * f ≤ j) && decide (j < 24 * f + k) && zbit g (j - 24 * f))
theorem zpk_0 {p : Nat → Bool} {f : Nat} {g : Int32} {j : Nat} (h : p j = true) : zpk p f 0 g j = true := by
  unfold zpk
  rw [h, show (decide (24 * f ≤ j) && decide (j < 24 * f + 0)) = false from by
    rw [Bool.and_eq_false_iff]
    by_cases u : 24 * f ≤ j
    · exact Or.inr (decide_eq_false (by omega))
    · exact Or.inl (decide_eq_false u)]
  rfl
theorem zpk_p {p : Nat → Bool} {f k : Nat} {g : Int32} {j : Nat} (h : zpk p f k g j = true) : p j = true := by
  unfold zpk at h
  rw [Bool.and_eq_true] at h; exact h.1
theorem zpk_in {p : Nat → Bool} {f k : Nat} {g : Int32} (h : p (24 * f + k) = true) : zpk p f k g (24 * f + k) = true := by
  unfold zpk
  rw [h, show decide (24 * f + k < 24 * f + k) = false from decide_eq_false (by omega), Bool.and_false, Bool.false_and]; rfl
theorem zpk_s {p : Nat → Bool} {f k : Nat} {g : Int32} {j : Nat} (h : zpk p f (k + 1) g j = true) : zpk p f k g j = true ∧ (zbit g k = true → j ≠ 24 * f + k) := by
  unfold zpk at h ⊢
  rw [Bool.and_eq_true, Bool.not_eq_true'] at h ⊢
  refine ⟨⟨h.1, ?_⟩, fun hg e => ?_⟩
  · rw [Bool.and_eq_false_iff, Bool.and_eq_false_iff, decide_eq_false_iff_not, decide_eq_false_iff_not] at h ⊢
    rcases h.2 with (u | u) | u
    · exact Or.inl (Or.inl u)
    · exact Or.inl (Or.inr (by omega))
    · exact Or.inr u
  · have h2 := h.2
    rw [e, show decide (24 * f ≤ 24 * f + k) = true from decide_eq_true (by omega), show decide (24 * f + k < 24 * f + (k + 1)) = true from decide_eq_true (by omega), show 24 * f + k - 24 * f = k by omega, hg] at h2
    exact Bool.noConfusion h2
theorem zpk_end {op : Int} {pr pr2 : Nat → Int32} {f : Nat} {kp g : Int32} (e : pr2 = upd pr f (pr f &&& kp)) (eg : g = pr f &&& (kp ^^^ (-1))) {j : Nat} (h : zpp op pr2 j = true) : zpk (zpp op pr) f 24 g j = true := by
  have h0 := zpp_and e h
  unfold zpk
  rw [h0, Bool.true_and, Bool.not_eq_true', Bool.and_eq_false_iff, Bool.and_eq_false_iff, decide_eq_false_iff_not, decide_eq_false_iff_not]
  by_cases u : 24 * f ≤ j
  · by_cases v : j < 24 * f + 24
    · right
      rw [zpp_iff] at h
      have h2 := h.2
      rw [show j / 24 = f by omega, show j % 24 = j - 24 * f by omega, e, zu_s, zbit_and, Bool.and_eq_true] at h2
      rw [eg, zbit_an (by omega), h2.2, Bool.not_true, Bool.and_false]
    · exact Or.inl (Or.inr v)
  · exact Or.inl (Or.inl u)
/-! values -/
def zVS (n : Nat) (va : Nat → Int64) : Nat → Int := fun c => zs n (fun j => zr (va j) c)
theorem zVS_0 {n : Nat} {va : Nat → Int64} (c : Nat) : 0 ≤ zVS n va c := zs_0 (fun _ _ => zr_0 _ _)
theorem zVS_e {n : Nat} {va va2 : Nat → Int64} (h : ∀ i, i < n → va2 i = va i) (c : Nat) : zVS n va2 c = zVS n va c := zs_ext (fun i hi => by rw [h i hi])
theorem zVS_push {n n2 : Nat} {va va2 : Nat → Int64} {v : Int64} (h : zTl va va2 n v) (e : n2 = n + 1) (c : Nat) : zVS n2 va2 c = zVS n va c + zr v c := by
  rw [e]
  show zVS n va2 c + zr (va2 n) c = _
  rw [zVS_e h.2, h.1]
theorem zVS_s {n n2 : Nat} {va : Nat → Int64} (e : n2 = n + 1) (c : Nat) : zVS n2 va c = zVS n va c + zr (va n) c := by rw [e]; rfl
theorem zVS_top {h : Nat} {va : Nat → Int64} (c : Nat) : ∀ {n : Nat}, zVS (h + n) va c = zVS h va c + zs n (fun k => zr (va (h + k)) c)
  | 0 => by show _ = _ + 0; rw [Int.add_zero]; rfl
  | n + 1 => by
    show zVS (h + n) va c + zr (va (h + n)) c = zVS h va c + (zs n (fun k => zr (va (h + k)) c) + zr (va (h + n)) c)
    rw [zVS_top c]; omega
def zVO (kz : Int32) (fd : Nat → Int32) (va : Nat → Int64) (n : Nat) : Prop := ∀ j, j < n → zHv kz fd (va j)
theorem zVO_push {kz : Int32} {fd : Nat → Int32} {va va2 : Nat → Int64} {n n2 : Nat} {v : Int64} (h : zVO kz fd va n) (hv : zHv kz fd v) (e : zTl va va2 n v) (e2 : n2 = n + 1) : zVO kz fd va2 n2 := fun j hj => by
  by_cases g : j = n
  · rw [g, e.1]; exact hv
  · rw [e.2 j (by omega)]; exact h j (by omega)
theorem zVO_le {kz : Int32} {fd : Nat → Int32} {va : Nat → Int64} {n n2 : Nat} (h : zVO kz fd va n) (e : n2 ≤ n) : zVO kz fd va n2 := fun j hj => h j (by omega)
