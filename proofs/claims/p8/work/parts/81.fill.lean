/-- a cell in hand is filled out of references that are held -/
theorem zCS_fill {wd wd2 : Nat → Nat} {gc gc2 : Nat → Int32} {gv gv2 : Nat → Int64} {fresh ff held dbl : Int32} {lv : Nat → Bool} {R R2 : Nat → Int} {FL : List Nat} (h : zCS wd gc gv fresh ff held dbl lv R FL [] (-1)) {x : Nat} (hx : lv x = false) (hxF : x ∉ FL) (hxf : (x : Int) < fresh.toInt) (e1 : gc2 = upd gc x 1) (hw : ∀ c, c ≠ x → wd2 c = wd c) (hv : ∀ c, c ≠ x → ∀ k, k < wd c → gv2 (3 * c + k) = gv (3 * c + k)) (hR : ∀ c, R c = R2 c + zcf zr wd2 gv2 x c) (h2 : ∀ c, 0 ≤ R2 c) (hgd : ∀ k, k < wd2 x → zgd (gv2 (3 * x + k))) : zCS wd2 gc2 gv2 fresh ff held dbl (fun c => if c = x then true else lv c) (fun c => R2 c + if c = x then 1 else 0) FL [] (-1) := by
  obtain ⟨hI, h0, h4, hd, hR0, hf, hdm, hnd, hfl, hh, hg⟩ := h
  have hn := zn_nat h0
  have e0 : (fun c => R c + zdl wd gv [] c : Nat → Int) = R := by
    funext c
    show R c + 0 = R c
    omega
  have e2 : (fun c => R2 c + (if c = x then 1 else 0) + zdl wd2 gv2 [] c : Nat → Int) = (fun c => R2 c + if c = x then 1 else 0) := by
    funext c
    show R2 c + (if c = x then 1 else 0) + 0 = _
    omega
  rw [e0] at hI
  refine ⟨?_, h0, h4, hd, fun c => ?_, zli_off hf hxF e1, hdm, hnd, fun c hc => ?_, hh, fun d hd k hk => ?_⟩
  · show zI zr _ _ wd2 gv2 _ (fun c => R2 c + (if c = x then 1 else 0) + zdl wd2 gv2 [] c) _
    rw [e2]
    exact zI_fill zr_0 (x := x) hI hd hx (by omega) (if_pos rfl) (by show (gc2 x).toInt = 1; rw [e1, zu_s]; decide) (fun c hc => ⟨if_neg hc, by show (gc2 c).toInt = (gc c).toInt; rw [e1, zu_n hc], hw c hc, hv c hc⟩) hR h2
  · have := h2 c
    show 0 ≤ R2 c + (if c = x then 1 else 0)
    split <;> omega
  · have hcx : c ≠ x := fun g => by rw [List.append_nil] at hc; exact hxF (g ▸ hc)
    show c < _ ∧ (if c = x then true else lv c) = false
    rw [if_neg hcx]; exact hfl c hc
  · by_cases g : d = x
    · rw [g] at hk ⊢; exact hgd k hk
    · rw [hw d g] at hk
      rw [hv d g k hk]
      refine hg d ?_ k hk
      rcases hd with u | u
      · have u : (if d = x then true else lv d) = true := u
        rw [if_neg g] at u; exact Or.inl u
      · exact nomatch u
/-- a cell's fields, those below i written -/
def zfw (gv gv2 : Nat → Int64) (x : Nat) (st : Nat → Int64) (fi i : Nat) : Prop := (∀ k, k < i → gv2 (3 * x + k) = st (fi + k)) ∧ ∀ j, ¬ (3 * x ≤ j ∧ j < 3 * x + 3) → gv2 j = gv j
theorem zfw_0 {gv st : Nat → Int64} {x fi i : Nat} (h : i = 0) : zfw gv gv x st fi i := ⟨fun k hk => by omega, fun _ _ => rfl⟩
theorem zfw_s {gv gl gv2 st : Nat → Int64} {x fi i i2 a : Nat} {v : Int64} (h : zfw gv gl x st fi i) (e : gv2 = vp_updL gl a v) (ea : a = 3 * x + i) (ev : v = st (fi + i)) (hi : i < 3) (ei : i2 = i + 1) : zfw gv gv2 x st fi i2 := by
  refine ⟨fun k hk => ?_, fun j hj => ?_⟩
  · rw [e]
    unfold vp_updL
    by_cases g : 3 * x + k = a
    · rw [if_pos g, ev, show k = i by omega]
    · rw [if_neg g]; exact h.1 k (by omega)
  · rw [e]
    unfold vp_updL
    rw [if_neg (by omega)]; exact h.2 j hj
