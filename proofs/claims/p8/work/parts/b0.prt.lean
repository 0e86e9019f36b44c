/-! the printer -/
theorem zl_cmp {v : Int32} {x y : Int64} (e : v = lg_cmp x y) : (v.toInt = 1 ∧ y.toInt < x.toInt) ∨ (v.toInt = 0 ∧ x.toInt = y.toInt) ∨ (v.toInt = -1 ∧ x.toInt < y.toInt) := by
  subst e
  unfold lg_cmp
  by_cases g : x > y
  · rw [if_pos g]; exact Or.inl ⟨by decide, Int64.lt_iff_toInt_lt.mp g⟩
  · rw [if_neg g]
    by_cases h : x = y
    · rw [if_pos h]; exact Or.inr (Or.inl ⟨by decide, by rw [h]⟩)
    · rw [if_neg h]
      refine Or.inr (Or.inr ⟨by decide, ?_⟩)
      have a : ¬ y.toInt < x.toInt := fun u => g (Int64.lt_iff_toInt_lt.mpr u)
      have b : x.toInt ≠ y.toInt := fun u => h (Int64.toInt_inj.mp u)
      omega
/-- cells that may be shown: what their fields refer to may be shown too -/
def zPq (n : Int) (wd : Nat → Nat) (gv : Nat → Int64) (Q : Nat → Prop) : Prop := ∀ c : Nat, Q c → (c : Int) < n ∧ ∀ k, k < wd c → zhs (gv (3 * c + k)) = 2 → 0 ≤ (gv (3 * c + k)).toInt32.toInt ∧ Q (Int32.toNatClampNeg (gv (3 * c + k)).toInt32)
/-- the cells that are open -/
def zPo (Q : Nat → Prop) (oc of : Nat → Int32) (po : Int32) : Prop := ∀ i : Nat, (i : Int) < po.toInt → 0 ≤ (oc i).toInt ∧ Q (Int32.toNatClampNeg (oc i)) ∧ 0 ≤ (of i).toInt
theorem zPo_ad {Q : Nat → Prop} {oc of oc2 of2 : Nat → Int32} {po po2 ce : Int32} (h : zPo Q oc of po) (h0 : 0 ≤ po.toInt) (hc : 0 ≤ ce.toInt) (hq : Q (Int32.toNatClampNeg ce)) (he : po2.toInt = po.toInt + 1 ∧ oc2 = upd oc (Int32.toNatClampNeg po) ce ∧ of2 = upd of (Int32.toNatClampNeg po) 0 ∨ po2.toInt = po.toInt ∧ oc2 = oc ∧ of2 = of) : zPo Q oc2 of2 po2 := fun i hi => by
  have hn := zn_nat h0
  rcases he with ⟨e1, e2, e3⟩ | ⟨e1, e2, e3⟩
  · rw [e2, e3]
    by_cases g : i = Int32.toNatClampNeg po
    · rw [g, zu_s, zu_s]; exact ⟨hc, hq, by decide⟩
    · rw [zu_n g, zu_n g]; exact h i (by omega)
  · rw [e2, e3]; exact h i (by omega)
theorem zPo_lo {Q : Nat → Prop} {oc of : Nat → Int32} {po po2 : Int32} (h : zPo Q oc of po) (e : po2.toInt ≤ po.toInt) : zPo Q oc of po2 := fun i hi => h i (by omega)
theorem zPo_f {Q : Nat → Prop} {oc of of2 : Nat → Int32} {po x : Int32} {j : Nat} (h : zPo Q oc of po) (e : of2 = upd of j x) (hx : 0 ≤ x.toInt) : zPo Q oc of2 po := fun i hi => by
  obtain ⟨a, b, c⟩ := h i hi
  refine ⟨a, b, ?_⟩
  rw [e]
  by_cases g : i = j
  · rw [g, zu_s]; exact hx
  · rw [zu_n g]; exact c
/-- what a run left may be shown -/
theorem zRes_q {kz : Int32} {kf gk gc : Nat → Int32} {gv : Nat → Int64} {fresh ff held dbl : Int32} {re : Int64} (h : zRes kz kf gk gc gv fresh ff held dbl re) : ∃ Q : Nat → Prop, zPq 400 (zwd kz kf gk) gv Q ∧ (zhs re = 2 → 0 ≤ re.toInt32.toInt ∧ Q (Int32.toNatClampNeg re.toInt32)) := by
  obtain ⟨lv, FL, a, b, c⟩ := h
  refine ⟨fun c => lv c = true, fun x hx => ⟨?_, fun k hk h2 => ⟨(b x hx k hk).1 h2, zCS_fl a hx hk h2⟩⟩, fun h2 => ⟨c.1 h2, ?_⟩⟩
  · have := (zCS_li a hx).2.1
    have := a.2.2.1
    omega
  · refine (zCS_lv a ?_).1
    show 1 ≤ zr re _
    rw [zr_c h2 (c.1 h2), if_pos rfl]
    exact Int.le_refl _
theorem zRep_q {kz : Int32} {kf gk : Nat → Int32} {gv : Nat → Int64} {fresh : Int32} {re : Int64} (h : zRep kz kf gk gv fresh re) : ∃ Q : Nat → Prop, zPq 4000 (zwd kz kf gk) gv Q ∧ (zhs re = 2 → 0 ≤ re.toInt32.toInt ∧ Q (Int32.toNatClampNeg re.toInt32)) := by
  obtain ⟨a, b, c⟩ := h
  refine ⟨fun c => (c : Int) < fresh.toInt, fun x hx => ⟨by omega, fun k hk h2 => ?_⟩, fun h2 => ?_⟩
  · have u := b x hx k hk
    have u1 := u.1.1 h2
    have u2 := u.2 h2
    have := zn_nat u1
    exact ⟨u1, by show ((_ : Nat) : Int) < _; omega⟩
  · have u1 := a.1.1 h2
    have u2 := a.2 h2
    have := zn_nat u1
    exact ⟨u1, by show ((_ : Nat) : Int) < _; omega⟩
