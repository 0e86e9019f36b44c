theorem zlen : ∀ (n : Nat) {L : List Nat}, L.Nodup → (∀ x ∈ L, x < n) → L.length ≤ n
  | 0, [], _, _ => Nat.le_refl _
  | 0, x :: l, _, h => absurd (h x List.mem_cons_self) (by omega)
  | n + 1, L, hn, h => by
    by_cases g : n ∈ L
    · have := zlen n (L := L.erase n) (hn.erase n) (fun x hx => by
        have u := (hn.mem_erase_iff).mp hx
        have := h x u.2
        have := u.1
        omega)
      rw [List.length_erase_of_mem g] at this
      omega
    · exact Nat.le_succ_of_le (zlen n hn (fun x hx => by
        have := h x hx
        have : x ≠ n := fun e => g (e ▸ hx)
        omega))
theorem zCS_held {wd : Nat → Nat} {gc : Nat → Int32} {gv : Nat → Int64} {fresh ff held dbl dm : Int32} {lv : Nat → Bool} {R : Nat → Int} {FL DL : List Nat} (h : zCS wd gc gv fresh ff held dbl lv R FL DL dm) : 0 ≤ held.toInt ∧ held.toInt ≤ 400 ∧ 0 ≤ fresh.toInt ∧ fresh.toInt ≤ 400 := by
  obtain ⟨hI, h0, h4, hd, hR0, hf, hdm, hnd, hfl, hh, hg⟩ := h
  have hn := zn_nat h0
  have := zlen (Int32.toNatClampNeg fresh) (List.nodup_append.mp hnd).1 (fun x hx => (hfl x (List.mem_append.mpr (Or.inl hx))).1)
  omega
/-- the first free cell is taken -/
theorem zCS_take1 {wd : Nat → Nat} {gc : Nat → Int32} {gv : Nat → Int64} {fresh ff ff2 held held2 dbl dm : Int32} {lv : Nat → Bool} {R : Nat → Int} {FL DL : List Nat} (h : zCS wd gc gv fresh ff held dbl lv R FL DL dm) (hne : ff.toInt ≠ -1) (ef : ff2 = gc (Int32.toNatClampNeg ff)) (eh : held2.toInt = held.toInt + 1) : 0 ≤ ff.toInt ∧ ff.toInt < fresh.toInt ∧ lv (Int32.toNatClampNeg ff) = false ∧ ∃ FL2, zCS wd gc gv fresh ff2 held2 dbl lv R FL2 DL dm ∧ Int32.toNatClampNeg ff ∉ FL2 ++ DL ∧ (∀ c ∈ FL2, c ∈ FL) ∧ Int32.toNatClampNeg ff ∈ FL := by
  obtain ⟨hI, h0, h4, hd, hR0, hf, hdm, hnd, hfl, hh, hg⟩ := h
  have hn := zn_nat h0
  cases FL with
  | nil => exact (hne hf).elim
  | cons y FL =>
    have h1 : ff.toInt = (y : Int) := hf.1
    have hy := zn_nat (x := ff) (by omega)
    have e : Int32.toNatClampNeg ff = y := by omega
    have hm := hfl y List.mem_cons_self
    rw [e]
    have hnd2 : (y :: (FL ++ DL)).Nodup := hnd
    refine ⟨by omega, by omega, hm.2, FL, ⟨hI, h0, h4, hd, hR0, by rw [ef, e]; exact hf.2, hdm, (List.nodup_cons.mp hnd2).2, fun c hc => hfl c (List.mem_cons_of_mem _ hc), ?_, hg⟩, (List.nodup_cons.mp hnd2).1, fun c hc => List.mem_cons_of_mem _ hc, List.mem_cons_self⟩
    rw [List.length_cons] at hh
    omega
/-- a cell that was never used is taken -/
theorem zCS_take2 {wd : Nat → Nat} {gc : Nat → Int32} {gv : Nat → Int64} {fresh fresh2 ff held held2 dbl dm : Int32} {lv : Nat → Bool} {R : Nat → Int} {FL DL : List Nat} (h : zCS wd gc gv fresh ff held dbl lv R FL DL dm) (hne : ff.toInt = -1) (hl : held.toInt < 400) (ef : fresh2.toInt = fresh.toInt + 1) (eh : held2.toInt = held.toInt + 1) : fresh.toInt < 400 ∧ lv (Int32.toNatClampNeg fresh) = false ∧ FL = [] ∧ zCS wd gc gv fresh2 ff held2 dbl lv R [] DL dm ∧ Int32.toNatClampNeg fresh ∉ DL := by
  obtain ⟨hI, h0, h4, hd, hR0, hf, hdm, hnd, hfl, hh, hg⟩ := h
  have hn := zn_nat h0
  have hn2 := zn_nat (x := fresh2) (by omega)
  have e : Int32.toNatClampNeg fresh2 = Int32.toNatClampNeg fresh + 1 := by omega
  cases FL with
  | cons y FL => have h1 : ff.toInt = (y : Int) := hf.1; omega
  | nil =>
    have hlv : lv (Int32.toNatClampNeg fresh) = false := by
      cases g : lv (Int32.toNatClampNeg fresh) with
      | false => rfl
      | true => have := (hI.1 _ g).1; omega
    have hh : held.toInt + ((0 : Nat) : Int) = fresh.toInt := hh
    refine ⟨by omega, hlv, rfl, ⟨by rw [e]; exact zI_grow hI hlv, by omega, by omega, hd, hR0, hf, hdm, hnd, fun c hc => ⟨by have := (hfl c hc).1; omega, (hfl c hc).2⟩, by show held2.toInt + ((0 : Nat) : Int) = _; omega, hg⟩, fun g => by have := (hfl _ (List.mem_append.mpr (Or.inr g))).1; omega⟩
