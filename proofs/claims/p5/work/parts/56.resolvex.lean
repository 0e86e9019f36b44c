section
/-- calls that are found: rows below i, while no fault is met -/
def zrs (op b ff : Nat → Int32) (fz : Int32) (a la : Nat → Int32) (nu i : Int) : Prop := (∀ r : Nat, ¬ (Int32.toNatClampNeg (op r) = 6 ∨ Int32.toNatClampNeg (op r) = 7) → la r = a r) ∧ (nu = 0 → ∀ r : Nat, (r : Int) < i → Int32.toNatClampNeg (op r) = 6 ∨ Int32.toNatClampNeg (op r) = 7 → 0 ≤ (la r).toInt ∧ (la r).toInt < fz.toInt ∧ ff (5 * Int32.toNatClampNeg (la r)) = b r)
theorem zrs_0 {op b ff : Nat → Int32} {fz : Int32} {a : Nat → Int32} {nu i : Int} (h : i = 0) : zrs op b ff fz a a nu i := ⟨fun _ _ => rfl, fun _ r hr => by omega⟩
theorem zrs_n {op b ff : Nat → Int32} {fz : Int32} {a la : Nat → Int32} {nu i2 : Int} {i : Int32} (h : zrs op b ff fz a la nu i.toInt) (hi : 0 ≤ i.toInt) (hno : (op (Int32.toNatClampNeg i)).toInt ≠ 7 ∧ (op (Int32.toNatClampNeg i)).toInt ≠ 6) (ei : i2 = i.toInt + 1) : zrs op b ff fz a la nu i2 := ⟨h.1, fun g r hr ho => by
  have hn := zn_nat hi
  by_cases u : r = Int32.toNatClampNeg i
  · rw [u] at ho
    have e : ((Int32.toNatClampNeg (op (Int32.toNatClampNeg i)) : Nat) : Int) = ((op (Int32.toNatClampNeg i)).toInt.toNat : Nat) := rfl
    omega
  · exact h.2 g r (by omega) ho⟩
theorem zop_67 {x : Int32} (h : x.toInt = 7 ∨ x.toInt = 6) : Int32.toNatClampNeg x = 6 ∨ Int32.toNatClampNeg x = 7 := by
  have e : ((Int32.toNatClampNeg x : Nat) : Int) = (x.toInt.toNat : Nat) := rfl
  omega
theorem zrs_c {op b ff : Nat → Int32} {fz : Int32} {a la la2 : Nat → Int32} {nu i2 : Int} {i v : Int32} (h : zrs op b ff fz a la nu i.toInt) (hi : 0 ≤ i.toInt) (ho : (op (Int32.toNatClampNeg i)).toInt = 7 ∨ (op (Int32.toNatClampNeg i)).toInt = 6) (e : la2 = upd la (Int32.toNatClampNeg i) v) (hv : nu = 0 → 0 ≤ v.toInt ∧ v.toInt < fz.toInt ∧ ff (5 * Int32.toNatClampNeg v) = b (Int32.toNatClampNeg i)) (ei : i2 = i.toInt + 1) : zrs op b ff fz a la2 nu i2 := by
  have hn := zn_nat hi
  refine ⟨fun r hr => ?_, fun g r hr hor => ?_⟩
  · have u : r ≠ Int32.toNatClampNeg i := fun u => hr (by rw [u]; exact zop_67 ho)
    rw [e, zu_n u]; exact h.1 r hr
  · by_cases u : r = Int32.toNatClampNeg i
    · rw [u, e, zu_s]; exact hv g
    · rw [e, zu_n u]; exact h.2 g r (by omega) hor
theorem zrs_x {op b ff : Nat → Int32} {fz : Int32} {a la la2 : Nat → Int32} {nu nu2 i2 : Int} {i v : Int32} (h : zrs op b ff fz a la nu i.toInt) (ho : (op (Int32.toNatClampNeg i)).toInt = 7 ∨ (op (Int32.toNatClampNeg i)).toInt = 6) (e : la2 = upd la (Int32.toNatClampNeg i) v) (hv : nu2 ≠ 0) : zrs op b ff fz a la2 nu2 i2 := by
  refine ⟨fun r hr => ?_, fun g => absurd g hv⟩
  have u : r ≠ Int32.toNatClampNeg i := fun u => hr (by rw [u]; exact zop_67 ho)
  rw [e, zu_n u]; exact h.1 r hr
/-- the program's law doesn't ask where calls lead -/
theorem zrow_ca {S S2 : Nat → Nat → Int32} {G : Nat → Nat → Int} {f q : Nat} {po : List Nat} (hk : ∀ k, k ≠ 1 → S2 k = S k) (h1 : ¬ (Int32.toNatClampNeg (S 0 q) = 6 ∨ Int32.toNatClampNeg (S 0 q) = 7) → S2 1 q = S 1 q) (h : zrow S G f q po) : zrow S2 G f q po := by
  by_cases g : Int32.toNatClampNeg (S 0 q) = 6 ∨ Int32.toNatClampNeg (S 0 q) = 7
  · obtain ⟨a1, a2, a3, a4, a5, a6, a7, a8⟩ := h
    refine ⟨a1, a2, a3, a4, a5, by rw [hk 10 (by decide)]; exact a6, a7, ?_⟩
    rw [hk 0 (by decide)]
    rcases g with g | g
    · rw [g] at a8 ⊢; simp only [zop] at a8 ⊢; rw [hk 2 (by decide)]; exact a8
    · rw [g] at a8 ⊢; simp only [zop] at a8 ⊢; rw [hk 2 (by decide)]; exact a8
  · exact zrow_cg (by rw [hk 0 (by decide)]) (h1 g) (by rw [hk 2 (by decide)]) (fun k k1 _ _ _ => hk k (by omega)) h
theorem zall_ca {S S2 : Nat → Nat → Int32} {G : Nat → Nat → Int} (hk : ∀ k, k ≠ 1 → S2 k = S k) (h1 : ∀ q, ¬ (Int32.toNatClampNeg (S 0 q) = 6 ∨ Int32.toNatClampNeg (S 0 q) = 7) → S2 1 q = S 1 q) : ∀ {X : List Nat}, zall S G X → zall S2 G X
  | [], _ => trivial
  | r :: _, ⟨⟨f, z⟩, h⟩ => ⟨⟨f, zrow_ca hk (h1 r) z⟩, zall_ca hk h1 h⟩
theorem zPr_ca {S S2 : Nat → Nat → Int32} {G : Nat → Nat → Int} {en : Nat → Int32} {F : Nat} {L : List Nat} (hk : ∀ k, k ≠ 1 → S2 k = S k) (h1 : ∀ q, ¬ (Int32.toNatClampNeg (S 0 q) = 6 ∨ Int32.toNatClampNeg (S 0 q) = 7) → S2 1 q = S 1 q) (h : zPr S G en F L) : zPr S2 G en F L := by
  obtain ⟨pc, pl, pn, pr, pa, pcc, pe, pf⟩ := h
  unfold zPr zS0 at *
  rw [hk 11 (by decide), hk 12 (by decide), hk 3 (by decide), hk 0 (by decide), hk 10 (by decide)]
  exact ⟨pc, pl, pn, pr, zall_ca hk h1 pa, zcc_ext (fun q _ => ⟨by rw [hk 0 (by decide)], fun _ _ => rfl⟩) pcc, pe, pf⟩
/-- a call's function is told, with as many names -/
def sp_oc (fw : Nat → Int64) (ff : Nat → Int32) (fz : Int32) (w : Int64) (b : Int) : Prop := sp_fi fw w (Int32.toNatClampNeg fz) < Int32.toNatClampNeg fz ∧ (ff (5 * sp_fi fw w (Int32.toNatClampNeg fz))).toInt = b
def sp_or (r : Int32) (P : Prop) : Prop := (r.toInt = 0 → P) ∧ (r.toInt ≠ 0 → ¬ P)
theorem sp_oc_n {fw : Nat → Int64} {ff : Nat → Int32} {fz r q : Int32} {w : Int64} {b : Int} (h : sp_fd fw w fz q) (hq : q.toInt = -1) (hr : r.toInt ≠ 0) : sp_or r (sp_oc fw ff fz w b) := ⟨fun g => absurd g hr, fun _ g => by
  have g := g.1
  unfold sp_fd at h
  rw [if_pos hq] at h
  omega⟩
theorem sp_oc_y {fw : Nat → Int64} {ff : Nat → Int32} {fz r q : Int32} {w : Int64} {b : Int} (h : sp_fd fw w fz q) (hq : 0 ≤ q.toInt) (hz : q.toInt < fz.toInt) (hr : r.toInt = 0 ∧ (ff (5 * Int32.toNatClampNeg q)).toInt = b ∨ r.toInt ≠ 0 ∧ (ff (5 * Int32.toNatClampNeg q)).toInt ≠ b) : sp_or r (sp_oc fw ff fz w b) := by
  have n1 := zn_nat hq
  have n2 := zn_nat (x := fz) (by omega)
  unfold sp_fd at h
  rw [if_neg (by omega)] at h
  unfold sp_oc
  rw [h]
  exact ⟨fun g => ⟨by omega, by rcases hr with u | u; exact u.2; exact absurd g u.1⟩, fun g u => by rcases hr with v | v; exact g v.1; exact v.2 u.2⟩
/-- the calls looked at so far -/
def sp_rs (op b : Nat → Int32) (V : Nat → Int64) (fw : Nat → Int64) (ff : Nat → Int32) (fz : Int32) (a la : Nat → Int32) (nu i cz : Int) : Prop := (∀ r : Nat, i ≤ (r : Int) → la r = a r) ∧ (nu = 0 → ∀ r : Nat, (r : Int) < i → (op r).toInt = 6 ∨ (op r).toInt = 7 → sp_oc fw ff fz (V (Int32.toNatClampNeg (a r))) (b r).toInt) ∧ (nu ≠ 0 → ∃ r : Nat, (r : Int) < cz ∧ ((op r).toInt = 6 ∨ (op r).toInt = 7) ∧ ¬ sp_oc fw ff fz (V (Int32.toNatClampNeg (a r))) (b r).toInt)
theorem sp_rs_0 {op b : Nat → Int32} {V fw : Nat → Int64} {ff : Nat → Int32} {fz : Int32} {a : Nat → Int32} {nu i cz : Int} (h : i = 0) (hn : nu = 0) : sp_rs op b V fw ff fz a a nu i cz := ⟨fun _ _ => rfl, fun _ r hr => by omega, fun g => absurd hn g⟩
theorem sp_rs_n {op b : Nat → Int32} {V fw : Nat → Int64} {ff : Nat → Int32} {fz : Int32} {a la : Nat → Int32} {nu i2 cz : Int} {i : Int32} (h : sp_rs op b V fw ff fz a la nu i.toInt cz) (hi : 0 ≤ i.toInt) (hno : (op (Int32.toNatClampNeg i)).toInt ≠ 7 ∧ (op (Int32.toNatClampNeg i)).toInt ≠ 6) (ei : i2 = i.toInt + 1) : sp_rs op b V fw ff fz a la nu i2 cz := ⟨fun r hr => h.1 r (by omega), fun g r hr ho => by
  have hn := zn_nat hi
  by_cases u : r = Int32.toNatClampNeg i
  · rw [u] at ho; omega
  · exact h.2.1 g r (by omega) ho, h.2.2⟩
theorem sp_rs_c {op b : Nat → Int32} {V fw : Nat → Int64} {ff : Nat → Int32} {fz : Int32} {a la la2 : Nat → Int32} {nu i2 cz : Int} {i v r9 : Int32} (h : sp_rs op b V fw ff fz a la nu i.toInt cz) (hi : 0 ≤ i.toInt) (e : la2 = upd la (Int32.toNatClampNeg i) v) (ho : sp_or r9 (sp_oc fw ff fz (V (Int32.toNatClampNeg (la (Int32.toNatClampNeg i)))) (b (Int32.toNatClampNeg i)).toInt)) (h9 : r9.toInt = 0) (ei : i2 = i.toInt + 1) : sp_rs op b V fw ff fz a la2 nu i2 cz := by
  have hn := zn_nat hi
  refine ⟨fun r hr => by rw [e, zu_n (by omega)]; exact h.1 r (by omega), fun g r hr hor => ?_, h.2.2⟩
  by_cases u : r = Int32.toNatClampNeg i
  · rw [u, ← h.1 (Int32.toNatClampNeg i) (by omega)]; exact ho.1 h9
  · exact h.2.1 g r (by omega) hor
theorem sp_rs_k {op b : Nat → Int32} {V fw : Nat → Int64} {ff : Nat → Int32} {fz : Int32} {a la la2 : Nat → Int32} {nu i2 cz : Int} {i v : Int32} (h : sp_rs op b V fw ff fz a la nu i.toInt cz) (hi : 0 ≤ i.toInt) (e : la2 = upd la (Int32.toNatClampNeg i) v) (hnu : nu ≠ 0) (ei : i2 = i.toInt + 1) : sp_rs op b V fw ff fz a la2 nu i2 cz := by
  have hn := zn_nat hi
  exact ⟨fun r hr => by rw [e, zu_n (by omega)]; exact h.1 r (by omega), fun g => absurd g hnu, h.2.2⟩
theorem sp_rs_x {op b : Nat → Int32} {V fw : Nat → Int64} {ff : Nat → Int32} {fz : Int32} {a la la2 : Nat → Int32} {nu nu2 i2 cz : Int} {i v r9 : Int32} (h : sp_rs op b V fw ff fz a la nu i.toInt cz) (hi : 0 ≤ i.toInt) (hic : i.toInt < cz) (hop : (op (Int32.toNatClampNeg i)).toInt = 7 ∨ (op (Int32.toNatClampNeg i)).toInt = 6) (e : la2 = upd la (Int32.toNatClampNeg i) v) (ho : sp_or r9 (sp_oc fw ff fz (V (Int32.toNatClampNeg (la (Int32.toNatClampNeg i)))) (b (Int32.toNatClampNeg i)).toInt)) (h9 : r9.toInt ≠ 0) (hnu : nu2 ≠ 0) (ei : i2 = i.toInt + 1) : sp_rs op b V fw ff fz a la2 nu2 i2 cz := by
  have hn := zn_nat hi
  refine ⟨fun r hr => by rw [e, zu_n (by omega)]; exact h.1 r (by omega), fun g => absurd g hnu, fun _ => ⟨Int32.toNatClampNeg i, by omega, by omega, ?_⟩⟩
  rw [← h.1 (Int32.toNatClampNeg i) (by omega)]; exact ho.2 h9
theorem sp_rs_y {op b pl : Nat → Int32} {V fw : Nat → Int64} {ff : Nat → Int32} {fz zz cz : Int32} {a la : Nat → Int32} {nu i : Int} {C : List (Int64 × Int × Int)} (h : sp_rs op b V fw ff fz a la nu i cz.toInt) (hc : sp_cl op a b pl V zz cz C) (hnu : nu = 0) (hi : cz.toInt ≤ i) : ∀ q ∈ C, sp_oc fw ff fz q.1 q.2.1 := fun q hq => by
  obtain ⟨r, hr, ho, e1, e2, -⟩ := hc.2 q hq
  rw [← e1, ← e2]; exact h.2.1 hnu r (by omega) ho
theorem sp_rs_t {op b pl : Nat → Int32} {V fw : Nat → Int64} {ff : Nat → Int32} {fz zz cz : Int32} {a la : Nat → Int32} {nu i : Int} {C : List (Int64 × Int × Int)} (h : sp_rs op b V fw ff fz a la nu i cz.toInt) (hc : sp_cl op a b pl V zz cz C) (hnu : nu ≠ 0) : ¬ ∀ q ∈ C, sp_oc fw ff fz q.1 q.2.1 := fun g => by
  obtain ⟨r, hr, ho, hb⟩ := h.2.2 hnu
  exact hb (g _ (hc.1 r hr ho).2)
/-- the least place of a wrong call so far -/
def sp_rp (op b pl : Nat → Int32) (V fw : Nat → Int64) (ff : Nat → Int32) (fz : Int32) (a : Nat → Int32) (nu pc i cz : Int) : Prop := (∀ r : Nat, (r : Int) < i → (op r).toInt = 6 ∨ (op r).toInt = 7 → ¬ sp_oc fw ff fz (V (Int32.toNatClampNeg (a r))) (b r).toInt → nu ≠ 0 ∧ pc ≤ (pl r).toInt) ∧ (nu ≠ 0 → ∃ r : Nat, (r : Int) < cz ∧ ((op r).toInt = 6 ∨ (op r).toInt = 7) ∧ ¬ sp_oc fw ff fz (V (Int32.toNatClampNeg (a r))) (b r).toInt ∧ pc = (pl r).toInt)
theorem sp_rp_0 {op b pl : Nat → Int32} {V fw : Nat → Int64} {ff : Nat → Int32} {fz : Int32} {a : Nat → Int32} {nu pc i cz : Int} (h : i = 0) (hn : nu = 0) : sp_rp op b pl V fw ff fz a nu pc i cz := ⟨fun r hr => by omega, fun g => absurd hn g⟩
theorem sp_rp_n {op b pl : Nat → Int32} {V fw : Nat → Int64} {ff : Nat → Int32} {fz : Int32} {a : Nat → Int32} {nu pc i2 cz : Int} {i : Int32} (h : sp_rp op b pl V fw ff fz a nu pc i.toInt cz) (hi : 0 ≤ i.toInt) (hno : (op (Int32.toNatClampNeg i)).toInt ≠ 7 ∧ (op (Int32.toNatClampNeg i)).toInt ≠ 6) (ei : i2 = i.toInt + 1) : sp_rp op b pl V fw ff fz a nu pc i2 cz := ⟨fun r hr ho => by
  have hn := zn_nat hi
  by_cases u : r = Int32.toNatClampNeg i
  · rw [u] at ho; omega
  · exact h.1 r (by omega) ho, h.2⟩
theorem sp_rp_c {op b pl : Nat → Int32} {V fw : Nat → Int64} {ff : Nat → Int32} {fz : Int32} {a la : Nat → Int32} {nu pc i2 cz : Int} {i r9 : Int32} (h : sp_rp op b pl V fw ff fz a nu pc i.toInt cz) (hi : 0 ≤ i.toInt) (ea : la (Int32.toNatClampNeg i) = a (Int32.toNatClampNeg i)) (ho : sp_or r9 (sp_oc fw ff fz (V (Int32.toNatClampNeg (la (Int32.toNatClampNeg i)))) (b (Int32.toNatClampNeg i)).toInt)) (h9 : r9.toInt = 0) (ei : i2 = i.toInt + 1) : sp_rp op b pl V fw ff fz a nu pc i2 cz := ⟨fun r hr hor hb => by
  have hn := zn_nat hi
  by_cases u : r = Int32.toNatClampNeg i
  · rw [u, ← ea] at hb; exact absurd (ho.1 h9) hb
  · exact h.1 r (by omega) hor hb, h.2⟩
theorem sp_rp_k {op b pl : Nat → Int32} {V fw : Nat → Int64} {ff : Nat → Int32} {fz : Int32} {a : Nat → Int32} {nu pc i2 cz : Int} {i : Int32} (h : sp_rp op b pl V fw ff fz a nu pc i.toInt cz) (hi : 0 ≤ i.toInt) (hnu : nu ≠ 0) (hp : pc ≤ (pl (Int32.toNatClampNeg i)).toInt) (ei : i2 = i.toInt + 1) : sp_rp op b pl V fw ff fz a nu pc i2 cz := ⟨fun r hr hor hb => by
  have hn := zn_nat hi
  by_cases u : r = Int32.toNatClampNeg i
  · rw [u]; exact ⟨hnu, hp⟩
  · exact h.1 r (by omega) hor hb, h.2⟩
theorem sp_rp_x {op b pl : Nat → Int32} {V fw : Nat → Int64} {ff : Nat → Int32} {fz : Int32} {a la : Nat → Int32} {nu nu2 pc pc2 i2 cz : Int} {i r9 : Int32} (h : sp_rp op b pl V fw ff fz a nu pc i.toInt cz) (hi : 0 ≤ i.toInt) (hic : i.toInt < cz) (hop : (op (Int32.toNatClampNeg i)).toInt = 7 ∨ (op (Int32.toNatClampNeg i)).toInt = 6) (ea : la (Int32.toNatClampNeg i) = a (Int32.toNatClampNeg i)) (ho : sp_or r9 (sp_oc fw ff fz (V (Int32.toNatClampNeg (la (Int32.toNatClampNeg i)))) (b (Int32.toNatClampNeg i)).toInt)) (h9 : r9.toInt ≠ 0) (hnu : nu2 ≠ 0) (hpc : pc2 = (pl (Int32.toNatClampNeg i)).toInt) (hlt : pc2 < pc) (ei : i2 = i.toInt + 1) : sp_rp op b pl V fw ff fz a nu2 pc2 i2 cz := by
  have hn := zn_nat hi
  refine ⟨fun r hr hor hb => ?_, fun _ => ⟨Int32.toNatClampNeg i, by omega, by omega, ?_, hpc⟩⟩
  · by_cases u : r = Int32.toNatClampNeg i
    · rw [u]; exact ⟨hnu, by omega⟩
    · have := (h.1 r (by omega) hor hb).2
      exact ⟨hnu, by omega⟩
  · rw [← ea]; exact ho.2 h9
/-- the place of the first wrong call -/
def pf_wr (C : List (Int64 × Int × Int)) (fw : Nat → Int64) (ff : Nat → Int32) (fz : Int32) (p : Int) : Prop := (∃ q ∈ C, ¬ sp_oc fw ff fz q.1 q.2.1 ∧ p = q.2.2) ∧ ∀ q ∈ C, ¬ sp_oc fw ff fz q.1 q.2.1 → p ≤ q.2.2
theorem sp_rp_t {op b pl : Nat → Int32} {V fw : Nat → Int64} {ff : Nat → Int32} {fz zz cz : Int32} {a : Nat → Int32} {nu pc i p : Int} {C : List (Int64 × Int × Int)} (h : sp_rp op b pl V fw ff fz a nu pc i cz.toInt) (hc : sp_cl op a b pl V zz cz C) (hnu : nu ≠ 0) (hi : cz.toInt ≤ i) (hp : p = pc) : pf_wr C fw ff fz p := by
  subst hp
  refine ⟨?_, fun q hq hb => ?_⟩
  · obtain ⟨r, hr, ho, hb, e⟩ := h.2 hnu
    exact ⟨_, (hc.1 r hr ho).2, hb, e⟩
  · obtain ⟨r, hr, ho, e1, e2, e3⟩ := hc.2 q hq
    rw [← e1, ← e2] at hb
    rw [← e3]
    exact (h.1 r (by omega) ho hb).2
/-- rows of calls found -/
def sp_rv (op : Nat → Int32) (V fw : Nat → Int64) (fz : Int32) (a la : Nat → Int32) (nu i : Int) : Prop := nu = 0 → ∀ r : Nat, (r : Int) < i → (op r).toInt = 6 ∨ (op r).toInt = 7 → sp_fd fw (V (Int32.toNatClampNeg (a r))) fz (la r)
theorem sp_rv_0 {op : Nat → Int32} {V fw : Nat → Int64} {fz : Int32} {a la : Nat → Int32} {nu i : Int} (h : i = 0) : sp_rv op V fw fz a la nu i := fun _ r hr => by omega
theorem sp_rv_n {op : Nat → Int32} {V fw : Nat → Int64} {fz : Int32} {a la : Nat → Int32} {nu i2 : Int} {i : Int32} (h : sp_rv op V fw fz a la nu i.toInt) (hi : 0 ≤ i.toInt) (hno : (op (Int32.toNatClampNeg i)).toInt ≠ 7 ∧ (op (Int32.toNatClampNeg i)).toInt ≠ 6) (ei : i2 = i.toInt + 1) : sp_rv op V fw fz a la nu i2 := fun g r hr ho => by
  have hn := zn_nat hi
  by_cases u : r = Int32.toNatClampNeg i
  · rw [u] at ho; omega
  · exact h g r (by omega) ho
theorem sp_rv_c {op : Nat → Int32} {V fw : Nat → Int64} {fz : Int32} {a la la2 : Nat → Int32} {nu i2 : Int} {i v : Int32} (h : sp_rv op V fw fz a la nu i.toInt) (hi : 0 ≤ i.toInt) (e : la2 = upd la (Int32.toNatClampNeg i) v) (ea : la (Int32.toNatClampNeg i) = a (Int32.toNatClampNeg i)) (hf : sp_fd fw (V (Int32.toNatClampNeg (la (Int32.toNatClampNeg i)))) fz v) (ei : i2 = i.toInt + 1) : sp_rv op V fw fz a la2 nu i2 := fun g r hr ho => by
  have hn := zn_nat hi
  by_cases u : r = Int32.toNatClampNeg i
  · rw [u, e, zu_s, ← ea]; exact hf
  · rw [e, zu_n u]; exact h g r (by omega) ho
theorem sp_rv_x {op : Nat → Int32} {V fw : Nat → Int64} {fz : Int32} {a la : Nat → Int32} {nu i : Int} (h : nu ≠ 0) : sp_rv op V fw fz a la nu i := fun g => absurd g h
/-- a call's row behind the last look -/
def cHf (fw : Nat → Int64) (fz : Int32) (x : Int32) (w : Int64) : Prop := sp_fd fw w fz x ∧ 0 ≤ x.toInt ∧ x.toInt < fz.toInt
theorem cI_hh {op a b pl ak an ab al af bu a2 : Nat → Int32} {H H2 : Int32 → Int64 → Prop} {alo ahi cz : Int} (hn : ∀ r, (op r).toInt ≠ 6 → (op r).toInt ≠ 7 → a2 r = a r) (hc : ∀ (r : Nat) (w : Int64), (r : Int) < cz → (op r).toInt = 6 ∨ (op r).toInt = 7 → H (a r) w → H2 (a2 r) w) : ∀ (t : Tm) {mo : Bool} {pv : Nat} {ar : Int32} {en : Nat} {X : List Nat}, (∀ r ∈ X, (r : Int) < cz) → cI (zcs op a b pl ak an ab al af bu) H alo ahi t mo pv ar en X → cI (zcs op a2 b pl ak an ab al af bu) H2 alo ahi t mo pv ar en X
  | .leaf (some (0, p, v, _, _, _)), mo, pv, ar, en, X, hr, h => by
    obtain ⟨r, rfl, a, b, c⟩ := h
    have a : (op r).toInt = 2 := a
    exact ⟨r, rfl, a, by show (a2 r).toInt = v; rw [hn r (by omega) (by omega)]; exact b, c⟩
  | .leaf (some (_ + 1, p, _, s, _, _)), mo, pv, ar, en, X, hr, h => by
    obtain ⟨r, rfl, a, b, c⟩ := h
    have a : (op r).toInt = 3 := a
    exact ⟨r, rfl, a, by show (a2 r).toInt = _; rw [hn r (by omega) (by omega)]; exact b, c⟩
  | .branch 0 (.leaf (some (0, p, _, _, _, w))) t, mo, pv, ar, en, X, hr, h => by
    rcases h with ⟨q1, q2, r, rfl, a, b, c, d⟩ | ⟨q1, s, Y, r, rfl, a, b, c, d, e, f, g⟩
    · exact Or.inl ⟨q1, q2, r, rfl, a, hc r w (hr r (by simp)) (Or.inl a) b, c, d⟩
    · exact Or.inr ⟨q1, s, Y, r, rfl, a, b, cI_hh hn hc t (fun x hx => hr x (by simp [hx])) c, d, hc r w (hr r (by simp)) (Or.inr d) e, f, g⟩
  | .branch 0 (.leaf (some (1, p, _, k, _, _))) t, mo, pv, ar, en, X, hr, h => by
    rcases h with ⟨q1, q2, r, rfl, a, b, c⟩ | ⟨q1, s, Y, r, rfl, a, b, c, d, e, f⟩
    · have a : (op r).toInt = 4 := a
      exact Or.inl ⟨q1, q2, r, rfl, a, by show (a2 r).toInt = _; rw [hn r (by omega) (by omega)]; exact b, c⟩
    · have d : (op r).toInt = 5 := d
      exact Or.inr ⟨q1, s, Y, r, rfl, a, b, cI_hh hn hc t (fun x hx => hr x (by simp [hx])) c, d, by show (a2 r).toInt = _; rw [hn r (by omega) (by omega)]; exact e, f⟩
  | .branch 1 (.leaf (some (0, p, o, _, _, _))) (.branch _ t u), mo, pv, ar, en, X, hr, h => by
    obtain ⟨s, Y, Z, r, rfl, a, b, c, d, e, f⟩ := h
    exact ⟨s, Y, Z, r, rfl, a, b, cI_hh hn hc t (fun x hx => hr x (by simp [hx])) c, cI_hh hn hc u (fun x hx => hr x (by simp [hx])) d, e, f⟩
  | .branch 1 (.leaf (some (_ + 1, p, _, k, _, _))) (.branch _ t u), mo, pv, ar, en, X, hr, h => by
    obtain ⟨s, Y, r, Z, rfl, a, b, c, d, e, f⟩ := h
    have d : (op r).toInt = 12 := d
    exact ⟨s, Y, r, Z, rfl, a, b, cI_hh hn hc t (fun x hx => hr x (by simp [hx])) c, d, by show (a2 r).toInt = _; rw [hn r (by omega) (by omega)]; exact e, cI_hh hn hc u (fun x hx => hr x (by simp [hx])) f⟩
  | .branch 2 (.leaf (some (_, p, _, _, _, _))) (.branch _ t (.branch _ u w)), mo, pv, ar, en, X, hr, h => by
    obtain ⟨s, Y, i, Z, j, U, rfl, a, b, c, d, e, f, g, k, l, m⟩ := h
    have d : (op i).toInt = 13 := d
    have k : (op j).toInt = 14 := k
    exact ⟨s, Y, i, Z, j, U, rfl, a, b, cI_hh hn hc t (fun x hx => hr x (by simp [hx])) c, d, by show (a2 i).toInt = _; rw [hn i (by omega) (by omega)]; exact e, f, cI_hh hn hc u (fun x hx => hr x (by simp [hx])) g, k, by show (a2 j).toInt = _; rw [hn j (by omega) (by omega)]; exact l, cI_hh hn hc w (fun x hx => hr x (by simp [hx])) m⟩
  | .branch 0 (.leaf (some (2, p, _, k, _, _))) t, mo, pv, ar, en, X, hr, h => by
    obtain ⟨s, m, Y, rfl, a, b, c, d, e, f⟩ := h
    have c : (op m).toInt = 15 := c
    exact ⟨s, m, Y, rfl, a, b, c, by show (a2 m).toInt = _; rw [hn m (by omega) (by omega)]; exact d, e, cI_hh hn hc t (fun x hx => hr x (by simp [hx])) f⟩
  | .branch 0 (.leaf (some (_ + 3, p, k, hh, m, _))) t, mo, pv, ar, en, X, hr, h => by
    obtain ⟨Y, v, rfl, b1, a, b, c, d, e, f, g, i⟩ := h
    have f : (op v).toInt = 16 := f
    exact ⟨Y, v, rfl, b1, a, b, c, d, e, f, by show (a2 v).toInt = _; rw [hn v (by omega) (by omega)]; exact g, cI_hh hn hc t (fun x hx => hr x (by simp [hx])) i⟩
  | .branch 0 (.leaf none) _, _, _, _, _, _, _, h9 => h9.elim
  | .branch 0 (.branch _ _ _) _, _, _, _, _, _, _, h9 => h9.elim
  | .branch 1 (.leaf none) _, _, _, _, _, _, _, h9 => h9.elim
  | .branch 1 (.branch _ _ _) _, _, _, _, _, _, _, h9 => h9.elim
  | .branch 1 (.leaf (some (0, _, _, _, _, _))) (.leaf _), _, _, _, _, _, _, h9 => h9.elim
  | .branch 1 (.leaf (some (_ + 1, _, _, _, _, _))) (.leaf _), _, _, _, _, _, _, h9 => h9.elim
  | .branch 2 (.leaf none) _, _, _, _, _, _, _, h9 => h9.elim
  | .branch 2 (.branch _ _ _) _, _, _, _, _, _, _, h9 => h9.elim
  | .branch 2 (.leaf (some (_, _, _, _, _, _))) (.leaf _), _, _, _, _, _, _, h9 => h9.elim
  | .branch 2 (.leaf (some (_, _, _, _, _, _))) (.branch _ _ (.leaf _)), _, _, _, _, _, _, h9 => h9.elim
  | .leaf none, mo, pv, ar, en, X, hr, h => show X = [] ∧ (mo = true → ar.toInt = -1) from h
  | .branch (_ + 3) t u, mo, pv, ar, en, X, hr, h => by
    obtain ⟨Y, Z, rfl, a, b, c⟩ := h
    exact ⟨Y, Z, rfl, cI_hh hn hc t (fun x hx => hr x (by simp [hx])) a, cI_hh hn hc u (fun x hx => hr x (by simp [hx])) b, c⟩
theorem cPg_hh {op a b pl ak an ab al af bu a2 nx : Nat → Int32} {H H2 : Int32 → Int64 → Prop} {cz az : Int} {en : Nat → Int32} {n : Nat} {Tr : Nat → Tm} (hn : ∀ r, (op r).toInt ≠ 6 → (op r).toInt ≠ 7 → a2 r = a r) (hc : ∀ (r : Nat) (w : Int64), (r : Int) < cz → (op r).toInt = 6 ∨ (op r).toInt = 7 → H (a r) w → H2 (a2 r) w) (h : cPg (zcs op a b pl ak an ab al af bu) nx H cz az en n Tr) : cPg (zcs op a2 b pl ak an ab al af bu) nx H2 cz az en n Tr := fun f hf => by
  obtain ⟨X, q, a1, a2', a3, a4, a5, a6, a7, a8⟩ := h f hf
  have a4 : (op (Int32.toNatClampNeg (en f))).toInt = 0 := a4
  exact ⟨X, q, cI_hh hn hc _ a8 a1, a2', a3, a4, by show (a2 _).toInt = _; rw [hn _ (by omega) (by omega)]; exact a5, a6, a7, a8⟩
theorem cCh_hh {op a b pl ak an ab al af bu a2 : Nat → Int32} {H H2 : Int32 → Int64 → Prop} {cz az : Int} {en : Nat → Int32} {Tr : Nat → Tm} (hn : ∀ r, (op r).toInt ≠ 6 → (op r).toInt ≠ 7 → a2 r = a r) (hc : ∀ (r : Nat) (w : Int64), (r : Int) < cz → (op r).toInt = 6 ∨ (op r).toInt = 7 → H (a r) w → H2 (a2 r) w) : ∀ (n : Nat) {L : List Nat}, (∀ r ∈ L, (r : Int) < cz) → cCh (zcs op a b pl ak an ab al af bu) H az en Tr n L → cCh (zcs op a2 b pl ak an ab al af bu) H2 az en Tr n L
  | 0, L, _, h => h
  | n + 1, L, hb, ⟨A, X, q, e, h1, h2, h3, h4, h5⟩ => by
    subst e
    have h3 : (op (Int32.toNatClampNeg (en n))).toInt = 0 := h3
    exact ⟨A, X, q, rfl, cCh_hh hn hc n (fun r h => hb r (by simp [h])) h1, cI_hh hn hc _ (fun r h => hb r (by simp [h])) h2, h3, by show (a2 _).toInt = _; rw [hn _ (by omega) (by omega)]; exact h4, h5⟩
theorem cCl_hh {op a b pl ak an ab al af bu a2 nx : Nat → Int32} {H H2 : Int32 → Int64 → Prop} {cz az : Int} {ct : Int32} {en : Nat → Int32} {n : Nat} {Tr : Nat → Tm} (hn : ∀ r, (op r).toInt ≠ 6 → (op r).toInt ≠ 7 → a2 r = a r) (hc : ∀ (r : Nat) (w : Int64), (r : Int) < cz → (op r).toInt = 6 ∨ (op r).toInt = 7 → H (a r) w → H2 (a2 r) w) (h : cCl (zcs op a b pl ak an ab al af bu) nx H cz az ct en n Tr) : cCl (zcs op a2 b pl ak an ab al af bu) nx H2 cz az ct en n Tr := by
  obtain ⟨L, c1, c2, c3⟩ := h
  exact ⟨L, cCh_hh hn hc n c2 c1, c2, c3⟩
theorem zrs_sp {op b ff : Nat → Int32} {fz : Int32} {a la : Nat → Int32} {nu i : Int} (h : zrs op b ff fz a la nu i) : ∀ r, (op r).toInt ≠ 6 → (op r).toInt ≠ 7 → la r = a r := fun r h6 h7 => h.1 r (fun g => by
  have e : Int32.toNatClampNeg (op r) = (op r).toInt.toNat := rfl
  omega)

set_option maxHeartbeats 4000000 in
set_option maxRecDepth 100000 in
theorem c_X10_wordOf_s (l : Launch) (dC : Nat → ClassId) (dI : Nat → Nat → Nat) (aK aV : Nat → Nat) (h0 : Nat) (ts : Nat) (tp : Nat) (tw : Nat) (t1 : ClassId) (t2 : ClassId) (t3 : ClassId) (z : Int32) (pa : Int32) (so : Int32) (pl : Int32) (wd : Int64) (gs : Nat → Int32) (gp : Nat → Int32) (gw : Nat → Int64) (k : Int32) (sz : Nat) (hz0 : 0 ≤ z.toInt) (hz1 : z.toInt ≤ 2000) (hk0 : 0 ≤ k.toInt) (hk1 : k.toInt ≤ z.toInt) : Met l yX10_wordOf (Cond.code yX10_wordOf cX10_wordOf 2 (some .long) :: zw) ({ frames := 8, cells := 0, slots := 0, locals := 200 }) (va_Pc [.ref h0, .int k] (zP dC dI aK aV sz [(t1, .int), (t2, .int), (t3, .long)] [(h0, .inr (10, [.ref ts, .ref tp, .ref tw, .int z, .int pa, .int so, .int pl, .long wd])), (ts, .inl (t1, 2001, .inl gs)), (tp, .inl (t2, 2001, .inl gp)), (tw, .inl (t3, 2001, .inr (.inl gw)))])) (va_Ql (fun (r : Int64) (u : Unit) => (r = gw (Int32.toNatClampNeg k))) (fun u => zQ dC dI (va_A [(h0, .inr (10, [.ref ts, .ref tp, .ref tw, .int z, .int pa, .int so, .int pl, .long wd])), (ts, .inl (t1, 2001, .inl gs)), (tp, .inl (t2, 2001, .inl gp)), (tw, .inl (t3, 2001, .inr (.inl gw)))] sz) [(t1, .int), (t2, .int), (t3, .long)] [(h0, .inr (10, [.ref ts, .ref tp, .ref tw, .int z, .int pa, .int so, .int pl, .long wd])), (ts, .inl (t1, 2001, .inl gs)), (tp, .inl (t2, 2001, .inl gp)), (tw, .inl (t3, 2001, .inr (.inl gw)))]) (va_A [(h0, .inr (10, [.ref ts, .ref tp, .ref tw, .int z, .int pa, .int so, .int pl, .long wd])), (ts, .inl (t1, 2001, .inl gs)), (tp, .inl (t2, 2001, .inl gp)), (tw, .inl (t3, 2001, .inr (.inl gw)))] sz)) 0 0 (va_A [(h0, .inr (10, [.ref ts, .ref tp, .ref tw, .int z, .int pa, .int so, .int pl, .long wd])), (ts, .inl (t1, 2001, .inl gs)), (tp, .inl (t2, 2001, .inl gp)), (tw, .inl (t3, 2001, .inr (.inl gw)))] sz) := by
  refine Met.ofW (cc := cX10_wordOf) (maxL := 2) (ret := (some .long)) (by decide) rfl ?_
  intro p e s m args below meth c s₁ B hml hv
  obtain ⟨rfl, hsz, hP, hK, hD0, hN, hT⟩ := hv
  have hx := B.exec
  have hb := B.bytes
  have hr := B.returns
  have hts := atoms_spec (ws := Cond.code yX10_wordOf cX10_wordOf 2 (some .long) :: zw) B.pre
  have hA : ∀ w ∈ zw, w.before _ s = true := fun w h => hts w (List.mem_cons_of_mem _ h)
  have hown : s.vm.findClass RX10 = some m.cls := findClass_of_methodNamed B.named
  have hlocks := B.notSynchronized
  subst hsz
  have hD := hD0.self (sz := s.heap.size)
  generalize hAe : va_A [(h0, .inr (10, [.ref ts, .ref tp, .ref tw, .int z, .int pa, .int so, .int pl, .long wd])), (ts, .inl (t1, 2001, .inl gs)), (tp, .inl (t2, 2001, .inl gp)), (tw, .inl (t3, 2001, .inr (.inl gw)))] s.heap.size = A at hD hT ⊢
  have hAA : ∀ q : Nat, s.heap.size ≤ q → A q := fun q h => by rw [← hAe]; exact Or.inr h
  have hS : va_S A s.heap s.heap [] := va_S.rf
  have hl := lv_entry ([.ref h0, .int k]) (n := 2) (Nat.le_of_ble_eq_true rfl)
  rw [lg_entry_eq]
  generalize (lg_sl ([.ref h0, .int k]) ++ List.replicate (2 - (lg_sl ([.ref h0, .int k])).length) Slot.unset).toArray = ls at hl ⊢
  have hl : lv_has ls 2 [(0, .ref h0), (1, .int k)] := hl
  refine lv_iload_n hx hb dX10_wordOf_0 rfl (lv_at hl 1 rfl) ?_
  refine lv_if_lt (tgt := 21) hx hb dX10_wordOf_1 (by decide) (fun c_1 => ?_) (fun c_1 => ?_)
  · have ic_1 : k.toInt < 0 := zi_lt c_1
    exfalso
    omega
  · have ic_1 : 0 ≤ k.toInt := zi_nlt c_1
    refine lv_iload_n hx hb dX10_wordOf_4 rfl (lv_at hl 1 rfl) ?_
    refine lv_aload_n hx hb dX10_wordOf_5 rfl (lv_at hl 0 rfl) ?_
    refine va_get (D := (dC, dI)) (ci := 10) (v := .int z) (C := RX10) (T := TX10) (N := 8) hx hb hA zin_X10 hown hK hP 0 rfl rfl 3 (by decide) (hA _ wi_349) (fun _ h9 => h9) rfl dX10_wordOf_6 ?_
    refine lv_icmp_gt (tgt := 21) hx hb dX10_wordOf_9 (by decide) (fun c_2 => ?_) (fun c_2 => ?_)
    · have ic_2 : z.toInt < k.toInt := zi_lt c_2
      exfalso
      omega
    · have ic_2 : k.toInt ≤ z.toInt := zi_nlt c_2
      refine lv_aload_n hx hb dX10_wordOf_12 rfl (lv_at hl 0 rfl) ?_
      refine va_get (D := (dC, dI)) (ci := 10) (v := .ref tw) (C := RX10) (T := TX10) (N := 8) hx hb hA zin_X10 hown hK hP 0 rfl rfl 2 (by decide) (hA _ wi_348) (fun _ h9 => h9) rfl dX10_wordOf_13 ?_
      refine lv_iload_n hx hb dX10_wordOf_16 rfl (lv_at hl 1 rfl) ?_
      refine va_lald hx hb hK hP 3 2 rfl rfl (vp_in_iff.mpr ⟨by omega, by omega⟩) dX10_wordOf_17 ?_
      refine lv_topl (fun x_3 ex_3 => ?_)
      refine lv_goto (tgt := 22) hx hb dX10_wordOf_18 (by decide) ?_
      have hP9 := hP.sub (ws' := [(h0, .inr (10, [.ref ts, .ref tp, .ref tw, .int z, .int pa, .int so, .int pl, .long wd])), (ts, .inl (t1, 2001, .inl gs)), (tp, .inl (t2, 2001, .inl gp)), (tw, .inl (t3, 2001, .inr (.inl gw)))]) [0, 1, 2, 3] rfl
      have hD9 := hD.sub (ws' := [(h0, .inr (10, [.ref ts, .ref tp, .ref tw, .int z, .int pa, .int so, .int pl, .long wd])), (ts, .inl (t1, 2001, .inl gs)), (tp, .inl (t2, 2001, .inl gp)), (tw, .inl (t3, 2001, .inr (.inl gw)))]) [0, 1, 2, 3] (by decide) rfl
      have hK9 := hK.sub (tys' := [(t1, .int), (t2, .int), (t3, .long)]) [0, 1, 2] rfl
      exact W.lret (v := x_3) hx hb hr (fun t ht hW => ⟨⟨x_3, (), rfl, ex_3, by rw [ht]; exact hP9, va_K.moved hW.alike hK9, hD9⟩, hS.F ht⟩) hS.2.2 dX10_wordOf_22
set_option maxHeartbeats 4000000 in
set_option maxRecDepth 100000 in
theorem c_X7_isCall_x (l : Launch) (dC : Nat → ClassId) (dI : Nat → Nat → Nat) (aK aV : Nat → Nat) (h0 : Nat) (ptok : Nat) (pnee : Nat) (pnam : Nat) (pbui : Nat) (pdra : Nat) (ar : Int32) (fu : Int32) (fn : Int32) (fp : Int32) (gco : Nat) (gar : Nat) (gki : Nat) (gfu : Nat) (cop : Nat) (ca : Nat) (cb : Nat) (cplace : Nat) (cnext : Nat) (cneeded : Nat) (ckop : ClassId) (cka : ClassId) (ckb : ClassId) (ckplace : ClassId) (cknext : ClassId) (ckneeded : ClassId) (cz : Int32) (ct : Int32) (cgop : Nat → Int32) (cga : Nat → Int32) (cgb : Nat → Int32) (cgplace : Nat → Int32) (cgnext : Nat → Int32) (cgneeded : Nat → Int32) (row : Int32) (sz : Nat) (hc0 : 0 ≤ cz.toInt) (hc1 : cz.toInt ≤ 3000) (hc2 : -1 ≤ ct.toInt) (hc3 : ct.toInt < 3000) (hcn : zx 3000 cgnext) (hr0 : 0 ≤ row.toInt) (hr1 : row.toInt < 3000) : Met l yX7_isCall (Cond.code yX7_isCall cX7_isCall 2 (some .boolean) :: zw) ({ frames := 8, cells := 0, slots := 0, locals := 200 }) (va_Pc [.ref h0, .int row] (zP dC dI aK aV sz [(ckop, .int), (cka, .int), (ckb, .int), (ckplace, .int), (cknext, .int), (ckneeded, .int)] [(h0, .inr (7, [.ref ptok, .ref pnee, .ref pnam, .int ar, .ref pbui, .ref pdra, .int fu, .int fn, .int fp])), (pdra, .inr (9, [.ref gco, .ref gar, .ref gki, .ref gfu])), (gco, .inr (2, [.ref cop, .ref ca, .ref cb, .ref cplace, .ref cnext, .ref cneeded, .int cz, .int ct])), (cop, .inl (ckop, 3000, .inl cgop)), (ca, .inl (cka, 3000, .inl cga)), (cb, .inl (ckb, 3000, .inl cgb)), (cplace, .inl (ckplace, 3000, .inl cgplace)), (cnext, .inl (cknext, 3000, .inl cgnext)), (cneeded, .inl (ckneeded, 3000, .inl cgneeded))])) (va_Qi (fun (r : Int32) (u : Unit) => (r.toInt = 1 ∧ ((cgop (Int32.toNatClampNeg row)).toInt = 7 ∨ (cgop (Int32.toNatClampNeg row)).toInt = 6) ∨ r.toInt = 0 ∧ (cgop (Int32.toNatClampNeg row)).toInt ≠ 7 ∧ (cgop (Int32.toNatClampNeg row)).toInt ≠ 6)) (fun u => zQ dC dI (va_A [(h0, .inr (7, [.ref ptok, .ref pnee, .ref pnam, .int ar, .ref pbui, .ref pdra, .int fu, .int fn, .int fp])), (pdra, .inr (9, [.ref gco, .ref gar, .ref gki, .ref gfu])), (gco, .inr (2, [.ref cop, .ref ca, .ref cb, .ref cplace, .ref cnext, .ref cneeded, .int cz, .int ct])), (cop, .inl (ckop, 3000, .inl cgop)), (ca, .inl (cka, 3000, .inl cga)), (cb, .inl (ckb, 3000, .inl cgb)), (cplace, .inl (ckplace, 3000, .inl cgplace)), (cnext, .inl (cknext, 3000, .inl cgnext)), (cneeded, .inl (ckneeded, 3000, .inl cgneeded))] sz) [(ckop, .int), (cka, .int), (ckb, .int), (ckplace, .int), (cknext, .int), (ckneeded, .int)] [(h0, .inr (7, [.ref ptok, .ref pnee, .ref pnam, .int ar, .ref pbui, .ref pdra, .int fu, .int fn, .int fp])), (pdra, .inr (9, [.ref gco, .ref gar, .ref gki, .ref gfu])), (gco, .inr (2, [.ref cop, .ref ca, .ref cb, .ref cplace, .ref cnext, .ref cneeded, .int cz, .int ct])), (cop, .inl (ckop, 3000, .inl cgop)), (ca, .inl (cka, 3000, .inl cga)), (cb, .inl (ckb, 3000, .inl cgb)), (cplace, .inl (ckplace, 3000, .inl cgplace)), (cnext, .inl (cknext, 3000, .inl cgnext)), (cneeded, .inl (ckneeded, 3000, .inl cgneeded))]) (va_A [(h0, .inr (7, [.ref ptok, .ref pnee, .ref pnam, .int ar, .ref pbui, .ref pdra, .int fu, .int fn, .int fp])), (pdra, .inr (9, [.ref gco, .ref gar, .ref gki, .ref gfu])), (gco, .inr (2, [.ref cop, .ref ca, .ref cb, .ref cplace, .ref cnext, .ref cneeded, .int cz, .int ct])), (cop, .inl (ckop, 3000, .inl cgop)), (ca, .inl (cka, 3000, .inl cga)), (cb, .inl (ckb, 3000, .inl cgb)), (cplace, .inl (ckplace, 3000, .inl cgplace)), (cnext, .inl (cknext, 3000, .inl cgnext)), (cneeded, .inl (ckneeded, 3000, .inl cgneeded))] sz)) 0 0 (va_A [(h0, .inr (7, [.ref ptok, .ref pnee, .ref pnam, .int ar, .ref pbui, .ref pdra, .int fu, .int fn, .int fp])), (pdra, .inr (9, [.ref gco, .ref gar, .ref gki, .ref gfu])), (gco, .inr (2, [.ref cop, .ref ca, .ref cb, .ref cplace, .ref cnext, .ref cneeded, .int cz, .int ct])), (cop, .inl (ckop, 3000, .inl cgop)), (ca, .inl (cka, 3000, .inl cga)), (cb, .inl (ckb, 3000, .inl cgb)), (cplace, .inl (ckplace, 3000, .inl cgplace)), (cnext, .inl (cknext, 3000, .inl cgnext)), (cneeded, .inl (ckneeded, 3000, .inl cgneeded))] sz) := by
  refine Met.ofW (cc := cX7_isCall) (maxL := 2) (ret := (some .boolean)) (by decide) rfl ?_
  intro p e s m args below meth c s₁ B hml hv
  obtain ⟨rfl, hsz, hP, hK, hD0, hN, hT⟩ := hv
  have hx := B.exec
  have hb := B.bytes
  have hr := B.returns
  have hts := atoms_spec (ws := Cond.code yX7_isCall cX7_isCall 2 (some .boolean) :: zw) B.pre
  have hA : ∀ w ∈ zw, w.before _ s = true := fun w h => hts w (List.mem_cons_of_mem _ h)
  have hown : s.vm.findClass RX7 = some m.cls := findClass_of_methodNamed B.named
  have hlocks := B.notSynchronized
  subst hsz
  have hD := hD0.self (sz := s.heap.size)
  generalize hAe : va_A [(h0, .inr (7, [.ref ptok, .ref pnee, .ref pnam, .int ar, .ref pbui, .ref pdra, .int fu, .int fn, .int fp])), (pdra, .inr (9, [.ref gco, .ref gar, .ref gki, .ref gfu])), (gco, .inr (2, [.ref cop, .ref ca, .ref cb, .ref cplace, .ref cnext, .ref cneeded, .int cz, .int ct])), (cop, .inl (ckop, 3000, .inl cgop)), (ca, .inl (cka, 3000, .inl cga)), (cb, .inl (ckb, 3000, .inl cgb)), (cplace, .inl (ckplace, 3000, .inl cgplace)), (cnext, .inl (cknext, 3000, .inl cgnext)), (cneeded, .inl (ckneeded, 3000, .inl cgneeded))] s.heap.size = A at hD hT ⊢
  have hAA : ∀ q : Nat, s.heap.size ≤ q → A q := fun q h => by rw [← hAe]; exact Or.inr h
  have hS : va_S A s.heap s.heap [] := va_S.rf
  have hl := lv_entry ([.ref h0, .int row]) (n := 2) (Nat.le_of_ble_eq_true rfl)
  rw [lg_entry_eq]
  generalize (lg_sl ([.ref h0, .int row]) ++ List.replicate (2 - (lg_sl ([.ref h0, .int row])).length) Slot.unset).toArray = ls at hl ⊢
  have hl : lv_has ls 2 [(0, .ref h0), (1, .int row)] := hl
  refine lv_aload_n hx hb dX7_isCall_0 rfl (lv_at hl 0 rfl) ?_
  refine va_get (D := (dC, dI)) (ci := 7) (v := .ref pdra) (C := RX7) (T := TX7) (N := 9) hx hb hA zin_X7 hown hK hP 0 rfl rfl 5 (by decide) (hA _ wi_392) (fun _ h9 => h9) rfl dX7_isCall_1 ?_
  refine va_get (D := (dC, dI)) (ci := 9) (v := .ref gco) (C := RX9) (T := TX9) (N := 4) hx hb hA zin_X9 hown hK hP 1 rfl rfl 0 (by decide) (hA _ wi_311) (fun _ h9 => h9) rfl dX7_isCall_4 ?_
  refine va_get (D := (dC, dI)) (ci := 2) (v := .ref cop) (C := RX2) (T := TX2) (N := 8) hx hb hA zin_X2 hown hK hP 2 rfl rfl 0 (by decide) (hA _ wi_179) (fun _ h9 => h9) rfl dX7_isCall_7 ?_
  refine lv_iload_n hx hb dX7_isCall_10 rfl (lv_at hl 1 rfl) ?_
  refine va_iald hx hb hK hP 3 0 rfl rfl (vp_in_iff.mpr ⟨by omega, by omega⟩) dX7_isCall_11 ?_
  refine lv_topi (fun x_1 ex_1 => ?_)
  have ix_1 : x_1.toInt = (cgop (Int32.toNatClampNeg row)).toInt := by rw [ex_1]
  refine lv_bipush (v := 7) hx hb dX7_isCall_12 (by decide) ?_
  refine lv_icmp_eq (tgt := 34) hx hb dX7_isCall_14 (by decide) (fun c_2 => ?_) (fun c_2 => ?_)
  · have ic_2 : x_1.toInt = 7 := zi_eq c_2
    refine lv_iconst (v := 1) hx hb dX7_isCall_34 (by decide) ?_
    refine lv_goto (tgt := 39) hx hb dX7_isCall_35 (by decide) ?_
    have hlit : Int32.toInt 1 = 1 := by decide
    have hP9 := hP.sub (ws' := [(h0, .inr (7, [.ref ptok, .ref pnee, .ref pnam, .int ar, .ref pbui, .ref pdra, .int fu, .int fn, .int fp])), (pdra, .inr (9, [.ref gco, .ref gar, .ref gki, .ref gfu])), (gco, .inr (2, [.ref cop, .ref ca, .ref cb, .ref cplace, .ref cnext, .ref cneeded, .int cz, .int ct])), (cop, .inl (ckop, 3000, .inl cgop)), (ca, .inl (cka, 3000, .inl cga)), (cb, .inl (ckb, 3000, .inl cgb)), (cplace, .inl (ckplace, 3000, .inl cgplace)), (cnext, .inl (cknext, 3000, .inl cgnext)), (cneeded, .inl (ckneeded, 3000, .inl cgneeded))]) [0, 1, 2, 3, 4, 5, 6, 7, 8] rfl
    have hD9 := hD.sub (ws' := [(h0, .inr (7, [.ref ptok, .ref pnee, .ref pnam, .int ar, .ref pbui, .ref pdra, .int fu, .int fn, .int fp])), (pdra, .inr (9, [.ref gco, .ref gar, .ref gki, .ref gfu])), (gco, .inr (2, [.ref cop, .ref ca, .ref cb, .ref cplace, .ref cnext, .ref cneeded, .int cz, .int ct])), (cop, .inl (ckop, 3000, .inl cgop)), (ca, .inl (cka, 3000, .inl cga)), (cb, .inl (ckb, 3000, .inl cgb)), (cplace, .inl (ckplace, 3000, .inl cgplace)), (cnext, .inl (cknext, 3000, .inl cgnext)), (cneeded, .inl (ckneeded, 3000, .inl cgneeded))]) [0, 1, 2, 3, 4, 5, 6, 7, 8] (by decide) rfl
    have hK9 := hK.sub (tys' := [(ckop, .int), (cka, .int), (ckb, .int), (ckplace, .int), (cknext, .int), (ckneeded, .int)]) [0, 1, 2, 3, 4, 5] rfl
    exact W.zret (v := 1) hx hb hr rfl (fun t ht hW => ⟨⟨1, (), rfl, by omega, by rw [ht]; exact hP9, va_K.moved hW.alike hK9, hD9⟩, hS.F ht⟩) hS.2.2 dX7_isCall_39
  · have ic_2 : x_1.toInt ≠ 7 := zi_ne c_2
    refine lv_aload_n hx hb dX7_isCall_17 rfl (lv_at hl 0 rfl) ?_
    refine va_get (D := (dC, dI)) (ci := 7) (v := .ref pdra) (C := RX7) (T := TX7) (N := 9) hx hb hA zin_X7 hown hK hP 0 rfl rfl 5 (by decide) (hA _ wi_392) (fun _ h9 => h9) rfl dX7_isCall_18 ?_
    refine va_get (D := (dC, dI)) (ci := 9) (v := .ref gco) (C := RX9) (T := TX9) (N := 4) hx hb hA zin_X9 hown hK hP 1 rfl rfl 0 (by decide) (hA _ wi_311) (fun _ h9 => h9) rfl dX7_isCall_21 ?_
    refine va_get (D := (dC, dI)) (ci := 2) (v := .ref cop) (C := RX2) (T := TX2) (N := 8) hx hb hA zin_X2 hown hK hP 2 rfl rfl 0 (by decide) (hA _ wi_179) (fun _ h9 => h9) rfl dX7_isCall_24 ?_
    refine lv_iload_n hx hb dX7_isCall_27 rfl (lv_at hl 1 rfl) ?_
    refine va_iald hx hb hK hP 3 0 rfl rfl (vp_in_iff.mpr ⟨by omega, by omega⟩) dX7_isCall_28 ?_
    refine lv_topi (fun x_3 ex_3 => ?_)
    have jx_3 : x_3.toInt = x_1.toInt := by rw [ex_3, ex_1]
    have ix_3 : x_3.toInt = (cgop (Int32.toNatClampNeg row)).toInt := by rw [ex_3]
    refine lv_bipush (v := 6) hx hb dX7_isCall_29 (by decide) ?_
    refine lv_icmp_ne (tgt := 38) hx hb dX7_isCall_31 (by decide) (fun c_4 => ?_) (fun c_4 => ?_)
    · have ic_4 : x_3.toInt ≠ 6 := zi_ne c_4
      refine lv_iconst (v := 0) hx hb dX7_isCall_38 (by decide) ?_
      have hlit : Int32.toInt 0 = 0 := by decide
      have hP9 := hP.sub (ws' := [(h0, .inr (7, [.ref ptok, .ref pnee, .ref pnam, .int ar, .ref pbui, .ref pdra, .int fu, .int fn, .int fp])), (pdra, .inr (9, [.ref gco, .ref gar, .ref gki, .ref gfu])), (gco, .inr (2, [.ref cop, .ref ca, .ref cb, .ref cplace, .ref cnext, .ref cneeded, .int cz, .int ct])), (cop, .inl (ckop, 3000, .inl cgop)), (ca, .inl (cka, 3000, .inl cga)), (cb, .inl (ckb, 3000, .inl cgb)), (cplace, .inl (ckplace, 3000, .inl cgplace)), (cnext, .inl (cknext, 3000, .inl cgnext)), (cneeded, .inl (ckneeded, 3000, .inl cgneeded))]) [0, 1, 2, 3, 4, 5, 6, 7, 8] rfl
      have hD9 := hD.sub (ws' := [(h0, .inr (7, [.ref ptok, .ref pnee, .ref pnam, .int ar, .ref pbui, .ref pdra, .int fu, .int fn, .int fp])), (pdra, .inr (9, [.ref gco, .ref gar, .ref gki, .ref gfu])), (gco, .inr (2, [.ref cop, .ref ca, .ref cb, .ref cplace, .ref cnext, .ref cneeded, .int cz, .int ct])), (cop, .inl (ckop, 3000, .inl cgop)), (ca, .inl (cka, 3000, .inl cga)), (cb, .inl (ckb, 3000, .inl cgb)), (cplace, .inl (ckplace, 3000, .inl cgplace)), (cnext, .inl (cknext, 3000, .inl cgnext)), (cneeded, .inl (ckneeded, 3000, .inl cgneeded))]) [0, 1, 2, 3, 4, 5, 6, 7, 8] (by decide) rfl
      have hK9 := hK.sub (tys' := [(ckop, .int), (cka, .int), (ckb, .int), (ckplace, .int), (cknext, .int), (ckneeded, .int)]) [0, 1, 2, 3, 4, 5] rfl
      exact W.zret (v := 0) hx hb hr rfl (fun t ht hW => ⟨⟨0, (), rfl, by omega, by rw [ht]; exact hP9, va_K.moved hW.alike hK9, hD9⟩, hS.F ht⟩) hS.2.2 dX7_isCall_39
    · have ic_4 : x_3.toInt = 6 := zi_eq c_4
      refine lv_iconst (v := 1) hx hb dX7_isCall_34 (by decide) ?_
      refine lv_goto (tgt := 39) hx hb dX7_isCall_35 (by decide) ?_
      have hlit : Int32.toInt 1 = 1 := by decide
      have hP9 := hP.sub (ws' := [(h0, .inr (7, [.ref ptok, .ref pnee, .ref pnam, .int ar, .ref pbui, .ref pdra, .int fu, .int fn, .int fp])), (pdra, .inr (9, [.ref gco, .ref gar, .ref gki, .ref gfu])), (gco, .inr (2, [.ref cop, .ref ca, .ref cb, .ref cplace, .ref cnext, .ref cneeded, .int cz, .int ct])), (cop, .inl (ckop, 3000, .inl cgop)), (ca, .inl (cka, 3000, .inl cga)), (cb, .inl (ckb, 3000, .inl cgb)), (cplace, .inl (ckplace, 3000, .inl cgplace)), (cnext, .inl (cknext, 3000, .inl cgnext)), (cneeded, .inl (ckneeded, 3000, .inl cgneeded))]) [0, 1, 2, 3, 4, 5, 6, 7, 8] rfl
      have hD9 := hD.sub (ws' := [(h0, .inr (7, [.ref ptok, .ref pnee, .ref pnam, .int ar, .ref pbui, .ref pdra, .int fu, .int fn, .int fp])), (pdra, .inr (9, [.ref gco, .ref gar, .ref gki, .ref gfu])), (gco, .inr (2, [.ref cop, .ref ca, .ref cb, .ref cplace, .ref cnext, .ref cneeded, .int cz, .int ct])), (cop, .inl (ckop, 3000, .inl cgop)), (ca, .inl (cka, 3000, .inl cga)), (cb, .inl (ckb, 3000, .inl cgb)), (cplace, .inl (ckplace, 3000, .inl cgplace)), (cnext, .inl (cknext, 3000, .inl cgnext)), (cneeded, .inl (ckneeded, 3000, .inl cgneeded))]) [0, 1, 2, 3, 4, 5, 6, 7, 8] (by decide) rfl
      have hK9 := hK.sub (tys' := [(ckop, .int), (cka, .int), (ckb, .int), (ckplace, .int), (cknext, .int), (ckneeded, .int)]) [0, 1, 2, 3, 4, 5] rfl
      exact W.zret (v := 1) hx hb hr rfl (fun t ht hW => ⟨⟨1, (), rfl, by omega, by rw [ht]; exact hP9, va_K.moved hW.alike hK9, hD9⟩, hS.F ht⟩) hS.2.2 dX7_isCall_39
set_option maxHeartbeats 4000000 in
set_option maxRecDepth 100000 in
theorem c_X7_resolveCall_x (l : Launch) (dC : Nat → ClassId) (dI : Nat → Nat → Nat) (aK aV : Nat → Nat) (h0 : Nat) (ptok : Nat) (pnee : Nat) (pnam : Nat) (pbui : Nat) (pdra : Nat) (ar : Int32) (fu : Int32) (fn : Int32) (fp : Int32) (gco : Nat) (gar : Nat) (gki : Nat) (gfu : Nat) (ts : Nat) (tp : Nat) (tw : Nat) (t1 : ClassId) (t2 : ClassId) (t3 : ClassId) (z : Int32) (pa : Int32) (so : Int32) (pl : Int32) (wd : Int64) (gs : Nat → Int32) (gp : Nat → Int32) (gw : Nat → Int64) (fw : Nat) (fe : Nat) (ff : Nat) (f1 : ClassId) (f2 : ClassId) (f3 : ClassId) (fz : Int32) (fgw : Nat → Int64) (fge : Nat → Int32) (fgf : Nat → Int32) (cop : Nat) (ca : Nat) (cb : Nat) (cplace : Nat) (cnext : Nat) (cneeded : Nat) (ckop : ClassId) (cka : ClassId) (ckb : ClassId) (ckplace : ClassId) (cknext : ClassId) (ckneeded : ClassId) (cz : Int32) (ct : Int32) (cgop : Nat → Int32) (cga : Nat → Int32) (cgb : Nat → Int32) (cgplace : Nat → Int32) (cgnext : Nat → Int32) (cgneeded : Nat → Int32) (row : Int32) (sz : Nat) (hz0 : 0 ≤ z.toInt) (hz1 : z.toInt ≤ 2000) (ha0 : -1 ≤ pa.toInt) (ha1 : pa.toInt ≤ z.toInt) (hgz : gs (Int32.toNatClampNeg z) = 256) (hf0 : 0 ≤ fz.toInt) (hf1 : fz.toInt ≤ 30) (hfe : zx 3000 fge) (hc0 : 0 ≤ cz.toInt) (hc1 : cz.toInt ≤ 3000) (hc2 : -1 ≤ ct.toInt) (hc3 : ct.toInt < 3000) (hcn : zx 3000 cgnext) (hr0 : 0 ≤ row.toInt) (hr1 : row.toInt < 3000) (hto : 0 ≤ (cga (Int32.toNatClampNeg row)).toInt ∧ (cga (Int32.toNatClampNeg row)).toInt ≤ z.toInt) : Met l yX7_resolveCall (Cond.code yX7_resolveCall cX7_resolveCall 3 (some .int) :: zw) ({ frames := 12, cells := 0, slots := 0, locals := 400 }) (va_Pc [.ref h0, .int row] (zP dC dI aK aV sz [(t1, .int), (t2, .int), (t3, .long), (f1, .long), (f2, .int), (f3, .int), (ckop, .int), (cka, .int), (ckb, .int), (ckplace, .int), (cknext, .int), (ckneeded, .int)] [(h0, .inr (7, [.ref ptok, .ref pnee, .ref pnam, .int ar, .ref pbui, .ref pdra, .int fu, .int fn, .int fp])), (pdra, .inr (9, [.ref gco, .ref gar, .ref gki, .ref gfu])), (ptok, .inr (10, [.ref ts, .ref tp, .ref tw, .int z, .int pa, .int so, .int pl, .long wd])), (ts, .inl (t1, 2001, .inl gs)), (tp, .inl (t2, 2001, .inl gp)), (tw, .inl (t3, 2001, .inr (.inl gw))), (gfu, .inr (3, [.ref fw, .ref fe, .ref ff, .int fz])), (fw, .inl (f1, 30, .inr (.inl fgw))), (fe, .inl (f2, 30, .inl fge)), (ff, .inl (f3, 150, .inl fgf)), (gco, .inr (2, [.ref cop, .ref ca, .ref cb, .ref cplace, .ref cnext, .ref cneeded, .int cz, .int ct])), (cop, .inl (ckop, 3000, .inl cgop)), (ca, .inl (cka, 3000, .inl cga)), (cb, .inl (ckb, 3000, .inl cgb)), (cplace, .inl (ckplace, 3000, .inl cgplace)), (cnext, .inl (cknext, 3000, .inl cgnext)), (cneeded, .inl (ckneeded, 3000, .inl cgneeded))])) (va_Qi (fun (r : Int32) (u : (Nat → Int32)) => match u with | na => (∃ v : Int32, na = upd cga (Int32.toNatClampNeg row) v ∧ (r.toInt = 0 → 0 ≤ v.toInt ∧ v.toInt < fz.toInt ∧ fgf (5 * Int32.toNatClampNeg v) = cgb (Int32.toNatClampNeg row)) ∧ sp_fd fgw (gw (Int32.toNatClampNeg (cga (Int32.toNatClampNeg row)))) fz v) ∧ (sp_or r (sp_oc fgw fgf fz (gw (Int32.toNatClampNeg (cga (Int32.toNatClampNeg row)))) (Int32.toInt (cgb (Int32.toNatClampNeg row)))))) (fun u => match u with | na => zQ dC dI (va_A [(h0, .inr (7, [.ref ptok, .ref pnee, .ref pnam, .int ar, .ref pbui, .ref pdra, .int fu, .int fn, .int fp])), (pdra, .inr (9, [.ref gco, .ref gar, .ref gki, .ref gfu])), (ptok, .inr (10, [.ref ts, .ref tp, .ref tw, .int z, .int pa, .int so, .int pl, .long wd])), (ts, .inl (t1, 2001, .inl gs)), (tp, .inl (t2, 2001, .inl gp)), (tw, .inl (t3, 2001, .inr (.inl gw))), (gfu, .inr (3, [.ref fw, .ref fe, .ref ff, .int fz])), (fw, .inl (f1, 30, .inr (.inl fgw))), (fe, .inl (f2, 30, .inl fge)), (ff, .inl (f3, 150, .inl fgf)), (gco, .inr (2, [.ref cop, .ref ca, .ref cb, .ref cplace, .ref cnext, .ref cneeded, .int cz, .int ct])), (cop, .inl (ckop, 3000, .inl cgop)), (ca, .inl (cka, 3000, .inl cga)), (cb, .inl (ckb, 3000, .inl cgb)), (cplace, .inl (ckplace, 3000, .inl cgplace)), (cnext, .inl (cknext, 3000, .inl cgnext)), (cneeded, .inl (ckneeded, 3000, .inl cgneeded))] sz) [(t1, .int), (t2, .int), (t3, .long), (f1, .long), (f2, .int), (f3, .int), (ckop, .int), (cka, .int), (ckb, .int), (ckplace, .int), (cknext, .int), (ckneeded, .int)] [(h0, .inr (7, [.ref ptok, .ref pnee, .ref pnam, .int ar, .ref pbui, .ref pdra, .int fu, .int fn, .int fp])), (pdra, .inr (9, [.ref gco, .ref gar, .ref gki, .ref gfu])), (ptok, .inr (10, [.ref ts, .ref tp, .ref tw, .int z, .int pa, .int so, .int pl, .long wd])), (ts, .inl (t1, 2001, .inl gs)), (tp, .inl (t2, 2001, .inl gp)), (tw, .inl (t3, 2001, .inr (.inl gw))), (gfu, .inr (3, [.ref fw, .ref fe, .ref ff, .int fz])), (fw, .inl (f1, 30, .inr (.inl fgw))), (fe, .inl (f2, 30, .inl fge)), (ff, .inl (f3, 150, .inl fgf)), (gco, .inr (2, [.ref cop, .ref ca, .ref cb, .ref cplace, .ref cnext, .ref cneeded, .int cz, .int ct])), (cop, .inl (ckop, 3000, .inl cgop)), (ca, .inl (cka, 3000, .inl na)), (cb, .inl (ckb, 3000, .inl cgb)), (cplace, .inl (ckplace, 3000, .inl cgplace)), (cnext, .inl (cknext, 3000, .inl cgnext)), (cneeded, .inl (ckneeded, 3000, .inl cgneeded))]) (va_A [(h0, .inr (7, [.ref ptok, .ref pnee, .ref pnam, .int ar, .ref pbui, .ref pdra, .int fu, .int fn, .int fp])), (pdra, .inr (9, [.ref gco, .ref gar, .ref gki, .ref gfu])), (ptok, .inr (10, [.ref ts, .ref tp, .ref tw, .int z, .int pa, .int so, .int pl, .long wd])), (ts, .inl (t1, 2001, .inl gs)), (tp, .inl (t2, 2001, .inl gp)), (tw, .inl (t3, 2001, .inr (.inl gw))), (gfu, .inr (3, [.ref fw, .ref fe, .ref ff, .int fz])), (fw, .inl (f1, 30, .inr (.inl fgw))), (fe, .inl (f2, 30, .inl fge)), (ff, .inl (f3, 150, .inl fgf)), (gco, .inr (2, [.ref cop, .ref ca, .ref cb, .ref cplace, .ref cnext, .ref cneeded, .int cz, .int ct])), (cop, .inl (ckop, 3000, .inl cgop)), (ca, .inl (cka, 3000, .inl cga)), (cb, .inl (ckb, 3000, .inl cgb)), (cplace, .inl (ckplace, 3000, .inl cgplace)), (cnext, .inl (cknext, 3000, .inl cgnext)), (cneeded, .inl (ckneeded, 3000, .inl cgneeded))] sz)) 0 0 (va_A [(h0, .inr (7, [.ref ptok, .ref pnee, .ref pnam, .int ar, .ref pbui, .ref pdra, .int fu, .int fn, .int fp])), (pdra, .inr (9, [.ref gco, .ref gar, .ref gki, .ref gfu])), (ptok, .inr (10, [.ref ts, .ref tp, .ref tw, .int z, .int pa, .int so, .int pl, .long wd])), (ts, .inl (t1, 2001, .inl gs)), (tp, .inl (t2, 2001, .inl gp)), (tw, .inl (t3, 2001, .inr (.inl gw))), (gfu, .inr (3, [.ref fw, .ref fe, .ref ff, .int fz])), (fw, .inl (f1, 30, .inr (.inl fgw))), (fe, .inl (f2, 30, .inl fge)), (ff, .inl (f3, 150, .inl fgf)), (gco, .inr (2, [.ref cop, .ref ca, .ref cb, .ref cplace, .ref cnext, .ref cneeded, .int cz, .int ct])), (cop, .inl (ckop, 3000, .inl cgop)), (ca, .inl (cka, 3000, .inl cga)), (cb, .inl (ckb, 3000, .inl cgb)), (cplace, .inl (ckplace, 3000, .inl cgplace)), (cnext, .inl (cknext, 3000, .inl cgnext)), (cneeded, .inl (ckneeded, 3000, .inl cgneeded))] sz) := by
  refine Met.ofW (cc := cX7_resolveCall) (maxL := 3) (ret := (some .int)) (by decide) rfl ?_
  intro p e s m args below meth c s₁ B hml hv
  obtain ⟨rfl, hsz, hP, hK, hD0, hN, hT⟩ := hv
  have hx := B.exec
  have hb := B.bytes
  have hr := B.returns
  have hts := atoms_spec (ws := Cond.code yX7_resolveCall cX7_resolveCall 3 (some .int) :: zw) B.pre
  have hA : ∀ w ∈ zw, w.before _ s = true := fun w h => hts w (List.mem_cons_of_mem _ h)
  have hown : s.vm.findClass RX7 = some m.cls := findClass_of_methodNamed B.named
  have hlocks := B.notSynchronized
  subst hsz
  have hD := hD0.self (sz := s.heap.size)
  generalize hAe : va_A [(h0, .inr (7, [.ref ptok, .ref pnee, .ref pnam, .int ar, .ref pbui, .ref pdra, .int fu, .int fn, .int fp])), (pdra, .inr (9, [.ref gco, .ref gar, .ref gki, .ref gfu])), (ptok, .inr (10, [.ref ts, .ref tp, .ref tw, .int z, .int pa, .int so, .int pl, .long wd])), (ts, .inl (t1, 2001, .inl gs)), (tp, .inl (t2, 2001, .inl gp)), (tw, .inl (t3, 2001, .inr (.inl gw))), (gfu, .inr (3, [.ref fw, .ref fe, .ref ff, .int fz])), (fw, .inl (f1, 30, .inr (.inl fgw))), (fe, .inl (f2, 30, .inl fge)), (ff, .inl (f3, 150, .inl fgf)), (gco, .inr (2, [.ref cop, .ref ca, .ref cb, .ref cplace, .ref cnext, .ref cneeded, .int cz, .int ct])), (cop, .inl (ckop, 3000, .inl cgop)), (ca, .inl (cka, 3000, .inl cga)), (cb, .inl (ckb, 3000, .inl cgb)), (cplace, .inl (ckplace, 3000, .inl cgplace)), (cnext, .inl (cknext, 3000, .inl cgnext)), (cneeded, .inl (ckneeded, 3000, .inl cgneeded))] s.heap.size = A at hD hT ⊢
  have hAA : ∀ q : Nat, s.heap.size ≤ q → A q := fun q h => by rw [← hAe]; exact Or.inr h
  have hS : va_S A s.heap s.heap [] := va_S.rf
  have hl := lv_entry ([.ref h0, .int row]) (n := 3) (Nat.le_of_ble_eq_true rfl)
  rw [lg_entry_eq]
  generalize (lg_sl ([.ref h0, .int row]) ++ List.replicate (3 - (lg_sl ([.ref h0, .int row])).length) Slot.unset).toArray = ls at hl ⊢
  have hl : lv_has ls 3 [(0, .ref h0), (1, .int row)] := hl
  refine lv_aload_n hx hb dX7_resolveCall_0 rfl (lv_at hl 0 rfl) ?_
  refine va_get (D := (dC, dI)) (ci := 7) (v := .ref pdra) (C := RX7) (T := TX7) (N := 9) hx hb hA zin_X7 hown hK hP 0 rfl rfl 5 (by decide) (hA _ wi_392) (fun _ h9 => h9) rfl dX7_resolveCall_1 ?_
  refine va_get (D := (dC, dI)) (ci := 9) (v := .ref gfu) (C := RX9) (T := TX9) (N := 4) hx hb hA zin_X9 hown hK hP 1 rfl rfl 3 (by decide) (hA _ wi_323) (fun _ h9 => h9) rfl dX7_resolveCall_4 ?_
  refine lv_aload_n hx hb dX7_resolveCall_7 rfl (lv_at hl 0 rfl) ?_
  refine va_get (D := (dC, dI)) (ci := 7) (v := .ref ptok) (C := RX7) (T := TX7) (N := 9) hx hb hA zin_X7 hown hK hP 0 rfl rfl 0 (by decide) (hA _ wi_387) (fun _ h9 => h9) rfl dX7_resolveCall_8 ?_
  refine lv_aload_n hx hb dX7_resolveCall_11 rfl (lv_at hl 0 rfl) ?_
  refine va_get (D := (dC, dI)) (ci := 7) (v := .ref pdra) (C := RX7) (T := TX7) (N := 9) hx hb hA zin_X7 hown hK hP 0 rfl rfl 5 (by decide) (hA _ wi_392) (fun _ h9 => h9) rfl dX7_resolveCall_12 ?_
  refine va_get (D := (dC, dI)) (ci := 9) (v := .ref gco) (C := RX9) (T := TX9) (N := 4) hx hb hA zin_X9 hown hK hP 1 rfl rfl 0 (by decide) (hA _ wi_311) (fun _ h9 => h9) rfl dX7_resolveCall_15 ?_
  refine va_get (D := (dC, dI)) (ci := 2) (v := .ref ca) (C := RX2) (T := TX2) (N := 8) hx hb hA zin_X2 hown hK hP 10 rfl rfl 1 (by decide) (hA _ wi_183) (fun _ h9 => h9) rfl dX7_resolveCall_18 ?_
  refine lv_iload_n hx hb dX7_resolveCall_21 rfl (lv_at hl 1 rfl) ?_
  refine va_iald hx hb hK hP 12 7 rfl rfl (vp_in_iff.mpr ⟨by omega, by omega⟩) dX7_resolveCall_22 ?_
  refine lv_topi (fun x_1 ex_1 => ?_)
  have ix_1 : 0 ≤ x_1.toInt ∧ x_1.toInt ≤ z.toInt := by rw [ex_1]; exact hto
  have hPc := hP.sub (ws' := [(ptok, .inr (10, [.ref ts, .ref tp, .ref tw, .int z, .int pa, .int so, .int pl, .long wd])), (ts, .inl (t1, 2001, .inl gs)), (tp, .inl (t2, 2001, .inl gp)), (tw, .inl (t3, 2001, .inr (.inl gw)))]) [2, 3, 4, 5] rfl
  have hDc := hD.sub (ws' := [(ptok, .inr (10, [.ref ts, .ref tp, .ref tw, .int z, .int pa, .int so, .int pl, .long wd])), (ts, .inl (t1, 2001, .inl gs)), (tp, .inl (t2, 2001, .inl gp)), (tw, .inl (t3, 2001, .inr (.inl gw)))]) [2, 3, 4, 5] (by decide) rfl
  have hKc := hK.sub (tys' := [(t1, .int), (t2, .int), (t3, .long)]) [0, 1, 2] rfl
  have hFc := va_free (wc := [(ptok, .inr (10, [.ref ts, .ref tp, .ref tw, .int z, .int pa, .int so, .int pl, .long wd])), (ts, .inl (t1, 2001, .inl gs)), (tp, .inl (t2, 2001, .inl gp)), (tw, .inl (t3, 2001, .inr (.inl gw)))]) hD hS hAA [2, 3, 4, 5] rfl
  refine va_calll (va_runV (As := [.int x_1]) (rest := [.ref gfu]) ⟨hx, hb, hml, hown, hA⟩ (c_X10_wordOf_s l dC dI aK aV ptok ts tp tw t1 t2 t3 z pa so pl wd gs gp gw x_1 s.heap.size (by omega) (by omega) (by omega) (by omega)) (cwV 1 hA (zw_V wi_1031 wi_1032 wi_1033 wi_137 (zw_good wi_1034)) rfl rfl rfl (by decide +kernel) ⟨(Nat.le_of_ble_eq_true rfl), (Nat.le_of_ble_eq_true rfl)⟩) ⟨zP_blind, va_recv hKc hPc (ci := 10) (q0 := 0) rfl rfl, zz_pre hKc hPc hDc hN hT hS hFc⟩ rfl rfl hl.1 rfl (lv_room (Nat.le_of_ble_eq_true rfl)) dX7_resolveCall_23 ⟨(Nat.le_of_ble_eq_true rfl), (Nat.le_of_ble_eq_true rfl)⟩) hS (fun q _ h => hFc q h) hFc (fun r_2 u t H1 locs ht hvm hw hB hz1 hk1 hS => ?_)
  obtain ⟨hP1, hK1, hD1⟩ := hB
  rw [ht] at hP1
  have hK1 := va_K.moved hvm.symm hK1
  obtain ⟨hP, hD⟩ := va_join (wr := [(h0, .inr (7, [.ref ptok, .ref pnee, .ref pnam, .int ar, .ref pbui, .ref pdra, .int fu, .int fn, .int fp])), (pdra, .inr (9, [.ref gco, .ref gar, .ref gki, .ref gfu])), (gfu, .inr (3, [.ref fw, .ref fe, .ref ff, .int fz])), (fw, .inl (f1, 30, .inr (.inl fgw))), (fe, .inl (f2, 30, .inl fge)), (ff, .inl (f3, 150, .inl fgf)), (gco, .inr (2, [.ref cop, .ref ca, .ref cb, .ref cplace, .ref cnext, .ref cneeded, .int cz, .int ct])), (cop, .inl (ckop, 3000, .inl cgop)), (ca, .inl (cka, 3000, .inl cga)), (cb, .inl (ckb, 3000, .inl cgb)), (cplace, .inl (ckplace, 3000, .inl cgplace)), (cnext, .inl (cknext, 3000, .inl cgnext)), (cneeded, .inl (ckneeded, 3000, .inl cgneeded))]) (w1 := [(ptok, .inr (10, [.ref ts, .ref tp, .ref tw, .int z, .int pa, .int so, .int pl, .long wd])), (ts, .inl (t1, 2001, .inl gs)), (tp, .inl (t2, 2001, .inl gp)), (tw, .inl (t3, 2001, .inr (.inl gw)))]) hP hD [2, 3, 4, 5] [0, 1, 6, 7, 8, 9, 10, 11, 12, 13, 14, 15, 16] rfl rfl (by decide) (by decide) hk1 hFc hP1 hD1
  have hK := (hK.sub (tys' := [(f1, .long), (f2, .int), (f3, .int), (ckop, .int), (cka, .int), (ckb, .int), (ckplace, .int), (cknext, .int), (ckneeded, .int)]) [3, 4, 5, 6, 7, 8, 9, 10, 11] rfl).app hK1
  generalize H1 = H at hP hS ⊢
  have hP : va_P (dC, dI) vwCl [(h0, .inr (7, [.ref ptok, .ref pnee, .ref pnam, .int ar, .ref pbui, .ref pdra, .int fu, .int fn, .int fp])), (pdra, .inr (9, [.ref gco, .ref gar, .ref gki, .ref gfu])), (gfu, .inr (3, [.ref fw, .ref fe, .ref ff, .int fz])), (fw, .inl (f1, 30, .inr (.inl fgw))), (fe, .inl (f2, 30, .inl fge)), (ff, .inl (f3, 150, .inl fgf)), (gco, .inr (2, [.ref cop, .ref ca, .ref cb, .ref cplace, .ref cnext, .ref cneeded, .int cz, .int ct])), (cop, .inl (ckop, 3000, .inl cgop)), (ca, .inl (cka, 3000, .inl cga)), (cb, .inl (ckb, 3000, .inl cgb)), (cplace, .inl (ckplace, 3000, .inl cgplace)), (cnext, .inl (cknext, 3000, .inl cgnext)), (cneeded, .inl (ckneeded, 3000, .inl cgneeded)), (ptok, .inr (10, [.ref ts, .ref tp, .ref tw, .int z, .int pa, .int so, .int pl, .long wd])), (ts, .inl (t1, 2001, .inl gs)), (tp, .inl (t2, 2001, .inl gp)), (tw, .inl (t3, 2001, .inr (.inl gw)))] H := hP
  have hD : va_D A [(h0, .inr (7, [.ref ptok, .ref pnee, .ref pnam, .int ar, .ref pbui, .ref pdra, .int fu, .int fn, .int fp])), (pdra, .inr (9, [.ref gco, .ref gar, .ref gki, .ref gfu])), (gfu, .inr (3, [.ref fw, .ref fe, .ref ff, .int fz])), (fw, .inl (f1, 30, .inr (.inl fgw))), (fe, .inl (f2, 30, .inl fge)), (ff, .inl (f3, 150, .inl fgf)), (gco, .inr (2, [.ref cop, .ref ca, .ref cb, .ref cplace, .ref cnext, .ref cneeded, .int cz, .int ct])), (cop, .inl (ckop, 3000, .inl cgop)), (ca, .inl (cka, 3000, .inl cga)), (cb, .inl (ckb, 3000, .inl cgb)), (cplace, .inl (ckplace, 3000, .inl cgplace)), (cnext, .inl (cknext, 3000, .inl cgnext)), (cneeded, .inl (ckneeded, 3000, .inl cgneeded)), (ptok, .inr (10, [.ref ts, .ref tp, .ref tw, .int z, .int pa, .int so, .int pl, .long wd])), (ts, .inl (t1, 2001, .inl gs)), (tp, .inl (t2, 2001, .inl gp)), (tw, .inl (t3, 2001, .inr (.inl gw)))] := hD
  have hK : va_K (dC, dI) vwCl [(f1, .long), (f2, .int), (f3, .int), (ckop, .int), (cka, .int), (ckb, .int), (ckplace, .int), (cknext, .int), (ckneeded, .int), (t1, .int), (t2, .int), (t3, .long)] s := hK
  have hq_3 := hw
  have hPc := hP.sub (ws' := [(gfu, .inr (3, [.ref fw, .ref fe, .ref ff, .int fz])), (fw, .inl (f1, 30, .inr (.inl fgw))), (fe, .inl (f2, 30, .inl fge)), (ff, .inl (f3, 150, .inl fgf))]) [2, 3, 4, 5] rfl
  have hDc := hD.sub (ws' := [(gfu, .inr (3, [.ref fw, .ref fe, .ref ff, .int fz])), (fw, .inl (f1, 30, .inr (.inl fgw))), (fe, .inl (f2, 30, .inl fge)), (ff, .inl (f3, 150, .inl fgf))]) [2, 3, 4, 5] (by decide) rfl
  have hKc := hK.sub (tys' := [(f1, .long), (f2, .int), (f3, .int)]) [0, 1, 2] rfl
  have hFc := va_free (wc := [(gfu, .inr (3, [.ref fw, .ref fe, .ref ff, .int fz])), (fw, .inl (f1, 30, .inr (.inl fgw))), (fe, .inl (f2, 30, .inl fge)), (ff, .inl (f3, 150, .inl fgf))]) hD hS hAA [2, 3, 4, 5] rfl
  refine va_calli (va_runV (As := [.long r_2]) (rest := []) ⟨hx, hb, hml, hown, hA⟩ (c_X3_find_s l dC dI aK aV gfu fw fe ff f1 f2 f3 fz fgw fge fgf r_2 H.size (by omega) (by omega)) (cwV 1 hA (zw_V wi_882 wi_883 wi_884 wi_135 (zw_good wi_885)) rfl rfl rfl (by decide +kernel) ⟨(Nat.le_of_ble_eq_true rfl), (Nat.le_of_ble_eq_true rfl)⟩) ⟨zP_blind, va_recv hKc hPc (ci := 3) (q0 := 0) rfl rfl, zz_pre hKc hPc hDc hN hT hS hFc⟩ rfl rfl hl.1 rfl (lv_room (Nat.le_of_ble_eq_true rfl)) dX7_resolveCall_26 ⟨(Nat.le_of_ble_eq_true rfl), (Nat.le_of_ble_eq_true rfl)⟩) hS (fun q _ h => hFc q h) hFc (fun r_4 u t H1 locs ht hvm hw hB hz1 hk1 hS => ?_)
  obtain ⟨hP1, hK1, hD1⟩ := hB
  rw [ht] at hP1
  have hK1 := va_K.moved hvm.symm hK1
  obtain ⟨hP, hD⟩ := va_join (wr := [(h0, .inr (7, [.ref ptok, .ref pnee, .ref pnam, .int ar, .ref pbui, .ref pdra, .int fu, .int fn, .int fp])), (pdra, .inr (9, [.ref gco, .ref gar, .ref gki, .ref gfu])), (gco, .inr (2, [.ref cop, .ref ca, .ref cb, .ref cplace, .ref cnext, .ref cneeded, .int cz, .int ct])), (cop, .inl (ckop, 3000, .inl cgop)), (ca, .inl (cka, 3000, .inl cga)), (cb, .inl (ckb, 3000, .inl cgb)), (cplace, .inl (ckplace, 3000, .inl cgplace)), (cnext, .inl (cknext, 3000, .inl cgnext)), (cneeded, .inl (ckneeded, 3000, .inl cgneeded)), (ptok, .inr (10, [.ref ts, .ref tp, .ref tw, .int z, .int pa, .int so, .int pl, .long wd])), (ts, .inl (t1, 2001, .inl gs)), (tp, .inl (t2, 2001, .inl gp)), (tw, .inl (t3, 2001, .inr (.inl gw)))]) (w1 := [(gfu, .inr (3, [.ref fw, .ref fe, .ref ff, .int fz])), (fw, .inl (f1, 30, .inr (.inl fgw))), (fe, .inl (f2, 30, .inl fge)), (ff, .inl (f3, 150, .inl fgf))]) hP hD [2, 3, 4, 5] [0, 1, 6, 7, 8, 9, 10, 11, 12, 13, 14, 15, 16] rfl rfl (by decide) (by decide) hk1 hFc hP1 hD1
  have hK := (hK.sub (tys' := [(ckop, .int), (cka, .int), (ckb, .int), (ckplace, .int), (cknext, .int), (ckneeded, .int), (t1, .int), (t2, .int), (t3, .long)]) [3, 4, 5, 6, 7, 8, 9, 10, 11] rfl).app hK1
  generalize H1 = H at hP hS ⊢
  have hP : va_P (dC, dI) vwCl [(h0, .inr (7, [.ref ptok, .ref pnee, .ref pnam, .int ar, .ref pbui, .ref pdra, .int fu, .int fn, .int fp])), (pdra, .inr (9, [.ref gco, .ref gar, .ref gki, .ref gfu])), (gco, .inr (2, [.ref cop, .ref ca, .ref cb, .ref cplace, .ref cnext, .ref cneeded, .int cz, .int ct])), (cop, .inl (ckop, 3000, .inl cgop)), (ca, .inl (cka, 3000, .inl cga)), (cb, .inl (ckb, 3000, .inl cgb)), (cplace, .inl (ckplace, 3000, .inl cgplace)), (cnext, .inl (cknext, 3000, .inl cgnext)), (cneeded, .inl (ckneeded, 3000, .inl cgneeded)), (ptok, .inr (10, [.ref ts, .ref tp, .ref tw, .int z, .int pa, .int so, .int pl, .long wd])), (ts, .inl (t1, 2001, .inl gs)), (tp, .inl (t2, 2001, .inl gp)), (tw, .inl (t3, 2001, .inr (.inl gw))), (gfu, .inr (3, [.ref fw, .ref fe, .ref ff, .int fz])), (fw, .inl (f1, 30, .inr (.inl fgw))), (fe, .inl (f2, 30, .inl fge)), (ff, .inl (f3, 150, .inl fgf))] H := hP
  have hD : va_D A [(h0, .inr (7, [.ref ptok, .ref pnee, .ref pnam, .int ar, .ref pbui, .ref pdra, .int fu, .int fn, .int fp])), (pdra, .inr (9, [.ref gco, .ref gar, .ref gki, .ref gfu])), (gco, .inr (2, [.ref cop, .ref ca, .ref cb, .ref cplace, .ref cnext, .ref cneeded, .int cz, .int ct])), (cop, .inl (ckop, 3000, .inl cgop)), (ca, .inl (cka, 3000, .inl cga)), (cb, .inl (ckb, 3000, .inl cgb)), (cplace, .inl (ckplace, 3000, .inl cgplace)), (cnext, .inl (cknext, 3000, .inl cgnext)), (cneeded, .inl (ckneeded, 3000, .inl cgneeded)), (ptok, .inr (10, [.ref ts, .ref tp, .ref tw, .int z, .int pa, .int so, .int pl, .long wd])), (ts, .inl (t1, 2001, .inl gs)), (tp, .inl (t2, 2001, .inl gp)), (tw, .inl (t3, 2001, .inr (.inl gw))), (gfu, .inr (3, [.ref fw, .ref fe, .ref ff, .int fz])), (fw, .inl (f1, 30, .inr (.inl fgw))), (fe, .inl (f2, 30, .inl fge)), (ff, .inl (f3, 150, .inl fgf))] := hD
  have hK : va_K (dC, dI) vwCl [(ckop, .int), (cka, .int), (ckb, .int), (ckplace, .int), (cknext, .int), (ckneeded, .int), (t1, .int), (t2, .int), (t3, .long), (f1, .long), (f2, .int), (f3, .int)] s := hK
  have hw_r_4 := hw
  try dsimp only at hw_r_4
  obtain ⟨hq_5, hq_6, hq_7⟩ := hw
  refine lv_istore_n (lv' := [(2, .int r_4), (0, .ref h0), (1, .int row)]) hx hb dX7_resolveCall_29 rfl hl (by decide) rfl (fun ls hl => ?_)
  refine lv_aload_n hx hb dX7_resolveCall_30 rfl (lv_at hl 1 rfl) ?_
  refine va_get (D := (dC, dI)) (ci := 7) (v := .ref pdra) (C := RX7) (T := TX7) (N := 9) hx hb hA zin_X7 hown hK hP 0 rfl rfl 5 (by decide) (hA _ wi_392) (fun _ h9 => h9) rfl dX7_resolveCall_31 ?_
  refine va_get (D := (dC, dI)) (ci := 9) (v := .ref gco) (C := RX9) (T := TX9) (N := 4) hx hb hA zin_X9 hown hK hP 1 rfl rfl 0 (by decide) (hA _ wi_311) (fun _ h9 => h9) rfl dX7_resolveCall_34 ?_
  refine va_get (D := (dC, dI)) (ci := 2) (v := .ref ca) (C := RX2) (T := TX2) (N := 8) hx hb hA zin_X2 hown hK hP 2 rfl rfl 1 (by decide) (hA _ wi_183) (fun _ h9 => h9) rfl dX7_resolveCall_37 ?_
  refine lv_iload_n hx hb dX7_resolveCall_40 rfl (lv_at hl 2 rfl) ?_
  refine lv_iload_n hx hb dX7_resolveCall_41 rfl (lv_at hl 0 rfl) ?_
  refine va_iast hx hb hK hP hD hS 4 1 rfl rfl (vp_in_iff.mpr ⟨by omega, by omega⟩) dX7_resolveCall_42 (fun H locs hP hD hS => ?_)
  obtain ⟨f_8, ef_8⟩ : ∃ gz9 : Nat → Int32, gz9 = upd cga (Int32.toNatClampNeg row) r_4 := ⟨_, rfl⟩
  rw [← ef_8] at hP hD
  have hP : va_P (dC, dI) vwCl [(h0, .inr (7, [.ref ptok, .ref pnee, .ref pnam, .int ar, .ref pbui, .ref pdra, .int fu, .int fn, .int fp])), (pdra, .inr (9, [.ref gco, .ref gar, .ref gki, .ref gfu])), (gco, .inr (2, [.ref cop, .ref ca, .ref cb, .ref cplace, .ref cnext, .ref cneeded, .int cz, .int ct])), (cop, .inl (ckop, 3000, .inl cgop)), (ca, .inl (cka, 3000, .inl f_8)), (cb, .inl (ckb, 3000, .inl cgb)), (cplace, .inl (ckplace, 3000, .inl cgplace)), (cnext, .inl (cknext, 3000, .inl cgnext)), (cneeded, .inl (ckneeded, 3000, .inl cgneeded)), (ptok, .inr (10, [.ref ts, .ref tp, .ref tw, .int z, .int pa, .int so, .int pl, .long wd])), (ts, .inl (t1, 2001, .inl gs)), (tp, .inl (t2, 2001, .inl gp)), (tw, .inl (t3, 2001, .inr (.inl gw))), (gfu, .inr (3, [.ref fw, .ref fe, .ref ff, .int fz])), (fw, .inl (f1, 30, .inr (.inl fgw))), (fe, .inl (f2, 30, .inl fge)), (ff, .inl (f3, 150, .inl fgf))] H := hP
  have hD : va_D A [(h0, .inr (7, [.ref ptok, .ref pnee, .ref pnam, .int ar, .ref pbui, .ref pdra, .int fu, .int fn, .int fp])), (pdra, .inr (9, [.ref gco, .ref gar, .ref gki, .ref gfu])), (gco, .inr (2, [.ref cop, .ref ca, .ref cb, .ref cplace, .ref cnext, .ref cneeded, .int cz, .int ct])), (cop, .inl (ckop, 3000, .inl cgop)), (ca, .inl (cka, 3000, .inl f_8)), (cb, .inl (ckb, 3000, .inl cgb)), (cplace, .inl (ckplace, 3000, .inl cgplace)), (cnext, .inl (cknext, 3000, .inl cgnext)), (cneeded, .inl (ckneeded, 3000, .inl cgneeded)), (ptok, .inr (10, [.ref ts, .ref tp, .ref tw, .int z, .int pa, .int so, .int pl, .long wd])), (ts, .inl (t1, 2001, .inl gs)), (tp, .inl (t2, 2001, .inl gp)), (tw, .inl (t3, 2001, .inr (.inl gw))), (gfu, .inr (3, [.ref fw, .ref fe, .ref ff, .int fz])), (fw, .inl (f1, 30, .inr (.inl fgw))), (fe, .inl (f2, 30, .inl fge)), (ff, .inl (f3, 150, .inl fgf))] := hD
  refine lv_iload_n hx hb dX7_resolveCall_43 rfl (lv_at hl 0 rfl) ?_
  refine lv_iconst (v := (-1)) hx hb dX7_resolveCall_44 (by decide) ?_
  refine lv_icmp_ne (tgt := 50) hx hb dX7_resolveCall_45 (by decide) (fun c_9 => ?_) (fun c_9 => ?_)
  · have ic_9 : r_4.toInt ≠ (-1) := zi_ne c_9
    refine lv_aload_n hx hb dX7_resolveCall_50 rfl (lv_at hl 1 rfl) ?_
    refine va_get (D := (dC, dI)) (ci := 7) (v := .ref pdra) (C := RX7) (T := TX7) (N := 9) hx hb hA zin_X7 hown hK hP 0 rfl rfl 5 (by decide) (hA _ wi_392) (fun _ h9 => h9) rfl dX7_resolveCall_51 ?_
    refine va_get (D := (dC, dI)) (ci := 9) (v := .ref gfu) (C := RX9) (T := TX9) (N := 4) hx hb hA zin_X9 hown hK hP 1 rfl rfl 3 (by decide) (hA _ wi_323) (fun _ h9 => h9) rfl dX7_resolveCall_54 ?_
    refine lv_iload_n hx hb dX7_resolveCall_57 rfl (lv_at hl 0 rfl) ?_
    refine lv_iconst (v := 0) hx hb dX7_resolveCall_58 (by decide) ?_
    have hPc := hP.sub (ws' := [(gfu, .inr (3, [.ref fw, .ref fe, .ref ff, .int fz])), (fw, .inl (f1, 30, .inr (.inl fgw))), (fe, .inl (f2, 30, .inl fge)), (ff, .inl (f3, 150, .inl fgf))]) [13, 14, 15, 16] rfl
    have hDc := hD.sub (ws' := [(gfu, .inr (3, [.ref fw, .ref fe, .ref ff, .int fz])), (fw, .inl (f1, 30, .inr (.inl fgw))), (fe, .inl (f2, 30, .inl fge)), (ff, .inl (f3, 150, .inl fgf))]) [13, 14, 15, 16] (by decide) rfl
    have hKc := hK.sub (tys' := [(f1, .long), (f2, .int), (f3, .int)]) [9, 10, 11] rfl
    have hFc := va_free (wc := [(gfu, .inr (3, [.ref fw, .ref fe, .ref ff, .int fz])), (fw, .inl (f1, 30, .inr (.inl fgw))), (fe, .inl (f2, 30, .inl fge)), (ff, .inl (f3, 150, .inl fgf))]) hD hS hAA [13, 14, 15, 16] rfl
    refine va_calli (va_runV (As := [.int r_4, .int 0]) (rest := []) ⟨hx, hb, hml, hown, hA⟩ (c_X3_fact_x l dC dI aK aV gfu fw fe ff f1 f2 f3 fz fgw fge fgf r_4 0 H.size (by omega) (by omega) (by omega) (by omega) (by have h9_0 : Int32.toInt 0 = 0 := (by decide); omega) (by have h9_0 : Int32.toInt 0 = 0 := (by decide); omega)) (cwV 2 hA (zw_V wi_906 wi_907 wi_908 wi_135 (zw_good wi_909)) rfl rfl rfl (by decide +kernel) ⟨(Nat.le_of_ble_eq_true rfl), (Nat.le_of_ble_eq_true rfl)⟩) ⟨zP_blind, va_recv hKc hPc (ci := 3) (q0 := 0) rfl rfl, zz_pre hKc hPc hDc hN hT hS hFc⟩ rfl rfl hl.1 rfl (lv_room (Nat.le_of_ble_eq_true rfl)) dX7_resolveCall_59 ⟨(Nat.le_of_ble_eq_true rfl), (Nat.le_of_ble_eq_true rfl)⟩) hS (fun q _ h => hFc q h) hFc (fun r_10 u t H1 locs ht hvm hw hB hz1 hk1 hS => ?_)
    obtain ⟨hP1, hK1, hD1⟩ := hB
    rw [ht] at hP1
    have hK1 := va_K.moved hvm.symm hK1
    obtain ⟨hP, hD⟩ := va_join (wr := [(h0, .inr (7, [.ref ptok, .ref pnee, .ref pnam, .int ar, .ref pbui, .ref pdra, .int fu, .int fn, .int fp])), (pdra, .inr (9, [.ref gco, .ref gar, .ref gki, .ref gfu])), (gco, .inr (2, [.ref cop, .ref ca, .ref cb, .ref cplace, .ref cnext, .ref cneeded, .int cz, .int ct])), (cop, .inl (ckop, 3000, .inl cgop)), (ca, .inl (cka, 3000, .inl f_8)), (cb, .inl (ckb, 3000, .inl cgb)), (cplace, .inl (ckplace, 3000, .inl cgplace)), (cnext, .inl (cknext, 3000, .inl cgnext)), (cneeded, .inl (ckneeded, 3000, .inl cgneeded)), (ptok, .inr (10, [.ref ts, .ref tp, .ref tw, .int z, .int pa, .int so, .int pl, .long wd])), (ts, .inl (t1, 2001, .inl gs)), (tp, .inl (t2, 2001, .inl gp)), (tw, .inl (t3, 2001, .inr (.inl gw)))]) (w1 := [(gfu, .inr (3, [.ref fw, .ref fe, .ref ff, .int fz])), (fw, .inl (f1, 30, .inr (.inl fgw))), (fe, .inl (f2, 30, .inl fge)), (ff, .inl (f3, 150, .inl fgf))]) hP hD [13, 14, 15, 16] [0, 1, 2, 3, 4, 5, 6, 7, 8, 9, 10, 11, 12] rfl rfl (by decide) (by decide) hk1 hFc hP1 hD1
    have hK := (hK.sub (tys' := [(ckop, .int), (cka, .int), (ckb, .int), (ckplace, .int), (cknext, .int), (ckneeded, .int), (t1, .int), (t2, .int), (t3, .long)]) [0, 1, 2, 3, 4, 5, 6, 7, 8] rfl).app hK1
    generalize H1 = H at hP hS ⊢
    have hP : va_P (dC, dI) vwCl [(h0, .inr (7, [.ref ptok, .ref pnee, .ref pnam, .int ar, .ref pbui, .ref pdra, .int fu, .int fn, .int fp])), (pdra, .inr (9, [.ref gco, .ref gar, .ref gki, .ref gfu])), (gco, .inr (2, [.ref cop, .ref ca, .ref cb, .ref cplace, .ref cnext, .ref cneeded, .int cz, .int ct])), (cop, .inl (ckop, 3000, .inl cgop)), (ca, .inl (cka, 3000, .inl f_8)), (cb, .inl (ckb, 3000, .inl cgb)), (cplace, .inl (ckplace, 3000, .inl cgplace)), (cnext, .inl (cknext, 3000, .inl cgnext)), (cneeded, .inl (ckneeded, 3000, .inl cgneeded)), (ptok, .inr (10, [.ref ts, .ref tp, .ref tw, .int z, .int pa, .int so, .int pl, .long wd])), (ts, .inl (t1, 2001, .inl gs)), (tp, .inl (t2, 2001, .inl gp)), (tw, .inl (t3, 2001, .inr (.inl gw))), (gfu, .inr (3, [.ref fw, .ref fe, .ref ff, .int fz])), (fw, .inl (f1, 30, .inr (.inl fgw))), (fe, .inl (f2, 30, .inl fge)), (ff, .inl (f3, 150, .inl fgf))] H := hP
    have hD : va_D A [(h0, .inr (7, [.ref ptok, .ref pnee, .ref pnam, .int ar, .ref pbui, .ref pdra, .int fu, .int fn, .int fp])), (pdra, .inr (9, [.ref gco, .ref gar, .ref gki, .ref gfu])), (gco, .inr (2, [.ref cop, .ref ca, .ref cb, .ref cplace, .ref cnext, .ref cneeded, .int cz, .int ct])), (cop, .inl (ckop, 3000, .inl cgop)), (ca, .inl (cka, 3000, .inl f_8)), (cb, .inl (ckb, 3000, .inl cgb)), (cplace, .inl (ckplace, 3000, .inl cgplace)), (cnext, .inl (cknext, 3000, .inl cgnext)), (cneeded, .inl (ckneeded, 3000, .inl cgneeded)), (ptok, .inr (10, [.ref ts, .ref tp, .ref tw, .int z, .int pa, .int so, .int pl, .long wd])), (ts, .inl (t1, 2001, .inl gs)), (tp, .inl (t2, 2001, .inl gp)), (tw, .inl (t3, 2001, .inr (.inl gw))), (gfu, .inr (3, [.ref fw, .ref fe, .ref ff, .int fz])), (fw, .inl (f1, 30, .inr (.inl fgw))), (fe, .inl (f2, 30, .inl fge)), (ff, .inl (f3, 150, .inl fgf))] := hD
    have hK : va_K (dC, dI) vwCl [(ckop, .int), (cka, .int), (ckb, .int), (ckplace, .int), (cknext, .int), (ckneeded, .int), (t1, .int), (t2, .int), (t3, .long), (f1, .long), (f2, .int), (f3, .int)] s := hK
    have hw_r_10 := hw
    try dsimp only at hw_r_10
    have hq_11 := hw
    refine lv_aload_n hx hb dX7_resolveCall_62 rfl (lv_at hl 1 rfl) ?_
    refine va_get (D := (dC, dI)) (ci := 7) (v := .ref pdra) (C := RX7) (T := TX7) (N := 9) hx hb hA zin_X7 hown hK hP 0 rfl rfl 5 (by decide) (hA _ wi_392) (fun _ h9 => h9) rfl dX7_resolveCall_63 ?_
    refine va_get (D := (dC, dI)) (ci := 9) (v := .ref gco) (C := RX9) (T := TX9) (N := 4) hx hb hA zin_X9 hown hK hP 1 rfl rfl 0 (by decide) (hA _ wi_311) (fun _ h9 => h9) rfl dX7_resolveCall_66 ?_
    refine va_get (D := (dC, dI)) (ci := 2) (v := .ref cb) (C := RX2) (T := TX2) (N := 8) hx hb hA zin_X2 hown hK hP 2 rfl rfl 2 (by decide) (hA _ wi_186) (fun _ h9 => h9) rfl dX7_resolveCall_69 ?_
    refine lv_iload_n hx hb dX7_resolveCall_72 rfl (lv_at hl 2 rfl) ?_
    refine va_iald hx hb hK hP 5 2 rfl rfl (vp_in_iff.mpr ⟨by omega, by omega⟩) dX7_resolveCall_73 ?_
    refine lv_topi (fun x_12 ex_12 => ?_)
    have h8 : r_10.toInt = (fgf (5 * Int32.toNatClampNeg r_4)).toInt := by rw [hq_11]; rfl
    have h9 : x_12.toInt = (cgb (Int32.toNatClampNeg row)).toInt := by rw [ex_12]
    refine lv_icmp_ne (tgt := 81) hx hb dX7_resolveCall_74 (by decide) (fun c_13 => ?_) (fun c_13 => ?_)
    · have ic_13 : r_10.toInt ≠ x_12.toInt := zi_ne c_13
      refine lv_iconst (v := 4) hx hb dX7_resolveCall_81 (by decide) ?_
      have hlit : Int32.toInt 4 = 4 := by decide
      have hP9 := hP.sub (ws' := [(h0, .inr (7, [.ref ptok, .ref pnee, .ref pnam, .int ar, .ref pbui, .ref pdra, .int fu, .int fn, .int fp])), (pdra, .inr (9, [.ref gco, .ref gar, .ref gki, .ref gfu])), (ptok, .inr (10, [.ref ts, .ref tp, .ref tw, .int z, .int pa, .int so, .int pl, .long wd])), (ts, .inl (t1, 2001, .inl gs)), (tp, .inl (t2, 2001, .inl gp)), (tw, .inl (t3, 2001, .inr (.inl gw))), (gfu, .inr (3, [.ref fw, .ref fe, .ref ff, .int fz])), (fw, .inl (f1, 30, .inr (.inl fgw))), (fe, .inl (f2, 30, .inl fge)), (ff, .inl (f3, 150, .inl fgf)), (gco, .inr (2, [.ref cop, .ref ca, .ref cb, .ref cplace, .ref cnext, .ref cneeded, .int cz, .int ct])), (cop, .inl (ckop, 3000, .inl cgop)), (ca, .inl (cka, 3000, .inl f_8)), (cb, .inl (ckb, 3000, .inl cgb)), (cplace, .inl (ckplace, 3000, .inl cgplace)), (cnext, .inl (cknext, 3000, .inl cgnext)), (cneeded, .inl (ckneeded, 3000, .inl cgneeded))]) [0, 1, 9, 10, 11, 12, 13, 14, 15, 16, 2, 3, 4, 5, 6, 7, 8] rfl
      have hD9 := hD.sub (ws' := [(h0, .inr (7, [.ref ptok, .ref pnee, .ref pnam, .int ar, .ref pbui, .ref pdra, .int fu, .int fn, .int fp])), (pdra, .inr (9, [.ref gco, .ref gar, .ref gki, .ref gfu])), (ptok, .inr (10, [.ref ts, .ref tp, .ref tw, .int z, .int pa, .int so, .int pl, .long wd])), (ts, .inl (t1, 2001, .inl gs)), (tp, .inl (t2, 2001, .inl gp)), (tw, .inl (t3, 2001, .inr (.inl gw))), (gfu, .inr (3, [.ref fw, .ref fe, .ref ff, .int fz])), (fw, .inl (f1, 30, .inr (.inl fgw))), (fe, .inl (f2, 30, .inl fge)), (ff, .inl (f3, 150, .inl fgf)), (gco, .inr (2, [.ref cop, .ref ca, .ref cb, .ref cplace, .ref cnext, .ref cneeded, .int cz, .int ct])), (cop, .inl (ckop, 3000, .inl cgop)), (ca, .inl (cka, 3000, .inl f_8)), (cb, .inl (ckb, 3000, .inl cgb)), (cplace, .inl (ckplace, 3000, .inl cgplace)), (cnext, .inl (cknext, 3000, .inl cgnext)), (cneeded, .inl (ckneeded, 3000, .inl cgneeded))]) [0, 1, 9, 10, 11, 12, 13, 14, 15, 16, 2, 3, 4, 5, 6, 7, 8] (by decide) rfl
      have hK9 := hK.sub (tys' := [(t1, .int), (t2, .int), (t3, .long), (f1, .long), (f2, .int), (f3, .int), (ckop, .int), (cka, .int), (ckb, .int), (ckplace, .int), (cknext, .int), (ckneeded, .int)]) [6, 7, 8, 9, 10, 11, 0, 1, 2, 3, 4, 5] rfl
      exact W.iret (v := 4) hx hb hr (fun t ht hW => ⟨⟨4, (f_8), rfl, ⟨⟨_, ef_8, fun g => absurd g (by decide), (by have h8 := hq_7; rw [hq_3, ex_1] at h8; exact h8)⟩, sp_oc_y (by have h8 := hq_7; rw [hq_3, ex_1] at h8; exact h8) (by omega) (by omega) (Or.inr ⟨by decide, by omega⟩)⟩, by rw [ht]; exact hP9, va_K.moved hW.alike hK9, hD9⟩, hS.F ht⟩) hS.2.2 dX7_resolveCall_82
    · have ic_13 : r_10.toInt = x_12.toInt := zi_eq c_13
      refine lv_iconst (v := 0) hx hb dX7_resolveCall_77 (by decide) ?_
      refine lv_goto (tgt := 82) hx hb dX7_resolveCall_78 (by decide) ?_
      have hlit : Int32.toInt 0 = 0 := by decide
      have hP9 := hP.sub (ws' := [(h0, .inr (7, [.ref ptok, .ref pnee, .ref pnam, .int ar, .ref pbui, .ref pdra, .int fu, .int fn, .int fp])), (pdra, .inr (9, [.ref gco, .ref gar, .ref gki, .ref gfu])), (ptok, .inr (10, [.ref ts, .ref tp, .ref tw, .int z, .int pa, .int so, .int pl, .long wd])), (ts, .inl (t1, 2001, .inl gs)), (tp, .inl (t2, 2001, .inl gp)), (tw, .inl (t3, 2001, .inr (.inl gw))), (gfu, .inr (3, [.ref fw, .ref fe, .ref ff, .int fz])), (fw, .inl (f1, 30, .inr (.inl fgw))), (fe, .inl (f2, 30, .inl fge)), (ff, .inl (f3, 150, .inl fgf)), (gco, .inr (2, [.ref cop, .ref ca, .ref cb, .ref cplace, .ref cnext, .ref cneeded, .int cz, .int ct])), (cop, .inl (ckop, 3000, .inl cgop)), (ca, .inl (cka, 3000, .inl f_8)), (cb, .inl (ckb, 3000, .inl cgb)), (cplace, .inl (ckplace, 3000, .inl cgplace)), (cnext, .inl (cknext, 3000, .inl cgnext)), (cneeded, .inl (ckneeded, 3000, .inl cgneeded))]) [0, 1, 9, 10, 11, 12, 13, 14, 15, 16, 2, 3, 4, 5, 6, 7, 8] rfl
      have hD9 := hD.sub (ws' := [(h0, .inr (7, [.ref ptok, .ref pnee, .ref pnam, .int ar, .ref pbui, .ref pdra, .int fu, .int fn, .int fp])), (pdra, .inr (9, [.ref gco, .ref gar, .ref gki, .ref gfu])), (ptok, .inr (10, [.ref ts, .ref tp, .ref tw, .int z, .int pa, .int so, .int pl, .long wd])), (ts, .inl (t1, 2001, .inl gs)), (tp, .inl (t2, 2001, .inl gp)), (tw, .inl (t3, 2001, .inr (.inl gw))), (gfu, .inr (3, [.ref fw, .ref fe, .ref ff, .int fz])), (fw, .inl (f1, 30, .inr (.inl fgw))), (fe, .inl (f2, 30, .inl fge)), (ff, .inl (f3, 150, .inl fgf)), (gco, .inr (2, [.ref cop, .ref ca, .ref cb, .ref cplace, .ref cnext, .ref cneeded, .int cz, .int ct])), (cop, .inl (ckop, 3000, .inl cgop)), (ca, .inl (cka, 3000, .inl f_8)), (cb, .inl (ckb, 3000, .inl cgb)), (cplace, .inl (ckplace, 3000, .inl cgplace)), (cnext, .inl (cknext, 3000, .inl cgnext)), (cneeded, .inl (ckneeded, 3000, .inl cgneeded))]) [0, 1, 9, 10, 11, 12, 13, 14, 15, 16, 2, 3, 4, 5, 6, 7, 8] (by decide) rfl
      have hK9 := hK.sub (tys' := [(t1, .int), (t2, .int), (t3, .long), (f1, .long), (f2, .int), (f3, .int), (ckop, .int), (cka, .int), (ckb, .int), (ckplace, .int), (cknext, .int), (ckneeded, .int)]) [6, 7, 8, 9, 10, 11, 0, 1, 2, 3, 4, 5] rfl
      exact W.iret (v := 0) hx hb hr (fun t ht hW => ⟨⟨0, (f_8), rfl, ⟨⟨_, ef_8, fun _ => ⟨by omega, by omega, Int32.toInt_inj.mp (by omega)⟩, (by have h8 := hq_7; rw [hq_3, ex_1] at h8; exact h8)⟩, sp_oc_y (by have h8 := hq_7; rw [hq_3, ex_1] at h8; exact h8) (by omega) (by omega) (Or.inl ⟨by decide, by omega⟩)⟩, by rw [ht]; exact hP9, va_K.moved hW.alike hK9, hD9⟩, hS.F ht⟩) hS.2.2 dX7_resolveCall_82
  · have ic_9 : r_4.toInt = (-1) := zi_eq c_9
    refine lv_iconst (v := 2) hx hb dX7_resolveCall_48 (by decide) ?_
    have hlit : Int32.toInt 2 = 2 := by decide
    have hP9 := hP.sub (ws' := [(h0, .inr (7, [.ref ptok, .ref pnee, .ref pnam, .int ar, .ref pbui, .ref pdra, .int fu, .int fn, .int fp])), (pdra, .inr (9, [.ref gco, .ref gar, .ref gki, .ref gfu])), (ptok, .inr (10, [.ref ts, .ref tp, .ref tw, .int z, .int pa, .int so, .int pl, .long wd])), (ts, .inl (t1, 2001, .inl gs)), (tp, .inl (t2, 2001, .inl gp)), (tw, .inl (t3, 2001, .inr (.inl gw))), (gfu, .inr (3, [.ref fw, .ref fe, .ref ff, .int fz])), (fw, .inl (f1, 30, .inr (.inl fgw))), (fe, .inl (f2, 30, .inl fge)), (ff, .inl (f3, 150, .inl fgf)), (gco, .inr (2, [.ref cop, .ref ca, .ref cb, .ref cplace, .ref cnext, .ref cneeded, .int cz, .int ct])), (cop, .inl (ckop, 3000, .inl cgop)), (ca, .inl (cka, 3000, .inl f_8)), (cb, .inl (ckb, 3000, .inl cgb)), (cplace, .inl (ckplace, 3000, .inl cgplace)), (cnext, .inl (cknext, 3000, .inl cgnext)), (cneeded, .inl (ckneeded, 3000, .inl cgneeded))]) [0, 1, 9, 10, 11, 12, 13, 14, 15, 16, 2, 3, 4, 5, 6, 7, 8] rfl
    have hD9 := hD.sub (ws' := [(h0, .inr (7, [.ref ptok, .ref pnee, .ref pnam, .int ar, .ref pbui, .ref pdra, .int fu, .int fn, .int fp])), (pdra, .inr (9, [.ref gco, .ref gar, .ref gki, .ref gfu])), (ptok, .inr (10, [.ref ts, .ref tp, .ref tw, .int z, .int pa, .int so, .int pl, .long wd])), (ts, .inl (t1, 2001, .inl gs)), (tp, .inl (t2, 2001, .inl gp)), (tw, .inl (t3, 2001, .inr (.inl gw))), (gfu, .inr (3, [.ref fw, .ref fe, .ref ff, .int fz])), (fw, .inl (f1, 30, .inr (.inl fgw))), (fe, .inl (f2, 30, .inl fge)), (ff, .inl (f3, 150, .inl fgf)), (gco, .inr (2, [.ref cop, .ref ca, .ref cb, .ref cplace, .ref cnext, .ref cneeded, .int cz, .int ct])), (cop, .inl (ckop, 3000, .inl cgop)), (ca, .inl (cka, 3000, .inl f_8)), (cb, .inl (ckb, 3000, .inl cgb)), (cplace, .inl (ckplace, 3000, .inl cgplace)), (cnext, .inl (cknext, 3000, .inl cgnext)), (cneeded, .inl (ckneeded, 3000, .inl cgneeded))]) [0, 1, 9, 10, 11, 12, 13, 14, 15, 16, 2, 3, 4, 5, 6, 7, 8] (by decide) rfl
    have hK9 := hK.sub (tys' := [(t1, .int), (t2, .int), (t3, .long), (f1, .long), (f2, .int), (f3, .int), (ckop, .int), (cka, .int), (ckb, .int), (ckplace, .int), (cknext, .int), (ckneeded, .int)]) [6, 7, 8, 9, 10, 11, 0, 1, 2, 3, 4, 5] rfl
    exact W.iret (v := 2) hx hb hr (fun t ht hW => ⟨⟨2, (f_8), rfl, ⟨⟨_, ef_8, fun g => absurd g (by decide), (by have h8 := hq_7; rw [hq_3, ex_1] at h8; exact h8)⟩, sp_oc_n (by have h8 := hq_7; rw [hq_3, ex_1] at h8; exact h8) (by omega) (by decide)⟩, by rw [ht]; exact hP9, va_K.moved hW.alike hK9, hD9⟩, hS.F ht⟩) hS.2.2 dX7_resolveCall_49
set_option maxHeartbeats 4000000 in
set_option maxRecDepth 100000 in
theorem c_X7_resolveCalls_x (l : Launch) (dC : Nat → ClassId) (dI : Nat → Nat → Nat) (aK aV : Nat → Nat) (h0 : Nat) (ptok : Nat) (pnee : Nat) (pnam : Nat) (pbui : Nat) (pdra : Nat) (ar : Int32) (fu : Int32) (fn : Int32) (fp : Int32) (gco : Nat) (gar : Nat) (gki : Nat) (gfu : Nat) (ts : Nat) (tp : Nat) (tw : Nat) (t1 : ClassId) (t2 : ClassId) (t3 : ClassId) (z : Int32) (pa : Int32) (so : Int32) (pl : Int32) (wd : Int64) (gs : Nat → Int32) (gp : Nat → Int32) (gw : Nat → Int64) (fw : Nat) (fe : Nat) (ff : Nat) (f1 : ClassId) (f2 : ClassId) (f3 : ClassId) (fz : Int32) (fgw : Nat → Int64) (fge : Nat → Int32) (fgf : Nat → Int32) (cop : Nat) (ca : Nat) (cb : Nat) (cplace : Nat) (cnext : Nat) (cneeded : Nat) (ckop : ClassId) (cka : ClassId) (ckb : ClassId) (ckplace : ClassId) (cknext : ClassId) (ckneeded : ClassId) (cz : Int32) (ct : Int32) (cgop : Nat → Int32) (cga : Nat → Int32) (cgb : Nat → Int32) (cgplace : Nat → Int32) (cgnext : Nat → Int32) (cgneeded : Nat → Int32) (gC : List (Int64 × Int × Int)) (sz : Nat) (hlt : l.stackTraces = false) (hz0 : 0 ≤ z.toInt) (hz1 : z.toInt ≤ 2000) (ha0 : -1 ≤ pa.toInt) (ha1 : pa.toInt ≤ z.toInt) (hgz : gs (Int32.toNatClampNeg z) = 256) (hf0 : 0 ≤ fz.toInt) (hf1 : fz.toInt ≤ 30) (hfe : zx 3000 fge) (hc0 : 0 ≤ cz.toInt) (hc1 : cz.toInt ≤ 3000) (hc2 : -1 ≤ ct.toInt) (hc3 : ct.toInt < 3000) (hcn : zx 3000 cgnext) (hcp : zcp cgop cgplace cz) (hcl : sp_cl cgop cga cgb cgplace gw z cz gC) : vy_Met l yX7_resolveCalls (Cond.code yX7_resolveCalls cX7_resolveCalls 5 none :: zw) ({ frames := 14, cells := 1, slots := 6, locals := 500 }) (va_Pc [.ref h0] (zP dC dI aK aV sz [(t1, .int), (t2, .int), (t3, .long), (f1, .long), (f2, .int), (f3, .int), (ckop, .int), (cka, .int), (ckb, .int), (ckplace, .int), (cknext, .int), (ckneeded, .int)] [(h0, .inr (7, [.ref ptok, .ref pnee, .ref pnam, .int ar, .ref pbui, .ref pdra, .int fu, .int fn, .int fp])), (pdra, .inr (9, [.ref gco, .ref gar, .ref gki, .ref gfu])), (ptok, .inr (10, [.ref ts, .ref tp, .ref tw, .int z, .int pa, .int so, .int pl, .long wd])), (ts, .inl (t1, 2001, .inl gs)), (tp, .inl (t2, 2001, .inl gp)), (tw, .inl (t3, 2001, .inr (.inl gw))), (gfu, .inr (3, [.ref fw, .ref fe, .ref ff, .int fz])), (fw, .inl (f1, 30, .inr (.inl fgw))), (fe, .inl (f2, 30, .inl fge)), (ff, .inl (f3, 150, .inl fgf)), (gco, .inr (2, [.ref cop, .ref ca, .ref cb, .ref cplace, .ref cnext, .ref cneeded, .int cz, .int ct])), (cop, .inl (ckop, 3000, .inl cgop)), (ca, .inl (cka, 3000, .inl cga)), (cb, .inl (ckb, 3000, .inl cgb)), (cplace, .inl (ckplace, 3000, .inl cgplace)), (cnext, .inl (cknext, 3000, .inl cgnext)), (cneeded, .inl (ckneeded, 3000, .inl cgneeded))])) (va_Qv (fun u : (Nat → Int32) => match u with | na => (∀ q ∈ gC, sp_oc fgw fgf fz q.1 q.2.1) ∧ (sp_rv cgop gw fgw fz cga na 0 cz.toInt) ∧ (zrs cgop cgb fgf fz cga na 0 cz.toInt)) (fun u => match u with | na => zQ dC dI (va_A [(h0, .inr (7, [.ref ptok, .ref pnee, .ref pnam, .int ar, .ref pbui, .ref pdra, .int fu, .int fn, .int fp])), (pdra, .inr (9, [.ref gco, .ref gar, .ref gki, .ref gfu])), (ptok, .inr (10, [.ref ts, .ref tp, .ref tw, .int z, .int pa, .int so, .int pl, .long wd])), (ts, .inl (t1, 2001, .inl gs)), (tp, .inl (t2, 2001, .inl gp)), (tw, .inl (t3, 2001, .inr (.inl gw))), (gfu, .inr (3, [.ref fw, .ref fe, .ref ff, .int fz])), (fw, .inl (f1, 30, .inr (.inl fgw))), (fe, .inl (f2, 30, .inl fge)), (ff, .inl (f3, 150, .inl fgf)), (gco, .inr (2, [.ref cop, .ref ca, .ref cb, .ref cplace, .ref cnext, .ref cneeded, .int cz, .int ct])), (cop, .inl (ckop, 3000, .inl cgop)), (ca, .inl (cka, 3000, .inl cga)), (cb, .inl (ckb, 3000, .inl cgb)), (cplace, .inl (ckplace, 3000, .inl cgplace)), (cnext, .inl (cknext, 3000, .inl cgnext)), (cneeded, .inl (ckneeded, 3000, .inl cgneeded))] sz) [(t1, .int), (t2, .int), (t3, .long), (f1, .long), (f2, .int), (f3, .int), (ckop, .int), (cka, .int), (ckb, .int), (ckplace, .int), (cknext, .int), (ckneeded, .int)] [(h0, .inr (7, [.ref ptok, .ref pnee, .ref pnam, .int ar, .ref pbui, .ref pdra, .int fu, .int fn, .int fp])), (pdra, .inr (9, [.ref gco, .ref gar, .ref gki, .ref gfu])), (ptok, .inr (10, [.ref ts, .ref tp, .ref tw, .int z, .int pa, .int so, .int pl, .long wd])), (ts, .inl (t1, 2001, .inl gs)), (tp, .inl (t2, 2001, .inl gp)), (tw, .inl (t3, 2001, .inr (.inl gw))), (gfu, .inr (3, [.ref fw, .ref fe, .ref ff, .int fz])), (fw, .inl (f1, 30, .inr (.inl fgw))), (fe, .inl (f2, 30, .inl fge)), (ff, .inl (f3, 150, .inl fgf)), (gco, .inr (2, [.ref cop, .ref ca, .ref cb, .ref cplace, .ref cnext, .ref cneeded, .int cz, .int ct])), (cop, .inl (ckop, 3000, .inl cgop)), (ca, .inl (cka, 3000, .inl na)), (cb, .inl (ckb, 3000, .inl cgb)), (cplace, .inl (ckplace, 3000, .inl cgplace)), (cnext, .inl (cknext, 3000, .inl cgnext)), (cneeded, .inl (ckneeded, 3000, .inl cgneeded))]) (va_A [(h0, .inr (7, [.ref ptok, .ref pnee, .ref pnam, .int ar, .ref pbui, .ref pdra, .int fu, .int fn, .int fp])), (pdra, .inr (9, [.ref gco, .ref gar, .ref gki, .ref gfu])), (ptok, .inr (10, [.ref ts, .ref tp, .ref tw, .int z, .int pa, .int so, .int pl, .long wd])), (ts, .inl (t1, 2001, .inl gs)), (tp, .inl (t2, 2001, .inl gp)), (tw, .inl (t3, 2001, .inr (.inl gw))), (gfu, .inr (3, [.ref fw, .ref fe, .ref ff, .int fz])), (fw, .inl (f1, 30, .inr (.inl fgw))), (fe, .inl (f2, 30, .inl fge)), (ff, .inl (f3, 150, .inl fgf)), (gco, .inr (2, [.ref cop, .ref ca, .ref cb, .ref cplace, .ref cnext, .ref cneeded, .int cz, .int ct])), (cop, .inl (ckop, 3000, .inl cgop)), (ca, .inl (cka, 3000, .inl cga)), (cb, .inl (ckb, 3000, .inl cgb)), (cplace, .inl (ckplace, 3000, .inl cgplace)), (cnext, .inl (cknext, 3000, .inl cgnext)), (cneeded, .inl (ckneeded, 3000, .inl cgneeded))] sz)) (vx_X (fun u : (Nat → Int32) × Int32 × Int32 => match u with | (na, fn2, fp2) => (pf_wr gC fgw fgf fz (Int32.toInt fp2)) ∧ (¬ ∀ q ∈ gC, sp_oc fgw fgf fz q.1 q.2.1)) (fun E u t => E = "java/lang/IllegalStateException" ∧ (match u with | (na, fn2, fp2) => zQ dC dI (va_A [(h0, .inr (7, [.ref ptok, .ref pnee, .ref pnam, .int ar, .ref pbui, .ref pdra, .int fu, .int fn, .int fp])), (pdra, .inr (9, [.ref gco, .ref gar, .ref gki, .ref gfu])), (ptok, .inr (10, [.ref ts, .ref tp, .ref tw, .int z, .int pa, .int so, .int pl, .long wd])), (ts, .inl (t1, 2001, .inl gs)), (tp, .inl (t2, 2001, .inl gp)), (tw, .inl (t3, 2001, .inr (.inl gw))), (gfu, .inr (3, [.ref fw, .ref fe, .ref ff, .int fz])), (fw, .inl (f1, 30, .inr (.inl fgw))), (fe, .inl (f2, 30, .inl fge)), (ff, .inl (f3, 150, .inl fgf)), (gco, .inr (2, [.ref cop, .ref ca, .ref cb, .ref cplace, .ref cnext, .ref cneeded, .int cz, .int ct])), (cop, .inl (ckop, 3000, .inl cgop)), (ca, .inl (cka, 3000, .inl cga)), (cb, .inl (ckb, 3000, .inl cgb)), (cplace, .inl (ckplace, 3000, .inl cgplace)), (cnext, .inl (cknext, 3000, .inl cgnext)), (cneeded, .inl (ckneeded, 3000, .inl cgneeded))] sz) [(t1, .int), (t2, .int), (t3, .long), (f1, .long), (f2, .int), (f3, .int), (ckop, .int), (cka, .int), (ckb, .int), (ckplace, .int), (cknext, .int), (ckneeded, .int)] [(h0, .inr (7, [.ref ptok, .ref pnee, .ref pnam, .int ar, .ref pbui, .ref pdra, .int fu, .int fn2, .int fp2])), (pdra, .inr (9, [.ref gco, .ref gar, .ref gki, .ref gfu])), (ptok, .inr (10, [.ref ts, .ref tp, .ref tw, .int z, .int pa, .int so, .int pl, .long wd])), (ts, .inl (t1, 2001, .inl gs)), (tp, .inl (t2, 2001, .inl gp)), (tw, .inl (t3, 2001, .inr (.inl gw))), (gfu, .inr (3, [.ref fw, .ref fe, .ref ff, .int fz])), (fw, .inl (f1, 30, .inr (.inl fgw))), (fe, .inl (f2, 30, .inl fge)), (ff, .inl (f3, 150, .inl fgf)), (gco, .inr (2, [.ref cop, .ref ca, .ref cb, .ref cplace, .ref cnext, .ref cneeded, .int cz, .int ct])), (cop, .inl (ckop, 3000, .inl cgop)), (ca, .inl (cka, 3000, .inl na)), (cb, .inl (ckb, 3000, .inl cgb)), (cplace, .inl (ckplace, 3000, .inl cgplace)), (cnext, .inl (cknext, 3000, .inl cgnext)), (cneeded, .inl (ckneeded, 3000, .inl cgneeded))] t)) (va_A [(h0, .inr (7, [.ref ptok, .ref pnee, .ref pnam, .int ar, .ref pbui, .ref pdra, .int fu, .int fn, .int fp])), (pdra, .inr (9, [.ref gco, .ref gar, .ref gki, .ref gfu])), (ptok, .inr (10, [.ref ts, .ref tp, .ref tw, .int z, .int pa, .int so, .int pl, .long wd])), (ts, .inl (t1, 2001, .inl gs)), (tp, .inl (t2, 2001, .inl gp)), (tw, .inl (t3, 2001, .inr (.inl gw))), (gfu, .inr (3, [.ref fw, .ref fe, .ref ff, .int fz])), (fw, .inl (f1, 30, .inr (.inl fgw))), (fe, .inl (f2, 30, .inl fge)), (ff, .inl (f3, 150, .inl fgf)), (gco, .inr (2, [.ref cop, .ref ca, .ref cb, .ref cplace, .ref cnext, .ref cneeded, .int cz, .int ct])), (cop, .inl (ckop, 3000, .inl cgop)), (ca, .inl (cka, 3000, .inl cga)), (cb, .inl (ckb, 3000, .inl cgb)), (cplace, .inl (ckplace, 3000, .inl cgplace)), (cnext, .inl (cknext, 3000, .inl cgnext)), (cneeded, .inl (ckneeded, 3000, .inl cgneeded))] sz)) 0 0 1 6 (va_A [(h0, .inr (7, [.ref ptok, .ref pnee, .ref pnam, .int ar, .ref pbui, .ref pdra, .int fu, .int fn, .int fp])), (pdra, .inr (9, [.ref gco, .ref gar, .ref gki, .ref gfu])), (ptok, .inr (10, [.ref ts, .ref tp, .ref tw, .int z, .int pa, .int so, .int pl, .long wd])), (ts, .inl (t1, 2001, .inl gs)), (tp, .inl (t2, 2001, .inl gp)), (tw, .inl (t3, 2001, .inr (.inl gw))), (gfu, .inr (3, [.ref fw, .ref fe, .ref ff, .int fz])), (fw, .inl (f1, 30, .inr (.inl fgw))), (fe, .inl (f2, 30, .inl fge)), (ff, .inl (f3, 150, .inl fgf)), (gco, .inr (2, [.ref cop, .ref ca, .ref cb, .ref cplace, .ref cnext, .ref cneeded, .int cz, .int ct])), (cop, .inl (ckop, 3000, .inl cgop)), (ca, .inl (cka, 3000, .inl cga)), (cb, .inl (ckb, 3000, .inl cgb)), (cplace, .inl (ckplace, 3000, .inl cgplace)), (cnext, .inl (cknext, 3000, .inl cgnext)), (cneeded, .inl (ckneeded, 3000, .inl cgneeded))] sz) := by
  refine vy_ofW (cc := cX7_resolveCalls) (maxL := 5) (ret := none) (by decide) rfl ?_
  intro p e s m args below meth c s₁ B hml hnh hv
  obtain ⟨rfl, hsz, hP, hK, hD0, hN, hT⟩ := hv
  have hx := B.exec
  have hb := B.bytes
  have hr := B.returns
  have hts := atoms_spec (ws := Cond.code yX7_resolveCalls cX7_resolveCalls 5 none :: zw) B.pre
  have hA : ∀ w ∈ zw, w.before _ s = true := fun w h => hts w (List.mem_cons_of_mem _ h)
  have hown : s.vm.findClass RX7 = some m.cls := findClass_of_methodNamed B.named
  have hlocks := B.notSynchronized
  subst hsz
  have hD := hD0.self (sz := s.heap.size)
  generalize hAe : va_A [(h0, .inr (7, [.ref ptok, .ref pnee, .ref pnam, .int ar, .ref pbui, .ref pdra, .int fu, .int fn, .int fp])), (pdra, .inr (9, [.ref gco, .ref gar, .ref gki, .ref gfu])), (ptok, .inr (10, [.ref ts, .ref tp, .ref tw, .int z, .int pa, .int so, .int pl, .long wd])), (ts, .inl (t1, 2001, .inl gs)), (tp, .inl (t2, 2001, .inl gp)), (tw, .inl (t3, 2001, .inr (.inl gw))), (gfu, .inr (3, [.ref fw, .ref fe, .ref ff, .int fz])), (fw, .inl (f1, 30, .inr (.inl fgw))), (fe, .inl (f2, 30, .inl fge)), (ff, .inl (f3, 150, .inl fgf)), (gco, .inr (2, [.ref cop, .ref ca, .ref cb, .ref cplace, .ref cnext, .ref cneeded, .int cz, .int ct])), (cop, .inl (ckop, 3000, .inl cgop)), (ca, .inl (cka, 3000, .inl cga)), (cb, .inl (ckb, 3000, .inl cgb)), (cplace, .inl (ckplace, 3000, .inl cgplace)), (cnext, .inl (cknext, 3000, .inl cgnext)), (cneeded, .inl (ckneeded, 3000, .inl cgneeded))] s.heap.size = A at hD hT ⊢
  have hAA : ∀ q : Nat, s.heap.size ≤ q → A q := fun q h => by rw [← hAe]; exact Or.inr h
  have hS : va_S A s.heap s.heap [] := va_S.rf
  have hl := lv_entry ([.ref h0]) (n := 5) (Nat.le_of_ble_eq_true rfl)
  rw [lg_entry_eq]
  generalize (lg_sl ([.ref h0]) ++ List.replicate (5 - (lg_sl ([.ref h0])).length) Slot.unset).toArray = ls at hl ⊢
  have hl : lv_has ls 5 [(0, .ref h0)] := hl
  refine lv_iconst (v := 0) hx hb dX7_resolveCalls_0 (by decide) ?_
  have hcl0 := hcl
  refine lv_istore_n (lv' := [(1, .int 0), (0, .ref h0)]) hx hb dX7_resolveCalls_1 rfl hl (by decide) rfl (fun ls hl => ?_)
  refine lv_sipush (v := 2000) hx hb dX7_resolveCalls_2 (by decide) ?_
  refine lv_istore_n (lv' := [(2, .int 2000), (1, .int 0), (0, .ref h0)]) hx hb dX7_resolveCalls_5 rfl hl (by decide) rfl (fun ls hl => ?_)
  refine lv_iconst (v := 0) hx hb dX7_resolveCalls_6 (by decide) ?_
  refine lv_istore_n (lv' := [(3, .int 0), (2, .int 2000), (1, .int 0), (0, .ref h0)]) hx hb dX7_resolveCalls_7 rfl hl (by decide) rfl (fun ls hl => ?_)
  have loop_8 : ∀ (n9 : Nat) (nu : Int32) (pc_ : Int32) (i : Int32) (la_ : Nat → Int32) (H : Heap) (locs : List Loc) (ls : Array Slot), (cz.toInt - i.toInt + 1).toNat ≤ n9 → 0 ≤ i.toInt → i.toInt ≤ cz.toInt → nu.toInt ≠ 0 ∨ pc_.toInt = 2000 → zrs cgop cgb fgf fz cga la_ (Int32.toInt nu) (Int32.toInt i) → sp_rs cgop cgb gw fgw fgf fz cga la_ (Int32.toInt nu) (Int32.toInt i) (Int32.toInt cz) → sp_rv cgop gw fgw fz cga la_ (Int32.toInt nu) (Int32.toInt i) → sp_rp cgop cgb cgplace gw fgw fgf fz cga (Int32.toInt nu) (Int32.toInt pc_) (Int32.toInt i) (Int32.toInt cz) → va_P (dC, dI) vwCl [(h0, .inr (7, [.ref ptok, .ref pnee, .ref pnam, .int ar, .ref pbui, .ref pdra, .int fu, .int fn, .int fp])), (pdra, .inr (9, [.ref gco, .ref gar, .ref gki, .ref gfu])), (ptok, .inr (10, [.ref ts, .ref tp, .ref tw, .int z, .int pa, .int so, .int pl, .long wd])), (ts, .inl (t1, 2001, .inl gs)), (tp, .inl (t2, 2001, .inl gp)), (tw, .inl (t3, 2001, .inr (.inl gw))), (gfu, .inr (3, [.ref fw, .ref fe, .ref ff, .int fz])), (fw, .inl (f1, 30, .inr (.inl fgw))), (fe, .inl (f2, 30, .inl fge)), (ff, .inl (f3, 150, .inl fgf)), (gco, .inr (2, [.ref cop, .ref ca, .ref cb, .ref cplace, .ref cnext, .ref cneeded, .int cz, .int ct])), (cop, .inl (ckop, 3000, .inl cgop)), (ca, .inl (cka, 3000, .inl la_)), (cb, .inl (ckb, 3000, .inl cgb)), (cplace, .inl (ckplace, 3000, .inl cgplace)), (cnext, .inl (cknext, 3000, .inl cgnext)), (cneeded, .inl (ckneeded, 3000, .inl cgneeded))] H → va_D A [(h0, .inr (7, [.ref ptok, .ref pnee, .ref pnam, .int ar, .ref pbui, .ref pdra, .int fu, .int fn, .int fp])), (pdra, .inr (9, [.ref gco, .ref gar, .ref gki, .ref gfu])), (ptok, .inr (10, [.ref ts, .ref tp, .ref tw, .int z, .int pa, .int so, .int pl, .long wd])), (ts, .inl (t1, 2001, .inl gs)), (tp, .inl (t2, 2001, .inl gp)), (tw, .inl (t3, 2001, .inr (.inl gw))), (gfu, .inr (3, [.ref fw, .ref fe, .ref ff, .int fz])), (fw, .inl (f1, 30, .inr (.inl fgw))), (fe, .inl (f2, 30, .inl fge)), (ff, .inl (f3, 150, .inl fgf)), (gco, .inr (2, [.ref cop, .ref ca, .ref cb, .ref cplace, .ref cnext, .ref cneeded, .int cz, .int ct])), (cop, .inl (ckop, 3000, .inl cgop)), (ca, .inl (cka, 3000, .inl la_)), (cb, .inl (ckb, 3000, .inl cgb)), (cplace, .inl (ckplace, 3000, .inl cgplace)), (cnext, .inl (cknext, 3000, .inl cgnext)), (cneeded, .inl (ckneeded, 3000, .inl cgneeded))] → va_S A s.heap H locs → lv_has ls 5 [(3, .int i), (2, .int pc_), (1, .int nu), (0, .ref h0)] → W p l e (headSpec (Cond.code yX7_resolveCalls cX7_resolveCalls 5 none :: zw) ({ frames := 14, cells := 1, slots := 6, locals := 500 })).room s m #[.ref h0] below meth c H locs 0 0 (vy_MQ below (va_Qv (fun u : (Nat → Int32) => match u with | na => (∀ q ∈ gC, sp_oc fgw fgf fz q.1 q.2.1) ∧ (sp_rv cgop gw fgw fz cga na 0 cz.toInt) ∧ (zrs cgop cgb fgf fz cga na 0 cz.toInt)) (fun u => match u with | na => zQ dC dI A [(t1, .int), (t2, .int), (t3, .long), (f1, .long), (f2, .int), (f3, .int), (ckop, .int), (cka, .int), (ckb, .int), (ckplace, .int), (cknext, .int), (ckneeded, .int)] [(h0, .inr (7, [.ref ptok, .ref pnee, .ref pnam, .int ar, .ref pbui, .ref pdra, .int fu, .int fn, .int fp])), (pdra, .inr (9, [.ref gco, .ref gar, .ref gki, .ref gfu])), (ptok, .inr (10, [.ref ts, .ref tp, .ref tw, .int z, .int pa, .int so, .int pl, .long wd])), (ts, .inl (t1, 2001, .inl gs)), (tp, .inl (t2, 2001, .inl gp)), (tw, .inl (t3, 2001, .inr (.inl gw))), (gfu, .inr (3, [.ref fw, .ref fe, .ref ff, .int fz])), (fw, .inl (f1, 30, .inr (.inl fgw))), (fe, .inl (f2, 30, .inl fge)), (ff, .inl (f3, 150, .inl fgf)), (gco, .inr (2, [.ref cop, .ref ca, .ref cb, .ref cplace, .ref cnext, .ref cneeded, .int cz, .int ct])), (cop, .inl (ckop, 3000, .inl cgop)), (ca, .inl (cka, 3000, .inl na)), (cb, .inl (ckb, 3000, .inl cgb)), (cplace, .inl (ckplace, 3000, .inl cgplace)), (cnext, .inl (cknext, 3000, .inl cgnext)), (cneeded, .inl (ckneeded, 3000, .inl cgneeded))]) A) (vx_X (fun u : (Nat → Int32) × Int32 × Int32 => match u with | (na, fn2, fp2) => (pf_wr gC fgw fgf fz (Int32.toInt fp2)) ∧ (¬ ∀ q ∈ gC, sp_oc fgw fgf fz q.1 q.2.1)) (fun E u t => E = "java/lang/IllegalStateException" ∧ (match u with | (na, fn2, fp2) => zQ dC dI A [(t1, .int), (t2, .int), (t3, .long), (f1, .long), (f2, .int), (f3, .int), (ckop, .int), (cka, .int), (ckb, .int), (ckplace, .int), (cknext, .int), (ckneeded, .int)] [(h0, .inr (7, [.ref ptok, .ref pnee, .ref pnam, .int ar, .ref pbui, .ref pdra, .int fu, .int fn2, .int fp2])), (pdra, .inr (9, [.ref gco, .ref gar, .ref gki, .ref gfu])), (ptok, .inr (10, [.ref ts, .ref tp, .ref tw, .int z, .int pa, .int so, .int pl, .long wd])), (ts, .inl (t1, 2001, .inl gs)), (tp, .inl (t2, 2001, .inl gp)), (tw, .inl (t3, 2001, .inr (.inl gw))), (gfu, .inr (3, [.ref fw, .ref fe, .ref ff, .int fz])), (fw, .inl (f1, 30, .inr (.inl fgw))), (fe, .inl (f2, 30, .inl fge)), (ff, .inl (f3, 150, .inl fgf)), (gco, .inr (2, [.ref cop, .ref ca, .ref cb, .ref cplace, .ref cnext, .ref cneeded, .int cz, .int ct])), (cop, .inl (ckop, 3000, .inl cgop)), (ca, .inl (cka, 3000, .inl na)), (cb, .inl (ckb, 3000, .inl cgb)), (cplace, .inl (ckplace, 3000, .inl cgplace)), (cnext, .inl (cknext, 3000, .inl cgnext)), (cneeded, .inl (ckneeded, 3000, .inl cgneeded))] t)) A) #[.ref h0] s 0 0 1 6 A) (F0 m 8 ls []) := by
    intro n9
    induction n9 with
    | zero => intro nu pc_ i la_ H locs ls hm hi0 hi1 hnp hzr hrs hrv hrp; exfalso; omega
    | succ n9 ih =>
      intro nu pc_ i la_ H locs ls hm hi0 hi1 hnp hzr hrs hrv hrp hP hD hS hl
      refine lv_iload_n hx hb dX7_resolveCalls_8 rfl (lv_at hl 0 rfl) ?_
      refine lv_aload_n hx hb dX7_resolveCalls_9 rfl (lv_at hl 3 rfl) ?_
      refine va_get (D := (dC, dI)) (ci := 7) (v := .ref pdra) (C := RX7) (T := TX7) (N := 9) hx hb hA zin_X7 hown hK hP 0 rfl rfl 5 (by decide) (hA _ wi_392) (fun _ h9 => h9) rfl dX7_resolveCalls_10 ?_
      refine va_get (D := (dC, dI)) (ci := 9) (v := .ref gco) (C := RX9) (T := TX9) (N := 4) hx hb hA zin_X9 hown hK hP 1 rfl rfl 0 (by decide) (hA _ wi_311) (fun _ h9 => h9) rfl dX7_resolveCalls_13 ?_
      refine va_get (D := (dC, dI)) (ci := 2) (v := .int cz) (C := RX2) (T := TX2) (N := 8) hx hb hA zin_X2 hown hK hP 10 rfl rfl 6 (by decide) (hA _ wi_199) (fun _ h9 => h9) rfl dX7_resolveCalls_16 ?_
      refine lv_icmp_ge (tgt := 84) hx hb dX7_resolveCalls_19 (by decide) (fun c_1 => ?_) (fun c_1 => ?_)
      · have ic_1 : cz.toInt ≤ i.toInt := zi_le c_1
        refine lv_iload_n hx hb dX7_resolveCalls_84 rfl (lv_at hl 2 rfl) ?_
        refine lv_if_eq (tgt := 94) hx hb dX7_resolveCalls_85 (by decide) (fun c_2 => ?_) (fun c_2 => ?_)
        · have ic_2 : nu.toInt = 0 := zi_eq c_2
          have hP9 := hP.sub (ws' := [(h0, .inr (7, [.ref ptok, .ref pnee, .ref pnam, .int ar, .ref pbui, .ref pdra, .int fu, .int fn, .int fp])), (pdra, .inr (9, [.ref gco, .ref gar, .ref gki, .ref gfu])), (ptok, .inr (10, [.ref ts, .ref tp, .ref tw, .int z, .int pa, .int so, .int pl, .long wd])), (ts, .inl (t1, 2001, .inl gs)), (tp, .inl (t2, 2001, .inl gp)), (tw, .inl (t3, 2001, .inr (.inl gw))), (gfu, .inr (3, [.ref fw, .ref fe, .ref ff, .int fz])), (fw, .inl (f1, 30, .inr (.inl fgw))), (fe, .inl (f2, 30, .inl fge)), (ff, .inl (f3, 150, .inl fgf)), (gco, .inr (2, [.ref cop, .ref ca, .ref cb, .ref cplace, .ref cnext, .ref cneeded, .int cz, .int ct])), (cop, .inl (ckop, 3000, .inl cgop)), (ca, .inl (cka, 3000, .inl la_)), (cb, .inl (ckb, 3000, .inl cgb)), (cplace, .inl (ckplace, 3000, .inl cgplace)), (cnext, .inl (cknext, 3000, .inl cgnext)), (cneeded, .inl (ckneeded, 3000, .inl cgneeded))]) [0, 1, 2, 3, 4, 5, 6, 7, 8, 9, 10, 11, 12, 13, 14, 15, 16] rfl
          have hD9 := hD.sub (ws' := [(h0, .inr (7, [.ref ptok, .ref pnee, .ref pnam, .int ar, .ref pbui, .ref pdra, .int fu, .int fn, .int fp])), (pdra, .inr (9, [.ref gco, .ref gar, .ref gki, .ref gfu])), (ptok, .inr (10, [.ref ts, .ref tp, .ref tw, .int z, .int pa, .int so, .int pl, .long wd])), (ts, .inl (t1, 2001, .inl gs)), (tp, .inl (t2, 2001, .inl gp)), (tw, .inl (t3, 2001, .inr (.inl gw))), (gfu, .inr (3, [.ref fw, .ref fe, .ref ff, .int fz])), (fw, .inl (f1, 30, .inr (.inl fgw))), (fe, .inl (f2, 30, .inl fge)), (ff, .inl (f3, 150, .inl fgf)), (gco, .inr (2, [.ref cop, .ref ca, .ref cb, .ref cplace, .ref cnext, .ref cneeded, .int cz, .int ct])), (cop, .inl (ckop, 3000, .inl cgop)), (ca, .inl (cka, 3000, .inl la_)), (cb, .inl (ckb, 3000, .inl cgb)), (cplace, .inl (ckplace, 3000, .inl cgplace)), (cnext, .inl (cknext, 3000, .inl cgnext)), (cneeded, .inl (ckneeded, 3000, .inl cgneeded))]) [0, 1, 2, 3, 4, 5, 6, 7, 8, 9, 10, 11, 12, 13, 14, 15, 16] (by decide) rfl
          have hK9 := hK.sub (tys' := [(t1, .int), (t2, .int), (t3, .long), (f1, .long), (f2, .int), (f3, .int), (ckop, .int), (cka, .int), (ckb, .int), (ckplace, .int), (cknext, .int), (ckneeded, .int)]) [0, 1, 2, 3, 4, 5, 6, 7, 8, 9, 10, 11] rfl
          exact vy_mono vy_ret (vx_ret (W.vret hx hb hr (fun t ht hW => ⟨⟨(la_), rfl, ⟨sp_rs_y hrs hcl (by omega) (by omega), (by have g : Int32.toInt nu = 0 := (by omega); have g2 : Int32.toInt i = cz.toInt := (by omega); rw [g, g2] at hrv; exact hrv), (by have g : Int32.toInt nu = 0 := (by omega); have g2 : Int32.toInt i = cz.toInt := (by omega); rw [g, g2] at hzr; exact hzr)⟩, by rw [ht]; exact hP9, va_K.moved hW.alike hK9, hD9⟩, hS.F ht⟩) hS.2.2 dX7_resolveCalls_94))
        · have ic_2 : nu.toInt ≠ 0 := zi_ne c_2
          refine lv_aload_n hx hb dX7_resolveCalls_88 rfl (lv_at hl 3 rfl) ?_
          refine lv_iload_n hx hb dX7_resolveCalls_89 rfl (lv_at hl 2 rfl) ?_
          refine lv_iload_n hx hb dX7_resolveCalls_90 rfl (lv_at hl 1 rfl) ?_
          have hPc := hP.sub (ws' := [(h0, .inr (7, [.ref ptok, .ref pnee, .ref pnam, .int ar, .ref pbui, .ref pdra, .int fu, .int fn, .int fp]))]) [0] rfl
          have hDc := hD.sub (ws' := [(h0, .inr (7, [.ref ptok, .ref pnee, .ref pnam, .int ar, .ref pbui, .ref pdra, .int fu, .int fn, .int fp]))]) [0] (by decide) rfl
          have hKc := hK.sub (tys' := []) [] rfl
          have hFc := va_free (wc := [(h0, .inr (7, [.ref ptok, .ref pnee, .ref pnam, .int ar, .ref pbui, .ref pdra, .int fu, .int fn, .int fp]))]) hD hS hAA [0] rfl
          refine vy_callv (vy_runV (As := [.int nu, .int pc_]) (rest := []) ⟨hx, hb, hml, hown, hA⟩ (c_X7_fail l dC dI aK aV h0 ptok pnee pnam pbui pdra ar fu fn fp nu pc_ H.size hlt) (cwV 2 hA (zw_V wi_806 wi_808 wi_5 wi_136 (zw_good wi_809)) rfl rfl rfl (by decide +kernel) ⟨(Nat.le_of_ble_eq_true rfl), (Nat.le_of_ble_eq_true rfl)⟩) ⟨zP_blind, va_recv hKc hPc (ci := 7) (q0 := 0) rfl rfl, zz_pre hKc hPc hDc hN hT hS hFc⟩ rfl rfl hl.1 rfl (lv_room (Nat.le_of_ble_eq_true rfl)) dX7_resolveCalls_91 ⟨(Nat.le_of_ble_eq_true rfl), (Nat.le_of_ble_eq_true rfl)⟩) hS (fun q _ h => hFc q h) hFc (fun q _ h => hFc q h) (fun E9 ce9 q9 u t H1 locs ht hvm hw hB hz1 hk1 hS hcell hcv hcl => ?_) (fun u t H1 locs ht hvm hw hB hz1 hk1 hS => absurd hw id)
          obtain ⟨x_fn2_4, x_fp2_5⟩ := u
          obtain ⟨rfl, hP1, hK1, hD1⟩ := hB
          rw [ht] at hP1
          have hK1 := va_K.moved hvm.symm hK1
          obtain ⟨hP, hD⟩ := va_join (wr := [(pdra, .inr (9, [.ref gco, .ref gar, .ref gki, .ref gfu])), (ptok, .inr (10, [.ref ts, .ref tp, .ref tw, .int z, .int pa, .int so, .int pl, .long wd])), (ts, .inl (t1, 2001, .inl gs)), (tp, .inl (t2, 2001, .inl gp)), (tw, .inl (t3, 2001, .inr (.inl gw))), (gfu, .inr (3, [.ref fw, .ref fe, .ref ff, .int fz])), (fw, .inl (f1, 30, .inr (.inl fgw))), (fe, .inl (f2, 30, .inl fge)), (ff, .inl (f3, 150, .inl fgf)), (gco, .inr (2, [.ref cop, .ref ca, .ref cb, .ref cplace, .ref cnext, .ref cneeded, .int cz, .int ct])), (cop, .inl (ckop, 3000, .inl cgop)), (ca, .inl (cka, 3000, .inl la_)), (cb, .inl (ckb, 3000, .inl cgb)), (cplace, .inl (ckplace, 3000, .inl cgplace)), (cnext, .inl (cknext, 3000, .inl cgnext)), (cneeded, .inl (ckneeded, 3000, .inl cgneeded))]) (w1 := [(h0, .inr (7, [.ref ptok, .ref pnee, .ref pnam, .int ar, .ref pbui, .ref pdra, .int fu, .int x_fn2_4, .int x_fp2_5]))]) hP hD [0] [1, 2, 3, 4, 5, 6, 7, 8, 9, 10, 11, 12, 13, 14, 15, 16] rfl rfl (by decide) (by decide) hk1 hFc hP1 hD1
          have hK := (hK.sub (tys' := [(t1, .int), (t2, .int), (t3, .long), (f1, .long), (f2, .int), (f3, .int), (ckop, .int), (cka, .int), (ckb, .int), (ckplace, .int), (cknext, .int), (ckneeded, .int)]) [0, 1, 2, 3, 4, 5, 6, 7, 8, 9, 10, 11] rfl).app hK1
          clear hPc hDc hFc hP1 hD1 hk1 hz1 ht hvm
          generalize H1 = H at hP hS hcell ⊢
          have hP : va_P (dC, dI) vwCl [(pdra, .inr (9, [.ref gco, .ref gar, .ref gki, .ref gfu])), (ptok, .inr (10, [.ref ts, .ref tp, .ref tw, .int z, .int pa, .int so, .int pl, .long wd])), (ts, .inl (t1, 2001, .inl gs)), (tp, .inl (t2, 2001, .inl gp)), (tw, .inl (t3, 2001, .inr (.inl gw))), (gfu, .inr (3, [.ref fw, .ref fe, .ref ff, .int fz])), (fw, .inl (f1, 30, .inr (.inl fgw))), (fe, .inl (f2, 30, .inl fge)), (ff, .inl (f3, 150, .inl fgf)), (gco, .inr (2, [.ref cop, .ref ca, .ref cb, .ref cplace, .ref cnext, .ref cneeded, .int cz, .int ct])), (cop, .inl (ckop, 3000, .inl cgop)), (ca, .inl (cka, 3000, .inl la_)), (cb, .inl (ckb, 3000, .inl cgb)), (cplace, .inl (ckplace, 3000, .inl cgplace)), (cnext, .inl (cknext, 3000, .inl cgnext)), (cneeded, .inl (ckneeded, 3000, .inl cgneeded)), (h0, .inr (7, [.ref ptok, .ref pnee, .ref pnam, .int ar, .ref pbui, .ref pdra, .int fu, .int x_fn2_4, .int x_fp2_5]))] H := hP
          have hD : va_D A [(pdra, .inr (9, [.ref gco, .ref gar, .ref gki, .ref gfu])), (ptok, .inr (10, [.ref ts, .ref tp, .ref tw, .int z, .int pa, .int so, .int pl, .long wd])), (ts, .inl (t1, 2001, .inl gs)), (tp, .inl (t2, 2001, .inl gp)), (tw, .inl (t3, 2001, .inr (.inl gw))), (gfu, .inr (3, [.ref fw, .ref fe, .ref ff, .int fz])), (fw, .inl (f1, 30, .inr (.inl fgw))), (fe, .inl (f2, 30, .inl fge)), (ff, .inl (f3, 150, .inl fgf)), (gco, .inr (2, [.ref cop, .ref ca, .ref cb, .ref cplace, .ref cnext, .ref cneeded, .int cz, .int ct])), (cop, .inl (ckop, 3000, .inl cgop)), (ca, .inl (cka, 3000, .inl la_)), (cb, .inl (ckb, 3000, .inl cgb)), (cplace, .inl (ckplace, 3000, .inl cgplace)), (cnext, .inl (cknext, 3000, .inl cgnext)), (cneeded, .inl (ckneeded, 3000, .inl cgneeded)), (h0, .inr (7, [.ref ptok, .ref pnee, .ref pnam, .int ar, .ref pbui, .ref pdra, .int fu, .int x_fn2_4, .int x_fp2_5]))] := hD
          have hK : va_K (dC, dI) vwCl [(t1, .int), (t2, .int), (t3, .long), (f1, .long), (f2, .int), (f3, .int), (ckop, .int), (cka, .int), (ckb, .int), (ckplace, .int), (cknext, .int), (ckneeded, .int)] s := hK
          have hq_6 := hw
          try dsimp only at hq_6
          refine vx_widen (k := 1) (n := 6) (Nat.le_of_ble_eq_true rfl) (Nat.le_of_ble_eq_true rfl) ?_
          have hP9 := hP.sub (ws' := [(h0, .inr (7, [.ref ptok, .ref pnee, .ref pnam, .int ar, .ref pbui, .ref pdra, .int fu, .int x_fn2_4, .int x_fp2_5])), (pdra, .inr (9, [.ref gco, .ref gar, .ref gki, .ref gfu])), (ptok, .inr (10, [.ref ts, .ref tp, .ref tw, .int z, .int pa, .int so, .int pl, .long wd])), (ts, .inl (t1, 2001, .inl gs)), (tp, .inl (t2, 2001, .inl gp)), (tw, .inl (t3, 2001, .inr (.inl gw))), (gfu, .inr (3, [.ref fw, .ref fe, .ref ff, .int fz])), (fw, .inl (f1, 30, .inr (.inl fgw))), (fe, .inl (f2, 30, .inl fge)), (ff, .inl (f3, 150, .inl fgf)), (gco, .inr (2, [.ref cop, .ref ca, .ref cb, .ref cplace, .ref cnext, .ref cneeded, .int cz, .int ct])), (cop, .inl (ckop, 3000, .inl cgop)), (ca, .inl (cka, 3000, .inl la_)), (cb, .inl (ckb, 3000, .inl cgb)), (cplace, .inl (ckplace, 3000, .inl cgplace)), (cnext, .inl (cknext, 3000, .inl cgnext)), (cneeded, .inl (ckneeded, 3000, .inl cgneeded))]) [16, 0, 1, 2, 3, 4, 5, 6, 7, 8, 9, 10, 11, 12, 13, 14, 15] rfl
          have hD9 := hD.sub (ws' := [(h0, .inr (7, [.ref ptok, .ref pnee, .ref pnam, .int ar, .ref pbui, .ref pdra, .int fu, .int x_fn2_4, .int x_fp2_5])), (pdra, .inr (9, [.ref gco, .ref gar, .ref gki, .ref gfu])), (ptok, .inr (10, [.ref ts, .ref tp, .ref tw, .int z, .int pa, .int so, .int pl, .long wd])), (ts, .inl (t1, 2001, .inl gs)), (tp, .inl (t2, 2001, .inl gp)), (tw, .inl (t3, 2001, .inr (.inl gw))), (gfu, .inr (3, [.ref fw, .ref fe, .ref ff, .int fz])), (fw, .inl (f1, 30, .inr (.inl fgw))), (fe, .inl (f2, 30, .inl fge)), (ff, .inl (f3, 150, .inl fgf)), (gco, .inr (2, [.ref cop, .ref ca, .ref cb, .ref cplace, .ref cnext, .ref cneeded, .int cz, .int ct])), (cop, .inl (ckop, 3000, .inl cgop)), (ca, .inl (cka, 3000, .inl la_)), (cb, .inl (ckb, 3000, .inl cgb)), (cplace, .inl (ckplace, 3000, .inl cgplace)), (cnext, .inl (cknext, 3000, .inl cgnext)), (cneeded, .inl (ckneeded, 3000, .inl cgneeded))]) [16, 0, 1, 2, 3, 4, 5, 6, 7, 8, 9, 10, 11, 12, 13, 14, 15] (by decide) rfl
          have hK9 := hK.sub (tys' := [(t1, .int), (t2, .int), (t3, .long), (f1, .long), (f2, .int), (f3, .int), (ckop, .int), (cka, .int), (ckb, .int), (ckplace, .int), (cknext, .int), (ckneeded, .int)]) [0, 1, 2, 3, 4, 5, 6, 7, 8, 9, 10, 11] rfl
          exact vy_monoX vy_thr (vx_out (fun x hx => (hnh x hx).elim) hlocks hcell hcv hcl (fun t ht hvm => ⟨(la_, x_fn2_4, x_fp2_5), ⟨sp_rp_t hrp hcl0 (by omega) (by omega) (by omega), sp_rs_t hrs hcl0 (by omega)⟩, ⟨rfl, by rw [ht]; exact hP9, va_K.moved hvm hK9, hD9⟩, hS.F ht⟩) hS.2.2 (Nat.le_of_ble_eq_true rfl) (Nat.le_of_ble_eq_true rfl))
      · have ic_1 : i.toInt < cz.toInt := zi_nle c_1
        refine lv_aload_n hx hb dX7_resolveCalls_22 rfl (lv_at hl 3 rfl) ?_
        refine lv_iload_n hx hb dX7_resolveCalls_23 rfl (lv_at hl 0 rfl) ?_
        have hPc := hP.sub (ws' := [(h0, .inr (7, [.ref ptok, .ref pnee, .ref pnam, .int ar, .ref pbui, .ref pdra, .int fu, .int fn, .int fp])), (pdra, .inr (9, [.ref gco, .ref gar, .ref gki, .ref gfu])), (gco, .inr (2, [.ref cop, .ref ca, .ref cb, .ref cplace, .ref cnext, .ref cneeded, .int cz, .int ct])), (cop, .inl (ckop, 3000, .inl cgop)), (ca, .inl (cka, 3000, .inl la_)), (cb, .inl (ckb, 3000, .inl cgb)), (cplace, .inl (ckplace, 3000, .inl cgplace)), (cnext, .inl (cknext, 3000, .inl cgnext)), (cneeded, .inl (ckneeded, 3000, .inl cgneeded))]) [0, 1, 10, 11, 12, 13, 14, 15, 16] rfl
        have hDc := hD.sub (ws' := [(h0, .inr (7, [.ref ptok, .ref pnee, .ref pnam, .int ar, .ref pbui, .ref pdra, .int fu, .int fn, .int fp])), (pdra, .inr (9, [.ref gco, .ref gar, .ref gki, .ref gfu])), (gco, .inr (2, [.ref cop, .ref ca, .ref cb, .ref cplace, .ref cnext, .ref cneeded, .int cz, .int ct])), (cop, .inl (ckop, 3000, .inl cgop)), (ca, .inl (cka, 3000, .inl la_)), (cb, .inl (ckb, 3000, .inl cgb)), (cplace, .inl (ckplace, 3000, .inl cgplace)), (cnext, .inl (cknext, 3000, .inl cgnext)), (cneeded, .inl (ckneeded, 3000, .inl cgneeded))]) [0, 1, 10, 11, 12, 13, 14, 15, 16] (by decide) rfl
        have hKc := hK.sub (tys' := [(ckop, .int), (cka, .int), (ckb, .int), (ckplace, .int), (cknext, .int), (ckneeded, .int)]) [6, 7, 8, 9, 10, 11] rfl
        have hFc := va_free (wc := [(h0, .inr (7, [.ref ptok, .ref pnee, .ref pnam, .int ar, .ref pbui, .ref pdra, .int fu, .int fn, .int fp])), (pdra, .inr (9, [.ref gco, .ref gar, .ref gki, .ref gfu])), (gco, .inr (2, [.ref cop, .ref ca, .ref cb, .ref cplace, .ref cnext, .ref cneeded, .int cz, .int ct])), (cop, .inl (ckop, 3000, .inl cgop)), (ca, .inl (cka, 3000, .inl la_)), (cb, .inl (ckb, 3000, .inl cgb)), (cplace, .inl (ckplace, 3000, .inl cgplace)), (cnext, .inl (cknext, 3000, .inl cgnext)), (cneeded, .inl (ckneeded, 3000, .inl cgneeded))]) hD hS hAA [0, 1, 10, 11, 12, 13, 14, 15, 16] rfl
        refine va_calli (va_runV (As := [.int i]) (rest := []) ⟨hx, hb, hml, hown, hA⟩ (c_X7_isCall_x l dC dI aK aV h0 ptok pnee pnam pbui pdra ar fu fn fp gco gar gki gfu cop ca cb cplace cnext cneeded ckop cka ckb ckplace cknext ckneeded cz ct cgop la_ cgb cgplace cgnext cgneeded i H.size (by omega) (by omega) (by omega) (by omega) hcn (by omega) (by omega)) (cwV 1 hA (zw_V wi_1023 wi_1025 wi_34 wi_136 (zw_good wi_1026)) rfl rfl rfl (by decide +kernel) ⟨(Nat.le_of_ble_eq_true rfl), (Nat.le_of_ble_eq_true rfl)⟩) ⟨zP_blind, va_recv hKc hPc (ci := 7) (q0 := 0) rfl rfl, zz_pre hKc hPc hDc hN hT hS hFc⟩ rfl rfl hl.1 rfl (lv_room (Nat.le_of_ble_eq_true rfl)) dX7_resolveCalls_24 ⟨(Nat.le_of_ble_eq_true rfl), (Nat.le_of_ble_eq_true rfl)⟩) hS (fun q _ h => hFc q h) hFc (fun r_7 u t H1 locs ht hvm hw hB hz1 hk1 hS => ?_)
        obtain ⟨hP1, hK1, hD1⟩ := hB
        rw [ht] at hP1
        have hK1 := va_K.moved hvm.symm hK1
        obtain ⟨hP, hD⟩ := va_join (wr := [(ptok, .inr (10, [.ref ts, .ref tp, .ref tw, .int z, .int pa, .int so, .int pl, .long wd])), (ts, .inl (t1, 2001, .inl gs)), (tp, .inl (t2, 2001, .inl gp)), (tw, .inl (t3, 2001, .inr (.inl gw))), (gfu, .inr (3, [.ref fw, .ref fe, .ref ff, .int fz])), (fw, .inl (f1, 30, .inr (.inl fgw))), (fe, .inl (f2, 30, .inl fge)), (ff, .inl (f3, 150, .inl fgf))]) (w1 := [(h0, .inr (7, [.ref ptok, .ref pnee, .ref pnam, .int ar, .ref pbui, .ref pdra, .int fu, .int fn, .int fp])), (pdra, .inr (9, [.ref gco, .ref gar, .ref gki, .ref gfu])), (gco, .inr (2, [.ref cop, .ref ca, .ref cb, .ref cplace, .ref cnext, .ref cneeded, .int cz, .int ct])), (cop, .inl (ckop, 3000, .inl cgop)), (ca, .inl (cka, 3000, .inl la_)), (cb, .inl (ckb, 3000, .inl cgb)), (cplace, .inl (ckplace, 3000, .inl cgplace)), (cnext, .inl (cknext, 3000, .inl cgnext)), (cneeded, .inl (ckneeded, 3000, .inl cgneeded))]) hP hD [0, 1, 10, 11, 12, 13, 14, 15, 16] [2, 3, 4, 5, 6, 7, 8, 9] rfl rfl (by decide) (by decide) hk1 hFc hP1 hD1
        have hK := (hK.sub (tys' := [(t1, .int), (t2, .int), (t3, .long), (f1, .long), (f2, .int), (f3, .int)]) [0, 1, 2, 3, 4, 5] rfl).app hK1
        generalize H1 = H at hP hS ⊢
        have hP : va_P (dC, dI) vwCl [(ptok, .inr (10, [.ref ts, .ref tp, .ref tw, .int z, .int pa, .int so, .int pl, .long wd])), (ts, .inl (t1, 2001, .inl gs)), (tp, .inl (t2, 2001, .inl gp)), (tw, .inl (t3, 2001, .inr (.inl gw))), (gfu, .inr (3, [.ref fw, .ref fe, .ref ff, .int fz])), (fw, .inl (f1, 30, .inr (.inl fgw))), (fe, .inl (f2, 30, .inl fge)), (ff, .inl (f3, 150, .inl fgf)), (h0, .inr (7, [.ref ptok, .ref pnee, .ref pnam, .int ar, .ref pbui, .ref pdra, .int fu, .int fn, .int fp])), (pdra, .inr (9, [.ref gco, .ref gar, .ref gki, .ref gfu])), (gco, .inr (2, [.ref cop, .ref ca, .ref cb, .ref cplace, .ref cnext, .ref cneeded, .int cz, .int ct])), (cop, .inl (ckop, 3000, .inl cgop)), (ca, .inl (cka, 3000, .inl la_)), (cb, .inl (ckb, 3000, .inl cgb)), (cplace, .inl (ckplace, 3000, .inl cgplace)), (cnext, .inl (cknext, 3000, .inl cgnext)), (cneeded, .inl (ckneeded, 3000, .inl cgneeded))] H := hP
        have hD : va_D A [(ptok, .inr (10, [.ref ts, .ref tp, .ref tw, .int z, .int pa, .int so, .int pl, .long wd])), (ts, .inl (t1, 2001, .inl gs)), (tp, .inl (t2, 2001, .inl gp)), (tw, .inl (t3, 2001, .inr (.inl gw))), (gfu, .inr (3, [.ref fw, .ref fe, .ref ff, .int fz])), (fw, .inl (f1, 30, .inr (.inl fgw))), (fe, .inl (f2, 30, .inl fge)), (ff, .inl (f3, 150, .inl fgf)), (h0, .inr (7, [.ref ptok, .ref pnee, .ref pnam, .int ar, .ref pbui, .ref pdra, .int fu, .int fn, .int fp])), (pdra, .inr (9, [.ref gco, .ref gar, .ref gki, .ref gfu])), (gco, .inr (2, [.ref cop, .ref ca, .ref cb, .ref cplace, .ref cnext, .ref cneeded, .int cz, .int ct])), (cop, .inl (ckop, 3000, .inl cgop)), (ca, .inl (cka, 3000, .inl la_)), (cb, .inl (ckb, 3000, .inl cgb)), (cplace, .inl (ckplace, 3000, .inl cgplace)), (cnext, .inl (cknext, 3000, .inl cgnext)), (cneeded, .inl (ckneeded, 3000, .inl cgneeded))] := hD
        have hK : va_K (dC, dI) vwCl [(t1, .int), (t2, .int), (t3, .long), (f1, .long), (f2, .int), (f3, .int), (ckop, .int), (cka, .int), (ckb, .int), (ckplace, .int), (cknext, .int), (ckneeded, .int)] s := hK
        have hw_r_7 := hw
        try dsimp only at hw_r_7
        have hq_8 := hw
        refine lv_if_eq (tgt := 38) hx hb dX7_resolveCalls_27 (by decide) (fun c_9 => ?_) (fun c_9 => ?_)
        · have ic_9 : r_7.toInt = 0 := zi_eq c_9
          refine lv_iconst (v := 0) hx hb dX7_resolveCalls_38 (by decide) ?_
          refine lv_istore (lv' := [(4, .int 0), (3, .int i), (2, .int pc_), (1, .int nu), (0, .ref h0)]) hx hb dX7_resolveCalls_39 hl (by decide) rfl (fun ls hl => ?_)
          refine lv_iload hx hb dX7_resolveCalls_41 (lv_at hl 0 rfl) ?_
          refine lv_if_eq (tgt := 78) hx hb dX7_resolveCalls_43 (by decide) (fun _ => ?_) (fun c_0 => absurd (by decide) c_0)
          obtain ⟨x_10, ex_10⟩ : ∃ y : Int32, y = i + Int32.ofInt 1 := ⟨_, rfl⟩
          refine lv_iinc (v := x_10) (lv' := [(3, .int x_10), (4, .int 0), (2, .int pc_), (1, .int nu), (0, .ref h0)]) hx hb dX7_resolveCalls_78 hl (k := 1) rfl (by rw [ex_10]) (by decide) rfl (fun ls hl => ?_)
          have ix_10 : x_10.toInt = i.toInt + 1 := by rw [ex_10]; exact zi_addc (by decide) (by omega) (by omega)
          refine lv_goto (tgt := 8) hx hb dX7_resolveCalls_81 (by decide) ?_
          have hrs_12 : sp_rs cgop cgb gw fgw fgf fz cga la_ (Int32.toInt nu) (Int32.toInt x_10) (Int32.toInt cz) := sp_rs_n hrs (by omega) (by omega) (by omega)
          have hrp_13 : sp_rp cgop cgb cgplace gw fgw fgf fz cga (Int32.toInt nu) (Int32.toInt pc_) (Int32.toInt x_10) (Int32.toInt cz) := sp_rp_n hrp (by omega) (by omega) (by omega)
          have hrv_14 : sp_rv cgop gw fgw fz cga la_ (Int32.toInt nu) (Int32.toInt x_10) := sp_rv_n hrv (by omega) (by omega) (by omega)
          have hzr_11 : zrs cgop cgb fgf fz cga la_ (Int32.toInt nu) (Int32.toInt x_10) := zrs_n hzr (by omega) (by omega) (by omega)
          exact ih nu pc_ x_10 la_ _ _ _ (by omega) (by omega) (by omega) (by omega) hzr_11 hrs_12 hrv_14 hrp_13 (hP.sub [8, 9, 0, 1, 2, 3, 4, 5, 6, 7, 10, 11, 12, 13, 14, 15, 16] rfl) (hD.sub [8, 9, 0, 1, 2, 3, 4, 5, 6, 7, 10, 11, 12, 13, 14, 15, 16] (by decide) rfl) hS (lv_sub hl [0, 2, 3, 4] rfl)
        · have ic_9 : r_7.toInt ≠ 0 := zi_ne c_9
          refine lv_aload_n hx hb dX7_resolveCalls_30 rfl (lv_at hl 3 rfl) ?_
          refine lv_iload_n hx hb dX7_resolveCalls_31 rfl (lv_at hl 0 rfl) ?_
          have hPc := hP.sub (ws' := [(h0, .inr (7, [.ref ptok, .ref pnee, .ref pnam, .int ar, .ref pbui, .ref pdra, .int fu, .int fn, .int fp])), (pdra, .inr (9, [.ref gco, .ref gar, .ref gki, .ref gfu])), (ptok, .inr (10, [.ref ts, .ref tp, .ref tw, .int z, .int pa, .int so, .int pl, .long wd])), (ts, .inl (t1, 2001, .inl gs)), (tp, .inl (t2, 2001, .inl gp)), (tw, .inl (t3, 2001, .inr (.inl gw))), (gfu, .inr (3, [.ref fw, .ref fe, .ref ff, .int fz])), (fw, .inl (f1, 30, .inr (.inl fgw))), (fe, .inl (f2, 30, .inl fge)), (ff, .inl (f3, 150, .inl fgf)), (gco, .inr (2, [.ref cop, .ref ca, .ref cb, .ref cplace, .ref cnext, .ref cneeded, .int cz, .int ct])), (cop, .inl (ckop, 3000, .inl cgop)), (ca, .inl (cka, 3000, .inl la_)), (cb, .inl (ckb, 3000, .inl cgb)), (cplace, .inl (ckplace, 3000, .inl cgplace)), (cnext, .inl (cknext, 3000, .inl cgnext)), (cneeded, .inl (ckneeded, 3000, .inl cgneeded))]) [8, 9, 0, 1, 2, 3, 4, 5, 6, 7, 10, 11, 12, 13, 14, 15, 16] rfl
          have hDc := hD.sub (ws' := [(h0, .inr (7, [.ref ptok, .ref pnee, .ref pnam, .int ar, .ref pbui, .ref pdra, .int fu, .int fn, .int fp])), (pdra, .inr (9, [.ref gco, .ref gar, .ref gki, .ref gfu])), (ptok, .inr (10, [.ref ts, .ref tp, .ref tw, .int z, .int pa, .int so, .int pl, .long wd])), (ts, .inl (t1, 2001, .inl gs)), (tp, .inl (t2, 2001, .inl gp)), (tw, .inl (t3, 2001, .inr (.inl gw))), (gfu, .inr (3, [.ref fw, .ref fe, .ref ff, .int fz])), (fw, .inl (f1, 30, .inr (.inl fgw))), (fe, .inl (f2, 30, .inl fge)), (ff, .inl (f3, 150, .inl fgf)), (gco, .inr (2, [.ref cop, .ref ca, .ref cb, .ref cplace, .ref cnext, .ref cneeded, .int cz, .int ct])), (cop, .inl (ckop, 3000, .inl cgop)), (ca, .inl (cka, 3000, .inl la_)), (cb, .inl (ckb, 3000, .inl cgb)), (cplace, .inl (ckplace, 3000, .inl cgplace)), (cnext, .inl (cknext, 3000, .inl cgnext)), (cneeded, .inl (ckneeded, 3000, .inl cgneeded))]) [8, 9, 0, 1, 2, 3, 4, 5, 6, 7, 10, 11, 12, 13, 14, 15, 16] (by decide) rfl
          have hKc := hK.sub (tys' := [(t1, .int), (t2, .int), (t3, .long), (f1, .long), (f2, .int), (f3, .int), (ckop, .int), (cka, .int), (ckb, .int), (ckplace, .int), (cknext, .int), (ckneeded, .int)]) [0, 1, 2, 3, 4, 5, 6, 7, 8, 9, 10, 11] rfl
          have hFc := va_free (wc := [(h0, .inr (7, [.ref ptok, .ref pnee, .ref pnam, .int ar, .ref pbui, .ref pdra, .int fu, .int fn, .int fp])), (pdra, .inr (9, [.ref gco, .ref gar, .ref gki, .ref gfu])), (ptok, .inr (10, [.ref ts, .ref tp, .ref tw, .int z, .int pa, .int so, .int pl, .long wd])), (ts, .inl (t1, 2001, .inl gs)), (tp, .inl (t2, 2001, .inl gp)), (tw, .inl (t3, 2001, .inr (.inl gw))), (gfu, .inr (3, [.ref fw, .ref fe, .ref ff, .int fz])), (fw, .inl (f1, 30, .inr (.inl fgw))), (fe, .inl (f2, 30, .inl fge)), (ff, .inl (f3, 150, .inl fgf)), (gco, .inr (2, [.ref cop, .ref ca, .ref cb, .ref cplace, .ref cnext, .ref cneeded, .int cz, .int ct])), (cop, .inl (ckop, 3000, .inl cgop)), (ca, .inl (cka, 3000, .inl la_)), (cb, .inl (ckb, 3000, .inl cgb)), (cplace, .inl (ckplace, 3000, .inl cgplace)), (cnext, .inl (cknext, 3000, .inl cgnext)), (cneeded, .inl (ckneeded, 3000, .inl cgneeded))]) hD hS hAA [8, 9, 0, 1, 2, 3, 4, 5, 6, 7, 10, 11, 12, 13, 14, 15, 16] rfl
          refine va_calli (va_runV (As := [.int i]) (rest := []) ⟨hx, hb, hml, hown, hA⟩ (c_X7_resolveCall_x l dC dI aK aV h0 ptok pnee pnam pbui pdra ar fu fn fp gco gar gki gfu ts tp tw t1 t2 t3 z pa so pl wd gs gp gw fw fe ff f1 f2 f3 fz fgw fge fgf cop ca cb cplace cnext cneeded ckop cka ckb ckplace cknext ckneeded cz ct cgop la_ cgb cgplace cgnext cgneeded i H.size (by omega) (by omega) (by omega) (by omega) hgz (by omega) (by omega) hfe (by omega) (by omega) (by omega) (by omega) hcn (by omega) (by omega) (by have hi9 := zn_nat (x := i) (by omega); rw [hrs.1 _ (by omega)]; exact (hcl.1 (Int32.toNatClampNeg i) (by omega) (by omega)).1)) (cwV 1 hA (zw_V wi_1027 wi_1029 wi_35 wi_136 (zw_good wi_1030)) rfl rfl rfl (by decide +kernel) ⟨(Nat.le_of_ble_eq_true rfl), (Nat.le_of_ble_eq_true rfl)⟩) ⟨zP_blind, va_recv hKc hPc (ci := 7) (q0 := 0) rfl rfl, zz_pre hKc hPc hDc hN hT hS hFc⟩ rfl rfl hl.1 rfl (lv_room (Nat.le_of_ble_eq_true rfl)) dX7_resolveCalls_32 ⟨(Nat.le_of_ble_eq_true rfl), (Nat.le_of_ble_eq_true rfl)⟩) hS (fun q _ h => hFc q h) hFc (fun r_15 u t H1 locs ht hvm hw hB hz1 hk1 hS => ?_)
          obtain ⟨na_16, rfl⟩ : ∃ z, z = u := ⟨_, rfl⟩
          obtain ⟨hP1, hK1, hD1⟩ := hB
          rw [ht] at hP1
          have hK1 := va_K.moved hvm.symm hK1
          obtain ⟨hP, hD⟩ := va_join (wr := []) (w1 := [(h0, .inr (7, [.ref ptok, .ref pnee, .ref pnam, .int ar, .ref pbui, .ref pdra, .int fu, .int fn, .int fp])), (pdra, .inr (9, [.ref gco, .ref gar, .ref gki, .ref gfu])), (ptok, .inr (10, [.ref ts, .ref tp, .ref tw, .int z, .int pa, .int so, .int pl, .long wd])), (ts, .inl (t1, 2001, .inl gs)), (tp, .inl (t2, 2001, .inl gp)), (tw, .inl (t3, 2001, .inr (.inl gw))), (gfu, .inr (3, [.ref fw, .ref fe, .ref ff, .int fz])), (fw, .inl (f1, 30, .inr (.inl fgw))), (fe, .inl (f2, 30, .inl fge)), (ff, .inl (f3, 150, .inl fgf)), (gco, .inr (2, [.ref cop, .ref ca, .ref cb, .ref cplace, .ref cnext, .ref cneeded, .int cz, .int ct])), (cop, .inl (ckop, 3000, .inl cgop)), (ca, .inl (cka, 3000, .inl na_16)), (cb, .inl (ckb, 3000, .inl cgb)), (cplace, .inl (ckplace, 3000, .inl cgplace)), (cnext, .inl (cknext, 3000, .inl cgnext)), (cneeded, .inl (ckneeded, 3000, .inl cgneeded))]) hP hD [8, 9, 0, 1, 2, 3, 4, 5, 6, 7, 10, 11, 12, 13, 14, 15, 16] [] rfl rfl (by decide) (by decide) hk1 hFc hP1 hD1
          have hK := (hK.sub (tys' := []) [] rfl).app hK1
          generalize H1 = H at hP hS ⊢
          have hP : va_P (dC, dI) vwCl [(h0, .inr (7, [.ref ptok, .ref pnee, .ref pnam, .int ar, .ref pbui, .ref pdra, .int fu, .int fn, .int fp])), (pdra, .inr (9, [.ref gco, .ref gar, .ref gki, .ref gfu])), (ptok, .inr (10, [.ref ts, .ref tp, .ref tw, .int z, .int pa, .int so, .int pl, .long wd])), (ts, .inl (t1, 2001, .inl gs)), (tp, .inl (t2, 2001, .inl gp)), (tw, .inl (t3, 2001, .inr (.inl gw))), (gfu, .inr (3, [.ref fw, .ref fe, .ref ff, .int fz])), (fw, .inl (f1, 30, .inr (.inl fgw))), (fe, .inl (f2, 30, .inl fge)), (ff, .inl (f3, 150, .inl fgf)), (gco, .inr (2, [.ref cop, .ref ca, .ref cb, .ref cplace, .ref cnext, .ref cneeded, .int cz, .int ct])), (cop, .inl (ckop, 3000, .inl cgop)), (ca, .inl (cka, 3000, .inl na_16)), (cb, .inl (ckb, 3000, .inl cgb)), (cplace, .inl (ckplace, 3000, .inl cgplace)), (cnext, .inl (cknext, 3000, .inl cgnext)), (cneeded, .inl (ckneeded, 3000, .inl cgneeded))] H := hP
          have hD : va_D A [(h0, .inr (7, [.ref ptok, .ref pnee, .ref pnam, .int ar, .ref pbui, .ref pdra, .int fu, .int fn, .int fp])), (pdra, .inr (9, [.ref gco, .ref gar, .ref gki, .ref gfu])), (ptok, .inr (10, [.ref ts, .ref tp, .ref tw, .int z, .int pa, .int so, .int pl, .long wd])), (ts, .inl (t1, 2001, .inl gs)), (tp, .inl (t2, 2001, .inl gp)), (tw, .inl (t3, 2001, .inr (.inl gw))), (gfu, .inr (3, [.ref fw, .ref fe, .ref ff, .int fz])), (fw, .inl (f1, 30, .inr (.inl fgw))), (fe, .inl (f2, 30, .inl fge)), (ff, .inl (f3, 150, .inl fgf)), (gco, .inr (2, [.ref cop, .ref ca, .ref cb, .ref cplace, .ref cnext, .ref cneeded, .int cz, .int ct])), (cop, .inl (ckop, 3000, .inl cgop)), (ca, .inl (cka, 3000, .inl na_16)), (cb, .inl (ckb, 3000, .inl cgb)), (cplace, .inl (ckplace, 3000, .inl cgplace)), (cnext, .inl (cknext, 3000, .inl cgnext)), (cneeded, .inl (ckneeded, 3000, .inl cgneeded))] := hD
          have hK : va_K (dC, dI) vwCl [(t1, .int), (t2, .int), (t3, .long), (f1, .long), (f2, .int), (f3, .int), (ckop, .int), (cka, .int), (ckb, .int), (ckplace, .int), (cknext, .int), (ckneeded, .int)] s := hK
          have hw_r_15 := hw
          try dsimp only at hw_r_15
          obtain ⟨hq_17, hq_18⟩ := hw
          obtain ⟨v9, hv9, hw9, hfd9⟩ := hq_17
          refine lv_goto (tgt := 39) hx hb dX7_resolveCalls_35 (by decide) ?_
          refine lv_istore (lv' := [(4, .int r_15), (3, .int i), (2, .int pc_), (1, .int nu), (0, .ref h0)]) hx hb dX7_resolveCalls_39 hl (by decide) rfl (fun ls hl => ?_)
          refine lv_iload hx hb dX7_resolveCalls_41 (lv_at hl 0 rfl) ?_
          refine lv_if_eq (tgt := 78) hx hb dX7_resolveCalls_43 (by decide) (fun c_19 => ?_) (fun c_19 => ?_)
          · have ic_19 : r_15.toInt = 0 := zi_eq c_19
            obtain ⟨x_20, ex_20⟩ : ∃ y : Int32, y = i + Int32.ofInt 1 := ⟨_, rfl⟩
            refine lv_iinc (v := x_20) (lv' := [(3, .int x_20), (4, .int r_15), (2, .int pc_), (1, .int nu), (0, .ref h0)]) hx hb dX7_resolveCalls_78 hl (k := 1) rfl (by rw [ex_20]) (by decide) rfl (fun ls hl => ?_)
            have ix_20 : x_20.toInt = i.toInt + 1 := by rw [ex_20]; exact zi_addc (by decide) (by omega) (by omega)
            refine lv_goto (tgt := 8) hx hb dX7_resolveCalls_81 (by decide) ?_
            have hrs_22 : sp_rs cgop cgb gw fgw fgf fz cga na_16 (Int32.toInt nu) (Int32.toInt x_20) (Int32.toInt cz) := sp_rs_c hrs (by omega) hv9 hq_18 (by omega) (by omega)
            have hrp_23 : sp_rp cgop cgb cgplace gw fgw fgf fz cga (Int32.toInt nu) (Int32.toInt pc_) (Int32.toInt x_20) (Int32.toInt cz) := sp_rp_c hrp (by omega) (hrs.1 _ (by have := zn_nat (x := i) (by omega); omega)) hq_18 (by omega) (by omega)
            have hrv_24 : sp_rv cgop gw fgw fz cga na_16 (Int32.toInt nu) (Int32.toInt x_20) := sp_rv_c hrv (by omega) hv9 (hrs.1 _ (by have := zn_nat (x := i) (by omega); omega)) hfd9 (by omega)
            have hzr_21 : zrs cgop cgb fgf fz cga na_16 (Int32.toInt nu) (Int32.toInt x_20) := zrs_c hzr (by omega) (by omega) hv9 (fun _ => hw9 (by omega)) (by omega)
            exact ih nu pc_ x_20 na_16 _ _ _ (by omega) (by omega) (by omega) (by omega) hzr_21 hrs_22 hrv_24 hrp_23 (hP.sub [0, 1, 2, 3, 4, 5, 6, 7, 8, 9, 10, 11, 12, 13, 14, 15, 16] rfl) (hD.sub [0, 1, 2, 3, 4, 5, 6, 7, 8, 9, 10, 11, 12, 13, 14, 15, 16] (by decide) rfl) hS (lv_sub hl [0, 2, 3, 4] rfl)
          · have ic_19 : r_15.toInt ≠ 0 := zi_ne c_19
            have hp9 : (cgplace (Int32.toNatClampNeg i)).toInt < 2000 := hcp (Int32.toNatClampNeg i) (by have := zn_nat (x := i) (by omega); omega) (zop_67 (by omega))
            refine lv_aload_n hx hb dX7_resolveCalls_46 rfl (lv_at hl 4 rfl) ?_
            refine va_get (D := (dC, dI)) (ci := 7) (v := .ref pdra) (C := RX7) (T := TX7) (N := 9) hx hb hA zin_X7 hown hK hP 0 rfl rfl 5 (by decide) (hA _ wi_392) (fun _ h9 => h9) rfl dX7_resolveCalls_47 ?_
            refine va_get (D := (dC, dI)) (ci := 9) (v := .ref gco) (C := RX9) (T := TX9) (N := 4) hx hb hA zin_X9 hown hK hP 1 rfl rfl 0 (by decide) (hA _ wi_311) (fun _ h9 => h9) rfl dX7_resolveCalls_50 ?_
            refine va_get (D := (dC, dI)) (ci := 2) (v := .ref cplace) (C := RX2) (T := TX2) (N := 8) hx hb hA zin_X2 hown hK hP 10 rfl rfl 3 (by decide) (hA _ wi_190) (fun _ h9 => h9) rfl dX7_resolveCalls_53 ?_
            refine lv_iload_n hx hb dX7_resolveCalls_56 rfl (lv_at hl 1 rfl) ?_
            refine va_iald hx hb hK hP 14 9 rfl rfl (vp_in_iff.mpr ⟨by omega, by omega⟩) dX7_resolveCalls_57 ?_
            refine lv_topi (fun x_25 ex_25 => ?_)
            have ix_25 : x_25.toInt = (cgplace (Int32.toNatClampNeg i)).toInt := by rw [ex_25]
            refine lv_iload_n hx hb dX7_resolveCalls_58 rfl (lv_at hl 2 rfl) ?_
            refine lv_icmp_ge (tgt := 78) hx hb dX7_resolveCalls_59 (by decide) (fun c_26 => ?_) (fun c_26 => ?_)
            · have ic_26 : pc_.toInt ≤ x_25.toInt := zi_le c_26
              obtain ⟨x_27, ex_27⟩ : ∃ y : Int32, y = i + Int32.ofInt 1 := ⟨_, rfl⟩
              refine lv_iinc (v := x_27) (lv' := [(3, .int x_27), (4, .int r_15), (2, .int pc_), (1, .int nu), (0, .ref h0)]) hx hb dX7_resolveCalls_78 hl (k := 1) rfl (by rw [ex_27]) (by decide) rfl (fun ls hl => ?_)
              have ix_27 : x_27.toInt = i.toInt + 1 := by rw [ex_27]; exact zi_addc (by decide) (by omega) (by omega)
              refine lv_goto (tgt := 8) hx hb dX7_resolveCalls_81 (by decide) ?_
              have hrs_29 : sp_rs cgop cgb gw fgw fgf fz cga na_16 (Int32.toInt nu) (Int32.toInt x_27) (Int32.toInt cz) := sp_rs_k hrs (by omega) hv9 (by omega) (by omega)
              have hrp_30 : sp_rp cgop cgb cgplace gw fgw fgf fz cga (Int32.toInt nu) (Int32.toInt pc_) (Int32.toInt x_27) (Int32.toInt cz) := sp_rp_k hrp (by omega) (by omega) (by omega) (by omega)
              have hrv_31 : sp_rv cgop gw fgw fz cga na_16 (Int32.toInt nu) (Int32.toInt x_27) := sp_rv_x (by omega)
              have hzr_28 : zrs cgop cgb fgf fz cga na_16 (Int32.toInt nu) (Int32.toInt x_27) := zrs_x hzr (by omega) hv9 (by omega)
              exact ih nu pc_ x_27 na_16 _ _ _ (by omega) (by omega) (by omega) (by omega) hzr_28 hrs_29 hrv_31 hrp_30 (hP.sub [0, 1, 2, 3, 4, 5, 6, 7, 8, 9, 10, 11, 12, 13, 14, 15, 16] rfl) (hD.sub [0, 1, 2, 3, 4, 5, 6, 7, 8, 9, 10, 11, 12, 13, 14, 15, 16] (by decide) rfl) hS (lv_sub hl [0, 2, 3, 4] rfl)
            · have ic_26 : x_25.toInt < pc_.toInt := zi_nle c_26
              refine lv_iload hx hb dX7_resolveCalls_62 (lv_at hl 0 rfl) ?_
              refine lv_istore_n (lv' := [(1, .int r_15), (4, .int r_15), (3, .int i), (2, .int pc_), (0, .ref h0)]) hx hb dX7_resolveCalls_64 rfl hl (by decide) rfl (fun ls hl => ?_)
              refine lv_aload_n hx hb dX7_resolveCalls_65 rfl (lv_at hl 4 rfl) ?_
              refine va_get (D := (dC, dI)) (ci := 7) (v := .ref pdra) (C := RX7) (T := TX7) (N := 9) hx hb hA zin_X7 hown hK hP 0 rfl rfl 5 (by decide) (hA _ wi_392) (fun _ h9 => h9) rfl dX7_resolveCalls_66 ?_
              refine va_get (D := (dC, dI)) (ci := 9) (v := .ref gco) (C := RX9) (T := TX9) (N := 4) hx hb hA zin_X9 hown hK hP 1 rfl rfl 0 (by decide) (hA _ wi_311) (fun _ h9 => h9) rfl dX7_resolveCalls_69 ?_
              refine va_get (D := (dC, dI)) (ci := 2) (v := .ref cplace) (C := RX2) (T := TX2) (N := 8) hx hb hA zin_X2 hown hK hP 10 rfl rfl 3 (by decide) (hA _ wi_190) (fun _ h9 => h9) rfl dX7_resolveCalls_72 ?_
              refine lv_iload_n hx hb dX7_resolveCalls_75 rfl (lv_at hl 2 rfl) ?_
              refine va_iald hx hb hK hP 14 9 rfl rfl (vp_in_iff.mpr ⟨by omega, by omega⟩) dX7_resolveCalls_76 ?_
              refine lv_topi (fun x_32 ex_32 => ?_)
              have jx_32 : x_32.toInt = x_25.toInt := by rw [ex_32, ex_25]
              have ix_32 : x_32.toInt = (cgplace (Int32.toNatClampNeg i)).toInt := by rw [ex_32]
              refine lv_istore_n (lv' := [(2, .int x_32), (1, .int r_15), (4, .int r_15), (3, .int i), (0, .ref h0)]) hx hb dX7_resolveCalls_77 rfl hl (by decide) rfl (fun ls hl => ?_)
              obtain ⟨x_33, ex_33⟩ : ∃ y : Int32, y = i + Int32.ofInt 1 := ⟨_, rfl⟩
              refine lv_iinc (v := x_33) (lv' := [(3, .int x_33), (2, .int x_32), (1, .int r_15), (4, .int r_15), (0, .ref h0)]) hx hb dX7_resolveCalls_78 hl (k := 3) rfl (by rw [ex_33]) (by decide) rfl (fun ls hl => ?_)
              have ix_33 : x_33.toInt = i.toInt + 1 := by rw [ex_33]; exact zi_addc (by decide) (by omega) (by omega)
              refine lv_goto (tgt := 8) hx hb dX7_resolveCalls_81 (by decide) ?_
              have hrs_35 : sp_rs cgop cgb gw fgw fgf fz cga na_16 (Int32.toInt r_15) (Int32.toInt x_33) (Int32.toInt cz) := sp_rs_x hrs (by omega) (by omega) (by omega) hv9 hq_18 (by omega) (by omega) (by omega)
              have hrp_36 : sp_rp cgop cgb cgplace gw fgw fgf fz cga (Int32.toInt r_15) (Int32.toInt x_32) (Int32.toInt x_33) (Int32.toInt cz) := sp_rp_x hrp (by omega) (by omega) (by omega) (hrs.1 _ (by have := zn_nat (x := i) (by omega); omega)) hq_18 (by omega) (by omega) (by omega) (by omega) (by omega)
              have hrv_37 : sp_rv cgop gw fgw fz cga na_16 (Int32.toInt r_15) (Int32.toInt x_33) := sp_rv_x (by omega)
              have hzr_34 : zrs cgop cgb fgf fz cga na_16 (Int32.toInt r_15) (Int32.toInt x_33) := zrs_x hzr (by omega) hv9 (by omega)
              exact ih r_15 x_32 x_33 na_16 _ _ _ (by omega) (by omega) (by omega) (by omega) hzr_34 hrs_35 hrv_37 hrp_36 (hP.sub [0, 1, 2, 3, 4, 5, 6, 7, 8, 9, 10, 11, 12, 13, 14, 15, 16] rfl) (hD.sub [0, 1, 2, 3, 4, 5, 6, 7, 8, 9, 10, 11, 12, 13, 14, 15, 16] (by decide) rfl) hS (lv_sub hl [0, 1, 2, 4] rfl)
  have hrs_39 : sp_rs cgop cgb gw fgw fgf fz cga cga (Int32.toInt 0) (Int32.toInt 0) (Int32.toInt cz) := sp_rs_0 (by decide) (by decide)
  have hrp_40 : sp_rp cgop cgb cgplace gw fgw fgf fz cga (Int32.toInt 0) (Int32.toInt 2000) (Int32.toInt 0) (Int32.toInt cz) := sp_rp_0 (by decide) (by decide)
  have hrv_41 : sp_rv cgop gw fgw fz cga cga (Int32.toInt 0) (Int32.toInt 0) := sp_rv_0 (by decide)
  have hzr_38 : zrs cgop cgb fgf fz cga cga (Int32.toInt 0) (Int32.toInt 0) := zrs_0 (by decide)
  exact loop_8 _ 0 2000 0 cga _ _ _ (Nat.le_refl _) (by have h9_0 : Int32.toInt 0 = 0 := (by decide); have h9_1 : Int32.toInt 2000 = 2000 := (by decide); omega) (by have h9_0 : Int32.toInt 0 = 0 := (by decide); have h9_1 : Int32.toInt 2000 = 2000 := (by decide); omega) (by have h9_0 : Int32.toInt 0 = 0 := (by decide); have h9_1 : Int32.toInt 2000 = 2000 := (by decide); omega) hzr_38 hrs_39 hrv_41 hrp_40 (hP.sub [0, 1, 2, 3, 4, 5, 6, 7, 8, 9, 10, 11, 12, 13, 14, 15, 16] rfl) (hD.sub [0, 1, 2, 3, 4, 5, 6, 7, 8, 9, 10, 11, 12, 13, 14, 15, 16] (by decide) rfl) hS (lv_sub hl [0, 1, 2, 3] rfl)

end
section
/-! the names that a row needs, a bit each -/
def zbit (x : Int32) (k : Nat) : Bool := x.toBitVec.getLsbD k
theorem zbit_or (x y : Int32) (k : Nat) : zbit (x ||| y) k = (zbit x k || zbit y k) := by
  unfold zbit; rw [Int32.toBitVec_or, BitVec.getLsbD_or]
theorem zbit_and (x y : Int32) (k : Nat) : zbit (x &&& y) k = (zbit x k && zbit y k) := by
  unfold zbit; rw [Int32.toBitVec_and, BitVec.getLsbD_and]
theorem zbit_m1 : ∀ k : Fin 32, zbit (-1) k.val = true := by decide +kernel
theorem zbit_xor1 (x : Int32) {k : Nat} (hk : k < 32) : zbit (x ^^^ (-1)) k = !zbit x k := by
  have h := zbit_m1 ⟨k, hk⟩
  unfold zbit at *
  rw [Int32.toBitVec_xor, BitVec.getLsbD_xor]
  have h : (-1 : Int32).toBitVec.getLsbD k = true := h
  rw [h, Bool.xor_true]
theorem zbit_0 : ∀ k : Fin 32, zbit 0 k.val = false := by decide +kernel
theorem zbit_z {k : Nat} (hk : k < 32) : zbit 0 k = false := zbit_0 ⟨k, hk⟩
theorem zbit_s : ∀ j k : Fin 32, zbit ((1 : Int32) <<< (Int32.ofInt (j.val : Int) &&& 31)) k.val = (k.val == j.val) := by decide +kernel
theorem zi_of {y : Int32} {j : Nat} (h : y.toInt = (j : Int)) : y = Int32.ofInt (j : Int) := by rw [← h]; exact (Int32.ofInt_toInt y).symm
theorem zbit_sh {y : Int32} (h0 : 0 ≤ y.toInt) (h1 : y.toInt < 32) {k : Nat} (hk : k < 32) : zbit ((1 : Int32) <<< (y &&& 31)) k = (k == Int32.toNatClampNeg y) := by
  have hn := zn_nat h0
  have e := zi_of (y := y) (j := Int32.toNatClampNeg y) hn.symm
  have := zbit_s ⟨Int32.toNatClampNeg y, by omega⟩ ⟨k, hk⟩
  have this : zbit ((1 : Int32) <<< (Int32.ofInt ((Int32.toNatClampNeg y : Nat) : Int) &&& 31)) k = (k == Int32.toNatClampNeg y) := this
  rw [← e] at this
  exact this
theorem zbit_f : ∀ (w : Fin 4) (j : Fin 28) (k : Fin 32), zbit (((1 : Int32) <<< (Int32.ofInt (w.val : Int) &&& 31) - 1) <<< (Int32.ofInt (j.val : Int) &&& 31)) k.val = (decide (j.val ≤ k.val) && decide (k.val < j.val + w.val)) := by decide +kernel
theorem zbit_fl {x y : Int32} (h0 : 0 ≤ x.toInt) (h1 : x.toInt < 4) (g0 : 0 ≤ y.toInt) (g1 : y.toInt < 28) {k : Nat} (hk : k < 32) : zbit (((1 : Int32) <<< (x &&& 31) - 1) <<< (y &&& 31)) k = (decide (y.toInt ≤ (k : Int)) && decide ((k : Int) < y.toInt + x.toInt)) := by
  have hx := zn_nat h0
  have hy := zn_nat g0
  have ex := zi_of (y := x) (j := Int32.toNatClampNeg x) hx.symm
  have ey := zi_of (y := y) (j := Int32.toNatClampNeg y) hy.symm
  have t := zbit_f ⟨Int32.toNatClampNeg x, by omega⟩ ⟨Int32.toNatClampNeg y, by omega⟩ ⟨k, hk⟩
  have t : zbit (((1 : Int32) <<< (Int32.ofInt ((Int32.toNatClampNeg x : Nat) : Int) &&& 31) - 1) <<< (Int32.ofInt ((Int32.toNatClampNeg y : Nat) : Int) &&& 31)) k = (decide (Int32.toNatClampNeg y ≤ k) && decide (k < Int32.toNatClampNeg y + Int32.toNatClampNeg x)) := t
  rw [← ex, ← ey] at t
  rw [t]
  congr 1
  · exact decide_eq_decide.mpr (by omega)
  · exact decide_eq_decide.mpr (by omega)
/-- what is needed behind a row -/
def zbe (nx nd : Nat → Int32) (row : Int32) : Int32 := if row.toInt = -1 then 0 else if (nx (Int32.toNatClampNeg row)).toInt = -1 then 0 else nd (Int32.toNatClampNeg (nx (Int32.toNatClampNeg row)))
def zab (S : Nat → Nat → Int32) (nd : Nat → Int32) (k : Nat) : Nat → Int32 → Bool
  | 0, _ => false
  | n + 1, am => if am.toInt = -1 then false else (zbit (zbe (S 3) nd (S 6 (Int32.toNatClampNeg am))) k && !(decide ((S 8 (Int32.toNatClampNeg am)).toInt ≤ (k : Int)) && decide ((k : Int) < (S 8 (Int32.toNatClampNeg am)).toInt + zfl S (S 4 (Int32.toNatClampNeg am))))) || zab S nd k n (S 5 (Int32.toNatClampNeg am))
/-- bit k of what row r needs, by what comes behind it; b: what is needed behind it -/
def znb (S : Nat → Nat → Int32) (nd : Nat → Int32) (r : Nat) (b : Int32) (k : Nat) : Nat → Bool
  | 17 => false
  | 3 => zbit b k || k == Int32.toNatClampNeg (S 1 r)
  | 12 => zbit b k && !(k == Int32.toNatClampNeg (S 1 r))
  | 13 => zbit b k || zbit (zbe (S 3) nd (S 1 r)) k
  | 14 => zbit (zbe (S 3) nd (S 1 r)) k
  | 16 => zbit (zbe (S 3) nd (S 1 r)) k
  | 15 => k == Int32.toNatClampNeg (S 1 r) || zab S nd k 8 (S 2 r)
  | _ => zbit b k
/-- what is needed right behind row r -/
def zbh (S : Nat → Nat → Int32) (nd : Nat → Int32) (r : Nat) : Int32 := if (S 3 r).toInt = -1 then 0 else nd (Int32.toNatClampNeg (S 3 r))
def zeq (S : Nat → Nat → Int32) (nd : Nat → Int32) : List Nat → Prop
  | [] => True
  | r :: po => (∀ k, k < 32 → zbit (nd r) k = znb S nd r (zbh S nd r) k (Int32.toNatClampNeg (S 0 r))) ∧ zeq S nd po
theorem zli_nx {nx : Nat → Int32} : ∀ {po : List Nat} {r : Nat} {x : Int32}, zli nx x (r :: po) → ∀ q ∈ r :: po, (nx q).toInt = -1 ∨ Int32.toNatClampNeg (nx q) ∈ po
  | [], r, x, h, q, hq => by
    have e : q = r := (List.mem_cons.mp hq).elim id (fun g => (nomatch g))
    rw [e]; exact Or.inl h.2
  | y :: po, r, x, h, q, hq => by
    rcases List.mem_cons.mp hq with e | e
    · right
      have h2 : (nx r).toInt = (y : Int) := h.2.1
      have := zn_nat (x := nx r) (by omega)
      rw [e, show Int32.toNatClampNeg (nx r) = y by omega]
      exact List.mem_cons_self
    · rcases zli_nx h.2 q e with u | u
      · exact Or.inl u
      · exact Or.inr (List.mem_cons_of_mem _ u)
theorem zbe_ext {nx nd nd2 : Nat → Int32} {r : Nat} {po : List Nat} {row : Int32} (hch : ∀ q ∈ r :: po, (nx q).toInt = -1 ∨ Int32.toNatClampNeg (nx q) ∈ po) (hag : ∀ q ∈ po, nd2 q = nd q) (hr : row.toInt = -1 ∨ Int32.toNatClampNeg row ∈ r :: po) : zbe nx nd2 row = zbe nx nd row := by
  unfold zbe
  by_cases g : row.toInt = -1
  · rw [if_pos g, if_pos g]
  · rw [if_neg g, if_neg g]
    have hq := hr.resolve_left g
    rcases hch _ hq with u | u
    · rw [if_pos u, if_pos u]
    · by_cases v : (nx (Int32.toNatClampNeg row)).toInt = -1
      · rw [if_pos v, if_pos v]
      · rw [if_neg v, if_neg v, hag _ u]
theorem zab_ext {S : Nat → Nat → Int32} {G : Nat → Nat → Int} {nd nd2 : Nat → Int32} {f r k : Nat} {po : List Nat} (hch : ∀ q ∈ r :: po, (S 3 q).toInt = -1 ∨ Int32.toNatClampNeg (S 3 q) ∈ po) (hag : ∀ q ∈ po, nd2 q = nd q) : ∀ (n : Nat) {AL : List Nat} {x : Int32}, zli (S 5) x AL → (∀ m ∈ AL, zarm S G f r po m) → zab S nd2 k n x = zab S nd k n x
  | 0, _, _, _, _ => rfl
  | n + 1, [], x, h, _ => by
    have h : x.toInt = -1 := h
    unfold zab
    rw [if_pos h, if_pos h]
  | n + 1, y :: AL, x, h, ha => by
    have h1 : x.toInt = (y : Int) := h.1
    have hn := zn_nat (x := x) (by omega)
    have e : Int32.toNatClampNeg x = y := by omega
    unfold zab
    rw [e, if_neg (by omega), if_neg (by omega), zab_ext hch hag n h.2 (fun m hm => ha m (List.mem_cons_of_mem _ hm)), zbe_ext hch hag (Or.inr (ha y List.mem_cons_self).2.2.2.2.2.2.1)]
theorem znb_ext {S : Nat → Nat → Int32} {G : Nat → Nat → Int} {nd nd2 : Nat → Int32} {f r k : Nat} {po : List Nat} {b : Int32} (hch : ∀ q ∈ r :: po, (S 3 q).toInt = -1 ∨ Int32.toNatClampNeg (S 3 q) ∈ po) (hag : ∀ q ∈ po, nd2 q = nd q) (hz : zrow S G f r po) : znb S nd2 r b k (Int32.toNatClampNeg (S 0 r)) = znb S nd r b k (Int32.toNatClampNeg (S 0 r)) := by
  have h8 := hz.2.2.2.2.2.2.2
  generalize Int32.toNatClampNeg (S 0 r) = n at h8 ⊢
  have tg : ∀ h, ztg S G r po h → zbe (S 3) nd2 (S 1 r) = zbe (S 3) nd (S 1 r) := fun h t => zbe_ext hch hag (by
    rcases t with t | t
    · exact Or.inl t
    · exact Or.inr t.2.1)
  match n, h8 with
  | 0, _ => rfl
  | 1, _ => rfl
  | 2, _ => rfl
  | 3, _ => rfl
  | 4, _ => rfl
  | 5, _ => rfl
  | 6, _ => rfl
  | 7, _ => rfl
  | 8, _ => rfl
  | 9, _ => rfl
  | 10, _ => rfl
  | 11, _ => rfl
  | 12, _ => rfl
  | 13, h => simp only [zop] at h; simp only [znb]; rw [tg _ h.2.2.2]
  | 14, h => simp only [zop] at h; simp only [znb]; rw [tg _ h]
  | 15, h =>
    simp only [zop] at h
    obtain ⟨-, -, AL, -, h4, h5⟩ := h
    simp only [znb]
    rw [zab_ext hch hag 8 h4 h5]
  | 16, h => simp only [zop] at h; simp only [znb]; rw [tg _ h]
  | 17, _ => rfl
  | n + 18, h => exact h.elim
theorem zbh_ext {S : Nat → Nat → Int32} {nd nd2 : Nat → Int32} {r : Nat} {po : List Nat} (hch : ∀ q ∈ r :: po, (S 3 q).toInt = -1 ∨ Int32.toNatClampNeg (S 3 q) ∈ po) (hag : ∀ q ∈ po, nd2 q = nd q) : zbh S nd2 r = zbh S nd r := by
  unfold zbh
  rcases hch r List.mem_cons_self with u | u
  · rw [if_pos u, if_pos u]
  · by_cases v : (S 3 r).toInt = -1
    · rw [if_pos v, if_pos v]
    · rw [if_neg v, if_neg v, hag _ u]
theorem zeq_ext {S : Nat → Nat → Int32} {G : Nat → Nat → Int} {nd nd2 : Nat → Int32} : ∀ {X : List Nat} {x : Int32}, zli (S 3) x X → zall S G X → (∀ q ∈ X, nd2 q = nd q) → zeq S nd X → zeq S nd2 X
  | [], _, _, _, _, _ => trivial
  | r :: po, x, hl, ⟨⟨f, z⟩, ha⟩, hag, h => by
    have hch := zli_nx hl
    have hag2 : ∀ q ∈ po, nd2 q = nd q := fun q hq => hag q (List.mem_cons_of_mem _ hq)
    refine ⟨fun k hk => ?_, zeq_ext hl.2 ha hag2 h.2⟩
    rw [hag r List.mem_cons_self, znb_ext hch hag2 z, zbh_ext hch hag2]
    exact h.1 k hk
/-- one row more is marked -/
theorem zeq_st {S : Nat → Nat → Int32} {G : Nat → Nat → Int} {nd nd2 : Nat → Int32} {r : Nat} {po : List Nat} {x v : Int32} (hl : zli (S 3) x (r :: po)) (ha : zall S G (r :: po)) (h : zeq S nd po) (e : nd2 = upd nd r v) (hv : ∀ k, k < 32 → zbit v k = znb S nd r (zbh S nd r) k (Int32.toNatClampNeg (S 0 r))) : zeq S nd2 (r :: po) := by
  obtain ⟨⟨f, z⟩, ha2⟩ := ha
  have hch := zli_nx hl
  have hag : ∀ q ∈ po, nd2 q = nd q := fun q hq => by rw [e, zu_n (show q ≠ r from fun g => z.1 (g ▸ hq))]
  refine ⟨fun k hk => ?_, zeq_ext hl.2 ha2 hag h⟩
  rw [znb_ext hch hag z, zbh_ext hch hag, e, zu_s]
  exact hv k hk

end
section
/-! the needs and the shells of a tree's code -/
/-- rows that follow each other behind d -/
def zsg (nx : Nat → Int32) : Nat → List Nat → Prop
  | _, [] => True
  | d, x :: l => (nx d).toInt = (x : Int) ∧ zsg nx x l
theorem zsg_app {nx : Nat → Int32} : ∀ {X Y : List Nat} {d : Nat}, zsg nx d (X ++ Y) ↔ zsg nx d X ∧ zsg nx (zla d X) Y
  | [], Y, d => ⟨fun h => ⟨trivial, h⟩, fun h => h.2⟩
  | x :: l, Y, d => ⟨fun h => ⟨⟨h.1, (zsg_app.mp h.2).1⟩, (zsg_app.mp h.2).2⟩, fun h => ⟨h.1.1, zsg_app.mpr ⟨h.1.2, h.2⟩⟩⟩
theorem zbit_ge {x : Int32} {k : Nat} (h : 32 ≤ k) : zbit x k = false := by
  unfold zbit; exact BitVec.getLsbD_of_ge _ _ h
theorem zn_li7 {x : Int32} {n : Nat} (h : x.toInt = (n : Int)) : Int32.toNatClampNeg x = n := by
  have := zn_nat (x := x) (by omega)
  omega
/-- what is needed right behind row d -/
def zBe (nx nd : Nat → Int32) (d k : Nat) : Bool := zbit (if (nx d).toInt = -1 then 0 else nd (Int32.toNatClampNeg (nx d))) k
theorem zBe_ge {nx nd : Nat → Int32} {d k : Nat} (h : 32 ≤ k) : zBe nx nd d k = false := zbit_ge h
theorem zBe_1 {nx nd : Nat → Int32} {d x : Nat} (h : (nx d).toInt = (x : Int)) (k : Nat) : zBe nx nd d k = zbit (nd x) k := by
  unfold zBe
  rw [if_neg (by omega), show Int32.toNatClampNeg (nx d) = x from zn_li7 h]
theorem zbe_d {nx nd : Nat → Int32} {row : Int32} {d : Nat} (h : row.toInt = (d : Int)) (k : Nat) : zbit (zbe nx nd row) k = zBe nx nd d k := by
  unfold zbe zBe
  rw [if_neg (by omega), show Int32.toNatClampNeg row = d from zn_li7 h]
section
variable {op a b nx ak an ab al af kf ff pl bu : Nat → Int32} {cz ct az kz : Int32} {nd : Nat → Int32} {H : Int32 → Int64 → Prop} {alo ahi : Int}
/-- a row's needs by what is behind it -/
def zhz (S : Nat → Nat → Int32) (nd : Nat → Int32) (r : Nat) : Prop := ∀ k, k < 32 → zbit (nd r) k = znb S nd r (zbh S nd r) k (Int32.toNatClampNeg (S 0 r))
theorem zeq_hz {S : Nat → Nat → Int32} : ∀ {L : List Nat}, zeq S nd L → ∀ r ∈ L, zhz S nd r
  | r :: l, h, q, hq => (List.mem_cons.mp hq).elim (fun e => e ▸ h.1) (fun g => zeq_hz h.2 q g)
theorem hz_n {r n : Nat} (h : zhz (zst op a b nx ak an ab al af kf ff cz ct az kz) nd r) (ho : (op r).toInt = (n : Int)) (k : Nat) (hk : k < 32) : zbit (nd r) k = znb (zst op a b nx ak an ab al af kf ff cz ct az kz) nd r (zbh (zst op a b nx ak an ab al af kf ff cz ct az kz) nd r) k n := by
  have := h k hk
  rw [show Int32.toNatClampNeg ((zst op a b nx ak an ab al af kf ff cz ct az kz) 0 r) = n from zn_li7 ho] at this
  exact this
/-- rows that ask for nothing themselves -/
def zdf : Nat → Prop
  | 3 => False | 12 => False | 13 => False | 14 => False | 15 => False | 16 => False | 17 => False
  | _ => True
theorem hz_d {r n : Nat} (h : zhz (zst op a b nx ak an ab al af kf ff cz ct az kz) nd r) (ho : (op r).toInt = (n : Int)) (hn : zdf n) (k : Nat) : zbit (nd r) k = zBe nx nd r k := by
  by_cases hk : k < 32
  · rw [hz_n h ho k hk]
    match n, hn with
    | 0, _ => rfl
    | 1, _ => rfl
    | 2, _ => rfl
    | 4, _ => rfl
    | 5, _ => rfl
    | 6, _ => rfl
    | 7, _ => rfl
    | 8, _ => rfl
    | 9, _ => rfl
    | 10, _ => rfl
    | 11, _ => rfl
    | n + 18, _ => rfl
  · rw [zbit_ge (by omega), zBe_ge (by omega)]
theorem hz_use {r s : Nat} (h : zhz (zst op a b nx ak an ab al af kf ff cz ct az kz) nd r) (ho : (op r).toInt = 3) (ha : (a r).toInt = (s : Int)) (hs : s < 32) (k : Nat) : zbit (nd r) k = (zBe nx nd r k || k == s) := by
  by_cases hk : k < 32
  · rw [hz_n (n := 3) h ho k hk]
    show (zBe nx nd r k || k == Int32.toNatClampNeg (a r)) = _
    rw [show Int32.toNatClampNeg (a r) = s from zn_li7 ha]
  · rw [zbit_ge (by omega), zBe_ge (by omega), show (k == s) = false from beq_eq_false_iff_ne.mpr (by omega)]; rfl
theorem hz_let {r s : Nat} (h : zhz (zst op a b nx ak an ab al af kf ff cz ct az kz) nd r) (ho : (op r).toInt = 12) (ha : (a r).toInt = (s : Int)) (k : Nat) : zbit (nd r) k = (zBe nx nd r k && !(k == s)) := by
  by_cases hk : k < 32
  · rw [hz_n (n := 12) h ho k hk]
    show (zBe nx nd r k && !(k == Int32.toNatClampNeg (a r))) = _
    rw [show Int32.toNatClampNeg (a r) = s from zn_li7 ha]
  · rw [zbit_ge (by omega), zBe_ge (by omega)]; rfl
theorem hz_if {r j : Nat} (h : zhz (zst op a b nx ak an ab al af kf ff cz ct az kz) nd r) (ho : (op r).toInt = 13) (ha : (a r).toInt = (j : Int)) (k : Nat) : zbit (nd r) k = (zBe nx nd r k || zBe nx nd j k) := by
  by_cases hk : k < 32
  · rw [hz_n (n := 13) h ho k hk]
    show (zBe nx nd r k || zbit (zbe nx nd (a r)) k) = _
    rw [zbe_d ha]
  · rw [zbit_ge (by omega), zBe_ge (by omega), zBe_ge (by omega)]; rfl
theorem hz_jmp {r j n : Nat} (h : zhz (zst op a b nx ak an ab al af kf ff cz ct az kz) nd r) (ho : (op r).toInt = (n : Int)) (hn : n = 14 ∨ n = 16) (ha : (a r).toInt = (j : Int)) (k : Nat) : zbit (nd r) k = zBe nx nd j k := by
  by_cases hk : k < 32
  · rw [hz_n h ho k hk, ← zbe_d ha]
    rcases hn with rfl | rfl <;> rfl
  · rw [zbit_ge (by omega), zBe_ge (by omega)]
theorem zab_ge {S : Nat → Nat → Int32} {k : Nat} (hk : 32 ≤ k) : ∀ (n : Nat) (x : Int32), zab S nd k n x = false
  | 0, _ => rfl
  | n + 1, x => by
    unfold zab
    split
    · rfl
    · rw [zbit_ge hk, zab_ge hk n]; rfl
theorem hz_mat {r s : Nat} (h : zhz (zst op a b nx ak an ab al af kf ff cz ct az kz) nd r) (ho : (op r).toInt = 15) (ha : (a r).toInt = (s : Int)) (hs : s < 32) (k : Nat) : zbit (nd r) k = (k == s || zab (zst op a b nx ak an ab al af kf ff cz ct az kz) nd k 8 (b r)) := by
  by_cases hk : k < 32
  · rw [hz_n (n := 15) h ho k hk]
    show (k == Int32.toNatClampNeg (a r) || zab (zst op a b nx ak an ab al af kf ff cz ct az kz) nd k 8 (b r)) = _
    rw [show Int32.toNatClampNeg (a r) = s from zn_li7 ha]
  · rw [zbit_ge (by omega), show (k == s) = false from beq_eq_false_iff_ne.mpr (by omega), zab_ge (by omega)]; rfl
/-- an arm's fields -/
theorem zfl_m {k : Int} {m z : Nat} {x : Int32} (hk : 0 ≤ kz.toInt) (hz : z = Int32.toNatClampNeg kz) (hx : x.toInt = if k = -1 then -2 else k) (h : k = -1 ∧ m = 0 ∨ ∃ j : Nat, k = (j : Int) ∧ j < z ∧ (kf j).toInt = (m : Int)) : zfl (zst op a b nx ak an ab al af kf ff cz ct az kz) x = (m : Int) := by
  have hn := zn_nat hk
  rcases h with ⟨h1, h2⟩ | ⟨j, e, j1, j2⟩
  · rw [if_pos h1] at hx
    unfold zfl
    rw [if_neg (by omega)]; omega
  · rw [if_neg (by omega)] at hx
    have ej : Int32.toNatClampNeg x = j := zn_li7 (by omega)
    unfold zfl
    show (if 0 ≤ x.toInt ∧ x.toInt < kz.toInt ∧ 0 < (kf (Int32.toNatClampNeg x)).toInt then (kf (Int32.toNatClampNeg x)).toInt else 0) = (m : Int)
    rw [ej, j2]
    by_cases u : 0 < (m : Int)
    · rw [if_pos ⟨by omega, by omega, u⟩]
    · rw [if_neg (fun g => u g.2.2)]; omega
theorem op_df (o : Int) : ∃ n : Nat, cI_op o = (n : Int) ∧ zdf n := by
  unfold cI_op
  split
  · exact ⟨8, rfl, trivial⟩
  · split
    · exact ⟨9, rfl, trivial⟩
    · split
      · exact ⟨10, rfl, trivial⟩
      · exact ⟨11, rfl, trivial⟩
theorem bo_let {u B e : Bool} (h : B = true → e = false) : ((u || B) && !e) = (u && !e || B) := by
  cases u <;> cases B <;> cases e <;> simp_all
theorem cUb {z : Nat} (hkz : 0 ≤ kz.toInt) (hz : z = Int32.toNatClampNeg kz) : ∀ (t : Tm) {bb : Bool}, tm_sy t bb →
    (tm_k t = 1 ∨ tm_li t → bb = false → ∀ {X : List Nat} {d c : Nat}, cI (zcs op a b pl ak an ab al af bu) H alo ahi t false 0 0 0 X → zsg nx d X → (∀ r ∈ X, zhz (zst op a b nx ak an ab al af kf ff cz ct az kz) nd r) → tm_wf z kf t c → c ≤ 24 → (∀ k, zBe nx nd (zla d X) k = true → k < c) → ∀ k, zBe nx nd d k = (tm_ub t k || zBe nx nd (zla d X) k)) ∧
    (tm_k t = 2 → ∀ {mo : Bool} {pv : Nat} {ar : Int32} {en : Nat} {X : List Nat} {c : Nat}, cI (zcs op a b pl ak an ab al af bu) H alo ahi t mo pv ar en X → zsg nx pv X → (∀ r ∈ X, zhz (zst op a b nx ak an ab al af kf ff cz ct az kz) nd r) → tm_wf z kf t c → (∀ k, zBe nx nd en k = true → k < c) → ∀ k, (zbit (zbe nx nd (ab (Int32.toNatClampNeg ar))) k && !(decide ((af (Int32.toNatClampNeg ar)).toInt ≤ (k : Int)) && decide ((k : Int) < (af (Int32.toNatClampNeg ar)).toInt + zfl (zst op a b nx ak an ab al af kf ff cz ct az kz) (ak (Int32.toNatClampNeg ar))))) = (tm_ub t k || zBe nx nd en k)) ∧
    (tm_li t → bb = true → ∀ {pv : Nat} {ar : Int32} {en : Nat} {X : List Nat} {c n : Nat}, cI (zcs op a b pl ak an ab al af bu) H alo ahi t true pv ar en X → zsg nx pv X → (∀ r ∈ X, zhz (zst op a b nx ak an ab al af kf ff cz ct az kz) nd r) → tm_wf z kf t c → (∀ k, zBe nx nd en k = true → k < c) → tm_ln t ≤ n → ∀ k, zab (zst op a b nx ak an ab al af kf ff cz ct az kz) nd k n ar = (tm_ub t k || (decide (0 < tm_ln t) && zBe nx nd en k)))
  | .leaf (some (0, _, _, _, _, _)), _, _ => by
    refine ⟨fun _ _ X d c h hs hr hw hc hB k => ?_, fun g => absurd (show (1 : Nat) = 2 from g) (by decide), fun g => g.elim⟩
    obtain ⟨r, rfl, h1, -⟩ := h
    rw [zBe_1 hs.1, hz_d (n := 2) (hr r (by simp)) h1 trivial]; rfl
  | .leaf (some (_ + 1, _, _, s, _, _)), _, _ => by
    refine ⟨fun _ _ X d c h hs hr hw hc hB k => ?_, fun g => absurd (show (1 : Nat) = 2 from g) (by decide), fun g => g.elim⟩
    obtain ⟨r, rfl, h1, h2, -⟩ := h
    have hw : s < c := hw
    rw [zBe_1 hs.1, hz_use (hr r (by simp)) h1 h2 (by omega), Bool.or_comm]; rfl
  | .branch 0 (.leaf (some (0, _, _, _, _, _))) x, _, ⟨l, y⟩ => by
    refine ⟨fun _ _ X d c h hs hr hw hc hB k => ?_, fun g => absurd (show (1 : Nat) = 2 from g) (by decide), fun g => g.elim⟩
    rcases h with ⟨q1, q2, r, rfl, h1, -⟩ | ⟨q1, s, Y, r, rfl, h1, -, h2, h3, -⟩
    · rw [zBe_1 hs.1, hz_d (n := 6) (hr r (by simp)) h1 trivial, q2]; rfl
    · obtain ⟨s1, s2⟩ := hs
      obtain ⟨s2, s3⟩ := zsg_app.mp s2
      have er := hz_d (n := 7) (hr r (by simp)) h3 trivial
      have e9 : ∀ k, zBe nx nd (zla s Y) k = zBe nx nd r k := fun k => (zBe_1 s3.1 k).trans (er k)
      have ez : zla d (s :: (Y ++ [r])) = r := by show zla s (Y ++ [r]) = r; rw [zla_app]; rfl
      rw [ez] at hB ⊢
      have e := (cUb hkz hz x y).1 (Or.inr l) rfl h2 s2 (fun q hq => hr q (by simp [hq])) hw hc (fun k g => hB k (by rw [← e9]; exact g)) k
      rw [zBe_1 s1, hz_d (n := 1) (hr s (by simp)) h1 trivial, e, e9]; rfl
  | .branch 0 (.leaf (some (1, _, _, _, _, _))) x, _, ⟨l, y⟩ => by
    refine ⟨fun _ _ X d c h hs hr hw hc hB k => ?_, fun g => absurd (show (1 : Nat) = 2 from g) (by decide), fun g => g.elim⟩
    rcases h with ⟨q1, q2, r, rfl, h1, -⟩ | ⟨q1, s, Y, r, rfl, h1, -, h2, h3, -⟩
    · rw [zBe_1 hs.1, hz_d (n := 4) (hr r (by simp)) h1 trivial, q2]; rfl
    · obtain ⟨s1, s2⟩ := hs
      obtain ⟨s2, s3⟩ := zsg_app.mp s2
      have er := hz_d (n := 5) (hr r (by simp)) h3 trivial
      have e9 : ∀ k, zBe nx nd (zla s Y) k = zBe nx nd r k := fun k => (zBe_1 s3.1 k).trans (er k)
      have ez : zla d (s :: (Y ++ [r])) = r := by show zla s (Y ++ [r]) = r; rw [zla_app]; rfl
      rw [ez] at hB ⊢
      have e := (cUb hkz hz x y).1 (Or.inr l) rfl h2 s2 (fun q hq => hr q (by simp [hq])) hw.2 hc (fun k g => hB k (by rw [← e9]; exact g)) k
      rw [zBe_1 s1, hz_d (n := 1) (hr s (by simp)) h1 trivial, e, e9]; rfl
  | .branch 1 (.leaf (some (0, _, o, _, _, _))) (.branch _ x y), _, ⟨⟨kx, yx⟩, ⟨ky, yy⟩⟩ => by
    refine ⟨fun _ _ X d c h hs hr hw hc hB k => ?_, fun g => absurd (show (1 : Nat) = 2 from g) (by decide), fun g => g.elim⟩
    obtain ⟨s, Y, Z, r, rfl, h1, -, h2, h3, h4, -⟩ := h
    obtain ⟨s1, s2⟩ := hs
    rw [List.append_assoc] at s2
    obtain ⟨s2, s3⟩ := zsg_app.mp s2
    obtain ⟨s3, s4⟩ := zsg_app.mp s3
    obtain ⟨n, hn, hd⟩ := op_df o
    have er := hz_d (n := n) (hr r (by simp)) (h4.trans hn) hd
    have e9 : ∀ k, zBe nx nd (zla (zla s Y) Z) k = zBe nx nd r k := fun k => (zBe_1 s4.1 k).trans (er k)
    have ez : zla d (s :: (Y ++ Z ++ [r])) = r := by show zla s (Y ++ Z ++ [r]) = r; rw [zla_app]; rfl
    rw [ez] at hB ⊢
    have ey := (cUb hkz hz y yy).1 (Or.inl ky) rfl h3 s3 (fun q hq => hr q (by simp [hq])) hw.2 hc (fun k g => hB k (by rw [← e9]; exact g))
    have ex := (cUb hkz hz x yx).1 (Or.inl kx) rfl h2 s2 (fun q hq => hr q (by simp [hq])) hw.1 hc (fun k g => by
      rw [ey, Bool.or_eq_true] at g
      rcases g with g | g
      · exact wf_ub y hw.2 g
      · exact hB k (by rw [← e9]; exact g)) k
    rw [zBe_1 s1, hz_d (n := 1) (hr s (by simp)) h1 trivial, ex, ey, e9, ← Bool.or_assoc]; rfl
  | .branch 1 (.leaf (some (_ + 1, _, _, v, _, _))) (.branch _ x y), _, ⟨⟨kx, yx⟩, ⟨ky, yy⟩⟩ => by
    refine ⟨fun _ _ X d c h hs hr hw hc hB k => ?_, fun g => absurd (show (1 : Nat) = 2 from g) (by decide), fun g => g.elim⟩
    obtain ⟨s, Y, r, Z, rfl, h1, -, h2, h3, h4, h5⟩ := h
    obtain ⟨⟨w1, w1b⟩, w2, w3⟩ := hw
    obtain ⟨s1, s2⟩ := hs
    rw [List.append_assoc] at s2
    obtain ⟨s2, s3⟩ := zsg_app.mp s2
    obtain ⟨s3, s4⟩ := s3
    have ez : zla d (s :: (Y ++ [r] ++ Z)) = zla r Z := by show zla s (Y ++ [r] ++ Z) = zla r Z; rw [zla_app, zla_app]; rfl
    rw [ez] at hB ⊢
    have ey := (cUb hkz hz y yy).1 (Or.inl ky) rfl h5 s4 (fun q hq => hr q (by simp [hq])) w3 (by omega) (fun k g => by have := hB k g; omega)
    have er : ∀ k, zBe nx nd (zla s Y) k = (tm_ub y k && !(k == v) || zBe nx nd (zla r Z) k) := fun k => by
      rw [zBe_1 s3, hz_let (hr r (by simp)) h3 h4, ey]
      exact bo_let (fun g => beq_eq_false_iff_ne.mpr (by have := hB k g; omega))
    have ex := (cUb hkz hz x yx).1 (Or.inl kx) rfl h2 s2 (fun q hq => hr q (by simp [hq])) w2 hc (fun k g => by
      rw [er, Bool.or_eq_true] at g
      rcases g with g | g
      · obtain ⟨g1, g2⟩ := (Bool.and_eq_true _ _).mp g
        have := wf_ub y w3 g1
        rw [Bool.not_eq_true', beq_eq_false_iff_ne] at g2
        omega
      · exact hB k g) k
    rw [zBe_1 s1, hz_d (n := 1) (hr s (by simp)) h1 trivial, ex, er, ← Bool.or_assoc]; rfl
  | .branch 2 (.leaf (some (_, _, _, _, _, _))) (.branch _ x (.branch _ y w)), _, ⟨⟨kx, yx⟩, ⟨ky, yy⟩, ⟨kw, yw⟩⟩ => by
    refine ⟨fun _ _ X d c h hs hr hw hc hB k => ?_, fun g => absurd (show (1 : Nat) = 2 from g) (by decide), fun g => g.elim⟩
    obtain ⟨s, Y, i, Z, j, U, rfl, h1, -, h2, h3, h4, -, h5, h6, h7, h8⟩ := h
    obtain ⟨s1, s2⟩ := hs
    rw [List.append_assoc, List.append_assoc, List.append_assoc] at s2
    obtain ⟨s2, s3⟩ := zsg_app.mp s2
    obtain ⟨s3, s4⟩ := s3
    have s4 : zsg nx i (Z ++ ([j] ++ U)) := s4
    obtain ⟨s4, s5⟩ := zsg_app.mp s4
    obtain ⟨s5, s6⟩ := s5
    have s6 : zsg nx j U := s6
    have ez : zla d (s :: (Y ++ [i] ++ Z ++ [j] ++ U)) = zla j U := by
      show zla s (Y ++ [i] ++ Z ++ [j] ++ U) = zla j U
      rw [zla_app, zla_app]; rfl
    rw [ez] at hB ⊢
    have ew := (cUb hkz hz w yw).1 (Or.inl kw) rfl h8 s6 (fun q hq => hr q (by simp [hq])) hw.2.2 hc hB
    have ej : ∀ k, zBe nx nd (zla i Z) k = zBe nx nd (zla j U) k := fun k => by
      rw [zBe_1 s5, hz_jmp (n := 14) (hr j (by simp)) h6 (Or.inl rfl) h7]
    have ey := (cUb hkz hz y yy).1 (Or.inl ky) rfl h5 s4 (fun q hq => hr q (by simp [hq])) hw.2.1 hc (fun k g => hB k (by rw [← ej]; exact g))
    have ei : ∀ k, zBe nx nd (zla s Y) k = (tm_ub y k || tm_ub w k || zBe nx nd (zla j U) k) := fun k => by
      rw [zBe_1 s3, hz_if (hr i (by simp)) h3 h4, ey, ew, ej]
      cases tm_ub y k <;> cases tm_ub w k <;> cases zBe nx nd (zla j U) k <;> rfl
    have ex := (cUb hkz hz x yx).1 (Or.inl kx) rfl h2 s2 (fun q hq => hr q (by simp [hq])) hw.1 hc (fun k g => by
      rw [ei, Bool.or_eq_true, Bool.or_eq_true] at g
      rcases g with (g | g) | g
      · exact wf_ub y hw.2.1 g
      · exact wf_ub w hw.2.2 g
      · exact hB k g) k
    rw [zBe_1 s1, hz_d (n := 1) (hr s (by simp)) h1 trivial, ex, ei]
    show _ = (tm_ub x k || tm_ub y k || tm_ub w k || zBe nx nd (zla j U) k)
    cases tm_ub x k <;> cases tm_ub y k <;> cases tm_ub w k <;> cases zBe nx nd (zla j U) k <;> rfl
  | .branch 0 (.leaf (some (2, _, _, v, _, _))) x, _, ⟨l, y⟩ => by
    refine ⟨fun _ _ X d c h hs hr hw hc hB k => ?_, fun g => absurd (show (1 : Nat) = 2 from g) (by decide), fun g => g.elim⟩
    obtain ⟨s, m, Y, rfl, h1, -, h2, h3, -, h4⟩ := h
    obtain ⟨⟨w1, w2, w3⟩, w4⟩ := hw
    obtain ⟨s1, s2, s3⟩ := hs
    have e := (cUb hkz hz x y).2.2 l rfl (n := 8) h4 s3 (fun q hq => hr q (by simp [hq])) w4 hB w3 k
    rw [decide_eq_true (show 0 < tm_ln x from Nat.pos_of_ne_zero (fun g => w2 (tm_li_0 l g))), Bool.true_and] at e
    rw [zBe_1 s1, hz_d (n := 1) (hr s (by simp)) h1 trivial, zBe_1 s2, hz_mat (hr m (by simp)) h2 h3 (by omega)]
    show (k == v || zab (zst op a b nx ak an ab al af kf ff cz ct az kz) nd k 8 ((zcs op a b pl ak an ab al af bu) 2 m)) = _
    rw [e, ← Bool.or_assoc]; rfl
  | .branch 0 (.leaf (some (_ + 3, _, kk, hh, m, _))) x, _, ⟨kx, yx⟩ => by
    refine ⟨fun g => g.elim (fun g => absurd (show (2 : Nat) = 1 from g) (by decide)) (fun g => g.elim), fun _ mo pv ar en X c h hs hr hw hE k => ?_, fun g => g.elim⟩
    obtain ⟨Y, v, rfl, ⟨b1, b2, b3⟩, h1, h2, h3, h4, -, h5, h6, h7⟩ := h
    obtain ⟨⟨⟨w1, w1b, w1c⟩, w2⟩, w3⟩ := hw
    obtain ⟨s1, s2⟩ := zsg_app.mp hs
    have ev : ∀ k, zBe nx nd (zla pv Y) k = zBe nx nd en k := fun k => by
      rw [zBe_1 s2.1, hz_jmp (n := 16) (hr v (by simp)) h5 (Or.inr rfl) h6]
    have e := (cUb hkz hz x yx).1 (Or.inl kx) rfl h7 s1 (fun q hq => hr q (by simp [hq])) w3 w1b (fun k g => by have := hE k (by rw [← ev]; exact g); omega) k
    rw [ev] at e
    have ef := zfl_m (op := op) (a := a) (b := b) (nx := nx) (ak := ak) (an := an) (ab := ab) (al := al) (af := af) (ff := ff) (cz := cz) (ct := ct) (az := az) hkz hz (x := ak (Int32.toNatClampNeg ar)) h1 w2
    have h4 : (af (Int32.toNatClampNeg ar)).toInt = (hh : Int) := h4
    rw [zbe_d (show (ab (Int32.toNatClampNeg ar)).toInt = (pv : Int) from h2), e, h4, ef]
    exact bo_let (fun g => by
      have := hE k g
      rw [Bool.and_eq_false_iff, decide_eq_false_iff_not, decide_eq_false_iff_not]; omega)
  | .branch 0 (.leaf none) _, _, _ => ⟨fun _ _ _ _ _ h => h.elim, fun g => absurd (show (0 : Nat) = 2 from g) (by decide), fun g => g.elim⟩
  | .branch 0 (.branch _ _ _) _, _, _ => ⟨fun _ _ _ _ _ h => h.elim, fun g => absurd (show (0 : Nat) = 2 from g) (by decide), fun g => g.elim⟩
  | .branch 1 (.leaf none) _, _, _ => ⟨fun _ _ _ _ _ h => h.elim, fun g => absurd (show (0 : Nat) = 2 from g) (by decide), fun g => g.elim⟩
  | .branch 1 (.branch _ _ _) _, _, _ => ⟨fun _ _ _ _ _ h => h.elim, fun g => absurd (show (0 : Nat) = 2 from g) (by decide), fun g => g.elim⟩
  | .branch 1 (.leaf (some (0, _, _, _, _, _))) (.leaf _), _, _ => ⟨fun _ _ _ _ _ h => h.elim, fun g => absurd (show (0 : Nat) = 2 from g) (by decide), fun g => g.elim⟩
  | .branch 1 (.leaf (some (_ + 1, _, _, _, _, _))) (.leaf _), _, _ => ⟨fun _ _ _ _ _ h => h.elim, fun g => absurd (show (0 : Nat) = 2 from g) (by decide), fun g => g.elim⟩
  | .branch 2 (.leaf none) _, _, _ => ⟨fun _ _ _ _ _ h => h.elim, fun g => absurd (show (0 : Nat) = 2 from g) (by decide), fun g => g.elim⟩
  | .branch 2 (.branch _ _ _) _, _, _ => ⟨fun _ _ _ _ _ h => h.elim, fun g => absurd (show (0 : Nat) = 2 from g) (by decide), fun g => g.elim⟩
  | .branch 2 (.leaf (some (_, _, _, _, _, _))) (.leaf _), _, _ => ⟨fun _ _ _ _ _ h => h.elim, fun g => absurd (show (0 : Nat) = 2 from g) (by decide), fun g => g.elim⟩
  | .branch 2 (.leaf (some (_, _, _, _, _, _))) (.branch _ _ (.leaf _)), _, _ => ⟨fun _ _ _ _ _ h => h.elim, fun g => absurd (show (0 : Nat) = 2 from g) (by decide), fun g => g.elim⟩
  | .leaf none, _, _ => by
    refine ⟨fun _ _ X d c h hs hr hw hc hB k => ?_, fun g => absurd (show (0 : Nat) = 2 from g) (by decide), fun _ _ pv ar en X c n h hs hr hw hE hn k => ?_⟩
    · obtain ⟨rfl, -⟩ := h
      rfl
    · obtain ⟨rfl, h⟩ := h
      have h := h rfl
      cases n with
      | zero => rfl
      | succ n => unfold zab; rw [if_pos h]; rfl
  | .branch (_ + 3) x y, bb, ⟨⟨kx, yx⟩, yy⟩ => by
    refine ⟨fun hp gb X d c h hs hr hw hc hB k => ?_, fun g => absurd (show (0 : Nat) = 2 from g) (by decide), fun gl gb pv ar en X c n h hs hr hw hE hn k => ?_⟩
    · subst gb
      have kx : tm_k x = 1 := kx
      obtain ⟨Y, Z, rfl, h1, h2, -⟩ := h
      obtain ⟨s1, s2⟩ := zsg_app.mp hs
      rw [zla_app] at hB ⊢
      have ey := (cUb hkz hz y yy).1 (Or.inr (hp.elim (fun g => absurd (show (0 : Nat) = 1 from g) (by decide)) id)) rfl h2 s2 (fun q hq => hr q (by simp [hq])) hw.2 hc hB
      have ex := (cUb hkz hz x yx).1 (Or.inl kx) rfl h1 s1 (fun q hq => hr q (by simp [hq])) hw.1 hc (fun k g => by
        rw [ey, Bool.or_eq_true] at g
        rcases g with g | g
        · exact wf_ub y hw.2 g
        · exact hB k g) k
      rw [ex, ey, ← Bool.or_assoc]; rfl
    · subst gb
      have kx : tm_k x = 2 := kx
      obtain ⟨Y, Z, rfl, h1, h2, h3⟩ := h
      obtain ⟨s1, s2⟩ := zsg_app.mp hs
      obtain ⟨b1, b2, b3⟩ := h3 rfl
      have hn : tm_ln y + 1 ≤ n := hn
      obtain ⟨n, rfl⟩ : ∃ q, n = q + 1 := ⟨n - 1, by omega⟩
      have ex := (cUb hkz hz x yx).2.1 kx h1 s1 (fun q hq => hr q (by simp [hq])) hw.1 hE k
      have ey := (cUb hkz hz y yy).2.2 gl rfl (n := n) h2 s2 (fun q hq => hr q (by simp [hq])) hw.2 hE (by omega) k
      unfold zab
      rw [if_neg (by omega)]
      show (zbit (zbe nx nd (ab (Int32.toNatClampNeg ar))) k && !(decide ((af (Int32.toNatClampNeg ar)).toInt ≤ (k : Int)) && decide ((k : Int) < (af (Int32.toNatClampNeg ar)).toInt + zfl (zst op a b nx ak an ab al af kf ff cz ct az kz) (ak (Int32.toNatClampNeg ar)))) || zab (zst op a b nx ak an ab al af kf ff cz ct az kz) nd k n (an (Int32.toNatClampNeg ar))) = (tm_ub x k || tm_ub y k || (decide (0 < tm_ln y + 1) && zBe nx nd en k))
      rw [ex, decide_eq_true (show 0 < tm_ln y + 1 by omega)]
      have ey : zab (zst op a b nx ak an ab al af kf ff cz ct az kz) nd k n (an (Int32.toNatClampNeg ar)) = _ := ey
      rw [ey]
      cases tm_ub x k <;> cases tm_ub y k <;> cases zBe nx nd en k <;> cases decide (0 < tm_ln y) <;> rfl
/-- is an arm's shell kept? -/
def zsI (S : Nat → Nat → Int32) (nd bu : Nat → Int32) (s x : Nat) : Int := if zbit (zbe (S 3) nd (S 6 x)) s = false ∧ 0 < zfl S (S 4 x) ∧ zbit (bu x) (zfl S (S 4 x)).toNat = true then 1 else 0
def zsA (S : Nat → Nat → Int32) (nd bu : Nat → Int32) (s : Nat) : Nat → Int32 → Int
  | 0, _ => 0
  | n + 1, x => if x.toInt = -1 then 0 else zsI S nd bu s (Int32.toNatClampNeg x) + zsA S nd bu s n (S 5 (Int32.toNatClampNeg x))
/-- the shells of rows -/
def zsR (S : Nat → Nat → Int32) (nd bu : Nat → Int32) : List Nat → Int
  | [] => 0
  | r :: l => (if (S 0 r).toInt = 15 then zsA S nd bu (Int32.toNatClampNeg (S 1 r)) 8 (S 2 r) else 0) + zsR S nd bu l
theorem zsR_app {S : Nat → Nat → Int32} {nd bu : Nat → Int32} : ∀ (X Y : List Nat), zsR S nd bu (X ++ Y) = zsR S nd bu X + zsR S nd bu Y
  | [], Y => by show zsR S nd bu Y = 0 + zsR S nd bu Y; omega
  | r :: l, Y => by
    show _ + zsR S nd bu (l ++ Y) = _ + zsR S nd bu l + _
    rw [zsR_app l Y]; omega
theorem zsR_1 {r : Nat} {l : List Nat} {n : Int} (h : (op r).toInt = n) (hn : n ≠ 15) : zsR (zst op a b nx ak an ab al af kf ff cz ct az kz) nd bu (r :: l) = zsR (zst op a b nx ak an ab al af kf ff cz ct az kz) nd bu l := by
  show (if (op r).toInt = 15 then _ else 0) + zsR (zst op a b nx ak an ab al af kf ff cz ct az kz) nd bu l = _
  rw [if_neg (by omega)]; omega
theorem op_15 (o : Int) : cI_op o ≠ 15 := by
  unfold cI_op
  split
  · decide
  · split
    · decide
    · split <;> decide
theorem cSh {z : Nat} (hkz : 0 ≤ kz.toInt) (hz : z = Int32.toNatClampNeg kz) : ∀ (t : Tm) {bb : Bool}, tm_sy t bb →
    (tm_k t = 1 ∨ tm_li t → bb = false → ∀ {X : List Nat} {d c : Nat}, cI (zcs op a b pl ak an ab al af bu) H alo ahi t false 0 0 0 X → zsg nx d X → (∀ r ∈ X, zhz (zst op a b nx ak an ab al af kf ff cz ct az kz) nd r) → tm_wf z kf t c → c ≤ 24 → (∀ k, zBe nx nd (zla d X) k = true → k < c) → zsR (zst op a b nx ak an ab al af kf ff cz ct az kz) nd bu X = tm_sh t (zBe nx nd (zla d X)) 32) ∧
    (tm_k t = 2 → ∀ {mo : Bool} {pv : Nat} {ar : Int32} {en : Nat} {X : List Nat} {c v : Nat}, cI (zcs op a b pl ak an ab al af bu) H alo ahi t mo pv ar en X → zsg nx pv X → (∀ r ∈ X, zhz (zst op a b nx ak an ab al af kf ff cz ct az kz) nd r) → tm_wf z kf t c → (∀ k, zBe nx nd en k = true → k < c) → zsI (zst op a b nx ak an ab al af kf ff cz ct az kz) nd bu v (Int32.toNatClampNeg ar) + zsR (zst op a b nx ak an ab al af kf ff cz ct az kz) nd bu X = tm_sh t (zBe nx nd en) v) ∧
    (tm_li t → bb = true → ∀ {pv : Nat} {ar : Int32} {en : Nat} {X : List Nat} {c n v : Nat}, cI (zcs op a b pl ak an ab al af bu) H alo ahi t true pv ar en X → zsg nx pv X → (∀ r ∈ X, zhz (zst op a b nx ak an ab al af kf ff cz ct az kz) nd r) → tm_wf z kf t c → (∀ k, zBe nx nd en k = true → k < c) → tm_ln t ≤ n → v < 32 → zsA (zst op a b nx ak an ab al af kf ff cz ct az kz) nd bu v n ar + zsR (zst op a b nx ak an ab al af kf ff cz ct az kz) nd bu X = tm_sh t (zBe nx nd en) v)
  | .leaf (some (0, _, _, _, _, _)), _, _ => by
    refine ⟨fun _ _ X d c h hs hr hw hc hB => ?_, fun g => absurd (show (1 : Nat) = 2 from g) (by decide), fun g => g.elim⟩
    obtain ⟨r, rfl, h1, -⟩ := h
    rw [zsR_1 (op := op) (n := 2) h1 (by decide)]; rfl
  | .leaf (some (_ + 1, _, _, s, _, _)), _, _ => by
    refine ⟨fun _ _ X d c h hs hr hw hc hB => ?_, fun g => absurd (show (1 : Nat) = 2 from g) (by decide), fun g => g.elim⟩
    obtain ⟨r, rfl, h1, -⟩ := h
    rw [zsR_1 (op := op) (n := 3) h1 (by decide)]; rfl
  | .branch 0 (.leaf (some (0, _, _, _, _, _))) x, _, ⟨l, y⟩ => by
    refine ⟨fun _ _ X d c h hs hr hw hc hB => ?_, fun g => absurd (show (1 : Nat) = 2 from g) (by decide), fun g => g.elim⟩
    rcases h with ⟨q1, q2, r, rfl, h1, -⟩ | ⟨q1, s, Y, r, rfl, h1, -, h2, h3, -⟩
    · rw [zsR_1 (op := op) (n := 6) h1 (by decide), q2]; rfl
    · obtain ⟨s1, s2⟩ := hs
      obtain ⟨s2, s3⟩ := zsg_app.mp s2
      have er := hz_d (n := 7) (hr r (by simp)) h3 trivial
      have e9 : zBe nx nd (zla s Y) = zBe nx nd r := funext fun k => (zBe_1 s3.1 k).trans (er k)
      have ez : zla d (s :: (Y ++ [r])) = r := by show zla s (Y ++ [r]) = r; rw [zla_app]; rfl
      rw [ez] at hB ⊢
      have e := (cSh hkz hz x y).1 (Or.inr l) rfl h2 s2 (fun q hq => hr q (by simp [hq])) hw hc (by rw [e9]; exact hB)
      rw [zsR_1 (op := op) (n := 1) h1 (by decide), zsR_app, e, e9, zsR_1 (op := op) (n := 7) h3 (by decide)]
      exact Int.add_zero _
  | .branch 0 (.leaf (some (1, _, _, _, _, _))) x, _, ⟨l, y⟩ => by
    refine ⟨fun _ _ X d c h hs hr hw hc hB => ?_, fun g => absurd (show (1 : Nat) = 2 from g) (by decide), fun g => g.elim⟩
    rcases h with ⟨q1, q2, r, rfl, h1, -⟩ | ⟨q1, s, Y, r, rfl, h1, -, h2, h3, -⟩
    · rw [zsR_1 (op := op) (n := 4) h1 (by decide), q2]; rfl
    · obtain ⟨s1, s2⟩ := hs
      obtain ⟨s2, s3⟩ := zsg_app.mp s2
      have er := hz_d (n := 5) (hr r (by simp)) h3 trivial
      have e9 : zBe nx nd (zla s Y) = zBe nx nd r := funext fun k => (zBe_1 s3.1 k).trans (er k)
      have ez : zla d (s :: (Y ++ [r])) = r := by show zla s (Y ++ [r]) = r; rw [zla_app]; rfl
      rw [ez] at hB ⊢
      have e := (cSh hkz hz x y).1 (Or.inr l) rfl h2 s2 (fun q hq => hr q (by simp [hq])) hw.2 hc (by rw [e9]; exact hB)
      rw [zsR_1 (op := op) (n := 1) h1 (by decide), zsR_app, e, e9, zsR_1 (op := op) (n := 5) h3 (by decide)]
      exact Int.add_zero _
  | .branch 1 (.leaf (some (0, _, o, _, _, _))) (.branch _ x y), _, ⟨⟨kx, yx⟩, ⟨ky, yy⟩⟩ => by
    refine ⟨fun _ _ X d c h hs hr hw hc hB => ?_, fun g => absurd (show (1 : Nat) = 2 from g) (by decide), fun g => g.elim⟩
    obtain ⟨s, Y, Z, r, rfl, h1, -, h2, h3, h4, -⟩ := h
    obtain ⟨s1, s2⟩ := hs
    rw [List.append_assoc] at s2
    obtain ⟨s2, s3⟩ := zsg_app.mp s2
    obtain ⟨s3, s4⟩ := zsg_app.mp s3
    obtain ⟨n, hn, hd⟩ := op_df o
    have er := hz_d (n := n) (hr r (by simp)) (h4.trans hn) hd
    have e9 : zBe nx nd (zla (zla s Y) Z) = zBe nx nd r := funext fun k => (zBe_1 s4.1 k).trans (er k)
    have ez : zla d (s :: (Y ++ Z ++ [r])) = r := by show zla s (Y ++ Z ++ [r]) = r; rw [zla_app]; rfl
    rw [ez] at hB ⊢
    have hB2 : ∀ k, zBe nx nd (zla (zla s Y) Z) k = true → k < c := by rw [e9]; exact hB
    have ub := (cUb hkz hz y yy).1 (Or.inl ky) rfl h3 s3 (fun q hq => hr q (by simp [hq])) hw.2 hc hB2
    have ey := (cSh hkz hz y yy).1 (Or.inl ky) rfl h3 s3 (fun q hq => hr q (by simp [hq])) hw.2 hc hB2
    have ex := (cSh hkz hz x yx).1 (Or.inl kx) rfl h2 s2 (fun q hq => hr q (by simp [hq])) hw.1 hc (fun k g => by
      rw [ub, Bool.or_eq_true] at g
      rcases g with g | g
      · exact wf_ub y hw.2 g
      · exact hB2 k g)
    rw [zsR_1 (op := op) (n := 1) h1 (by decide), zsR_app, zsR_app, ex, ey, e9, zsR_1 (op := op) (n := cI_op o) h4 (op_15 o)]
    show _ + _ + 0 = tm_sh x (fun j => zBe nx nd r j || tm_ub y j) 32 + tm_sh y (zBe nx nd r) 32
    rw [show (fun j => zBe nx nd r j || tm_ub y j) = zBe nx nd (zla s Y) from funext fun j => by rw [ub, e9, Bool.or_comm]]
    exact Int.add_zero _
  | .branch 1 (.leaf (some (_ + 1, _, _, v, _, _))) (.branch _ x y), _, ⟨⟨kx, yx⟩, ⟨ky, yy⟩⟩ => by
    refine ⟨fun _ _ X d c h hs hr hw hc hB => ?_, fun g => absurd (show (1 : Nat) = 2 from g) (by decide), fun g => g.elim⟩
    obtain ⟨s, Y, r, Z, rfl, h1, -, h2, h3, h4, h5⟩ := h
    obtain ⟨⟨w1, w1b⟩, w2, w3⟩ := hw
    obtain ⟨s1, s2⟩ := hs
    rw [List.append_assoc] at s2
    obtain ⟨s2, s3⟩ := zsg_app.mp s2
    obtain ⟨s3, s4⟩ := s3
    have s4 : zsg nx r Z := s4
    have ez : zla d (s :: (Y ++ [r] ++ Z)) = zla r Z := by show zla s (Y ++ [r] ++ Z) = zla r Z; rw [zla_app, zla_app]; rfl
    rw [ez] at hB ⊢
    have hB2 : ∀ k, zBe nx nd (zla r Z) k = true → k < c + 1 := fun k g => by have := hB k g; omega
    have ub := (cUb hkz hz y yy).1 (Or.inl ky) rfl h5 s4 (fun q hq => hr q (by simp [hq])) w3 (by omega) hB2
    have ey := (cSh hkz hz y yy).1 (Or.inl ky) rfl h5 s4 (fun q hq => hr q (by simp [hq])) w3 (by omega) hB2
    have er : ∀ k, zBe nx nd (zla s Y) k = (tm_ub y k && !(k == v) || zBe nx nd (zla r Z) k) := fun k => by
      rw [zBe_1 s3, hz_let (hr r (by simp)) h3 h4, ub]
      exact bo_let (fun g => beq_eq_false_iff_ne.mpr (by have := hB k g; omega))
    have ex := (cSh hkz hz x yx).1 (Or.inl kx) rfl h2 s2 (fun q hq => hr q (by simp [hq])) w2 hc (fun k g => by
      rw [er, Bool.or_eq_true] at g
      rcases g with g | g
      · obtain ⟨g1, g2⟩ := (Bool.and_eq_true _ _).mp g
        have := wf_ub y w3 g1
        rw [Bool.not_eq_true', beq_eq_false_iff_ne] at g2
        omega
      · exact hB k g)
    rw [zsR_1 (op := op) (n := 1) h1 (by decide), zsR_app, zsR_app, ex, ey, zsR_1 (op := op) (n := 12) h3 (by decide)]
    show _ + 0 + _ = tm_sh x (fun j => zBe nx nd (zla r Z) j || (tm_ub y j && !(j == v))) 32 + tm_sh y (zBe nx nd (zla r Z)) 32
    rw [show (fun j => zBe nx nd (zla r Z) j || (tm_ub y j && !(j == v))) = zBe nx nd (zla s Y) from funext fun j => by rw [er, Bool.or_comm]]
    omega
  | .branch 2 (.leaf (some (_, _, _, _, _, _))) (.branch _ x (.branch _ y w)), _, ⟨⟨kx, yx⟩, ⟨ky, yy⟩, ⟨kw, yw⟩⟩ => by
    refine ⟨fun _ _ X d c h hs hr hw hc hB => ?_, fun g => absurd (show (1 : Nat) = 2 from g) (by decide), fun g => g.elim⟩
    obtain ⟨s, Y, i, Z, j, U, rfl, h1, -, h2, h3, h4, -, h5, h6, h7, h8⟩ := h
    obtain ⟨s1, s2⟩ := hs
    rw [List.append_assoc, List.append_assoc, List.append_assoc] at s2
    obtain ⟨s2, s3⟩ := zsg_app.mp s2
    obtain ⟨s3, s4⟩ := s3
    have s4 : zsg nx i (Z ++ ([j] ++ U)) := s4
    obtain ⟨s4, s5⟩ := zsg_app.mp s4
    obtain ⟨s5, s6⟩ := s5
    have s6 : zsg nx j U := s6
    have ez : zla d (s :: (Y ++ [i] ++ Z ++ [j] ++ U)) = zla j U := by
      show zla s (Y ++ [i] ++ Z ++ [j] ++ U) = zla j U
      rw [zla_app, zla_app]; rfl
    rw [ez] at hB ⊢
    have ew := (cUb hkz hz w yw).1 (Or.inl kw) rfl h8 s6 (fun q hq => hr q (by simp [hq])) hw.2.2 hc hB
    have fw := (cSh hkz hz w yw).1 (Or.inl kw) rfl h8 s6 (fun q hq => hr q (by simp [hq])) hw.2.2 hc hB
    have ej : zBe nx nd (zla i Z) = zBe nx nd (zla j U) := funext fun k => by
      rw [zBe_1 s5, hz_jmp (n := 14) (hr j (by simp)) h6 (Or.inl rfl) h7]
    have hB2 : ∀ k, zBe nx nd (zla i Z) k = true → k < c := by rw [ej]; exact hB
    have ey := (cUb hkz hz y yy).1 (Or.inl ky) rfl h5 s4 (fun q hq => hr q (by simp [hq])) hw.2.1 hc hB2
    have fy := (cSh hkz hz y yy).1 (Or.inl ky) rfl h5 s4 (fun q hq => hr q (by simp [hq])) hw.2.1 hc hB2
    have ei : ∀ k, zBe nx nd (zla s Y) k = (zBe nx nd (zla j U) k || tm_ub y k || tm_ub w k) := fun k => by
      rw [zBe_1 s3, hz_if (hr i (by simp)) h3 h4, ey, ew, ej]
      cases tm_ub y k <;> cases tm_ub w k <;> cases zBe nx nd (zla j U) k <;> rfl
    have fx := (cSh hkz hz x yx).1 (Or.inl kx) rfl h2 s2 (fun q hq => hr q (by simp [hq])) hw.1 hc (fun k g => by
      rw [ei, Bool.or_eq_true, Bool.or_eq_true] at g
      rcases g with (g | g) | g
      · exact hB k g
      · exact wf_ub y hw.2.1 g
      · exact wf_ub w hw.2.2 g)
    rw [zsR_1 (op := op) (n := 1) h1 (by decide), zsR_app, zsR_app, zsR_app, zsR_app, fx, fy, fw, ej, zsR_1 (op := op) (n := 13) h3 (by decide), zsR_1 (op := op) (n := 14) h6 (by decide)]
    show _ + 0 + _ + 0 + _ = tm_sh x (fun q => zBe nx nd (zla j U) q || tm_ub y q || tm_ub w q) 32 + tm_sh y (zBe nx nd (zla j U)) 32 + tm_sh w (zBe nx nd (zla j U)) 32
    rw [show (fun q => zBe nx nd (zla j U) q || tm_ub y q || tm_ub w q) = zBe nx nd (zla s Y) from funext fun q => (ei q).symm]
    omega
  | .branch 0 (.leaf (some (2, _, _, v, _, _))) x, _, ⟨l, y⟩ => by
    refine ⟨fun _ _ X d c h hs hr hw hc hB => ?_, fun g => absurd (show (1 : Nat) = 2 from g) (by decide), fun g => g.elim⟩
    obtain ⟨s, m, Y, rfl, h1, -, h2, h3, -, h4⟩ := h
    obtain ⟨⟨w1, w2, w3⟩, w4⟩ := hw
    obtain ⟨s1, s2, s3⟩ := hs
    have e := (cSh hkz hz x y).2.2 l rfl (n := 8) (v := v) h4 s3 (fun q hq => hr q (by simp [hq])) w4 hB w3 (by omega)
    rw [zsR_1 (op := op) (n := 1) h1 (by decide)]
    show (if (op m).toInt = 15 then zsA (zst op a b nx ak an ab al af kf ff cz ct az kz) nd bu (Int32.toNatClampNeg (a m)) 8 (b m) else 0) + zsR (zst op a b nx ak an ab al af kf ff cz ct az kz) nd bu Y = _
    rw [if_pos (show (op m).toInt = 15 from h2), show Int32.toNatClampNeg (a m) = v from zn_li7 h3]
    exact e
  | .branch 0 (.leaf (some (_ + 3, _, kk, hh, m, _))) x, _, ⟨kx, yx⟩ => by
    refine ⟨fun g => g.elim (fun g => absurd (show (2 : Nat) = 1 from g) (by decide)) (fun g => g.elim), fun _ mo pv ar en X c v9 h hs hr hw hE => ?_, fun g => g.elim⟩
    obtain ⟨Y, v, rfl, ⟨b1, b2, b3⟩, h1, h2, h3, h4, hb, h5, h6, h7⟩ := h
    obtain ⟨⟨⟨w1, w1b, w1c⟩, w2⟩, w3⟩ := hw
    obtain ⟨s1, s2⟩ := zsg_app.mp hs
    have ev : zBe nx nd (zla pv Y) = zBe nx nd en := funext fun k => by
      rw [zBe_1 s2.1, hz_jmp (n := 16) (hr v (by simp)) h5 (Or.inr rfl) h6]
    have hE2 : ∀ k, zBe nx nd (zla pv Y) k = true → k < c + m := fun k g => by rw [ev] at g; have := hE k g; omega
    have e := (cUb hkz hz x yx).1 (Or.inl kx) rfl h7 s1 (fun q hq => hr q (by simp [hq])) w3 w1b hE2 v9
    have f := (cSh hkz hz x yx).1 (Or.inl kx) rfl h7 s1 (fun q hq => hr q (by simp [hq])) w3 w1b hE2
    rw [ev] at e f
    have ef := zfl_m (op := op) (a := a) (b := b) (nx := nx) (ak := ak) (an := an) (ab := ab) (al := al) (af := af) (ff := ff) (cz := cz) (ct := ct) (az := az) hkz hz (x := ak (Int32.toNatClampNeg ar)) h1 w2
    rw [zsR_app, f, zsR_1 (op := op) (n := 16) h5 (by decide)]
    unfold zsI
    rw [show zbit (zbe ((zst op a b nx ak an ab al af kf ff cz ct az kz) 3) nd ((zst op a b nx ak an ab al af kf ff cz ct az kz) 6 (Int32.toNatClampNeg ar))) v9 = zBe nx nd pv v9 from zbe_d (show (ab (Int32.toNatClampNeg ar)).toInt = (pv : Int) from h2) v9, e, show zfl (zst op a b nx ak an ab al af kf ff cz ct az kz) ((zst op a b nx ak an ab al af kf ff cz ct az kz) 4 (Int32.toNatClampNeg ar)) = (m : Int) from ef]
    show (if _ ∧ _ ∧ zbit (bu (Int32.toNatClampNeg ar)) (m : Int).toNat = true then 1 else 0) + (_ + 0) = (if 0 < m ∧ (tm_ub x v9 || zBe nx nd en v9) = false ∧ tm_mk x m = true then 1 else 0) + tm_sh x (zBe nx nd en) 32
    rw [Int.toNat_natCast]
    have hp : ((tm_ub x v9 || zBe nx nd en v9) = false ∧ 0 < (m : Int) ∧ zbit (bu (Int32.toNatClampNeg ar)) m = true) ↔ (0 < m ∧ (tm_ub x v9 || zBe nx nd en v9) = false ∧ tm_mk x m = true) := by
      constructor
      · intro ⟨g1, g2, g3⟩
        exact ⟨by omega, g1, by rw [← hb m (by omega) (by omega)]; exact g3⟩
      · intro ⟨g1, g2, g3⟩
        exact ⟨g2, by omega, by rw [← hb m (by omega) (by omega)] at g3; exact g3⟩
    by_cases g : 0 < m ∧ (tm_ub x v9 || zBe nx nd en v9) = false ∧ tm_mk x m = true
    · rw [if_pos g, if_pos (hp.mpr g)]; omega
    · rw [if_neg g, if_neg (fun q => g (hp.mp q))]; omega
  | .branch 0 (.leaf none) _, _, _ => ⟨fun _ _ _ _ _ h => h.elim, fun g => absurd (show (0 : Nat) = 2 from g) (by decide), fun g => g.elim⟩
  | .branch 0 (.branch _ _ _) _, _, _ => ⟨fun _ _ _ _ _ h => h.elim, fun g => absurd (show (0 : Nat) = 2 from g) (by decide), fun g => g.elim⟩
  | .branch 1 (.leaf none) _, _, _ => ⟨fun _ _ _ _ _ h => h.elim, fun g => absurd (show (0 : Nat) = 2 from g) (by decide), fun g => g.elim⟩
  | .branch 1 (.branch _ _ _) _, _, _ => ⟨fun _ _ _ _ _ h => h.elim, fun g => absurd (show (0 : Nat) = 2 from g) (by decide), fun g => g.elim⟩
  | .branch 1 (.leaf (some (0, _, _, _, _, _))) (.leaf _), _, _ => ⟨fun _ _ _ _ _ h => h.elim, fun g => absurd (show (0 : Nat) = 2 from g) (by decide), fun g => g.elim⟩
  | .branch 1 (.leaf (some (_ + 1, _, _, _, _, _))) (.leaf _), _, _ => ⟨fun _ _ _ _ _ h => h.elim, fun g => absurd (show (0 : Nat) = 2 from g) (by decide), fun g => g.elim⟩
  | .branch 2 (.leaf none) _, _, _ => ⟨fun _ _ _ _ _ h => h.elim, fun g => absurd (show (0 : Nat) = 2 from g) (by decide), fun g => g.elim⟩
  | .branch 2 (.branch _ _ _) _, _, _ => ⟨fun _ _ _ _ _ h => h.elim, fun g => absurd (show (0 : Nat) = 2 from g) (by decide), fun g => g.elim⟩
  | .branch 2 (.leaf (some (_, _, _, _, _, _))) (.leaf _), _, _ => ⟨fun _ _ _ _ _ h => h.elim, fun g => absurd (show (0 : Nat) = 2 from g) (by decide), fun g => g.elim⟩
  | .branch 2 (.leaf (some (_, _, _, _, _, _))) (.branch _ _ (.leaf _)), _, _ => ⟨fun _ _ _ _ _ h => h.elim, fun g => absurd (show (0 : Nat) = 2 from g) (by decide), fun g => g.elim⟩
  | .leaf none, _, _ => by
    refine ⟨fun _ _ X d c h hs hr hw hc hB => ?_, fun g => absurd (show (0 : Nat) = 2 from g) (by decide), fun _ _ pv ar en X c n v h hs hr hw hE hn hv => ?_⟩
    · obtain ⟨rfl, -⟩ := h
      rfl
    · obtain ⟨rfl, h⟩ := h
      have h := h rfl
      cases n with
      | zero => rfl
      | succ n => unfold zsA; rw [if_pos h]; rfl
  | .branch (_ + 3) x y, bb, ⟨⟨kx, yx⟩, yy⟩ => by
    refine ⟨fun hp gb X d c h hs hr hw hc hB => ?_, fun g => absurd (show (0 : Nat) = 2 from g) (by decide), fun gl gb pv ar en X c n v h hs hr hw hE hn hv => ?_⟩
    · subst gb
      have kx : tm_k x = 1 := kx
      have ly : tm_li y := hp.elim (fun g => absurd (show (0 : Nat) = 1 from g) (by decide)) id
      obtain ⟨Y, Z, rfl, h1, h2, -⟩ := h
      obtain ⟨s1, s2⟩ := zsg_app.mp hs
      rw [zla_app] at hB ⊢
      have ub := (cUb hkz hz y yy).1 (Or.inr ly) rfl h2 s2 (fun q hq => hr q (by simp [hq])) hw.2 hc hB
      have ey := (cSh hkz hz y yy).1 (Or.inr ly) rfl h2 s2 (fun q hq => hr q (by simp [hq])) hw.2 hc hB
      have ex := (cSh hkz hz x yx).1 (Or.inl kx) rfl h1 s1 (fun q hq => hr q (by simp [hq])) hw.1 hc (fun k g => by
        rw [ub, Bool.or_eq_true] at g
        rcases g with g | g
        · exact wf_ub y hw.2 g
        · exact hB k g)
      rw [zsR_app, ex, ey]
      show _ = tm_sh x (if 32 < 32 then _ else fun j => zBe nx nd (zla (zla d Y) Z) j || tm_ub y j) 32 + tm_sh y _ 32
      rw [if_neg (by decide), show (fun j => zBe nx nd (zla (zla d Y) Z) j || tm_ub y j) = zBe nx nd (zla d Y) from funext fun j => by rw [ub, Bool.or_comm]]
    · subst gb
      have kx : tm_k x = 2 := kx
      obtain ⟨Y, Z, rfl, h1, h2, h3⟩ := h
      obtain ⟨s1, s2⟩ := zsg_app.mp hs
      obtain ⟨b1, b2, b3⟩ := h3 rfl
      have hn : tm_ln y + 1 ≤ n := hn
      obtain ⟨n, rfl⟩ : ∃ q, n = q + 1 := ⟨n - 1, by omega⟩
      have ex := (cSh hkz hz x yx).2.1 kx (v := v) h1 s1 (fun q hq => hr q (by simp [hq])) hw.1 hE
      have ey := (cSh hkz hz y yy).2.2 gl rfl (n := n) (v := v) h2 s2 (fun q hq => hr q (by simp [hq])) hw.2 hE (by omega) hv
      have ey : zsA (zst op a b nx ak an ab al af kf ff cz ct az kz) nd bu v n (an (Int32.toNatClampNeg ar)) + zsR (zst op a b nx ak an ab al af kf ff cz ct az kz) nd bu Z = tm_sh y (zBe nx nd en) v := ey
      unfold zsA
      rw [if_neg (by omega), zsR_app]
      show zsI (zst op a b nx ak an ab al af kf ff cz ct az kz) nd bu v (Int32.toNatClampNeg ar) + zsA (zst op a b nx ak an ab al af kf ff cz ct az kz) nd bu v n (an (Int32.toNatClampNeg ar)) + _ = tm_sh x (if v < 32 then zBe nx nd en else _) v + tm_sh y (zBe nx nd en) v
      rw [if_pos hv, ← ex, ← ey]
      omega
end
theorem z32_ext {x y : Int32} (h : ∀ i : Nat, i < 32 → x.toBitVec.getLsbD i = y.toBitVec.getLsbD i) : x = y := Int32.toBitVec_inj.mp (BitVec.eq_of_getLsbD_eq (fun i hi => h i hi))
theorem zsh_n : ∀ j : Fin 32, ((Int32.ofInt (j.val : Int) &&& 31).toBitVec.smod 32).toNat = j.val := by decide +kernel
theorem zbit_sr {x y : Int32} (h0 : 0 ≤ y.toInt) (h1 : y.toInt < 32) : zbit (x >>> (y &&& 31)) 0 = zbit x (Int32.toNatClampNeg y) := by
  have hn := zn_nat h0
  have e := zi_of (y := y) (j := Int32.toNatClampNeg y) hn.symm
  have t := zsh_n ⟨Int32.toNatClampNeg y, by omega⟩
  have t : ((Int32.ofInt ((Int32.toNatClampNeg y : Nat) : Int) &&& 31).toBitVec.smod 32).toNat = Int32.toNatClampNeg y := t
  rw [← e] at t
  unfold zbit
  rw [Int32.toBitVec_shiftRight]
  show (x.toBitVec.sshiftRight ((y &&& 31).toBitVec.smod 32).toNat).getLsbD 0 = _
  rw [t, BitVec.getLsbD_sshiftRight]
  have h3 : Int32.toNatClampNeg y + 0 < 32 := by omega
  simp [h3]
  intro h9
  omega
theorem zbit_one : ∀ k : Fin 32, zbit 1 k.val = (k.val == 0) := by decide +kernel
theorem zbit_and1 {v : Int32} : (v &&& 1 = 1 ↔ zbit v 0 = true) := by
  have h1 := zbit_one ⟨0, by decide⟩
  have h1 : zbit 1 0 = true := h1
  constructor
  · intro h
    have := congrArg (fun x => zbit x 0) h
    have this : zbit (v &&& 1) 0 = zbit 1 0 := this
    rw [zbit_and, h1, Bool.and_true] at this
    exact this
  · intro h
    refine z32_ext (fun i hi => ?_)
    show zbit (v &&& 1) i = zbit 1 i
    rw [zbit_and]
    by_cases g : i = 0
    · rw [g, h, h1]; rfl
    · have := zbit_one ⟨i, hi⟩
      have this : zbit 1 i = (i == 0) := this
      rw [this, beq_false_of_ne g, Bool.and_false]
theorem zbf7 {b : Bool} (h : ¬ b = true) : b = false := by
  cases b with
  | false => rfl
  | true => exact (h rfl).elim
/-- bit y of x, as the code asks for it -/
theorem zask {x y v u : Int32} (h0 : 0 ≤ y.toInt) (h1 : y.toInt < 32) (ev : v = x >>> (y &&& 31)) (eu : u = v &&& 1) : (u.toInt = 1 ↔ zbit x (Int32.toNatClampNeg y) = true) ∧ (u.toInt = 0 ↔ zbit x (Int32.toNatClampNeg y) = false) := by
  have e1 : Int32.toInt 1 = 1 := by decide
  have e0 : Int32.toInt 0 = 0 := by decide
  have k : u = 1 ↔ zbit x (Int32.toNatClampNeg y) = true := by rw [← zbit_sr h0 h1, ← ev, eu]; exact zbit_and1
  have two : u = 1 ∨ u = 0 := by
    by_cases g : zbit v 0 = true
    · exact Or.inl (by rw [eu]; exact zbit_and1.mpr g)
    · right
      rw [eu]
      refine z32_ext (fun i hi => ?_)
      show zbit (v &&& 1) i = zbit 0 i
      rw [zbit_and, zbit_z hi]
      have o := zbit_one ⟨i, hi⟩
      have o : zbit 1 i = (i == 0) := o
      rw [o]
      by_cases g2 : i = 0
      · rw [g2, zbf7 g]; rfl
      · rw [beq_false_of_ne g2, Bool.and_false]
  constructor
  · rw [← k]
    exact ⟨fun h => Int32.toInt_inj.mp (by omega), fun h => by rw [h]; exact e1⟩
  · constructor
    · intro h
      exact zbf7 (fun g => by rw [← k] at g; rw [g] at h; omega)
    · intro h
      rcases two with g | g
      · rw [k] at g; rw [g] at h; cases h
      · rw [g]; exact e0
/-- n shells more of function fn -/
def cS (g g2 : Nat → Int32) (fn fz : Int32) (n : Int) : Prop := (0 ≤ fn.toInt ∧ fn.toInt < fz.toInt → g2 (5 * Int32.toNatClampNeg fn + 4) = g (5 * Int32.toNatClampNeg fn + 4) + Int32.ofInt n) ∧ ∀ j, (0 ≤ fn.toInt ∧ fn.toInt < fz.toInt → j ≠ 5 * Int32.toNatClampNeg fn + 4) → g2 j = g j
theorem cS_0 {g : Nat → Int32} {fn fz : Int32} {n : Int} (h : n = 0) : cS g g fn fz n := by subst h; exact ⟨fun _ => cF_0 _, fun _ _ => rfl⟩
theorem cS_tr {g g1 g2 : Nat → Int32} {fn fz : Int32} {n m k : Int} (p : cS g g1 fn fz n) (q : cS g1 g2 fn fz m) (e : k = n + m) : cS g g2 fn fz k := by
  subst e
  exact ⟨fun h => by rw [q.1 h, p.1 h, Int32.ofInt_add, Int32.add_assoc], fun j h => by rw [q.2 j h, p.2 j h]⟩
theorem cS_1 {g g2 : Nat → Int32} {fn fz : Int32} {w : Nat} {n : Int} (hn : n = 1) (hw : w = 4) (h : (0 ≤ fn.toInt ∧ fn.toInt < fz.toInt ∧ g2 = upd g (5 * Int32.toNatClampNeg fn + w) (g (5 * Int32.toNatClampNeg fn + w) + 1)) ∨ ((fn.toInt < 0 ∨ fz.toInt ≤ fn.toInt) ∧ g2 = g)) : cS g g2 fn fz n := by
  subst hn; subst hw
  rcases h with ⟨h1, h2, e⟩ | ⟨h1, e⟩
  · exact ⟨fun _ => by rw [e, zu_s]; exact cF_1 _, fun j hj => by rw [e, zu_n (hj ⟨h1, h2⟩)]⟩
  · exact ⟨fun h => by omega, fun j _ => by rw [e]⟩
section
variable {S : Nat → Nat → Int32} {nd bu : Nat → Int32} {s x : Nat}
theorem zsI_0a (h : zbit (zbe (S 3) nd (S 6 x)) s = true) : zsI S nd bu s x = 0 := if_neg (fun g => by rw [h] at g; exact absurd g.1 (by decide))
theorem zsI_0b (h : zfl S (S 4 x) ≤ 0) : zsI S nd bu s x = 0 := if_neg (fun g => by have := g.2.1; omega)
theorem zsI_0c (h : zbit (bu x) (zfl S (S 4 x)).toNat = false) : zsI S nd bu s x = 0 := if_neg (fun g => by rw [h] at g; exact absurd g.2.2 (by decide))
theorem zsI_1 (h1 : zbit (zbe (S 3) nd (S 6 x)) s = false) (h2 : 0 < zfl S (S 4 x)) (h3 : zbit (bu x) (zfl S (S 4 x)).toNat = true) : zsI S nd bu s x = 1 := if_pos ⟨h1, h2, h3⟩
/-- arms so far -/
def cSl (S : Nat → Nat → Int32) (nd bu g lf : Nat → Int32) (fn fz : Int32) (s : Nat) (x0 am : Int32) (i : Int) : Prop := ∃ n : Nat, (n : Int) = 8 - i ∧ cS g lf fn fz (zsA S nd bu s 8 x0 - zsA S nd bu s n am)
theorem cSl_0 {g : Nat → Int32} {fn fz x0 am : Int32} {i : Int} (hi : i = 0) (e : am = x0) : cSl S nd bu g g fn fz s x0 am i := ⟨8, by omega, cS_0 (by rw [e]; omega)⟩
theorem cSl_s {g lf lf2 : Nat → Int32} {fn fz x0 am am2 : Int32} {i i2 : Int} (h : cSl S nd bu g lf fn fz s x0 am i) (hi : i < 8) (ha : am.toInt ≠ -1) (d : cS lf lf2 fn fz (zsI S nd bu s (Int32.toNatClampNeg am))) (e : am2 = S 5 (Int32.toNatClampNeg am)) (ei : i2 = i + 1) : cSl S nd bu g lf2 fn fz s x0 am2 i2 := by
  obtain ⟨n, hn, c⟩ := h
  obtain ⟨k, rfl⟩ : ∃ k, n = k + 1 := ⟨n - 1, by omega⟩
  refine ⟨k, by omega, cS_tr c d ?_⟩
  have u : zsA S nd bu s (k + 1) am = zsI S nd bu s (Int32.toNatClampNeg am) + zsA S nd bu s k am2 := by
    conv => lhs; unfold zsA
    rw [if_neg ha, e]
  omega
theorem cSl_e {g lf : Nat → Int32} {fn fz x0 am : Int32} {i : Int} (h : cSl S nd bu g lf fn fz s x0 am i) (hx : am.toInt = -1 ∨ 8 ≤ i) : cS g lf fn fz (zsA S nd bu s 8 x0) := by
  obtain ⟨n, hn, c⟩ := h
  have u : zsA S nd bu s n am = 0 := by
    match n, hn with
    | 0, _ => rfl
    | n + 1, hn =>
      unfold zsA
      rw [if_pos (hx.resolve_right (by omega))]
  rw [u, Int.sub_zero] at c
  exact c
/-- the shells of function g in a chain of rows; fn: the function so far -/
def zsL (S : Nat → Nat → Int32) (nd bu : Nat → Int32) (g : Nat) : List Nat → Int32 → Int
  | [], _ => 0
  | r :: L, fn => if (S 0 r).toInt = 0 then zsL S nd bu g L (S 1 r) else if (S 0 r).toInt = 15 then (if fn.toInt = (g : Int) then zsA S nd bu (Int32.toNatClampNeg (S 1 r)) 8 (S 2 r) else 0) + zsL S nd bu g L fn else zsL S nd bu g L fn
def zsF (S : Nat → Nat → Int32) : List Nat → Int32 → Int32
  | [], fn => fn
  | r :: L, fn => if (S 0 r).toInt = 0 then zsF S L (S 1 r) else zsF S L fn
theorem zsL_app {g : Nat} : ∀ (A B : List Nat) (fn : Int32), zsL S nd bu g (A ++ B) fn = zsL S nd bu g A fn + zsL S nd bu g B (zsF S A fn)
  | [], B, fn => by show zsL S nd bu g B fn = 0 + zsL S nd bu g B fn; omega
  | r :: A, B, fn => by
    show (if (S 0 r).toInt = 0 then zsL S nd bu g (A ++ B) (S 1 r) else if (S 0 r).toInt = 15 then (if fn.toInt = (g : Int) then _ else 0) + zsL S nd bu g (A ++ B) fn else zsL S nd bu g (A ++ B) fn) = (if (S 0 r).toInt = 0 then zsL S nd bu g A (S 1 r) else if (S 0 r).toInt = 15 then (if fn.toInt = (g : Int) then _ else 0) + zsL S nd bu g A fn else zsL S nd bu g A fn) + zsL S nd bu g B (if (S 0 r).toInt = 0 then zsF S A (S 1 r) else zsF S A fn)
    rw [zsL_app A B, zsL_app A B]
    by_cases u : (S 0 r).toInt = 0
    · rw [if_pos u, if_pos u, if_pos u]
    · rw [if_neg u, if_neg u, if_neg u]
      by_cases v : (S 0 r).toInt = 15
      · rw [if_pos v, if_pos v]; omega
      · rw [if_neg v, if_neg v]
theorem zsF_app : ∀ (A B : List Nat) (fn : Int32), zsF S (A ++ B) fn = zsF S B (zsF S A fn)
  | [], B, fn => rfl
  | r :: A, B, fn => by
    show (if (S 0 r).toInt = 0 then zsF S (A ++ B) (S 1 r) else zsF S (A ++ B) fn) = zsF S B (if (S 0 r).toInt = 0 then zsF S A (S 1 r) else zsF S A fn)
    rw [zsF_app A B, zsF_app A B]
    split <;> rfl
/-- rows within one function -/
theorem zsL_in {g : Nat} : ∀ (X : List Nat) (fn : Int32), (∀ r ∈ X, (S 0 r).toInt ≠ 0) → zsL S nd bu g X fn = (if fn.toInt = (g : Int) then zsR S nd bu X else 0) ∧ zsF S X fn = fn
  | [], fn, _ => ⟨by show (0 : Int) = if _ then 0 else 0; split <;> rfl, rfl⟩
  | r :: X, fn, h => by
    obtain ⟨e1, e2⟩ := zsL_in X fn (fun q hq => h q (List.mem_cons_of_mem _ hq))
    have h0 := h r List.mem_cons_self
    refine ⟨?_, ?_⟩
    · show (if (S 0 r).toInt = 0 then _ else if (S 0 r).toInt = 15 then (if fn.toInt = (g : Int) then _ else 0) + zsL S nd bu g X fn else zsL S nd bu g X fn) = if fn.toInt = (g : Int) then (if (S 0 r).toInt = 15 then _ else 0) + zsR S nd bu X else 0
      rw [if_neg h0, e1]
      by_cases v : (S 0 r).toInt = 15
      · rw [if_pos v, if_pos v]; split <;> omega
      · rw [if_neg v, if_neg v]; split <;> omega
    · show (if (S 0 r).toInt = 0 then _ else zsF S X fn) = fn
      rw [if_neg h0]; exact e2
/-- rows marked so far -/
def cMl (S : Nat → Nat → Int32) (nd bu g lf : Nat → Int32) (fz fn : Int32) (L : List Nat) (i : Int) : Prop := (∀ f : Nat, (f : Int) < fz.toInt → lf (5 * f + 4) + Int32.ofInt (zsL S nd bu f (L.drop i.toNat) fn) = g (5 * f + 4) + Int32.ofInt (zsL S nd bu f L (-1))) ∧ ∀ j, (∀ f : Nat, j ≠ 5 * f + 4) → lf j = g j
theorem cMl_0 {g : Nat → Int32} {fz fn : Int32} {L : List Nat} {i : Int} (hi : i = 0) (hf : fn = -1) : cMl S nd bu g g fz fn L i := by
  subst hi; subst hf
  exact ⟨fun f _ => rfl, fun _ _ => rfl⟩
theorem cMl_dr {L : List Nat} {i : Int} (h0 : 0 ≤ i) (h : i.toNat < L.length) : L.drop i.toNat = L.getD i.toNat 0 :: L.drop (i + 1).toNat := by
  rw [List.drop_eq_getElem_cons h, show (i + 1).toNat = i.toNat + 1 by omega, List.getD_eq_getElem?_getD, List.getElem?_eq_getElem h]; rfl
theorem cMl_e {g lf : Nat → Int32} {fz fn fn2 : Int32} {L : List Nat} {i i2 : Int} {r : Nat} (h : cMl S nd bu g lf fz fn L i) (h0 : 0 ≤ i) (hl : i.toNat < L.length) (er : r = L.getD i.toNat 0) (ho : (S 0 r).toInt = 0) (ef : fn2 = S 1 r) (ei : i2 = i + 1) : cMl S nd bu g lf fz fn2 L i2 := by
  subst ei; subst ef
  refine ⟨fun f hf => ?_, h.2⟩
  have := h.1 f hf
  rw [cMl_dr h0 hl, ← er] at this
  rw [← this]
  show _ = lf (5 * f + 4) + Int32.ofInt (if (S 0 r).toInt = 0 then _ else _)
  rw [if_pos ho]
theorem cMl_n {g lf : Nat → Int32} {fz fn : Int32} {L : List Nat} {i i2 : Int} {r : Nat} (h : cMl S nd bu g lf fz fn L i) (h0 : 0 ≤ i) (hl : i.toNat < L.length) (er : r = L.getD i.toNat 0) (ho : (S 0 r).toInt ≠ 0) (ho2 : (S 0 r).toInt ≠ 15) (ei : i2 = i + 1) : cMl S nd bu g lf fz fn L i2 := by
  subst ei
  refine ⟨fun f hf => ?_, h.2⟩
  have := h.1 f hf
  rw [cMl_dr h0 hl, ← er] at this
  rw [← this]
  show _ = lf (5 * f + 4) + Int32.ofInt (if (S 0 r).toInt = 0 then _ else if (S 0 r).toInt = 15 then _ else _)
  rw [if_neg ho, if_neg ho2]
theorem cMl_m {g lf lf2 : Nat → Int32} {fz fn : Int32} {L : List Nat} {i i2 : Int} {r : Nat} (h : cMl S nd bu g lf fz fn L i) (h0 : 0 ≤ i) (hl : i.toNat < L.length) (er : r = L.getD i.toNat 0) (ho2 : (S 0 r).toInt = 15) (c : cS lf lf2 fn fz (zsA S nd bu (Int32.toNatClampNeg (S 1 r)) 8 (S 2 r))) (ei : i2 = i + 1) : cMl S nd bu g lf2 fz fn L i2 := by
  subst ei
  refine ⟨fun f hf => ?_, fun j hj => by rw [c.2 j (fun _ => hj _)]; exact h.2 j hj⟩
  have := h.1 f hf
  rw [cMl_dr h0 hl, ← er] at this
  rw [← this]
  show _ = lf (5 * f + 4) + Int32.ofInt (if (S 0 r).toInt = 0 then _ else if (S 0 r).toInt = 15 then (if fn.toInt = (f : Int) then _ else 0) + _ else _)
  rw [if_neg (by omega), if_pos ho2]
  by_cases u : fn.toInt = (f : Int)
  · have hn : Int32.toNatClampNeg fn = f := zn_li7 u
    have c1 := c.1 ⟨by omega, by omega⟩
    rw [hn] at c1
    rw [if_pos u, c1, Int32.ofInt_add, Int32.add_assoc]
  · rw [if_neg u, c.2 (5 * f + 4) (fun g9 e9 => u (by have := zn_nat g9.1; omega)), Int.zero_add]
theorem cMl_z {g lf : Nat → Int32} {fz fn : Int32} {L : List Nat} {i : Int} (h : cMl S nd bu g lf fz fn L i) (hi : L.length ≤ i.toNat) : (∀ f : Nat, (f : Int) < fz.toInt → lf (5 * f + 4) = g (5 * f + 4) + Int32.ofInt (zsL S nd bu f L (-1))) ∧ ∀ j, (∀ f : Nat, j ≠ 5 * f + 4) → lf j = g j := by
  refine ⟨fun f hf => ?_, h.2⟩
  have := h.1 f hf
  rw [List.drop_eq_nil_of_le hi] at this
  rw [← this]
  show _ = lf (5 * f + 4) + Int32.ofInt 0
  exact cF_0 _
end
/-- nor is any a function's first row -/
theorem cI_00 {S : Nat → Nat → Int32} {H : Int32 → Int64 → Prop} {alo ahi : Int} : ∀ (t : Tm) {mo : Bool} {pv : Nat} {ar : Int32} {en : Nat} {X : List Nat}, cI S H alo ahi t mo pv ar en X → ∀ r ∈ X, (S 0 r).toInt ≠ 0
  | .leaf (some (0, p, v, _, _, _)), _, _, _, _, X, h, r, hr => by
    obtain ⟨q, rfl, a, -⟩ := h
    rw [List.mem_singleton.mp hr]; omega
  | .leaf (some (_ + 1, p, _, s, _, _)), _, _, _, _, X, h, r, hr => by
    obtain ⟨q, rfl, a, -⟩ := h
    rw [List.mem_singleton.mp hr]; omega
  | .branch 0 (.leaf (some (0, p, _, _, _, w))) t, _, _, _, _, X, h, r, hr => by
    rcases h with ⟨-, -, q, rfl, a, -⟩ | ⟨-, s, Y, q, rfl, a, -, c, d, -⟩
    · rw [List.mem_singleton.mp hr]; omega
    · rcases List.mem_cons.mp hr with g | g
      · rw [g]; omega
      · rcases List.mem_append.mp g with g | g
        · exact cI_00 t c r g
        · rw [List.mem_singleton.mp g]; omega
  | .branch 0 (.leaf (some (1, p, _, k, _, _))) t, _, _, _, _, X, h, r, hr => by
    rcases h with ⟨-, -, q, rfl, a, -⟩ | ⟨-, s, Y, q, rfl, a, -, c, d, -⟩
    · rw [List.mem_singleton.mp hr]; omega
    · rcases List.mem_cons.mp hr with g | g
      · rw [g]; omega
      · rcases List.mem_append.mp g with g | g
        · exact cI_00 t c r g
        · rw [List.mem_singleton.mp g]; omega
  | .branch 1 (.leaf (some (0, p, o, _, _, _))) (.branch _ t u), _, _, _, _, X, h, r, hr => by
    obtain ⟨s, Y, Z, q, rfl, a, -, c, d, e, -⟩ := h
    have he : cI_op o ≠ 0 := by unfold cI_op; split; decide; split; decide; split <;> decide
    rcases List.mem_cons.mp hr with g | g
    · rw [g]; omega
    · rcases List.mem_append.mp g with g | g
      · rcases List.mem_append.mp g with g | g
        · exact cI_00 t c r g
        · exact cI_00 u d r g
      · rw [List.mem_singleton.mp g, e]; exact he
  | .branch 1 (.leaf (some (_ + 1, p, _, k, _, _))) (.branch _ t u), _, _, _, _, X, h, r, hr => by
    obtain ⟨s, Y, q, Z, rfl, a, -, c, d, -, f⟩ := h
    rcases List.mem_cons.mp hr with g | g
    · rw [g]; omega
    · rcases List.mem_append.mp g with g | g
      · rcases List.mem_append.mp g with g | g
        · exact cI_00 t c r g
        · rw [List.mem_singleton.mp g]; omega
      · exact cI_00 u f r g
  | .branch 2 (.leaf (some (_, p, _, _, _, _))) (.branch _ t (.branch _ u w)), _, _, _, _, X, h, r, hr => by
    obtain ⟨s, Y, i, Z, j, U, rfl, a, -, c, d, -, -, g1, k, -, m⟩ := h
    rcases List.mem_cons.mp hr with g | g
    · rw [g]; omega
    · rcases List.mem_append.mp g with g | g
      · rcases List.mem_append.mp g with g | g
        · rcases List.mem_append.mp g with g | g
          · rcases List.mem_append.mp g with g | g
            · exact cI_00 t c r g
            · rw [List.mem_singleton.mp g]; omega
          · exact cI_00 u g1 r g
        · rw [List.mem_singleton.mp g]; omega
      · exact cI_00 w m r g
  | .branch 0 (.leaf (some (2, p, _, k, _, _))) t, _, _, _, _, X, h, r, hr => by
    obtain ⟨s, m, Y, rfl, a, -, c, -, -, f⟩ := h
    rcases List.mem_cons.mp hr with g | g
    · rw [g]; omega
    · rcases List.mem_cons.mp g with g | g
      · rw [g]; omega
      · exact cI_00 t f r g
  | .branch 0 (.leaf (some (_ + 3, p, k, hh, m, _))) t, _, _, _, _, X, h, r, hr => by
    obtain ⟨Y, v, rfl, -, -, -, -, -, -, f, -, i⟩ := h
    rcases List.mem_append.mp hr with g | g
    · exact cI_00 t i r g
    · rw [List.mem_singleton.mp g]; omega
  | .branch 0 (.leaf none) _, _, _, _, _, _, h9, _, _ => h9.elim
  | .branch 0 (.branch _ _ _) _, _, _, _, _, _, h9, _, _ => h9.elim
  | .branch 1 (.leaf none) _, _, _, _, _, _, h9, _, _ => h9.elim
  | .branch 1 (.branch _ _ _) _, _, _, _, _, _, h9, _, _ => h9.elim
  | .branch 1 (.leaf (some (0, _, _, _, _, _))) (.leaf _), _, _, _, _, _, h9, _, _ => h9.elim
  | .branch 1 (.leaf (some (_ + 1, _, _, _, _, _))) (.leaf _), _, _, _, _, _, h9, _, _ => h9.elim
  | .branch 2 (.leaf none) _, _, _, _, _, _, h9, _, _ => h9.elim
  | .branch 2 (.branch _ _ _) _, _, _, _, _, _, h9, _, _ => h9.elim
  | .branch 2 (.leaf (some (_, _, _, _, _, _))) (.leaf _), _, _, _, _, _, h9, _, _ => h9.elim
  | .branch 2 (.leaf (some (_, _, _, _, _, _))) (.branch _ _ (.leaf _)), _, _, _, _, _, h9, _, _ => h9.elim
  | .leaf none, _, _, _, _, X, h, r, hr => by
    obtain ⟨rfl, -⟩ := h
    exact nomatch hr
  | .branch (_ + 3) t u, _, _, _, _, X, h, r, hr => by
    obtain ⟨Y, Z, rfl, a, b, -⟩ := h
    rcases List.mem_append.mp hr with g | g
    · exact cI_00 t a r g
    · exact cI_00 u b r g
section
variable {op a b nx ak an ab al af kf ff pl bu : Nat → Int32} {cz ct az kz : Int32} {nd : Nat → Int32} {H : Int32 → Int64 → Prop} {az9 : Int} {en : Nat → Int32} {Tr : Nat → Tm}
theorem cCh_no : ∀ (n : Nat) {A : List Nat} {fn : Int32}, cCh (zcs op a b pl ak an ab al af bu) H az9 en Tr n A → ∀ g : Nat, n ≤ g → fn.toInt ≠ (g : Int) → zsL (zst op a b nx ak an ab al af kf ff cz ct az kz) nd bu g A fn = 0 ∧ (zsF (zst op a b nx ak an ab al af kf ff cz ct az kz) A fn).toInt ≠ (g : Int)
  | 0, A, fn, h, g, _, hf => by
    have h : A = [] := h
    subst h
    exact ⟨rfl, hf⟩
  | n + 1, A, fn, ⟨A1, X, q, e, h1, h2, h3, h4, h5⟩, g, hg, hf => by
    subst e
    obtain ⟨e1, e2⟩ := cCh_no n h1 g (by omega) hf
    have h3 : (op (Int32.toNatClampNeg (en n))).toInt = 0 := h3
    have h4 : (a (Int32.toNatClampNeg (en n))).toInt = (n : Int) := h4
    have h5 : (op q).toInt = 17 := h5
    have hx : ∀ r ∈ X ++ [q], ((zst op a b nx ak an ab al af kf ff cz ct az kz) 0 r).toInt ≠ 0 := fun r hr => by
      rcases List.mem_append.mp hr with g | g
      · exact cI_00 (Tr n) h2 r g
      · rw [List.mem_singleton.mp g]; show (op q).toInt ≠ 0; omega
    obtain ⟨k1, k2⟩ := zsL_in (S := (zst op a b nx ak an ab al af kf ff cz ct az kz)) (nd := nd) (bu := bu) (g := g) (X ++ [q]) (a (Int32.toNatClampNeg (en n))) hx
    rw [zsL_app, zsF_app, e1]
    refine ⟨?_, ?_⟩
    · show 0 + (if (op (Int32.toNatClampNeg (en n))).toInt = 0 then zsL (zst op a b nx ak an ab al af kf ff cz ct az kz) nd bu g (X ++ [q]) (a (Int32.toNatClampNeg (en n))) else _) = 0
      rw [if_pos h3, k1, if_neg (by omega)]; rfl
    · show (if (op (Int32.toNatClampNeg (en n))).toInt = 0 then zsF (zst op a b nx ak an ab al af kf ff cz ct az kz) (X ++ [q]) (a (Int32.toNatClampNeg (en n))) else _).toInt ≠ _
      rw [if_pos h3, k2]; omega
theorem cCh_g : ∀ (n : Nat) {A : List Nat} {fn : Int32}, cCh (zcs op a b pl ak an ab al af bu) H az9 en Tr n A → ∀ g : Nat, g < n → fn.toInt ≠ (g : Int) → ∃ (A1 X B : List Nat) (q : Nat), A = A1 ++ Int32.toNatClampNeg (en g) :: ((X ++ [q]) ++ B) ∧ zsL (zst op a b nx ak an ab al af kf ff cz ct az kz) nd bu g A fn = zsR (zst op a b nx ak an ab al af kf ff cz ct az kz) nd bu X ∧ cI (zcs op a b pl ak an ab al af bu) H 0 az9 (Tr g) false 0 0 0 X ∧ (op q).toInt = 17
  | 0, A, fn, _, g, hg, _ => absurd hg (Nat.not_lt_zero _)
  | n + 1, A, fn, ⟨A1, X, q, e, h1, h2, h3, h4, h5⟩, g, hg, hf => by
    subst e
    have h3 : (op (Int32.toNatClampNeg (en n))).toInt = 0 := h3
    have h4 : (a (Int32.toNatClampNeg (en n))).toInt = (n : Int) := h4
    have h5 : (op q).toInt = 17 := h5
    have hx : ∀ r ∈ X ++ [q], ((zst op a b nx ak an ab al af kf ff cz ct az kz) 0 r).toInt ≠ 0 := fun r hr => by
      rcases List.mem_append.mp hr with g | g
      · exact cI_00 (Tr n) h2 r g
      · rw [List.mem_singleton.mp g]; show (op q).toInt ≠ 0; omega
    obtain ⟨k1, k2⟩ := zsL_in (S := (zst op a b nx ak an ab al af kf ff cz ct az kz)) (nd := nd) (bu := bu) (g := g) (X ++ [q]) (a (Int32.toNatClampNeg (en n))) hx
    have er : zsL (zst op a b nx ak an ab al af kf ff cz ct az kz) nd bu g (Int32.toNatClampNeg (en n) :: (X ++ [q])) (zsF (zst op a b nx ak an ab al af kf ff cz ct az kz) A1 fn) = if (a (Int32.toNatClampNeg (en n))).toInt = (g : Int) then zsR (zst op a b nx ak an ab al af kf ff cz ct az kz) nd bu (X ++ [q]) else 0 := by
      show (if (op (Int32.toNatClampNeg (en n))).toInt = 0 then zsL (zst op a b nx ak an ab al af kf ff cz ct az kz) nd bu g (X ++ [q]) (a (Int32.toNatClampNeg (en n))) else _) = _
      rw [if_pos h3, k1]
    by_cases u : g = n
    · subst u
      refine ⟨A1, X, [], q, by rw [List.append_nil], ?_, h2, h5⟩
      rw [zsL_app, (cCh_no g h1 g (Nat.le_refl _) hf).1, er, if_pos h4, zsR_app, zsR_1 (op := op) (n := 17) h5 (by decide)]
      show 0 + (_ + 0) = _
      omega
    · obtain ⟨A2, X2, B2, q2, e2, m1, m2, m3⟩ := cCh_g n (fn := fn) h1 g (by omega) hf
      refine ⟨A2, X2, B2 ++ Int32.toNatClampNeg (en n) :: (X ++ [q]), q2, by rw [e2]; simp, ?_, m2, m3⟩
      rw [zsL_app, m1, er, if_neg (by omega)]; omega
theorem zli_sg : ∀ {A Y : List Nat} {e : Nat} {x : Int32}, zli nx x (A ++ e :: Y) → zsg nx e Y
  | [], [], _, _, _ => trivial
  | [], y :: Y, e, x, h => ⟨h.2.1, zli_sg (A := []) (x := nx e) h.2⟩
  | z :: A, Y, e, x, h => zli_sg (A := A) (x := nx z) h.2
/-- every function's shells -/
theorem cSh_all {cz9 : Int} {n z : Nat} {L : List Nat} (hkz : 0 ≤ kz.toInt) (hz : z = Int32.toNatClampNeg kz) (h : cCl (zcs op a b pl ak an ab al af bu) nx H cz9 az9 ct en n Tr) (hl : zli nx 0 L) (hne : L ≠ []) (he : zeq (zst op a b nx ak an ab al af kf ff cz ct az kz) nd L) (hw : ∀ g, g < n → ∃ c : Nat, c ≤ 24 ∧ tm_wf z kf (Tr g) c) (hy : ∀ g, g < n → sy_x (Tr g)) : ∀ g, g < n → zsL (zst op a b nx ak an ab al af kf ff cz ct az kz) nd bu g L (-1) = tm_sh (Tr g) (fun _ => false) 32 := by
  obtain ⟨L2, c1, c2, c3, c4⟩ := h
  intro g hg
  have e9 : Int32.toInt (-1) = -1 := by decide
  rcases c4 with ⟨-, -, d⟩ | ⟨-, -, d, -⟩
  · exfalso
    subst d
    cases n with
    | zero => omega
    | succ n =>
      obtain ⟨A, X, q, e, -⟩ := c1
      exact absurd e.symm (by simp)
  · have e := zli_uq2 d hl
    subst e
    obtain ⟨A1, X, B, q, e1, e2, e3, e4⟩ := cCh_g (nx := nx) (ff := ff) (kf := kf) (nd := nd) (cz := cz) (ct := ct) (az := az) (kz := kz) n (fn := -1) c1 g hg (by omega)
    rw [e2]
    rw [e1] at d
    have s0 := zli_sg d
    rw [List.append_assoc] at s0
    obtain ⟨s1, s2⟩ := zsg_app.mp s0
    have hr := zeq_hz he
    have eB : zBe nx nd (zla (Int32.toNatClampNeg (en g)) X) = fun _ => false := funext fun k => by
      rw [zBe_1 s2.1]
      by_cases hk : k < 32
      · rw [hz_n (n := 17) (hr q (by rw [e1]; simp)) e4 k hk]; rfl
      · exact zbit_ge (by omega)
    obtain ⟨c, w1, w2⟩ := hw g hg
    obtain ⟨y1, y2⟩ := hy g hg
    have := (cSh hkz hz (Tr g) y2).1 (Or.inl y1) rfl e3 s1 (fun r h9 => hr r (by rw [e1]; simp [h9])) w2 w1 (fun k g9 => by rw [eB] at g9; cases g9)
    rw [this, eB]
end

end
