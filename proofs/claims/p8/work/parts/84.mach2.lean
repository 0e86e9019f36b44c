/-! the program as it is worked: where a row leads, which names it needs, the frames of the calls -/
theorem zall_at {S : Nat → Nat → Int32} {G : Nat → Nat → Int} : ∀ {L : List Nat}, zall S G L → ∀ r ∈ L, ∃ (f : Nat) (po : List Nat), zrow S G f r po ∧ ∀ q ∈ r :: po, q ∈ L
  | [], _, r, hr => nomatch hr
  | x :: L, h, r, hr => by
    rcases List.mem_cons.mp hr with g | g
    · obtain ⟨f, z⟩ := h.1
      rw [g]; exact ⟨f, L, z, fun q hq => hq⟩
    · obtain ⟨f, po, z, hq⟩ := zall_at h.2 r g
      exact ⟨f, po, z, fun q h9 => List.mem_cons_of_mem _ (hq q h9)⟩
theorem zeq_at {S : Nat → Nat → Int32} {nd : Nat → Int32} : ∀ {L : List Nat}, zeq S nd L → ∀ r ∈ L, ∀ k, k < 32 → zbit (nd r) k = znb S nd r (zbh S nd r) k (Int32.toNatClampNeg (S 0 r))
  | [], _, r, hr => nomatch hr
  | x :: L, h, r, hr => by
    rcases List.mem_cons.mp hr with g | g
    · rw [g]; exact h.1
    · exact zeq_at h.2 r g
theorem znx_0 {S : Nat → Nat → Int32} {G : Nat → Nat → Int} : ∀ {L : List Nat} {x : Int32} {d : Nat}, zli (S 3) x L → zcc S G L → Int32.toNatClampNeg (S 0 (zla d L)) = 17 ∧ 1000 ≤ G (zla d L) 3 → ∀ q ∈ L, Int32.toNatClampNeg (S 0 q) ≠ 17 ∨ G q 3 < 1000 → ∃ s : Nat, (S 3 q).toInt = (s : Int) ∧ s ∈ L ∧ G s 0 = G q 1 ∧ G s 2 ≤ G q 3 ∧ G s 4 = G q 4
  | [], _, _, _, _, _, q, hq, _ => nomatch hq
  | [r], _, _, _, _, hl, q, hq, ho => by
    have e : q = r := (List.mem_cons.mp hq).elim id (fun g => (nomatch g))
    have hl : Int32.toNatClampNeg (S 0 r) = 17 ∧ 1000 ≤ G r 3 := hl
    rw [e] at ho
    rcases ho with u | u
    · exact (u hl.1).elim
    · omega
  | r :: s :: l, x, d, hi, hc, hl, q, hq, ho => by
    rcases List.mem_cons.mp hq with e | e
    · rw [e] at ho ⊢
      refine ⟨s, hi.2.1, List.mem_cons_of_mem _ List.mem_cons_self, ?_⟩
      rcases hc.1 with u | u
      · rcases ho with v | v
        · exact (v u.1).elim
        · omega
      · exact u
    · obtain ⟨t, h1, h2, h3⟩ := znx_0 (d := r) hi.2 hc.2 hl q e ho
      exact ⟨t, h1, List.mem_cons_of_mem _ h2, h3⟩
/-- how many names the function of row r has -/
def zNm (S : Nat → Nat → Int32) (G : Nat → Nat → Int) (r : Nat) : Int := (S 10 (5 * (G r 4).toNat + 1)).toInt
theorem zab_sc {S : Nat → Nat → Int32} {G : Nat → Nat → Int} {nd : Nat → Int32} {f r k : Nat} {po : List Nat} (hk : k < 32) (bh : ∀ q ∈ r :: po, G q 3 < 1000 → zbit (nd (Int32.toNatClampNeg (S 3 q))) k = true → (S 3 q).toInt ≠ -1 → (k : Int) < G q 3) (h24 : (S 10 (5 * f + 1)).toInt ≤ 24) : ∀ (n : Nat) {AL : List Nat} {x : Int32}, zli (S 5) x AL → (∀ m ∈ AL, zarm S G f r po m) → zab S nd k n x = true → (k : Int) < G r 2
  | 0, _, _, _, _, h => by exact Bool.noConfusion h
  | n + 1, [], x, hl, _, h => by
    have hl : x.toInt = -1 := hl
    unfold zab at h
    rw [if_pos hl] at h; exact Bool.noConfusion h
  | n + 1, y :: AL, x, hl, ha, h => by
    have h1 : x.toInt = (y : Int) := hl.1
    have hn := zn_nat (x := x) (by omega)
    have e : Int32.toNatClampNeg x = y := by omega
    unfold zab at h
    rw [if_neg (by omega), e] at h
    rcases Bool.or_eq_true _ _ |>.mp h with u | u
    · obtain ⟨u1, u2⟩ := Bool.and_eq_true _ _ |>.mp u
      obtain ⟨m1, m2, m3, m4, m5, m6, m7, m8, m9, m10⟩ := ha y List.mem_cons_self
      unfold zbe at u1
      rw [if_neg (by omega)] at u1
      have hlt : (k : Int) < G (Int32.toNatClampNeg (S 6 y)) 3 := by
        by_cases g : (S 3 (Int32.toNatClampNeg (S 6 y))).toInt = -1
        · rw [if_pos g, zbit_z hk] at u1; exact Bool.noConfusion u1
        · rw [if_neg g] at u1
          exact bh _ m7 (by omega) u1 g
      have u3 : ¬ ((S 8 y).toInt ≤ (k : Int) ∧ (k : Int) < (S 8 y).toInt + zfl S (S 4 y)) := fun g => by
        rw [decide_eq_true g.1, decide_eq_true g.2] at u2
        exact Bool.noConfusion u2
      omega
    · exact zab_sc hk bh h24 n hl.2 (fun m hm => ha m (List.mem_cons_of_mem _ hm)) u
/-- the names that a row needs are around it -/
theorem zSL {S : Nat → Nat → Int32} {nd : Nat → Int32} {G : Nat → Nat → Int} : ∀ {po : List Nat} {x : Int32}, zli (S 3) x po → zall S G po → zeq S nd po → (∀ q ∈ po, zNm S G q ≤ 24) → (∀ q ∈ po, Int32.toNatClampNeg (S 0 q) ≠ 17 ∨ G q 3 < 1000 → ∃ s : Nat, (S 3 q).toInt = (s : Int) ∧ G s 2 ≤ G q 3) → ∀ r ∈ po, ∀ k, k < 32 → zbit (nd r) k = true → (k : Int) < G r 2
  | [], _, _, _, _, _, _, r, hr, _, _, _ => nomatch hr
  | r :: po, x, hl, ⟨⟨f, z⟩, ha⟩, he, h24, hn, r', hr', k, hk, hb => by
    have ih := zSL hl.2 ha he.2 (fun q hq => h24 q (List.mem_cons_of_mem _ hq)) (fun q hq => hn q (List.mem_cons_of_mem _ hq))
    rcases List.mem_cons.mp hr' with e | e
    · rw [e] at hb ⊢
      have hch := zli_nx hl
      have bh : ∀ q ∈ r :: po, Int32.toNatClampNeg (S 0 q) ≠ 17 ∨ G q 3 < 1000 → zbit (nd (Int32.toNatClampNeg (S 3 q))) k = true → (S 3 q).toInt ≠ -1 → (k : Int) < G q 3 := fun q hq ho hb g => by
        obtain ⟨s, hs, hs2⟩ := hn q hq ho
        have hsn := zn_nat (x := S 3 q) (by omega)
        have es : Int32.toNatClampNeg (S 3 q) = s := by omega
        have := ih _ ((hch q hq).resolve_left g) k hk hb
        rw [es] at this
        omega
      have h9 := h24 r List.mem_cons_self
      obtain ⟨z1, z2, z3, z4, z5, z6, z7, z8⟩ := z
      have znm : zNm S G r = (S 10 (5 * f + 1)).toInt := by unfold zNm; rw [z7]; rfl
      rw [he.1 k hk] at hb
      have hbh : Int32.toNatClampNeg (S 0 r) ≠ 17 → zbit (zbh S nd r) k = true → (k : Int) < G r 3 := fun ho h => by
        unfold zbh at h
        by_cases g : (S 3 r).toInt = -1
        · rw [if_pos g, zbit_z hk] at h; exact Bool.noConfusion h
        · rw [if_neg g] at h; exact bh r List.mem_cons_self (Or.inl ho) h g
      have htg : ∀ h, ztg S G r po h → zbit (zbe (S 3) nd (S 1 r)) k = true → (k : Int) < G r 2 := fun h t hb => by
        unfold zbe at hb
        rcases t with t | ⟨t1, t2, t3, t4, t5⟩
        · rw [if_pos t, zbit_z hk] at hb; exact Bool.noConfusion hb
        · rw [if_neg (by omega)] at hb
          by_cases g : (S 3 (Int32.toNatClampNeg (S 1 r))).toInt = -1
          · rw [if_pos g, zbit_z hk] at hb; exact Bool.noConfusion hb
          · rw [if_neg g] at hb
            have := bh _ t2 (Or.inr (by omega)) hb g
            omega
      generalize Int32.toNatClampNeg (S 0 r) = n at z8 hb hbh
      match n, z8 with
      | 0, h => simp only [zop] at h; simp only [znb] at hb; have := hbh (by decide) hb; omega
      | 1, h => simp only [zop] at h; simp only [znb] at hb; have := hbh (by decide) hb; omega
      | 2, h => simp only [zop] at h; simp only [znb] at hb; have := hbh (by decide) hb; omega
      | 3, h =>
        simp only [zop] at h; simp only [znb] at hb
        rcases Bool.or_eq_true _ _ |>.mp hb with u | u
        · have := hbh (by decide) u; omega
        · have := eq_of_beq u
          have := zn_nat h.1
          omega
      | 4, h => simp only [zop] at h; simp only [znb] at hb; have := hbh (by decide) hb; omega
      | 5, h => simp only [zop] at h; simp only [znb] at hb; have := hbh (by decide) hb; omega
      | 6, h => simp only [zop] at h; simp only [znb] at hb; have := hbh (by decide) hb; omega
      | 7, h => simp only [zop] at h; simp only [znb] at hb; have := hbh (by decide) hb; omega
      | 8, h => simp only [zop] at h; simp only [znb] at hb; have := hbh (by decide) hb; omega
      | 9, h => simp only [zop] at h; simp only [znb] at hb; have := hbh (by decide) hb; omega
      | 10, h => simp only [zop] at h; simp only [znb] at hb; have := hbh (by decide) hb; omega
      | 11, h => simp only [zop] at h; simp only [znb] at hb; have := hbh (by decide) hb; omega
      | 12, h =>
        simp only [zop] at h; simp only [znb] at hb
        obtain ⟨u1, u2⟩ := Bool.and_eq_true _ _ |>.mp hb
        have := hbh (by decide) u1
        have u3 : k ≠ Int32.toNatClampNeg (S 1 r) := fun g => by
          rw [g, beq_self_eq_true] at u2; exact Bool.noConfusion u2
        have := zn_nat (x := S 1 r) (by omega)
        omega
      | 13, h =>
        simp only [zop] at h; simp only [znb] at hb
        rcases Bool.or_eq_true _ _ |>.mp hb with u | u
        · have := hbh (by decide) u; omega
        · exact htg _ h.2.2.2 u
      | 14, h => simp only [zop] at h; simp only [znb] at hb; exact htg _ h hb
      | 15, h =>
        simp only [zop] at h; simp only [znb] at hb
        obtain ⟨h1, h2, AL, h3, h4, h5⟩ := h
        rcases Bool.or_eq_true _ _ |>.mp hb with u | u
        · have := eq_of_beq u
          have := zn_nat h1
          omega
        · exact zab_sc hk (fun q hq h1000 => bh q hq (Or.inr h1000)) (by omega) 8 h4 h5 u
      | 16, h => simp only [zop] at h; simp only [znb] at hb; exact htg _ h hb
      | 17, h => simp only [znb] at hb; exact Bool.noConfusion hb
      | n + 18, h => exact h.elim
    · exact ih r' e k hk hb
/-- what a program that was read keeps, for its work -/
def zWk (S : Nat → Nat → Int32) (nd en : Nat → Int32) (fz : Int32) (G : Nat → Nat → Int) (L : List Nat) : Prop :=
  (∀ r ∈ L, (r : Int) < (S 11 0).toInt ∧ (∃ (f : Nat) (po : List Nat), zrow S G f r po ∧ ∀ q ∈ r :: po, q ∈ L) ∧ (∃ f : Nat, (f : Int) < fz.toInt ∧ G r 4 = (f : Int)) ∧ 0 ≤ zNm S G r ∧ zNm S G r ≤ 24 ∧ G r 2 ≤ zNm S G r ∧ 0 ≤ G r 0) ∧
  (∀ r ∈ L, ∀ k, k < 32 → zbit (nd r) k = znb S nd r (zbh S nd r) k (Int32.toNatClampNeg (S 0 r))) ∧
  (∀ r ∈ L, ∀ k, k < 32 → zbit (nd r) k = true → (k : Int) < G r 2) ∧
  (∀ q ∈ L, Int32.toNatClampNeg (S 0 q) ≠ 17 ∨ G q 3 < 1000 → ∃ s : Nat, (S 3 q).toInt = (s : Int) ∧ s ∈ L ∧ G s 0 = G q 1 ∧ G s 2 ≤ G q 3 ∧ G s 4 = G q 4) ∧
  (∀ f : Nat, (f : Int) < fz.toInt → 0 ≤ (en f).toInt ∧ Int32.toNatClampNeg (en f) ∈ L ∧ Int32.toNatClampNeg (S 0 (Int32.toNatClampNeg (en f))) = 0 ∧ G (Int32.toNatClampNeg (en f)) 4 = (f : Int)) ∧
  (∀ f : Nat, (f : Int) < fz.toInt → 0 ≤ (S 10 (5 * f)).toInt ∧ (S 10 (5 * f)).toInt ≤ 6 ∧ (S 10 (5 * f)).toInt ≤ (S 10 (5 * f + 1)).toInt ∧ (S 10 (5 * f + 1)).toInt ≤ 24) ∧
  (∀ r ∈ L, Int32.toNatClampNeg (S 0 r) = 6 ∨ Int32.toNatClampNeg (S 0 r) = 7 → 0 ≤ (S 1 r).toInt ∧ (S 1 r).toInt < fz.toInt ∧ S 10 (5 * Int32.toNatClampNeg (S 1 r)) = S 2 r)
theorem zDone_wk {S : Nat → Nat → Int32} {nd en : Nat → Int32} {fz : Int32} {G : Nat → Nat → Int} {L : List Nat} (h : zDone S nd en fz G L) (h0 : 0 ≤ fz.toInt) : zWk S nd en fz G L := by
  obtain ⟨⟨pc, pl, pn, pr, pa, pcc, pe, pf⟩, hne, he, hcall⟩ := h
  have hn := zn_nat h0
  rcases pc with ⟨u, -⟩ | ⟨-, -, hli, -, hl⟩
  · exact (hne u).elim
  have hnx := znx_0 (d := 0) hli pcc hl
  have hnm : ∀ r ∈ L, ∃ f : Nat, (f : Int) < fz.toInt ∧ G r 4 = (f : Int) ∧ zNm S G r = (S 10 (5 * f + 1)).toInt ∧ 0 ≤ zNm S G r ∧ zNm S G r ≤ 24 := fun r hr => by
    obtain ⟨-, f, hf, hG⟩ := pr r hr
    have e : zNm S G r = (S 10 (5 * f + 1)).toInt := by unfold zNm; rw [hG]; rfl
    have := pf f hf
    exact ⟨f, by omega, hG, e, by omega, by omega⟩
  refine ⟨fun r hr => ?_, zeq_at he, zSL hli pa he (fun q hq => by obtain ⟨f, a, b, c, d, e⟩ := hnm q hq; exact e) (fun q hq ho => by obtain ⟨s, a, b, c, d, e⟩ := hnx q hq ho; exact ⟨s, a, d⟩), hnx, fun f hf => pe f (by omega), fun f hf => pf f (by omega), fun r hr => hcall r (pr r hr).1⟩
  obtain ⟨f, a, b, c, d, e⟩ := hnm r hr
  obtain ⟨f', po, z, hq⟩ := zall_at pa r hr
  refine ⟨(pr r hr).1, ⟨f', po, z, hq⟩, ⟨f, a, b⟩, d, e, ?_, z.2.1⟩
  have hf : f' = f := by have := z.2.2.2.2.2.2.1; omega
  have := z.2.2.2.2.2.1
  rw [hf] at this
  omega
/-- a call that waits: frame i, whose callee's frame is i + 1 -/
def zFrm (S : Nat → Nat → Int32) (nd : Nat → Int32) (G : Nat → Nat → Int) (L : List Nat) (p : Nat → Bool) (cb ck : Nat → Int32) (st : Int) (i : Nat) : Prop :=
  ∃ r : Nat, (ck (i + 1)).toInt = (r : Int) ∧ r ∈ L ∧ 1 ≤ G r 0 ∧ 0 ≤ (cb i).toInt ∧ (cb (i + 1)).toInt + 1 = (cb i).toInt + zNm S G r + G r 0 ∧ (cb (i + 1)).toInt + 1 ≤ st + 24 * (i + 1) ∧ (∀ k, k < 32 → zbit (nd r) k = true → p (Int32.toNatClampNeg (cb i) + k) = true) ∧ ∀ k : Nat, (k : Int) + 1 < G r 0 → p (Int32.toNatClampNeg (cb i) + (zNm S G r).toNat + k) = true
def zLow (S : Nat → Nat → Int32) (nd : Nat → Int32) (G : Nat → Nat → Int) (L : List Nat) (p : Nat → Bool) (cb ck : Nat → Int32) (st : Int) (n : Nat) : Prop := ∀ i : Nat, i + 1 < n → zFrm S nd G L p cb ck st i
/-- the machine is about to work row r -/
def zV (S : Nat → Nat → Int32) (nd : Nat → Int32) (G : Nat → Nat → Int) (L : List Nat) (p : Nat → Bool) (cb ck : Nat → Int32) (on ba tp st : Int32) (r : Nat) : Prop :=
  r ∈ L ∧ 1 ≤ on.toInt ∧ on.toInt ≤ 100 ∧ cb (Int32.toNatClampNeg on - 1) = ba ∧ 0 ≤ ba.toInt ∧ tp.toInt = ba.toInt + zNm S G r + G r 0 ∧ tp.toInt ≤ st.toInt + 24 * on.toInt ∧ (0 ≤ st.toInt ∧ st.toInt ≤ 20000) ∧ (∀ k, k < 32 → zbit (nd r) k = true → p (Int32.toNatClampNeg ba + k) = true) ∧ (∀ k : Nat, (k : Int) < G r 0 → p (Int32.toNatClampNeg ba + (zNm S G r).toNat + k) = true) ∧ zLow S nd G L p cb ck st.toInt (Int32.toNatClampNeg on)
/-- frames lie one above the other -/
theorem zLow_le {S : Nat → Nat → Int32} {nd en : Nat → Int32} {fz : Int32} {G : Nat → Nat → Int} {L : List Nat} {p : Nat → Bool} {cb ck : Nat → Int32} {st : Int} {n : Nat} (hw : zWk S nd en fz G L) (h : zLow S nd G L p cb ck st n) : ∀ (d i : Nat), i + d < n → (cb i).toInt ≤ (cb (i + d)).toInt
  | 0, i, _ => Int.le_refl _
  | d + 1, i, hd => by
    have a := zLow_le hw h d i (by omega)
    obtain ⟨r, r1, r2, r3, r4, r5, -⟩ := h (i + d) (by omega)
    have := (hw.1 r r2).2.2.2.1
    show (cb i).toInt ≤ (cb (i + d + 1)).toInt
    omega
theorem zLow_p {S : Nat → Nat → Int32} {nd en : Nat → Int32} {fz : Int32} {G : Nat → Nat → Int} {L : List Nat} {p p2 : Nat → Bool} {cb ck cb2 ck2 : Nat → Int32} {st st2 : Int} {n : Nat} (hw : zWk S nd en fz G L) (h : zLow S nd G L p cb ck st n) (hp : ∀ j : Nat, (j : Int) < (cb (n - 1)).toInt → p j = true → p2 j = true) (hs : st ≤ st2) (hc : ∀ i, i < n → cb2 i = cb i ∧ ck2 i = ck i) : zLow S nd G L p2 cb2 ck2 st2 n := fun i hi => by
  have hl := zLow_le hw h (n - 1 - (i + 1)) (i + 1) (by omega)
  rw [show i + 1 + (n - 1 - (i + 1)) = n - 1 by omega] at hl
  obtain ⟨r, r1, r2, r3, r4, r5, r6, r7, r8⟩ := h i hi
  obtain ⟨w1, w2, w3, w4, w5, w6, w7⟩ := hw.1 r r2
  have hn := zn_nat r4
  refine ⟨r, by rw [(hc (i + 1) hi).2]; exact r1, r2, r3, by rw [(hc i (by omega)).1]; exact r4, by rw [(hc i (by omega)).1, (hc (i + 1) hi).1]; exact r5, by rw [(hc (i + 1) hi).1]; omega, fun k hk hb => ?_, fun k hk => ?_⟩
  · rw [(hc i (by omega)).1]
    have := hw.2.2.1 r r2 k hk hb
    exact hp _ (by omega) (r7 k hk hb)
  · rw [(hc i (by omega)).1]
    exact hp _ (by omega) (r8 k hk)
/-- on to row s of the same function -/
theorem zV_go {S : Nat → Nat → Int32} {nd en : Nat → Int32} {fz : Int32} {G : Nat → Nat → Int} {L : List Nat} {p p2 : Nat → Bool} {cb ck : Nat → Int32} {on ba tp st tp2 st2 : Int32} {r s : Nat} (hw : zWk S nd en fz G L) (h : zV S nd G L p cb ck on ba tp st r) (hs : s ∈ L) (h4 : G s 4 = G r 4) (ht : tp2.toInt = tp.toInt - G r 0 + G s 0) (hg : tp2.toInt - tp.toInt ≤ st2.toInt - st.toInt) (h1 : st.toInt ≤ st2.toInt) (h2 : st2.toInt ≤ 20000) (hb : ∀ k, k < 32 → zbit (nd s) k = true → p2 (Int32.toNatClampNeg ba + k) = true) (ho : ∀ k : Nat, (k : Int) < G s 0 → p2 (Int32.toNatClampNeg ba + (zNm S G r).toNat + k) = true) (hl : ∀ j : Nat, (j : Int) < ba.toInt → p j = true → p2 j = true) : zV S nd G L p2 cb ck on ba tp2 st2 s := by
  obtain ⟨v1, v2, v3, v4, v5, v6, v7, v8, v9, va, vb⟩ := h
  have e : zNm S G s = zNm S G r := by unfold zNm; rw [h4]
  refine ⟨hs, v2, v3, v4, v5, by rw [e]; omega, by omega, ⟨by omega, h2⟩, hb, by rw [e]; exact ho, zLow_p hw vb (fun j hj => hl j (by rw [v4] at hj; exact hj)) h1 (fun _ _ => ⟨rfl, rfl⟩)⟩
/-- the next row -/
theorem zV_nx {S : Nat → Nat → Int32} {nd en : Nat → Int32} {fz : Int32} {G : Nat → Nat → Int} {L : List Nat} {r : Nat} (hw : zWk S nd en fz G L) (hr : r ∈ L) (ho : Int32.toNatClampNeg (S 0 r) ≠ 17) : ∃ s : Nat, (S 3 r).toInt = (s : Int) ∧ s ∈ L ∧ G s 0 = G r 1 ∧ G s 4 = G r 4 ∧ zbh S nd r = nd s := by
  obtain ⟨s, a, b, c, -, d⟩ := hw.2.2.2.1 r hr (Or.inl ho)
  have hn := zn_nat (x := S 3 r) (by omega)
  refine ⟨s, a, b, c, d, ?_⟩
  unfold zbh
  rw [if_neg (by omega), show Int32.toNatClampNeg (S 3 r) = s by omega]
/-- a row that another one leads behind -/
theorem zV_tg {S : Nat → Nat → Int32} {nd en : Nat → Int32} {fz : Int32} {G : Nat → Nat → Int} {L : List Nat} {q : Int32} (hw : zWk S nd en fz G L) (h0 : 0 ≤ q.toInt) (hq : Int32.toNatClampNeg q ∈ L) (h3 : G (Int32.toNatClampNeg q) 3 < 1000) : ∃ s : Nat, (S 3 (Int32.toNatClampNeg q)).toInt = (s : Int) ∧ s ∈ L ∧ G s 0 = G (Int32.toNatClampNeg q) 1 ∧ G s 4 = G (Int32.toNatClampNeg q) 4 ∧ zbe (S 3) nd q = nd s := by
  obtain ⟨s, a, b, c, -, d⟩ := hw.2.2.2.1 _ hq (Or.inr h3)
  have hn := zn_nat (x := S 3 (Int32.toNatClampNeg q)) (by omega)
  refine ⟨s, a, b, c, d, ?_⟩
  unfold zbe
  rw [if_neg (by omega), if_neg (by omega), show Int32.toNatClampNeg (S 3 (Int32.toNatClampNeg q)) = s by omega]
/-- row r's law -/
theorem zV_row {S : Nat → Nat → Int32} {nd en : Nat → Int32} {fz : Int32} {G : Nat → Nat → Int} {L : List Nat} {r n : Nat} (hw : zWk S nd en fz G L) (hr : r ∈ L) (ho : Int32.toNatClampNeg (S 0 r) = n) : ∃ (f : Nat) (po : List Nat), zop S G f r po n ∧ (∀ q ∈ r :: po, q ∈ L) ∧ G r 4 = (f : Int) ∧ (f : Int) < fz.toInt ∧ zNm S G r = (S 10 (5 * f + 1)).toInt ∧ ∀ k, k < 32 → zbit (nd r) k = znb S nd r (zbh S nd r) k n := by
  obtain ⟨-, ⟨f, po, z, hq⟩, ⟨f', hf, hG⟩, -⟩ := hw.1 r hr
  have hb := hw.2.1 r hr
  rw [ho] at hb
  have z8 := z.2.2.2.2.2.2.2
  rw [ho] at z8
  have z7 := z.2.2.2.2.2.2.1
  exact ⟨f, po, z8, hq, z7, by omega, by unfold zNm; rw [z7]; rfl, hb⟩
/-- rows that need just what comes behind them: STEP, NUMBER, KIND ALONE, KIND, the signs -/
theorem zV_pl {S : Nat → Nat → Int32} {nd en : Nat → Int32} {fz : Int32} {G : Nat → Nat → Int} {L : List Nat} {p p2 : Nat → Bool} {cb ck : Nat → Int32} {on ba tp st tp2 st2 : Int32} {r n : Nat} (hw : zWk S nd en fz G L) (h : zV S nd G L p cb ck on ba tp st r) (ho : Int32.toNatClampNeg (S 0 r) = n) (hn : n = 1 ∨ n = 2 ∨ n = 4 ∨ n = 5 ∨ n = 8 ∨ n = 9 ∨ n = 10 ∨ n = 11) (ht : tp2.toInt = tp.toInt - G r 0 + G r 1) (hg : tp2.toInt - tp.toInt ≤ st2.toInt - st.toInt) (h1 : st.toInt ≤ st2.toInt) (h2 : st2.toInt ≤ 20000) (hp : ∀ j : Nat, (j : Int) < ba.toInt + zNm S G r → p j = true → p2 j = true) (hop : ∀ k : Nat, (k : Int) < G r 1 → p2 (Int32.toNatClampNeg ba + (zNm S G r).toNat + k) = true) : ∃ s : Nat, (S 3 r).toInt = (s : Int) ∧ zV S nd G L p2 cb ck on ba tp2 st2 s := by
  have hr := h.1
  have hba := zn_nat h.2.2.2.2.1
  obtain ⟨w1, w2, w3, w4, w5, w6, w7⟩ := hw.1 r hr
  obtain ⟨s, a, b, c, d, e⟩ := zV_nx hw hr (by rw [ho]; omega)
  obtain ⟨f, po, -, -, -, -, -, hb⟩ := zV_row hw hr ho
  refine ⟨s, a, zV_go hw h b d (by omega) hg h1 h2 (fun k hk hk2 => ?_) (fun k hk => hop k (by omega)) (fun j hj => hp j (by omega))⟩
  have hbk : zbit (nd r) k = true := by
    rw [hb k hk, e]
    rcases hn with g | g | g | g | g | g | g | g <;> (rw [g]; exact hk2)
  have := hw.2.2.1 r hr k hk hbk
  exact hp _ (by omega) (h.2.2.2.2.2.2.2.2.1 k hk hbk)
/-- NAME -/
theorem zV_nm {S : Nat → Nat → Int32} {nd en : Nat → Int32} {fz : Int32} {G : Nat → Nat → Int} {L : List Nat} {p p2 : Nat → Bool} {cb ck : Nat → Int32} {on ba tp st tp2 st2 : Int32} {r : Nat} (hw : zWk S nd en fz G L) (h : zV S nd G L p cb ck on ba tp st r) (ho : Int32.toNatClampNeg (S 0 r) = 3) (ht : tp2.toInt = tp.toInt + 1) (h1 : st2.toInt = st.toInt + 1) (h2 : st2.toInt ≤ 20000) (ht2 : p2 (Int32.toNatClampNeg tp) = true) (hp : ∀ j : Nat, p j = true → j ≠ Int32.toNatClampNeg ba + Int32.toNatClampNeg (S 1 r) ∨ zbit (zbh S nd r) (Int32.toNatClampNeg (S 1 r)) = true → p2 j = true) : ∃ s : Nat, (S 3 r).toInt = (s : Int) ∧ zV S nd G L p2 cb ck on ba tp2 st2 s := by
  have hr := h.1
  have hba := zn_nat h.2.2.2.2.1
  obtain ⟨w1, w2, w3, w4, w5, w6, w7⟩ := hw.1 r hr
  have htp := h.2.2.2.2.2.1
  have htn := zn_nat (x := tp) (by omega)
  obtain ⟨s, a, b, c, d, e⟩ := zV_nx hw hr (by rw [ho]; decide)
  obtain ⟨f, po, z, -, -, -, -, hb⟩ := zV_row hw hr ho
  simp only [zop] at z
  obtain ⟨z1, z2, z3, z4⟩ := z
  have zn := zn_nat z1
  refine ⟨s, a, zV_go hw h b d (by omega) (by omega) (by omega) h2 (fun k hk hk2 => ?_) (fun k hk => ?_) (fun j hj hpj => hp j hpj (Or.inl (by omega)))⟩
  · have hbk : zbit (nd r) k = true := by
      rw [hb k hk, e]
      show (zbit (nd s) k || _) = true
      rw [hk2]; rfl
    refine hp _ (h.2.2.2.2.2.2.2.2.1 k hk hbk) ?_
    by_cases g : k = Int32.toNatClampNeg (S 1 r)
    · right; rw [← g, e]; exact hk2
    · left; omega
  · by_cases g : (k : Int) = G r 0
    · rw [show Int32.toNatClampNeg ba + (zNm S G r).toNat + k = Int32.toNatClampNeg tp by omega]; exact ht2
    · exact hp _ (h.2.2.2.2.2.2.2.2.2.1 k (by omega)) (Or.inl (by omega))
/-- LET -/
theorem zV_let {S : Nat → Nat → Int32} {nd en : Nat → Int32} {fz : Int32} {G : Nat → Nat → Int} {L : List Nat} {p p2 : Nat → Bool} {cb ck : Nat → Int32} {on ba tp st tp2 : Int32} {r : Nat} (hw : zWk S nd en fz G L) (h : zV S nd G L p cb ck on ba tp st r) (ho : Int32.toNatClampNeg (S 0 r) = 12) (ht : tp2.toInt = tp.toInt - 1) (hs : zbit (zbh S nd r) (Int32.toNatClampNeg (S 1 r)) = true → p2 (Int32.toNatClampNeg ba + Int32.toNatClampNeg (S 1 r)) = true) (hp : ∀ j : Nat, p j = true → j ≠ Int32.toNatClampNeg ba + Int32.toNatClampNeg (S 1 r) → (j : Int) ≠ tp2.toInt → p2 j = true) : ∃ s : Nat, (S 3 r).toInt = (s : Int) ∧ zV S nd G L p2 cb ck on ba tp2 st s := by
  have hr := h.1
  have hba := zn_nat h.2.2.2.2.1
  obtain ⟨w1, w2, w3, w4, w5, w6, w7⟩ := hw.1 r hr
  have htp := h.2.2.2.2.2.1
  have hst := h.2.2.2.2.2.2.2.1
  obtain ⟨s, a, b, c, d, e⟩ := zV_nx hw hr (by rw [ho]; decide)
  obtain ⟨f, po, z, -, -, -, zf, hb⟩ := zV_row hw hr ho
  simp only [zop] at z
  obtain ⟨z1, z2, z3, z4, z5⟩ := z
  have w4' := (hw.1 r hr).2.1
  have zn := zn_nat (x := S 1 r) (by obtain ⟨f', po', z', -⟩ := w4'; have := z'.2.2.2.1; omega)
  refine ⟨s, a, zV_go hw h b d (by omega) (by omega) (by omega) hst.2 (fun k hk hk2 => ?_) (fun k hk => ?_) (fun j hj hpj => hp j hpj (by omega) (by omega))⟩
  · by_cases g : k = Int32.toNatClampNeg (S 1 r)
    · rw [g]; exact hs (by rw [← g, e]; exact hk2)
    · have hbk : zbit (nd r) k = true := by
        rw [hb k hk, e]
        show (zbit (nd s) k && !(k == Int32.toNatClampNeg (S 1 r))) = true
        rw [hk2, beq_false_of_ne g]; rfl
      have := hw.2.2.1 r hr k hk hbk
      exact hp _ (h.2.2.2.2.2.2.2.2.1 k hk hbk) (by omega) (by omega)
  · exact hp _ (h.2.2.2.2.2.2.2.2.2.1 k (by omega)) (by omega) (by omega)
/-- on to a row that needs no more names: IF, JUMP, LEAVE -/
theorem zV_br {S : Nat → Nat → Int32} {nd en : Nat → Int32} {fz : Int32} {G : Nat → Nat → Int} {L : List Nat} {p p2 : Nat → Bool} {cb ck : Nat → Int32} {on ba tp st tp2 mask : Int32} {r s : Nat} (hw : zWk S nd en fz G L) (h : zV S nd G L p cb ck on ba tp st r) (hs : s ∈ L) (h4 : G s 4 = G r 4) (ht : tp2.toInt = tp.toInt - G r 0 + G s 0) (hle : G s 0 ≤ G r 0) (hsub : ∀ k, k < 32 → zbit (nd s) k = true → zbit (nd r) k = true) (hm : ∀ k, k < 24 → zbit mask k = true → zbit (nd r) k = true ∧ zbit (nd s) k = false) (hp : ∀ j : Nat, p j = true → (∀ k, k < 24 → zbit mask k = true → j ≠ Int32.toNatClampNeg ba + k) → p2 j = true) : zV S nd G L p2 cb ck on ba tp2 st s := by
  have hr := h.1
  have hba := zn_nat h.2.2.2.2.1
  obtain ⟨w1, w2, w3, w4, w5, w6, w7⟩ := hw.1 r hr
  have hst := h.2.2.2.2.2.2.2.1
  refine zV_go hw h hs h4 ht (by omega) (Int.le_refl _) hst.2 (fun k hk hk2 => ?_) (fun k hk => ?_) (fun j hj hpj => hp j hpj (fun k _ _ => by omega))
  · refine hp _ (h.2.2.2.2.2.2.2.2.1 k hk (hsub k hk hk2)) (fun k' hk' hm' e => ?_)
    have : k' = k := by omega
    rw [this] at hm' hk'
    rw [(hm k hk' hm').2] at hk2
    exact Bool.noConfusion hk2
  · refine hp _ (h.2.2.2.2.2.2.2.2.2.1 k (by omega)) (fun k' hk' hm' => ?_)
    have := hw.2.2.1 r hr k' (by omega) (hm k' hk' hm').1
    omega
/-- the machine is about to begin a function -/
def zV0 (S : Nat → Nat → Int32) (nd : Nat → Int32) (G : Nat → Nat → Int) (L : List Nat) (p : Nat → Bool) (cb ck : Nat → Int32) (on ba tp st : Int32) (r : Nat) : Prop :=
  r ∈ L ∧ Int32.toNatClampNeg (S 0 r) = 0 ∧ 1 ≤ on.toInt ∧ on.toInt ≤ 100 ∧ cb (Int32.toNatClampNeg on - 1) = ba ∧ 0 ≤ ba.toInt ∧ tp.toInt = ba.toInt + zNm S G r ∧ tp.toInt ≤ st.toInt + 24 * on.toInt ∧ (0 ≤ st.toInt ∧ st.toInt ≤ 20000) ∧ (∀ k : Nat, (k : Int) < (S 10 (5 * (G r 4).toNat)).toInt → p (Int32.toNatClampNeg ba + k) = true) ∧ zLow S nd G L p cb ck st.toInt (Int32.toNatClampNeg on)
theorem zV_en {S : Nat → Nat → Int32} {nd en : Nat → Int32} {fz : Int32} {G : Nat → Nat → Int} {L : List Nat} {p p2 : Nat → Bool} {cb ck : Nat → Int32} {on ba tp st mask : Int32} {r : Nat} (hw : zWk S nd en fz G L) (h : zV0 S nd G L p cb ck on ba tp st r) (hm : ∀ k, k < 24 → zbit mask k = true → zbit (zbh S nd r) k = false) (hp : ∀ j : Nat, p j = true → (∀ k, k < 24 → zbit mask k = true → j ≠ Int32.toNatClampNeg ba + k) → p2 j = true) : ∃ s : Nat, (S 3 r).toInt = (s : Int) ∧ zV S nd G L p2 cb ck on ba tp st s := by
  obtain ⟨v1, v0, v2, v3, v4, v5, v6, v7, v8, v9, vb⟩ := h
  have hba := zn_nat v5
  obtain ⟨s, a, b, c, d, e⟩ := zV_nx hw v1 (by rw [v0]; decide)
  obtain ⟨s', a', -, -, c', -⟩ := hw.2.2.2.1 _ v1 (Or.inl (by rw [v0]; decide))
  have es : s' = s := by omega
  rw [es] at c'
  obtain ⟨f, po, z, -, zf, -, -, -⟩ := zV_row hw v1 v0
  simp only [zop] at z
  obtain ⟨z1, z2, z3, z4, z5, z6⟩ := z
  have eN : zNm S G s = zNm S G r := by unfold zNm; rw [d]
  have et : (S 10 (5 * (G r 4).toNat)).toInt = (S 10 (5 * f)).toInt := by rw [zf]; rfl
  refine ⟨s, a, b, v2, v3, v4, v5, by rw [eN]; omega, v7, v8, fun k hk hk2 => ?_, fun k hk => by omega, zLow_p hw vb (fun j hj hpj => hp j hpj (fun k _ _ => by rw [v4] at hj; omega)) (Int.le_refl _) (fun _ _ => ⟨rfl, rfl⟩)⟩
  have := hw.2.2.1 s b k hk hk2
  refine hp _ (v9 k (by omega)) (fun k' hk' hm' e' => ?_)
  have ek : k' = k := by omega
  rw [ek] at hm' hk'
  have := hm k hk' hm'
  rw [e, hk2] at this
  exact Bool.noConfusion this
/-- a call -/
theorem zV_call {S : Nat → Nat → Int32} {nd en : Nat → Int32} {fz : Int32} {G : Nat → Nat → Int} {L : List Nat} {p : Nat → Bool} {cb ck cb2 ck2 : Nat → Int32} {on ba tp st on2 ba2 tp2 : Int32} {r : Nat} (hw : zWk S nd en fz G L) (h : zV S nd G L p cb ck on ba tp st r) (ho : Int32.toNatClampNeg (S 0 r) = 6 ∨ Int32.toNatClampNeg (S 0 r) = 7) (hg : Int32.toNatClampNeg (S 0 r) = 7 ∨ tp.toInt + 1 ≤ st.toInt + 24 * on.toInt) (hon : on.toInt < 100) (hb2 : ba2.toInt = tp.toInt - (S 2 r).toInt) (ht2 : tp2.toInt = ba2.toInt + (S 10 (5 * Int32.toNatClampNeg (S 1 r) + 1)).toInt) (hon2 : on2.toInt = on.toInt + 1) (ecb : cb2 = upd cb (Int32.toNatClampNeg on) ba2) (eck : ck2 = upd ck (Int32.toNatClampNeg on) (S 3 r)) : 0 ≤ (en (Int32.toNatClampNeg (S 1 r))).toInt ∧ zV0 S nd G L p cb2 ck2 on2 ba2 tp2 st (Int32.toNatClampNeg (en (Int32.toNatClampNeg (S 1 r)))) := by
  obtain ⟨v1, v2, v3, v4, v5, v6, v7, v8, v9, va, vb⟩ := h
  have hba := zn_nat v5
  have hn := zn_nat (x := on) (by omega)
  have hn2 := zn_nat (x := on2) (by omega)
  obtain ⟨w1, w2, w3, w4, w5, w6, w7⟩ := hw.1 r v1
  obtain ⟨c1, c2, c3⟩ := hw.2.2.2.2.2.2 r v1 ho
  have hf2 := zn_nat c1
  obtain ⟨e1, e2, e3, e4⟩ := hw.2.2.2.2.1 (Int32.toNatClampNeg (S 1 r)) (by omega)
  obtain ⟨t1, t2, t3, t4⟩ := hw.2.2.2.2.2.1 (Int32.toNatClampNeg (S 1 r)) (by omega)
  obtain ⟨s, a, b, c, d, e⟩ := zV_nx hw v1 (by rcases ho with g | g <;> (rw [g]; decide))
  have hz : 0 ≤ (S 2 r).toInt ∧ (S 2 r).toInt ≤ G r 0 ∧ G r 1 = G r 0 - (S 2 r).toInt + 1 ∧ (Int32.toNatClampNeg (S 0 r) = 7 → 1 ≤ (S 2 r).toInt) ∧ ∀ k, k < 32 → zbit (nd s) k = true → zbit (nd r) k = true := by
    rcases ho with g | g
    · obtain ⟨f, po, z, -, -, -, -, hb⟩ := zV_row hw v1 g
      simp only [zop] at z
      exact ⟨z.1, z.2.1, z.2.2.1, fun u => by omega, fun k hk hk2 => by rw [hb k hk, e]; exact hk2⟩
    · obtain ⟨f, po, z, -, -, -, -, hb⟩ := zV_row hw v1 g
      simp only [zop] at z
      exact ⟨by omega, z.2.1, z.2.2.1, fun _ => z.1, fun k hk hk2 => by rw [hb k hk, e]; exact hk2⟩
  obtain ⟨z1, z2, z3, z4, z5⟩ := hz
  have eN : zNm S G s = zNm S G r := by unfold zNm; rw [d]
  have eM : zNm S G (Int32.toNatClampNeg (en (Int32.toNatClampNeg (S 1 r)))) = (S 10 (5 * Int32.toNatClampNeg (S 1 r) + 1)).toInt := by unfold zNm; rw [e4]; rfl
  have eT : (S 10 (5 * (G (Int32.toNatClampNeg (en (Int32.toNatClampNeg (S 1 r)))) 4).toNat)).toInt = (S 2 r).toInt := by rw [e4]; show (S 10 (5 * Int32.toNatClampNeg (S 1 r))).toInt = _; rw [c3]
  have hgr : ba2.toInt + 1 ≤ st.toInt + 24 * on.toInt := by
    rcases hg with g | g
    · have := z4 g; omega
    · omega
  have hb2n := zn_nat (x := ba2) (by omega)
  refine ⟨e1, e2, e3, by omega, by omega, by rw [ecb, show Int32.toNatClampNeg on2 - 1 = Int32.toNatClampNeg on by omega, zu_s], by omega, by rw [eM]; exact ht2, by omega, v8, fun k hk => ?_, fun i hi => ?_⟩
  · rw [eT] at hk
    have := va ((G r 0).toNat - Int32.toNatClampNeg (S 2 r) + k) (by have := zn_nat z1; omega)
    rw [show Int32.toNatClampNeg ba + (zNm S G r).toNat + ((G r 0).toNat - Int32.toNatClampNeg (S 2 r) + k) = Int32.toNatClampNeg ba2 + k by have := zn_nat z1; omega] at this
    exact this
  · by_cases g : i + 1 < Int32.toNatClampNeg on
    · exact zLow_p hw vb (fun _ _ h => h) (Int.le_refl _) (fun j hj => ⟨by rw [ecb, zu_n (by omega)], by rw [eck, zu_n (by omega)]⟩) i g
    · have ei : i = Int32.toNatClampNeg on - 1 := by omega
      have ei1 : i + 1 = Int32.toNatClampNeg on := by omega
      have k1 : cb2 i = ba := by rw [ecb, zu_n (by omega), ei]; exact v4
      have k2 : cb2 (i + 1) = ba2 := by rw [ecb, ei1, zu_s]
      have k3 : ck2 (i + 1) = S 3 r := by rw [eck, ei1, zu_s]
      refine ⟨s, by rw [k3]; exact a, b, by omega, by rw [k1]; exact v5, by rw [k1, k2, eN]; omega, by rw [k2]; omega, fun k hk hk2 => by rw [k1]; exact v9 k hk (z5 k hk hk2), fun k hk => by rw [k1, eN]; exact va k (by omega)⟩
/-- a call ends, and another one goes on -/
theorem zV_ret {S : Nat → Nat → Int32} {nd en : Nat → Int32} {fz : Int32} {G : Nat → Nat → Int} {L : List Nat} {p p2 : Nat → Bool} {cb ck : Nat → Int32} {on ba tp st on2 ba2 tp2 : Int32} {r : Nat} (hw : zWk S nd en fz G L) (h : zV S nd G L p cb ck on ba tp st r) (hon2 : on2.toInt = on.toInt - 1) (h1 : 1 ≤ on2.toInt) (hb : ba2 = cb (Int32.toNatClampNeg on2 - 1)) (ht : tp2.toInt = ba.toInt + 1) (hp : ∀ j : Nat, (j : Int) < ba.toInt → p j = true → p2 j = true) (hpb : p2 (Int32.toNatClampNeg ba) = true) : ∃ s : Nat, (ck (Int32.toNatClampNeg on2)).toInt = (s : Int) ∧ zV S nd G L p2 cb ck on2 ba2 tp2 st s := by
  obtain ⟨v1, v2, v3, v4, v5, v6, v7, v8, v9, va, vb⟩ := h
  have hn := zn_nat (x := on) (by omega)
  have hn2 := zn_nat (x := on2) (by omega)
  have hba := zn_nat v5
  obtain ⟨s, a, b, c, d, e, f, g, k⟩ := vb (Int32.toNatClampNeg on2 - 1) (by omega)
  rw [show Int32.toNatClampNeg on2 - 1 + 1 = Int32.toNatClampNeg on2 by omega] at a e f
  rw [show Int32.toNatClampNeg on - 1 = Int32.toNatClampNeg on2 by omega] at v4
  rw [v4] at e f
  rw [← hb] at d e g k
  obtain ⟨w1, w2, w3, w4, w5, w6, w7⟩ := hw.1 s b
  have hb2 := zn_nat d
  refine ⟨s, a, b, h1, by omega, hb.symm, d, by omega, by omega, v8, fun i hi hi2 => ?_, fun i hi => ?_, ?_⟩
  · have := hw.2.2.1 s b i hi hi2
    exact hp _ (by omega) (g i hi hi2)
  · by_cases q : (i : Int) + 1 < G s 0
    · exact hp _ (by omega) (k i q)
    · rw [show Int32.toNatClampNeg ba2 + (zNm S G s).toNat + i = Int32.toNatClampNeg ba by omega]; exact hpb
  · have vb2 : zLow S nd G L p cb ck st.toInt (Int32.toNatClampNeg on2) := fun i hi => vb i (by omega)
    exact zLow_p hw vb2 (fun j hj => hp j (by rw [← hb] at hj; omega)) (Int.le_refl _) (fun _ _ => ⟨rfl, rfl⟩)
theorem zab_in {S : Nat → Nat → Int32} {nd : Nat → Int32} {k m : Nat} : ∀ (n : Nat) {AL : List Nat} {x : Int32}, zli (S 5) x AL → AL.length ≤ n → m ∈ AL → zbit (zbe (S 3) nd (S 6 m)) k = true → ¬ ((S 8 m).toInt ≤ (k : Int) ∧ (k : Int) < (S 8 m).toInt + zfl S (S 4 m)) → zab S nd k n x = true
  | 0, [], _, _, _, hm, _, _ => nomatch hm
  | 0, _ :: _, _, _, hn, _, _, _ => absurd hn (by simp)
  | n + 1, [], _, _, _, hm, _, _ => nomatch hm
  | n + 1, y :: AL, x, hl, hn, hm, hb, hf => by
    have h1 : x.toInt = (y : Int) := hl.1
    have hx := zn_nat (x := x) (by omega)
    have e : Int32.toNatClampNeg x = y := by omega
    unfold zab
    rw [if_neg (by omega), e]
    rcases List.mem_cons.mp hm with g | g
    · rw [g] at hb hf
      have hd : (decide ((S 8 y).toInt ≤ (k : Int)) && decide ((k : Int) < (S 8 y).toInt + zfl S (S 4 y))) = false := by
        cases q : (decide ((S 8 y).toInt ≤ (k : Int)) && decide ((k : Int) < (S 8 y).toInt + zfl S (S 4 y))) with
        | false => rfl
        | true =>
          obtain ⟨q1, q2⟩ := Bool.and_eq_true _ _ |>.mp q
          exact (hf ⟨of_decide_eq_true q1, of_decide_eq_true q2⟩).elim
      rw [hb, hd]; rfl
    · rw [zab_in n hl.2 (by rw [List.length_cons] at hn; omega) g hb hf, Bool.or_true]
/-- MATCH: its names and arms -/
theorem zV_mr {S : Nat → Nat → Int32} {nd en : Nat → Int32} {fz : Int32} {G : Nat → Nat → Int} {L : List Nat} {p : Nat → Bool} {cb ck : Nat → Int32} {on ba tp st : Int32} {r : Nat} (hw : zWk S nd en fz G L) (h : zV S nd G L p cb ck on ba tp st r) (ho : Int32.toNatClampNeg (S 0 r) = 15) : 0 ≤ (S 1 r).toInt ∧ (S 1 r).toInt < G r 2 ∧ G r 2 ≤ 24 ∧ zbit (nd r) (Int32.toNatClampNeg (S 1 r)) = true ∧ ∃ AL : List Nat, AL.length ≤ 8 ∧ zli (S 5) (S 2 r) AL ∧ ∀ m ∈ AL, (m : Int) < (S 13 0).toInt ∧ zkd S (S 4 m) ∧ (S 8 m).toInt = G r 2 ∧ G r 2 + zfl S (S 4 m) ≤ zNm S G r ∧ 0 ≤ (S 6 m).toInt ∧ ∃ s : Nat, (S 3 (Int32.toNatClampNeg (S 6 m))).toInt = (s : Int) ∧ s ∈ L ∧ G s 0 = G r 0 ∧ G s 4 = G r 4 ∧ zbe (S 3) nd (S 6 m) = nd s := by
  have hr := h.1
  obtain ⟨w1, w2, w3, w4, w5, w6, w7⟩ := hw.1 r hr
  obtain ⟨f, po, z, hq, zf, -, zn, hb⟩ := zV_row hw hr ho
  simp only [zop] at z
  obtain ⟨z1, z2, AL, z3, z4, z5⟩ := z
  have za := zn_nat z1
  refine ⟨z1, z2, by omega, ?_, AL, z3, z4, fun m hm => ?_⟩
  · rw [hb _ (by omega)]
    show (Int32.toNatClampNeg (S 1 r) == Int32.toNatClampNeg (S 1 r) || _) = true
    rw [beq_self_eq_true]; rfl
  · obtain ⟨m1, m2, m3, m4, m5, m6, m7, m8, m9, m10⟩ := z5 m hm
    obtain ⟨s, a, b, c, d, e⟩ := zV_tg hw m6 (hq _ m7) (by omega)
    exact ⟨m1, m3, m4, by omega, m6, s, a, b, by omega, by omega, e⟩
theorem zV_mt {S : Nat → Nat → Int32} {nd en : Nat → Int32} {fz : Int32} {G : Nat → Nat → Int} {L : List Nat} {p p2 : Nat → Bool} {cb ck : Nat → Int32} {on ba tp st mask : Int32} {r s m : Nat} {AL : List Nat} (hw : zWk S nd en fz G L) (h : zV S nd G L p cb ck on ba tp st r) (ho : Int32.toNatClampNeg (S 0 r) = 15) (hA : AL.length ≤ 8) (hli : zli (S 5) (S 2 r) AL) (hmA : m ∈ AL) (h8 : (S 8 m).toInt = G r 2) (hs : s ∈ L) (h0 : G s 0 = G r 0) (h4 : G s 4 = G r 4) (he : zbe (S 3) nd (S 6 m) = nd s) (hm : ∀ k, k < 24 → zbit mask k = true → zbit (nd r) k = true ∧ zbit (nd s) k = false) (hp : ∀ j : Nat, p j = true → j ≠ Int32.toNatClampNeg ba + Int32.toNatClampNeg (S 1 r) ∨ zbit (nd s) (Int32.toNatClampNeg (S 1 r)) = true → (∀ k, k < 24 → zbit mask k = true → j ≠ Int32.toNatClampNeg ba + k) → p2 j = true) (hf : ∀ i : Nat, (i : Int) < zfl S (S 4 m) → zbit (nd s) (Int32.toNatClampNeg (S 8 m) + i) = true → p2 (Int32.toNatClampNeg ba + Int32.toNatClampNeg (S 8 m) + i) = true) : zV S nd G L p2 cb ck on ba tp st s := by
  have hr := h.1
  have hba := zn_nat h.2.2.2.2.1
  obtain ⟨w1, w2, w3, w4, w5, w6, w7⟩ := hw.1 r hr
  obtain ⟨q1, q2, q3, q4, -⟩ := zV_mr hw h ho
  have hst := h.2.2.2.2.2.2.2.1
  have za := zn_nat q1
  have z8 := zn_nat (x := S 8 m) (by omega)
  obtain ⟨f, po, z, -, -, -, -, hb⟩ := zV_row hw hr ho
  refine zV_go hw h hs h4 (by omega) (by omega) (Int.le_refl _) hst.2 (fun k hk hk2 => ?_) (fun k hk => ?_) (fun j hj hpj => hp j hpj (Or.inl (by omega)) (fun k _ _ => by omega))
  · by_cases g : (S 8 m).toInt ≤ (k : Int) ∧ (k : Int) < (S 8 m).toInt + zfl S (S 4 m)
    · have := hf (k - Int32.toNatClampNeg (S 8 m)) (by omega) (by rw [show Int32.toNatClampNeg (S 8 m) + (k - Int32.toNatClampNeg (S 8 m)) = k by omega]; exact hk2)
      rw [show Int32.toNatClampNeg ba + Int32.toNatClampNeg (S 8 m) + (k - Int32.toNatClampNeg (S 8 m)) = Int32.toNatClampNeg ba + k by omega] at this
      exact this
    · have hbk : zbit (nd r) k = true := by
        rw [hb k hk]
        show (k == Int32.toNatClampNeg (S 1 r) || zab S nd k 8 (S 2 r)) = true
        rw [zab_in 8 hli hA hmA (by rw [he]; exact hk2) g, Bool.or_true]
      refine hp _ (h.2.2.2.2.2.2.2.2.1 k hk hbk) ?_ (fun k' hk' hm' e' => ?_)
      · by_cases u : k = Int32.toNatClampNeg (S 1 r)
        · right; rw [← u]; exact hk2
        · left; omega
      · have ek : k' = k := by omega
        rw [ek] at hm' hk'
        rw [(hm k hk' hm').2] at hk2
        exact Bool.noConfusion hk2
  · refine hp _ (h.2.2.2.2.2.2.2.2.2.1 k (by omega)) (Or.inl (by omega)) (fun k' hk' hm' => ?_)
    have := hw.2.2.1 r hr k' (by omega) (hm k' hk' hm').1
    omega
