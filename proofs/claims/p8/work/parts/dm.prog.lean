/-! a program of the reference that was read -/
theorem zJr_at {L : Nat → Nat} {z : Nat} : ∀ {R : List Nat} {a f b : Nat}, zJr L a z R → R[f]? = some b → a ≤ L b ∧ L b ≤ b ∧ b < z ∧ (∀ k, L b ≤ k → k ≤ b → L b ≤ L k) ∧ (∀ b2, R[f + 1]? = some b2 → L b2 = b + 1) ∧ (f + 1 = R.length → z = b + 1)
  | [], _, _, _, _, h => nomatch h
  | r :: l, a, 0, b, h, e => by
    have e : r = b := Option.some.inj e
    subst e
    obtain ⟨h1, h2, h3, h4⟩ := h
    have h5 := zJr_le h4
    refine ⟨by omega, by omega, by omega, fun k k1 k2 => by rw [h1] at k1 ⊢; exact h3 k k1 k2, fun b2 e2 => ?_, fun e2 => ?_⟩
    · cases l with
      | nil => exact nomatch e2
      | cons y t => have e2 : y = b2 := Option.some.inj e2; subst e2; exact h4.1
    · cases l with
      | nil => exact (show r + 1 = z from h4).symm
      | cons y t => exact absurd e2 (by show ¬ 0 + 1 = t.length + 1 + 1; omega)
  | r :: l, a, f + 1, b, h, e => by
    obtain ⟨h1, h2, h3, h4⟩ := h
    obtain ⟨g1, g2, g3, g4, g5, g6⟩ := zJr_at h4 (f := f) (b := b) e
    exact ⟨by omega, g2, g3, g4, g5, fun e2 => g6 (by have e2 : f + 1 + 1 = l.length + 1 := e2; omega)⟩
/-- the functions' parts, one behind the other -/
def zJP (S : Nat → Nat → Int32) (L C : Nat → Nat) (nf z : Nat) (fi bo to : Nat → Int32) : Prop := ∃ R : List (Nat × Nat × Bool), R.length = nf ∧ zJs S L C 0 z ∧ zJr L 0 z (R.map (·.1)) ∧ (∀ q ∈ R, C q.1 = q.2.1 ∧ (S 0 q.1).toInt ≠ 9) ∧ ∀ f, f < nf → ∃ b c, R[f]? = some (b, c, false) ∧ (bo f).toInt = (b : Int) ∧ (to f).toInt = (c : Int) ∧ (fi f).toInt = (L b : Int) ∧ c ≤ 6
theorem zJP_0 {S : Nat → Nat → Int32} {L C : Nat → Nat} {nf z : Nat} {fi bo to : Nat → Int32} (h1 : nf = 0) (h2 : z = 0) : zJP S L C nf z fi bo to := ⟨[], h1.symm, fun k _ hk => absurd hk (by omega), h2.symm, (fun q hq => nomatch hq), fun f hf => absurd hf (by omega)⟩
theorem zJP_k {S S2 : Nat → Nat → Int32} {L C : Nat → Nat} {nf z : Nat} {fi bo to fi2 bo2 to2 : Nat → Int32} (h : zJP S L C nf z fi bo to) (hk : zJk S S2) (hs : ∀ i, i ≤ 6 → S2 i = S i) (e1 : ∀ f, f < nf → fi2 f = fi f) (e2 : ∀ f, f < nf → bo2 f = bo f) (e3 : ∀ f, f < nf → to2 f = to f) : zJP S2 L C nf z fi2 bo2 to2 := by
  obtain ⟨R, h1, h2, h3, h4, h5⟩ := h
  refine ⟨R, h1, zJs_ext h2 ⟨hk, fun k _ => ⟨fun i hi => by rw [hs i hi], rfl, rfl⟩⟩, h3, fun q hq => by rw [hs 0 (by decide)]; exact h4 q hq, fun f hf => ?_⟩
  rw [e1 f hf, e2 f hf, e3 f hf]; exact h5 f hf
theorem zJP_add {S S2 : Nat → Nat → Int32} {L L2 C C2 : Nat → Nat} {nf nf2 z z2 c : Nat} {fi bo to fi2 bo2 to2 : Nat → Int32} (h : zJP S L C nf z fi bo to) (g : zJE S S2 L L2 C C2 z z2 c false) (en : nf2 = nf + 1) (e1 : ∀ f, f < nf → fi2 f = fi f) (e2 : ∀ f, f < nf → bo2 f = bo f) (e3 : ∀ f, f < nf → to2 f = to f) (f1 : (fi2 nf).toInt = (z : Int)) (f2 : (bo2 nf).toInt = ((z2 - 1 : Nat) : Int)) (f3 : (to2 nf).toInt = (c : Int)) (hc : c ≤ 6) : zJP S2 L2 C2 nf2 z2 fi2 bo2 to2 := by
  subst en
  obtain ⟨R, h1, h2, h3, h4, h5⟩ := h
  obtain ⟨g1, ⟨-, g2, g3, g4, g5⟩, g6⟩ := g
  obtain ⟨r1, r2, r3, -⟩ := g4
  have e : z2 - 1 + 1 = z2 := by omega
  have r1 : L2 (z2 - 1) = z := r1
  refine ⟨R ++ [(z2 - 1, c, false)], by rw [List.length_append, h1]; rfl, fun k k1 k2 => ?_, ?_, fun q hq => ?_, fun f hf => ?_⟩
  · by_cases u : k < z
    · exact zJs_ext h2 g2 k k1 u
    · obtain ⟨v1, v2, v3⟩ := g3 k (by omega) k2
      exact ⟨by omega, v2, v3⟩
  · have := zJr_snoc (R := R.map (·.1)) (L := L2) (z := z) (r := z2 - 1) r1 r2 r3 (zJr_ext h3 (fun k _ hk => (g2.2 k hk).2.1))
    rw [e] at this
    rw [List.map_append]
    exact this
  · rcases List.mem_append.mp hq with u | u
    · have v := h4 q u
      have w := (zJr_in h3 q.1 (List.mem_map_of_mem u)).2
      rw [(g2.2 q.1 w).2.2, (g2.2 q.1 w).1 0 (by decide)]
      exact v
    · have v := g5 q u
      rw [List.mem_singleton.mp u] at v ⊢
      exact ⟨v.1, v.2.1 rfl⟩
  · by_cases u : f < nf
    · obtain ⟨b, c', k1, k2, k3, k4, k5⟩ := h5 f u
      have kb : b < z := (zJr_in h3 b (List.mem_map_of_mem (f := (·.1)) (List.mem_of_getElem? k1))).2
      refine ⟨b, c', by rw [List.getElem?_append_left (by omega)]; exact k1, by rw [e2 f u]; exact k2, by rw [e3 f u]; exact k3, by rw [e1 f u, (g2.2 b kb).2.1]; exact k4, k5⟩
    · have ef : f = nf := by omega
      subst ef
      refine ⟨z2 - 1, c, by rw [List.getElem?_append_right (by omega), h1, Nat.sub_self]; rfl, f2, f3, by rw [f1, r1], hc⟩
/-- one function of it -/
theorem zJP_get {S : Nat → Nat → Int32} {L C : Nat → Nat} {nf z : Nat} {fi bo to : Nat → Int32} (h : zJP S L C nf z fi bo to) {f : Nat} (hf : f < nf) : ∃ a e : Nat, zJw S L C a e ∧ (fi f).toInt = (a : Int) ∧ (bo f).toInt = (e : Int) - 1 ∧ (f + 1 < nf → (fi (f + 1)).toInt = (e : Int)) ∧ (f + 1 = nf → z = e) ∧ e ≤ z ∧ ((C (e - 1) : Nat) : Int) = (to f).toInt ∧ (S 0 (e - 1)).toInt ≠ 9 ∧ (to f).toInt ≤ 6 := by
  obtain ⟨R, h1, h2, h3, h4, h5⟩ := h
  obtain ⟨b, c, k1, k2, k3, k4, k5⟩ := h5 f hf
  have k1' : (R.map (·.1))[f]? = some b := by rw [List.getElem?_map, k1]; rfl
  obtain ⟨g1, g2, g3, g4, g5, g6⟩ := zJr_at h3 k1'
  have hq := h4 (b, c, false) (List.mem_of_getElem? k1)
  refine ⟨L b, b + 1, ⟨by omega, rfl, fun k q1 q2 => ?_⟩, k4, by omega, fun hn => ?_, fun hn => g6 (by rw [List.length_map]; omega), by omega, ?_, hq.2, by omega⟩
  · have := h2 k (by omega) (by omega)
    exact ⟨g4 k q1 (by omega), this.2⟩
  · obtain ⟨b', c', l1, l2, l3, l4, l5⟩ := h5 (f + 1) hn
    rw [l4, g5 b' (by rw [List.getElem?_map, l1]; rfl)]
  · show ((C b : Nat) : Int) = _
    rw [hq.1, k3]
/-- a call's function is told apart from the rest of its law -/
theorem zJn_own {S S2 : Nat → Nat → Int32} {L C : Nat → Nat} {k n : Nat} (hs : ∀ i, i ≤ 8 → i ≠ 1 → S2 i = S i) (h1 : n ≠ 3 → S2 1 k = S 1 k) (h : zJn S L C k n) : zJn S2 L C k n := by
  have e0 := hs 0 (by decide) (by decide)
  have e2 := hs 2 (by decide) (by decide)
  have e3 := hs 3 (by decide) (by decide)
  have e4 := hs 4 (by decide) (by decide)
  have e5 := hs 5 (by decide) (by decide)
  have e6 := hs 6 (by decide) (by decide)
  have e7 := hs 7 (by decide) (by decide)
  have e8 := hs 8 (by decide) (by decide)
  match n, h with
  | 0, h => exact h.elim
  | 1, h => exact (show L k = k from h)
  | 2, h => exact ⟨h.1, by rw [h1 (by decide)]; exact h.2.1, by rw [h1 (by decide)]; exact h.2.2⟩
  | 3, h =>
    obtain ⟨R, g1, g2, g3, g4⟩ := h
    exact ⟨R, g1, by rw [e5, e2]; exact g2, by rw [e6]; exact g3, fun r hr => by rw [e0]; exact g4 r hr⟩
  | 4, h =>
    obtain ⟨R, g1, g2, g3, g4, g5, g6, g7, g8⟩ := h
    have o := h1 (by decide)
    exact ⟨R, g1, by rw [e5, e2]; exact g2, by rw [e6]; exact g3, fun r hr => by rw [e0]; exact g4 r hr, g5, by rw [o]; exact g6, by rw [o, e8]; exact g7, by rw [o, e7, e6]; exact g8⟩
  | 5, h =>
    obtain ⟨a, b, g1, g2, g3, g4, g5, g6, g7⟩ := h
    exact ⟨a, b, g1, by rw [e2]; exact g2, by rw [e3]; exact g3, g4, g5, by rw [e0]; exact g6, by rw [e0]; exact g7⟩
  | 6, h =>
    obtain ⟨a, b, g1, g2, g3, g4, g5, g6, g7, g8⟩ := h
    exact ⟨a, b, g1, by rw [e2]; exact g2, by rw [e3]; exact g3, g4, g5, by rw [e0]; exact g6, by rw [e0]; exact g7, by rw [h1 (by decide)]; exact g8⟩
  | 7, h =>
    obtain ⟨a, b, c, g1, g2, g3, g4, g5, g6, g7, g8, g9, g10⟩ := h
    exact ⟨a, b, c, g1, by rw [e2]; exact g2, by rw [e3]; exact g3, by rw [e4]; exact g4, g5, g6, g7, by rw [e0]; exact g8, by rw [e0]; exact g9, by rw [e0]; exact g10⟩
  | 8, h =>
    obtain ⟨R, g1, g2, g3, g4, g5⟩ := h
    have o := h1 (by decide)
    exact ⟨R, g1, by rw [e5, e2]; exact g2, fun r hr => by rw [e0]; exact g3 r hr, by rw [o]; exact g4, by rw [o]; exact g5⟩
  | 9, h =>
    obtain ⟨a, g1, g2, g3, g4, g5, g6, g7, g8⟩ := h
    have o := h1 (by decide)
    exact ⟨a, g1, by rw [e2]; exact g2, by rw [e3]; exact g3, by rw [e6]; exact g4, by rw [e0]; exact g5, by rw [e6]; exact g6, by rw [e6]; exact g7, by rw [o, e6, e7, e8]; exact g8⟩
  | _ + 10, h => exact h.elim
/-- the calls below k: whom they call, unless one is bad -/
def zJo (ow ow2 wh ma to : Nat → Int32) (nf wo k : Int32) : Prop := (∀ j, (wh j).toInt ≠ 3 → ow2 j = ow j) ∧ (wo.toInt = -1 → ∀ j : Nat, (j : Int) < k.toInt → (wh j).toInt = 3 → 0 ≤ (ow2 j).toInt ∧ (ow2 j).toInt < nf.toInt ∧ to (Int32.toNatClampNeg (ow2 j)) = ma j)
theorem zJo_0 {ow wh ma to : Nat → Int32} {nf wo k : Int32} (hk : k.toInt = 0) : zJo ow ow wh ma to nf wo k := ⟨fun _ _ => rfl, fun _ j hj => absurd hj (by omega)⟩
theorem zJo_no {ow ow2 wh ma to : Nat → Int32} {nf wo k k2 : Int32} (h : zJo ow ow2 wh ma to nf wo k) (h0 : 0 ≤ k.toInt) (hn : (wh (Int32.toNatClampNeg k)).toInt ≠ 3) (e : k2.toInt = k.toInt + 1) : zJo ow ow2 wh ma to nf wo k2 := ⟨h.1, fun hw j hj g => by
  have := zn_nat h0
  by_cases u : j = Int32.toNatClampNeg k
  · rw [u] at g; exact (hn g).elim
  · exact h.2 hw j (by omega) g⟩
theorem zJo_st {ow ow2 ow3 wh ma to : Nat → Int32} {nf wo wo2 k k2 fn : Int32} (h : zJo ow ow2 wh ma to nf wo k) (h0 : 0 ≤ k.toInt) (hn : (wh (Int32.toNatClampNeg k)).toInt = 3) (eo : ow3 = upd ow2 (Int32.toNatClampNeg k) fn) (hw : wo2.toInt = -1 → wo.toInt = -1 ∧ 0 ≤ fn.toInt ∧ fn.toInt < nf.toInt ∧ to (Int32.toNatClampNeg fn) = ma (Int32.toNatClampNeg k)) (e : k2.toInt = k.toInt + 1) : zJo ow ow3 wh ma to nf wo2 k2 := by
  have hk := zn_nat h0
  refine ⟨fun j hj => ?_, fun g j hj hc => ?_⟩
  · rw [eo, zu_n (fun u => hj (by rw [u]; exact hn))]; exact h.1 j hj
  · obtain ⟨w1, w2, w3, w4⟩ := hw g
    by_cases u : j = Int32.toNatClampNeg k
    · rw [eo, u, zu_s]; exact ⟨w2, w3, w4⟩
    · rw [eo, zu_n u]; exact h.2 w1 j (by omega) hc
theorem zJP_own {wh ow on tw th be ma fd ow2 : Nat → Int32} {kz : Int32} {L C : Nat → Nat} {nf z : Nat} {fi bo to : Nat → Int32} (h : zJP (zJS wh ow on tw th be ma fd kz) L C nf z fi bo to) (ho : ∀ j, (wh j).toInt ≠ 3 → ow2 j = ow j) : zJP (zJS wh ow2 on tw th be ma fd kz) L C nf z fi bo to := by
  obtain ⟨R, h1, h2, h3, h4, h5⟩ := h
  refine ⟨R, h1, fun k k1 k2 => ?_, h3, h4, h5⟩
  obtain ⟨v1, v2, v3, v4⟩ := h2 k k1 k2
  refine ⟨v1, v2, zJn_own (S := zJS wh ow on tw th be ma fd kz) (fun i hi g => ?_) (fun g => ho k (fun g2 => g (zn_lit (n := 3) g2))) v3, v4⟩
  match i, hi, g with
  | 0, _, _ => rfl
  | 1, _, g => exact absurd rfl g
  | 2, _, _ => rfl
  | 3, _, _ => rfl
  | 4, _, _ => rfl
  | 5, _, _ => rfl
  | 6, _, _ => rfl
  | 7, _, _ => rfl
  | 8, _, _ => rfl
/-- the parts below t have their uses and what is behind them; the bodies of the first f functions have nothing behind them -/
def zKA (S : Nat → Nat → Int32) (u b bo : Nat → Int32) (t f : Nat) : Prop := (∀ k, k < t → zKq S u k (u k) (Int32.toNatClampNeg (S 0 k)) ∧ zKb S u b k (Int32.toNatClampNeg (S 0 k))) ∧ ∀ g, g < f → Int32.toNatClampNeg (bo g) < t ∧ b (Int32.toNatClampNeg (bo g)) = 0
theorem zKA_0 {S : Nat → Nat → Int32} {u b bo : Nat → Int32} {t f : Nat} (h1 : t = 0) (h2 : f = 0) : zKA S u b bo t f := ⟨fun k hk => absurd hk (by omega), fun g hg => absurd hg (by omega)⟩
theorem zKA_st {S : Nat → Nat → Int32} {L C : Nat → Nat} {u b u2 b2 bo : Nat → Int32} {a e z f f2 : Nat} (hs : zJs S L C 0 z) (hw : zJw S L C a e) (hez : e ≤ z) (h : zKA S u b bo a f) (hU : zKU S u2 u a e) (hB : zKB S u2 b2 b a e a) (hb : (bo f).toInt = (e : Int) - 1) (ef : f2 = f + 1) : zKA S u2 b2 bo e f2 := by
  subst ef
  have hae := hw.1
  have hu : ∀ r, r < a → u2 r = u r := fun r hr => hU.2 r (Or.inl hr)
  have hbb : ∀ r, r < a → b2 r = b r := fun r hr => hB.2.2 r (Or.inl hr)
  have hbn : Int32.toNatClampNeg (bo f) = e - 1 := zn_lit (by omega)
  refine ⟨fun k hk => ?_, fun g hg => ?_⟩
  · by_cases c : k < a
    · obtain ⟨v1, v2, v3, v4⟩ := hs k (Nat.zero_le _) (by omega)
      obtain ⟨q1, q2⟩ := h.1 k c
      exact ⟨by rw [hu k c]; exact zKq_ext v3 (fun r _ hr => hu r (by omega)) q1, zKb_ext v3 (hbb k c) (fun R hR r hr => by have := zJr_in hR r hr; exact ⟨hbb r (by omega), hu r (by omega)⟩) q2⟩
    · exact ⟨hU.1 k (by omega) hk, hB.1 k (by omega) hk⟩
  · by_cases c : g = f
    · subst c
      rw [hbn]; exact ⟨by omega, hB.2.1⟩
    · obtain ⟨w1, w2⟩ := h.2 g (by omega)
      exact ⟨by omega, by rw [hbb _ w1]; exact w2⟩
theorem zJP_fst {S : Nat → Nat → Int32} {L C : Nat → Nat} {nf z : Nat} {fi bo to : Nat → Int32} (h : zJP S L C nf z fi bo to) : (0 < nf → (fi 0).toInt = 0) ∧ (nf = 0 → z = 0) := by
  obtain ⟨R, h1, h2, h3, h4, h5⟩ := h
  refine ⟨fun hn => ?_, fun hn => ?_⟩
  · obtain ⟨b, c, k1, k2, k3, k4, k5⟩ := h5 0 hn
    cases R with
    | nil => exact nomatch k1
    | cons q t =>
      have e : q = (b, c, false) := Option.some.inj k1
      rw [k4]
      have : L q.1 = 0 := h3.1
      rw [e] at this
      have : L b = 0 := this
      rw [this]; rfl
  · have e : R = [] := List.eq_nil_of_length_eq_zero (by omega)
    rw [e] at h3
    exact (show 0 = z from h3).symm
theorem zJP_s {S : Nat → Nat → Int32} {L C : Nat → Nat} {nf z : Nat} {fi bo to : Nat → Int32} (h : zJP S L C nf z fi bo to) : zJs S L C 0 z := by
  obtain ⟨R, h1, h2, h3⟩ := h
  exact h2
/-- a program that was read -/
def zRd (wh ow on tw th be ma fd : Nat → Int32) (kz : Int32) (us bh fi bo to : Nat → Int32) (nf z : Int32) : Prop := (∃ L C, zJP (zJS wh ow on tw th be ma fd kz) L C (Int32.toNatClampNeg nf) (Int32.toNatClampNeg z) fi bo to ∧ zKA (zJS wh ow on tw th be ma fd kz) us bh bo (Int32.toNatClampNeg z) (Int32.toNatClampNeg nf)) ∧ (∀ j : Nat, (j : Int) < z.toInt → (wh j).toInt = 3 → 0 ≤ (ow j).toInt ∧ (ow j).toInt < nf.toInt ∧ to (Int32.toNatClampNeg (ow j)) = ma j) ∧ 0 ≤ nf.toInt ∧ nf.toInt ≤ 30 ∧ 0 ≤ z.toInt ∧ z.toInt ≤ 2000 ∧ 0 ≤ kz.toInt ∧ kz.toInt ≤ 20
