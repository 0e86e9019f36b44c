section
/-! a program of the reference that was read -/
theorem zJr_at {L : Nat → Nat} {z : Nat} : ∀ {R : List Nat} {a f b : Nat}, zJr L a z R → R[f]? = some b → a ≤ L b ∧ L b ≤ b ∧ b < z ∧ (∀ k, L b ≤ k → k ≤ b → L b ≤ L k) ∧ (∀ b2, R[f + 1]? = some b2 → L b2 = b + 1) ∧ (f + 1 = R.length → z = b + 1)
  | [], _, _, _, _, h => nomatch h
  | r :: l, a, 0, b, h, e => by
    have e : r = b := Option.some.inj e
    subst e
    obtain ⟨h1, h2, h3, h4⟩ := h
    have h5 := zJr_le h4
    refine ⟨by omega, by omega, by omega, fun k k1 k2 => by rw [h1] at k1 ⊢; exact h3 k k1 k2, fun b2 e2 => ?_, fun e2 => ?_⟩
    · cases l with
      | nil => exact nomatch e2
      | cons y t => have e2 : y = b2 := Option.some.inj e2; subst e2; exact h4.1
    · cases l with
      | nil => exact (show r + 1 = z from h4).symm
      | cons y t => exact absurd e2 (by show ¬ 0 + 1 = t.length + 1 + 1; omega)
  | r :: l, a, f + 1, b, h, e => by
    obtain ⟨h1, h2, h3, h4⟩ := h
    obtain ⟨g1, g2, g3, g4, g5, g6⟩ := zJr_at h4 (f := f) (b := b) e
    exact ⟨by omega, g2, g3, g4, g5, fun e2 => g6 (by have e2 : f + 1 + 1 = l.length + 1 := e2; omega)⟩
/-- the functions' parts, one behind the other -/
def zJP (S : Nat → Nat → Int32) (L C : Nat → Nat) (nf z : Nat) (fi bo to : Nat → Int32) : Prop := ∃ R : List (Nat × Nat × Bool), R.length = nf ∧ zJs S L C 0 z ∧ zJr L 0 z (R.map (·.1)) ∧ (∀ q ∈ R, C q.1 = q.2.1 ∧ (S 0 q.1).toInt ≠ 9) ∧ ∀ f, f < nf → ∃ b c, R[f]? = some (b, c, false) ∧ (bo f).toInt = (b : Int) ∧ (to f).toInt = (c : Int) ∧ (fi f).toInt = (L b : Int) ∧ c ≤ 6
theorem zJP_0 {S : Nat → Nat → Int32} {L C : Nat → Nat} {nf z : Nat} {fi bo to : Nat → Int32} (h1 : nf = 0) (h2 : z = 0) : zJP S L C nf z fi bo to := ⟨[], h1.symm, fun k _ hk => absurd hk (by omega), h2.symm, (fun q hq => nomatch hq), fun f hf => absurd hf (by omega)⟩
theorem zJP_add {S S2 : Nat → Nat → Int32} {L L2 C C2 : Nat → Nat} {nf nf2 z z2 c : Nat} {fi bo to fi2 bo2 to2 : Nat → Int32} (h : zJP S L C nf z fi bo to) (g : zJE S S2 L L2 C C2 z z2 c false) (en : nf2 = nf + 1) (e1 : ∀ f, f < nf → fi2 f = fi f) (e2 : ∀ f, f < nf → bo2 f = bo f) (e3 : ∀ f, f < nf → to2 f = to f) (f1 : (fi2 nf).toInt = (z : Int)) (f2 : (bo2 nf).toInt = ((z2 - 1 : Nat) : Int)) (f3 : (to2 nf).toInt = (c : Int)) (hc : c ≤ 6) : zJP S2 L2 C2 nf2 z2 fi2 bo2 to2 := by
  subst en
  obtain ⟨R, h1, h2, h3, h4, h5⟩ := h
  obtain ⟨g1, ⟨-, g2, g3, g4, g5⟩, g6⟩ := g
  obtain ⟨r1, r2, r3, -⟩ := g4
  have e : z2 - 1 + 1 = z2 := by omega
  have r1 : L2 (z2 - 1) = z := r1
  refine ⟨R ++ [(z2 - 1, c, false)], by rw [List.length_append, h1]; rfl, fun k k1 k2 => ?_, ?_, fun q hq => ?_, fun f hf => ?_⟩
  · by_cases u : k < z
    · exact zJs_ext h2 g2 k k1 u
    · obtain ⟨v1, v2, v3⟩ := g3 k (by omega) k2
      exact ⟨by omega, v2, v3⟩
  · have := zJr_snoc (R := R.map (·.1)) (L := L2) (z := z) (r := z2 - 1) r1 r2 r3 (zJr_ext h3 (fun k _ hk => (g2.2 k hk).2.1))
    rw [e] at this
    rw [List.map_append]
    exact this
  · rcases List.mem_append.mp hq with u | u
    · have v := h4 q u
      have w := (zJr_in h3 q.1 (List.mem_map_of_mem u)).2
      rw [(g2.2 q.1 w).2.2, (g2.2 q.1 w).1 0 (by decide)]
      exact v
    · have v := g5 q u
      rw [List.mem_singleton.mp u] at v ⊢
      exact ⟨v.1, v.2.1 rfl⟩
  · by_cases u : f < nf
    · obtain ⟨b, c', k1, k2, k3, k4, k5⟩ := h5 f u
      have kb : b < z := (zJr_in h3 b (List.mem_map_of_mem (f := (·.1)) (List.mem_of_getElem? k1))).2
      refine ⟨b, c', by rw [List.getElem?_append_left (by omega)]; exact k1, by rw [e2 f u]; exact k2, by rw [e3 f u]; exact k3, by rw [e1 f u, (g2.2 b kb).2.1]; exact k4, k5⟩
    · have ef : f = nf := by omega
      subst ef
      refine ⟨z2 - 1, c, by rw [List.getElem?_append_right (by omega), h1, Nat.sub_self]; rfl, f2, f3, by rw [f1, r1], hc⟩
/-- one function of it -/
theorem zJP_get {S : Nat → Nat → Int32} {L C : Nat → Nat} {nf z : Nat} {fi bo to : Nat → Int32} (h : zJP S L C nf z fi bo to) {f : Nat} (hf : f < nf) : ∃ a e : Nat, zJw S L C a e ∧ (fi f).toInt = (a : Int) ∧ (bo f).toInt = (e : Int) - 1 ∧ (f + 1 < nf → (fi (f + 1)).toInt = (e : Int)) ∧ (f + 1 = nf → z = e) ∧ e ≤ z ∧ ((C (e - 1) : Nat) : Int) = (to f).toInt ∧ (S 0 (e - 1)).toInt ≠ 9 ∧ (to f).toInt ≤ 6 := by
  obtain ⟨R, h1, h2, h3, h4, h5⟩ := h
  obtain ⟨b, c, k1, k2, k3, k4, k5⟩ := h5 f hf
  have k1' : (R.map (·.1))[f]? = some b := by rw [List.getElem?_map, k1]; rfl
  obtain ⟨g1, g2, g3, g4, g5, g6⟩ := zJr_at h3 k1'
  have hq := h4 (b, c, false) (List.mem_of_getElem? k1)
  refine ⟨L b, b + 1, ⟨by omega, rfl, fun k q1 q2 => ?_⟩, k4, by omega, fun hn => ?_, fun hn => g6 (by rw [List.length_map]; omega), by omega, ?_, hq.2, by omega⟩
  · have := h2 k (by omega) (by omega)
    exact ⟨g4 k q1 (by omega), this.2⟩
  · obtain ⟨b', c', l1, l2, l3, l4, l5⟩ := h5 (f + 1) hn
    rw [l4, g5 b' (by rw [List.getElem?_map, l1]; rfl)]
  · show ((C b : Nat) : Int) = _
    rw [hq.1, k3]
/-- a call's function is told apart from the rest of its law -/
theorem zJn_own {S S2 : Nat → Nat → Int32} {L C : Nat → Nat} {k n : Nat} (hs : ∀ i, i ≤ 8 → i ≠ 1 → S2 i = S i) (h1 : n ≠ 3 → S2 1 k = S 1 k) (h : zJn S L C k n) : zJn S2 L C k n := by
  have e0 := hs 0 (by decide) (by decide)
  have e2 := hs 2 (by decide) (by decide)
  have e3 := hs 3 (by decide) (by decide)
  have e4 := hs 4 (by decide) (by decide)
  have e5 := hs 5 (by decide) (by decide)
  have e6 := hs 6 (by decide) (by decide)
  have e7 := hs 7 (by decide) (by decide)
  have e8 := hs 8 (by decide) (by decide)
  match n, h with
  | 0, h => exact h.elim
  | 1, h => exact (show L k = k from h)
  | 2, h => exact ⟨h.1, by rw [h1 (by decide)]; exact h.2.1, by rw [h1 (by decide)]; exact h.2.2⟩
  | 3, h =>
    obtain ⟨R, g1, g2, g3, g4⟩ := h
    exact ⟨R, g1, by rw [e5, e2]; exact g2, by rw [e6]; exact g3, fun r hr => by rw [e0]; exact g4 r hr⟩
  | 4, h =>
    obtain ⟨R, g1, g2, g3, g4, g5, g6, g7, g8⟩ := h
    have o := h1 (by decide)
    exact ⟨R, g1, by rw [e5, e2]; exact g2, by rw [e6]; exact g3, fun r hr => by rw [e0]; exact g4 r hr, g5, by rw [o]; exact g6, by rw [o, e8]; exact g7, by rw [o, e7, e6]; exact g8⟩
  | 5, h =>
    obtain ⟨a, b, g1, g2, g3, g4, g5, g6, g7⟩ := h
    exact ⟨a, b, g1, by rw [e2]; exact g2, by rw [e3]; exact g3, g4, g5, by rw [e0]; exact g6, by rw [e0]; exact g7⟩
  | 6, h =>
    obtain ⟨a, b, g1, g2, g3, g4, g5, g6, g7, g8⟩ := h
    exact ⟨a, b, g1, by rw [e2]; exact g2, by rw [e3]; exact g3, g4, g5, by rw [e0]; exact g6, by rw [e0]; exact g7, by rw [h1 (by decide)]; exact g8⟩
  | 7, h =>
    obtain ⟨a, b, c, g1, g2, g3, g4, g5, g6, g7, g8, g9, g10⟩ := h
    exact ⟨a, b, c, g1, by rw [e2]; exact g2, by rw [e3]; exact g3, by rw [e4]; exact g4, g5, g6, g7, by rw [e0]; exact g8, by rw [e0]; exact g9, by rw [e0]; exact g10⟩
  | 8, h =>
    obtain ⟨R, g1, g2, g3, g4, g5⟩ := h
    have o := h1 (by decide)
    exact ⟨R, g1, by rw [e5, e2]; exact g2, fun r hr => by rw [e0]; exact g3 r hr, by rw [o]; exact g4, by rw [o]; exact g5⟩
  | 9, h =>
    obtain ⟨a, g1, g2, g3, g4, g5, g6, g7, g8⟩ := h
    have o := h1 (by decide)
    exact ⟨a, g1, by rw [e2]; exact g2, by rw [e3]; exact g3, by rw [e6]; exact g4, by rw [e0]; exact g5, by rw [e6]; exact g6, by rw [e6]; exact g7, by rw [o, e6, e7, e8]; exact g8⟩
  | _ + 10, h => exact h.elim
/-- the calls below k: whom they call, unless one is bad -/
def zJo (ow ow2 wh ma to : Nat → Int32) (nf wo k : Int32) : Prop := (∀ j, (wh j).toInt ≠ 3 → ow2 j = ow j) ∧ (wo.toInt = -1 → ∀ j : Nat, (j : Int) < k.toInt → (wh j).toInt = 3 → 0 ≤ (ow2 j).toInt ∧ (ow2 j).toInt < nf.toInt ∧ to (Int32.toNatClampNeg (ow2 j)) = ma j)
theorem zJo_0 {ow wh ma to : Nat → Int32} {nf wo k : Int32} (hk : k.toInt = 0) : zJo ow ow wh ma to nf wo k := ⟨fun _ _ => rfl, fun _ j hj => absurd hj (by omega)⟩
theorem zJo_no {ow ow2 wh ma to : Nat → Int32} {nf wo k k2 : Int32} (h : zJo ow ow2 wh ma to nf wo k) (h0 : 0 ≤ k.toInt) (hn : (wh (Int32.toNatClampNeg k)).toInt ≠ 3) (e : k2.toInt = k.toInt + 1) : zJo ow ow2 wh ma to nf wo k2 := ⟨h.1, fun hw j hj g => by
  have := zn_nat h0
  by_cases u : j = Int32.toNatClampNeg k
  · rw [u] at g; exact (hn g).elim
  · exact h.2 hw j (by omega) g⟩
theorem zJo_st {ow ow2 ow3 wh ma to : Nat → Int32} {nf wo wo2 k k2 fn : Int32} (h : zJo ow ow2 wh ma to nf wo k) (h0 : 0 ≤ k.toInt) (hn : (wh (Int32.toNatClampNeg k)).toInt = 3) (eo : ow3 = upd ow2 (Int32.toNatClampNeg k) fn) (hw : wo2.toInt = -1 → wo.toInt = -1 ∧ 0 ≤ fn.toInt ∧ fn.toInt < nf.toInt ∧ to (Int32.toNatClampNeg fn) = ma (Int32.toNatClampNeg k)) (e : k2.toInt = k.toInt + 1) : zJo ow ow3 wh ma to nf wo2 k2 := by
  have hk := zn_nat h0
  refine ⟨fun j hj => ?_, fun g j hj hc => ?_⟩
  · rw [eo, zu_n (fun u => hj (by rw [u]; exact hn))]; exact h.1 j hj
  · obtain ⟨w1, w2, w3, w4⟩ := hw g
    by_cases u : j = Int32.toNatClampNeg k
    · rw [eo, u, zu_s]; exact ⟨w2, w3, w4⟩
    · rw [eo, zu_n u]; exact h.2 w1 j (by omega) hc
theorem zJP_own {wh ow on tw th be ma fd ow2 : Nat → Int32} {kz : Int32} {L C : Nat → Nat} {nf z : Nat} {fi bo to : Nat → Int32} (h : zJP (zJS wh ow on tw th be ma fd kz) L C nf z fi bo to) (ho : ∀ j, (wh j).toInt ≠ 3 → ow2 j = ow j) : zJP (zJS wh ow2 on tw th be ma fd kz) L C nf z fi bo to := by
  obtain ⟨R, h1, h2, h3, h4, h5⟩ := h
  refine ⟨R, h1, fun k k1 k2 => ?_, h3, h4, h5⟩
  obtain ⟨v1, v2, v3, v4⟩ := h2 k k1 k2
  refine ⟨v1, v2, zJn_own (S := zJS wh ow on tw th be ma fd kz) (fun i hi g => ?_) (fun g => ho k (fun g2 => g (zn_lit (n := 3) g2))) v3, v4⟩
  match i, hi, g with
  | 0, _, _ => rfl
  | 1, _, g => exact absurd rfl g
  | 2, _, _ => rfl
  | 3, _, _ => rfl
  | 4, _, _ => rfl
  | 5, _, _ => rfl
  | 6, _, _ => rfl
  | 7, _, _ => rfl
  | 8, _, _ => rfl
/-- the parts below t have their uses and what is behind them; the bodies of the first f functions have nothing behind them -/
def zKA (S : Nat → Nat → Int32) (u b bo : Nat → Int32) (t f : Nat) : Prop := (∀ k, k < t → zKq S u k (u k) (Int32.toNatClampNeg (S 0 k)) ∧ zKb S u b k (Int32.toNatClampNeg (S 0 k))) ∧ ∀ g, g < f → Int32.toNatClampNeg (bo g) < t ∧ b (Int32.toNatClampNeg (bo g)) = 0
theorem zKA_0 {S : Nat → Nat → Int32} {u b bo : Nat → Int32} {t f : Nat} (h1 : t = 0) (h2 : f = 0) : zKA S u b bo t f := ⟨fun k hk => absurd hk (by omega), fun g hg => absurd hg (by omega)⟩
theorem zKA_st {S : Nat → Nat → Int32} {L C : Nat → Nat} {u b u2 b2 bo : Nat → Int32} {a e z f f2 : Nat} (hs : zJs S L C 0 z) (hw : zJw S L C a e) (hez : e ≤ z) (h : zKA S u b bo a f) (hU : zKU S u2 u a e) (hB : zKB S u2 b2 b a e a) (hb : (bo f).toInt = (e : Int) - 1) (ef : f2 = f + 1) : zKA S u2 b2 bo e f2 := by
  subst ef
  have hae := hw.1
  have hu : ∀ r, r < a → u2 r = u r := fun r hr => hU.2 r (Or.inl hr)
  have hbb : ∀ r, r < a → b2 r = b r := fun r hr => hB.2.2 r (Or.inl hr)
  have hbn : Int32.toNatClampNeg (bo f) = e - 1 := zn_lit (by omega)
  refine ⟨fun k hk => ?_, fun g hg => ?_⟩
  · by_cases c : k < a
    · obtain ⟨v1, v2, v3, v4⟩ := hs k (Nat.zero_le _) (by omega)
      obtain ⟨q1, q2⟩ := h.1 k c
      exact ⟨by rw [hu k c]; exact zKq_ext v3 (fun r _ hr => hu r (by omega)) q1, zKb_ext v3 (hbb k c) (fun R hR r hr => by have := zJr_in hR r hr; exact ⟨hbb r (by omega), hu r (by omega)⟩) q2⟩
    · exact ⟨hU.1 k (by omega) hk, hB.1 k (by omega) hk⟩
  · by_cases c : g = f
    · subst c
      rw [hbn]; exact ⟨by omega, hB.2.1⟩
    · obtain ⟨w1, w2⟩ := h.2 g (by omega)
      exact ⟨by omega, by rw [hbb _ w1]; exact w2⟩
theorem zJP_fst {S : Nat → Nat → Int32} {L C : Nat → Nat} {nf z : Nat} {fi bo to : Nat → Int32} (h : zJP S L C nf z fi bo to) : (0 < nf → (fi 0).toInt = 0) ∧ (nf = 0 → z = 0) := by
  obtain ⟨R, h1, h2, h3, h4, h5⟩ := h
  refine ⟨fun hn => ?_, fun hn => ?_⟩
  · obtain ⟨b, c, k1, k2, k3, k4, k5⟩ := h5 0 hn
    cases R with
    | nil => exact nomatch k1
    | cons q t =>
      have e : q = (b, c, false) := Option.some.inj k1
      rw [k4]
      have : L q.1 = 0 := h3.1
      rw [e] at this
      have : L b = 0 := this
      rw [this]; rfl
  · have e : R = [] := List.eq_nil_of_length_eq_zero (by omega)
    rw [e] at h3
    exact (show 0 = z from h3).symm
theorem zJP_s {S : Nat → Nat → Int32} {L C : Nat → Nat} {nf z : Nat} {fi bo to : Nat → Int32} (h : zJP S L C nf z fi bo to) : zJs S L C 0 z := by
  obtain ⟨R, h1, h2, h3⟩ := h
  exact h2
/-- a program that was read -/
def zRd (wh ow on tw th be ma fd : Nat → Int32) (kz : Int32) (us bh fi bo to : Nat → Int32) (nf z : Int32) : Prop := (∃ L C, zJP (zJS wh ow on tw th be ma fd kz) L C (Int32.toNatClampNeg nf) (Int32.toNatClampNeg z) fi bo to ∧ zKA (zJS wh ow on tw th be ma fd kz) us bh bo (Int32.toNatClampNeg z) (Int32.toNatClampNeg nf)) ∧ (∀ j : Nat, (j : Int) < z.toInt → (wh j).toInt = 3 → 0 ≤ (ow j).toInt ∧ (ow j).toInt < nf.toInt ∧ to (Int32.toNatClampNeg (ow j)) = ma j) ∧ 0 ≤ nf.toInt ∧ nf.toInt ≤ 30 ∧ 0 ≤ z.toInt ∧ z.toInt ≤ 2000 ∧ 0 ≤ kz.toInt ∧ kz.toInt ≤ 20

end
section
/-! a whole program, as the reference goes through it -/
/-- the functions, as the reference keeps them -/
def sp_fr (fn : Nat → Int64) (td : Nat → Int32) (fz : Int32) (fw : Nat → Int64) (ft : Nat → Int) : Prop := ∀ j : Nat, (j : Int) < fz.toInt → sp_cv (fw j) (fn j) ∧ ft j = (td j).toInt
theorem rx_fo_n {fn : Nat → Int64} {td : Nat → Int32} {fz r : Int32} {fw : Nat → Int64} {ft : Nat → Int} {w v : Int64} (h : sp_fr fn td fz fw ft) (hc : sp_cv w v) (h0 : 0 ≤ fz.toInt) (hf : rx_ff fn v fz r) (hr : r.toInt = -1) : sp_fi fw w (Int32.toNatClampNeg fz) = Int32.toNatClampNeg fz := by
  have n0 := zn_nat h0
  rcases hf with ⟨-, g⟩ | ⟨g, -⟩
  · exact sp_fi_none (fun j hj q => g j (by omega) ((sp_cv_inj (h j (by omega)).1 hc).mp q))
  · omega
theorem rx_fo_y {fn : Nat → Int64} {td : Nat → Int32} {fz r : Int32} {fw : Nat → Int64} {ft : Nat → Int} {w v : Int64} (h : sp_fr fn td fz fw ft) (hc : sp_cv w v) (h0 : 0 ≤ fz.toInt) (hf : rx_ff fn v fz r) (hr : r.toInt ≠ -1) : sp_fi fw w (Int32.toNatClampNeg fz) ≠ Int32.toNatClampNeg fz := by
  have n0 := zn_nat h0
  rcases hf with ⟨g, -⟩ | ⟨g0, g1, g2, g3⟩
  · exact absurd g hr
  · have n1 := zn_nat g0
    rw [sp_fi_eq (k := Int32.toNatClampNeg r) (by omega) (fun j hj q => g3 j (by omega) ((sp_cv_inj (h j (by omega)).1 hc).mp q)) (Or.inr ((sp_cv_inj (h _ (by omega)).1 hc).mpr g2))]
    omega
theorem rx_fr_s {fn fn2 : Nat → Int64} {td td2 : Nat → Int32} {fz fz2 x : Int32} {fw : Nat → Int64} {ft : Nat → Int} {w v : Int64} {m : Int} (h : sp_fr fn td fz fw ft) (hc : sp_cv w v) (ef : fn2 = vp_updL fn (Int32.toNatClampNeg fz) v) (et : td2 = upd td (Int32.toNatClampNeg fz) x) (hx : m = x.toInt) (ez : fz2.toInt = fz.toInt + 1) (h0 : 0 ≤ fz.toInt) : sp_fr fn2 td2 fz2 (vp_updL fw (Int32.toNatClampNeg fz) w) (fun k => if k = Int32.toNatClampNeg fz then m else ft k) := fun j hj => by
  have n0 := zn_nat h0
  by_cases u : j = Int32.toNatClampNeg fz
  · rw [ef, et, u, zu_s]
    exact ⟨by simp [vp_updL]; exact hc, by simp; exact hx⟩
  · have := h j (by omega)
    rw [ef, et, zu_n u]
    exact ⟨by simp [vp_updL, u]; exact this.1, by simp [u]; exact this.2⟩
/-- the functions' trees -/
def rPg (B : Nat → Nat → Int32) (nm : Nat → Int64) (fs bo : Nat → Int32) (n : Nat) (G : Nat → Tm) (z : Nat) : Prop := ∀ f, f < n → ∃ a b : Nat, (fs f).toInt = (a : Int) ∧ (bo f).toInt = (b : Int) - 1 ∧ b ≤ z ∧ rI B (rJ nm) (G f) 0 a b ∧ ¬ tm_cl (G f)
theorem rPg_0 {B : Nat → Nat → Int32} {nm : Nat → Int64} {fs bo : Nat → Int32} {n : Nat} {G : Nat → Tm} {z : Nat} (h : n = 0) : rPg B nm fs bo n G z := fun f hf => by omega
theorem rPg_s {B B2 : Nat → Nat → Int32} {nm nm2 : Nat → Int64} {fs bo fs2 bo2 : Nat → Int32} {n : Nat} {G : Nat → Tm} {z z2 : Nat} {t : Tm} {x y : Int32} (h : rPg B nm fs bo n G z) (hF : rF z B B2 nm nm2) (ht : rI B2 (rJ nm2) t 0 z z2) (hcl : ¬ tm_cl t) (ef : fs2 = upd fs n x) (hx : x.toInt = (z : Int)) (eb : bo2 = upd bo n y) (hy : y.toInt = (z2 : Int) - 1) : rPg B2 nm2 fs2 bo2 (n + 1) (fun k => if k = n then t else G k) z2 := fun f hf => by
  have hz := rI_le t ht
  by_cases u : f = n
  · subst u
    refine ⟨z, z2, by rw [ef, zu_s]; exact hx, by rw [eb, zu_s]; exact hy, Nat.le_refl _, ?_, ?_⟩
    · dsimp only; rw [if_pos rfl]; exact ht
    · dsimp only; rw [if_pos rfl]; exact hcl
  · obtain ⟨a, b, h1, h2, h3, h4, h5⟩ := h f (by omega)
    refine ⟨a, b, by rw [ef, zu_n u]; exact h1, by rw [eb, zu_n u]; exact h2, by omega, ?_, ?_⟩
    · dsimp only; rw [if_neg u]; exact rI_mv hF h4 h3
    · dsimp only; rw [if_neg u]; exact h5
/-- what stays where calls get their function -/
theorem rI_ow {R R2 : Nat → Nat → Int32} {J : Nat → Int64 → Prop} (h0 : ∀ k i, i ≠ 2 → R2 i k = R i k) (h2 : ∀ k, (R 0 k).toInt ≠ 3 → R2 2 k = R 2 k) : ∀ (t : Tm) {fi : Int32} {a b : Nat}, rI R J t fi a b → rI R2 J t fi a b
  | .leaf (some (0, _, _, _, _, _)), _, a, b, ⟨e, g1, g2, g3⟩ => ⟨e, by rw [h0 _ 0 (by decide)]; exact g1, by rw [h0 _ 1 (by decide)]; exact g2, by rw [h2 a (by omega)]; exact g3⟩
  | .leaf (some (_ + 1, _, _, _, _, _)), _, a, b, ⟨e, g1, g2, g3⟩ => ⟨e, by rw [h0 _ 0 (by decide)]; exact g1, by rw [h0 _ 1 (by decide)]; exact g2, by rw [h2 a (by omega)]; exact g3⟩
  | .branch 0 (.leaf (some (0, _, _, _, _, w))) x, _, a, b, ⟨m, q, e, g1, g2, g3, g4⟩ => ⟨m, by rw [h0 _ 3 (by decide)]; exact rI_ow h0 h2 x q, e, by rw [h0 _ 0 (by decide)]; exact g1, by rw [h0 _ 1 (by decide)]; exact g2, g3, by rw [h0 _ 7 (by decide)]; exact g4⟩
  | .branch 0 (.leaf (some (1, _, _, _, _, _))) x, _, a, b, ⟨m, q, e, g1, g2, g3, g4⟩ => ⟨m, by rw [h0 _ 3 (by decide)]; exact rI_ow h0 h2 x q, e, by rw [h0 _ 0 (by decide)]; exact g1, by rw [h0 _ 1 (by decide)]; exact g2, by rw [h2 m (by omega)]; exact g3, by rw [h0 _ 7 (by decide)]; exact g4⟩
  | .branch 1 (.leaf (some (0, _, _, _, _, _))) (.branch _ x y), _, a, b, ⟨m, n, q1, q2, e, g1, g2, g3, g4, g5⟩ => ⟨m, n, rI_ow h0 h2 x q1, rI_ow h0 h2 y q2, e, by rw [h0 _ 0 (by decide)]; exact g1, by rw [h0 _ 1 (by decide)]; exact g2, by rw [h2 n (by omega)]; exact g3, by rw [h0 _ 3 (by decide)]; exact g4, by rw [h0 _ 4 (by decide)]; exact g5⟩
  | .branch 1 (.leaf (some (_ + 1, _, _, _, _, _))) (.branch _ x y), _, a, b, ⟨m, n, q1, q2, e, g1, g2, g3, g4, g5⟩ => ⟨m, n, rI_ow h0 h2 x q1, rI_ow h0 h2 y q2, e, by rw [h0 _ 0 (by decide)]; exact g1, by rw [h0 _ 1 (by decide)]; exact g2, by rw [h2 n (by omega)]; exact g3, by rw [h0 _ 3 (by decide)]; exact g4, by rw [h0 _ 4 (by decide)]; exact g5⟩
  | .branch 2 (.leaf (some (_, _, _, _, _, _))) (.branch _ x (.branch _ y z)), _, a, b, ⟨m, n, q, q1, q2, q3, e, g1, g2, g3, g4, g5⟩ => ⟨m, n, q, rI_ow h0 h2 x q1, rI_ow h0 h2 y q2, rI_ow h0 h2 z q3, e, by rw [h0 _ 0 (by decide)]; exact g1, by rw [h0 _ 1 (by decide)]; exact g2, by rw [h0 _ 3 (by decide)]; exact g3, by rw [h0 _ 4 (by decide)]; exact g4, by rw [h0 _ 5 (by decide)]; exact g5⟩
  | .branch 0 (.leaf (some (2, _, _, _, _, _))) x, _, a, b, ⟨m, q, e, g1, g2, g3⟩ => ⟨m, by rw [h0 _ 3 (by decide)]; exact rI_ow h0 h2 x q, e, by rw [h0 _ 0 (by decide)]; exact g1, by rw [h0 _ 1 (by decide)]; exact g2, by rw [h2 m (by omega)]; exact g3⟩
  | .branch 0 (.leaf (some (_ + 3, _, _, _, _, _))) x, _, a, b, ⟨m, q, e, g1, g2, g3, g4, g5, g6⟩ => ⟨m, rI_ow h0 h2 x q, e, by rw [h0 _ 0 (by decide)]; exact g1, by rw [h0 _ 1 (by decide)]; exact g2, by rw [h2 m (by omega)]; exact g3, by rw [h0 _ 4 (by decide)]; exact g4, by rw [h0 _ 7 (by decide)]; exact g5, by rw [h0 _ 3 (by decide)]; exact g6⟩
  | .branch 0 (.leaf none) _, _, _, _, h9 => h9.elim
  | .branch 0 (.branch _ _ _) _, _, _, _, h9 => h9.elim
  | .branch 1 (.leaf none) _, _, _, _, h9 => h9.elim
  | .branch 1 (.branch _ _ _) _, _, _, _, h9 => h9.elim
  | .branch 1 (.leaf (some (0, _, _, _, _, _))) (.leaf _), _, _, _, h9 => h9.elim
  | .branch 1 (.leaf (some (_ + 1, _, _, _, _, _))) (.leaf _), _, _, _, h9 => h9.elim
  | .branch 2 (.leaf none) _, _, _, _, h9 => h9.elim
  | .branch 2 (.branch _ _ _) _, _, _, _, h9 => h9.elim
  | .branch 2 (.leaf (some (_, _, _, _, _, _))) (.leaf _), _, _, _, h9 => h9.elim
  | .branch 2 (.leaf (some (_, _, _, _, _, _))) (.branch _ _ (.leaf _)), _, _, _, h9 => h9.elim
  | .leaf none, _, _, _, h => h
  | .branch (_ + 3) x y, fi, a, b, ⟨m, q1, l, e, q2⟩ => ⟨m, rI_ow h0 h2 x q1, l, e, by rw [h0 _ 6 (by decide)]; exact rI_ow h0 h2 y q2⟩
theorem rPg_ow {wh pl ow ow2 on tw th be ma : Nat → Int32} {nm : Nat → Int64} {fs bo : Nat → Int32} {n z : Nat} {G : Nat → Tm} (h : rPg (rcs wh pl ow on tw th be ma) nm fs bo n G z) (h2 : ∀ k, (wh k).toInt ≠ 3 → ow2 k = ow k) : rPg (rcs wh pl ow2 on tw th be ma) nm fs bo n G z := fun f hf => by
  obtain ⟨a, b, h1, h3, h4, h5, h6⟩ := h f hf
  refine ⟨a, b, h1, h3, h4, rI_ow (fun k i hi => ?_) h2 _ h5, h6⟩
  match i, hi with
  | 0, _ => rfl
  | 1, _ => rfl
  | 2, g => exact absurd rfl g
  | 3, _ => rfl
  | 4, _ => rfl
  | 5, _ => rfl
  | 6, _ => rfl
  | _ + 7, _ => rfl
/-- the definitions so far -/
def rx_rd (T P : Nat → Int32) (V : Nat → Int64) (D : Option (sp_S × sp_F)) (p : Int) (st : Nat → Prop) (kn : Nat → Int64) (fi : Nat → Int32) (kz : Int32) (wh ma : Nat → Int32) (nm : Nat → Int64) (pz : Int32) (B : Nat → Nat → Int32) (fs bo : Nat → Int32) (fn : Nat → Int64) (td : Nat → Int32) (fz : Int32) (mr : Int) (wd : Nat → Int32) : Prop := ∃ (i n : Nat) (kw : Nat → Int64) (kf : Nat → Int32) (C : List (Int64 × Int × Int)) (fw : Nat → Int64) (ft : Nat → Int) (G : Nat → Tm), st i ∧ sp_kr kn fi kz kw kf ∧ sp_cr wh ma (B 1) nm pz C ∧ sp_fr fn td fz fw ft ∧ (n : Int) = 31 - fz.toInt ∧ rPg B nm fs bo (Int32.toNatClampNeg fz) G (Int32.toNatClampNeg pz) ∧ rWa wd td fz G ∧ sp_im (mr ≠ 0) (D = sp_ds T P V n (i, Int32.toNatClampNeg kz, kw, kf, C) (Int32.toNatClampNeg fz, fw, ft, G)) ∧ sp_im (mr = 0) (D = some ((i, Int32.toNatClampNeg kz, kw, kf, C), (Int32.toNatClampNeg fz, fw, ft, G))) ∧ p = pf_ds T P V n (i, Int32.toNatClampNeg kz, kw, kf, C) (Int32.toNatClampNeg fz, fw, ft, G)
/-- names told so far -/
def rx_tn (T P : Nat → Int32) (V : Nat → Int64) (o : Option (List Int64 × Nat)) (p : Int) (st : Nat → Prop) (sc : Nat → Int64) (sd : Int32) : Prop := ∃ (M : List Int64) (n i : Nat), st i ∧ sp_nr sc sd M ∧ (n : Int) = 6 - sd.toInt ∧ o = sp_tn T V n M i ∧ p = pf_tn P V n M i
theorem sp_nr_0 {sc : Nat → Int64} {k : Int32} (h : k.toInt = 0) : sp_nr sc k [] := ⟨h.symm, fun j hj => absurd hj (Nat.not_lt_zero _), List.nodup_nil⟩
section
variable {T P : Nat → Int32} {V : Nat → Int64} {D : Option (sp_S × sp_F)} {K : Nat × (Nat → Int64) × (Nat → Int32) × List (Int64 × Int × Int)} {F : sp_F} {s s2 : sp_S} {a b f n k i i2 : Nat} {fw fw2 : Nat → Int64} {ft ft2 : Nat → Int} {G : Nat → Tm} {M : List Int64} {s3 : Tm × sp_S}
theorem rx_rd_x (hq : D = sp_ds T P V n s F) (h : sp_df T P V s F = none) : D = none := by
  rw [hq]
  cases n with
  | zero => rfl
  | succ n => unfold sp_ds; rw [h]; rfl
theorem rx_df_1 (h : ¬ ((T a).toInt = 268 ∧ f < 30)) : sp_df T P V (a, K) (f, fw, ft, G) = none := by unfold sp_df; exact if_neg h
theorem rx_df_2 (h1 : (T a).toInt = 268) (h : ¬ ((T (a + 1)).toInt = 258 ∧ sp_fi fw (V (a + 1)) f = f)) : sp_df T P V (a, K) (f, fw, ft, G) = none := by
  unfold sp_df
  by_cases hf : f < 30
  · exact (if_pos ⟨h1, hf⟩).trans (if_neg h)
  · exact if_neg (fun g => hf g.2)
theorem rx_df_eq (h1 : (T a).toInt = 268) (hf : f < 30) (h2 : (T (a + 1)).toInt = 258) (h3 : sp_fi fw (V (a + 1)) f = f) : sp_df T P V (a, K) (f, fw, ft, G) = (sp_tn T V 6 [] (a + 2)).bind fun q => if (T q.2).toInt = 61 then (sp_E T P V 30 q.1 (q.2 + 1, K)).bind fun s2 => if (T s2.2.1).toInt = 59 then some (sp_to s2.2 (s2.2.1 + 1), (f + 1, vp_updL fw f (V (a + 1)), (fun k => if k = f then (q.1.length : Int) else ft k), fun k => if k = f then s2.1 else G k)) else none else none := by
  unfold sp_df
  exact (if_pos ⟨h1, hf⟩).trans (if_pos ⟨h2, h3⟩)
theorem rx_tn_x1 (h : (T i).toInt = 258) (hm : V i ∈ M) : sp_tn T V n M i = none := by
  unfold sp_tn; rw [if_pos h]
  cases n with
  | zero => rfl
  | succ n => exact if_neg (fun g => g hm)
theorem rx_tn_x2 (h : (T i).toInt = 258) (hn : n = 0) : sp_tn T V n M i = none := by
  subst hn; unfold sp_tn; rw [if_pos h]
theorem rx_tn_s (h : (T i).toInt = 258) (hn : n = k + 1) (hm : V i ∉ M) : sp_tn T V n M i = sp_tn T V k (M ++ [V i]) (i + 1) := by
  subst hn
  conv => lhs; unfold sp_tn
  rw [if_pos h]; exact if_pos hm
theorem rx_tn_n (h : (T i).toInt ≠ 258) : sp_tn T V n M i = some (M, i) := by unfold sp_tn; rw [if_neg h]
theorem rx_df_3 (e1 : (T a).toInt = 268) (e2 : f < 30) (e3 : (T (a + 1)).toInt = 258) (e4 : sp_fi fw (V (a + 1)) f = f) (q : sp_tn T V 6 [] (a + 2) = none) : sp_df T P V (a, K) (f, fw, ft, G) = none := (rx_df_eq e1 e2 e3 e4).trans (sp_bx q)
theorem rx_df_4 (e1 : (T a).toInt = 268) (e2 : f < 30) (e3 : (T (a + 1)).toInt = 258) (e4 : sp_fi fw (V (a + 1)) f = f) (q : sp_tn T V 6 [] (a + 2) = some (M, b)) (h : ¬ (T b).toInt = 61) : sp_df T P V (a, K) (f, fw, ft, G) = none := (rx_df_eq e1 e2 e3 e4).trans ((sp_b1 q).trans (if_neg h))
theorem rx_df_5 (e1 : (T a).toInt = 268) (e2 : f < 30) (e3 : (T (a + 1)).toInt = 258) (e4 : sp_fi fw (V (a + 1)) f = f) (q : sp_tn T V 6 [] (a + 2) = some (M, b)) (h : (T b).toInt = 61) (q2 : sp_E T P V 30 M (b + 1, K) = none) : sp_df T P V (a, K) (f, fw, ft, G) = none := (rx_df_eq e1 e2 e3 e4).trans ((sp_b1 q).trans ((if_pos h).trans (sp_bx q2)))
theorem rx_df_6 (e1 : (T a).toInt = 268) (e2 : f < 30) (e3 : (T (a + 1)).toInt = 258) (e4 : sp_fi fw (V (a + 1)) f = f) (q : sp_tn T V 6 [] (a + 2) = some (M, b)) (h : (T b).toInt = 61) (q2 : sp_E T P V 30 M (b + 1, K) = some s3) (h2 : ¬ (T s3.2.1).toInt = 59) : sp_df T P V (a, K) (f, fw, ft, G) = none := (rx_df_eq e1 e2 e3 e4).trans ((sp_b1 q).trans ((if_pos h).trans ((sp_b1 q2).trans (if_neg h2))))
theorem rx_df_y (e1 : (T a).toInt = 268) (e2 : f < 30) (e3 : (T (a + 1)).toInt = 258) (e4 : sp_fi fw (V (a + 1)) f = f) (q : sp_tn T V 6 [] (a + 2) = some (M, b)) (h : (T b).toInt = 61) (q2 : sp_E T P V 30 M (b + 1, K) = some s3) (h2 : (T s3.2.1).toInt = 59) : sp_df T P V (a, K) (f, fw, ft, G) = some ((s3.2.1 + 1, s3.2.2), (f + 1, vp_updL fw f (V (a + 1)), (fun k => if k = f then (M.length : Int) else ft k), fun k => if k = f then s3.1 else G k)) := (rx_df_eq e1 e2 e3 e4).trans ((sp_b1 q).trans ((if_pos h).trans ((sp_b1 q2).trans (if_pos h2))))
end
theorem rx_rd_s {p : Int} {T P : Nat → Int32} {V : Nat → Int64} {D : Option (sp_S × sp_F)} {s : sp_S} {n i2 : Nat} {fw fw2 : Nat → Int64} {ft ft2 : Nat → Int} {G G2 : Nat → Tm} {B : Nat → Nat → Int32} {fs bo : Nat → Int32} {st : Nat → Prop} {kn kw : Nat → Int64} {fi kf : Nat → Int32} {kz : Int32} {wh ma : Nat → Int32} {nm : Nat → Int64} {pz : Int32} {fn : Nat → Int64} {td : Nat → Int32} {fz fz2 : Int32} {mr2 : Int} {C : List (Int64 × Int × Int)} {wd : Nat → Int32} (hwa : rWa wd td fz2 G2) (hn : (n : Int) = 31 - fz.toInt) (hf : fz.toInt < 30) (h0 : 0 ≤ fz.toInt) (hq : D = sp_ds T P V n s (Int32.toNatClampNeg fz, fw, ft, G)) (hg : p = pf_ds T P V n s (Int32.toNatClampNeg fz, fw, ft, G)) (hd : sp_df T P V s (Int32.toNatClampNeg fz, fw, ft, G) = some ((i2, Int32.toNatClampNeg kz, kw, kf, C), (Int32.toNatClampNeg fz + 1, fw2, ft2, G2))) (hpg : rPg B nm fs bo (Int32.toNatClampNeg fz + 1) G2 (Int32.toNatClampNeg pz)) (hs : st i2) (hk : sp_kr kn fi kz kw kf) (hc : sp_cr wh ma (B 1) nm pz C) (ez : fz2.toInt = fz.toInt + 1) (hfr : sp_fr fn td fz2 fw2 ft2) (hm : (mr2 ≠ 0 ∧ (T i2).toInt ≠ 256) ∨ (mr2 = 0 ∧ (T i2).toInt = 256)) : rx_rd T P V D p st kn fi kz wh ma nm pz B fs bo fn td fz2 mr2 wd := by
  have e := zn_1 ez h0
  obtain ⟨k, rfl⟩ : ∃ k, n = k + 1 := ⟨n - 1, by omega⟩
  have hq2 : D = if (T i2).toInt = 256 then some ((i2, Int32.toNatClampNeg kz, kw, kf, C), (Int32.toNatClampNeg fz2, fw2, ft2, G2)) else sp_ds T P V k (i2, Int32.toNatClampNeg kz, kw, kf, C) (Int32.toNatClampNeg fz2, fw2, ft2, G2) := by
    rw [hq, e]; conv => lhs; unfold sp_ds
    exact sp_b1 hd
  refine ⟨i2, k, kw, kf, C, fw2, ft2, G2, hs, hk, hc, hfr, by omega, by rw [e]; exact hpg, hwa, fun g => ?_, fun g => ?_, by rw [e]; exact hg.trans (pf_ds_s hd rfl)⟩
  · rcases hm with ⟨u, v⟩ | ⟨u, v⟩
    · exact hq2.trans (if_neg v)
    · exact absurd u g
  · rcases hm with ⟨u, v⟩ | ⟨u, v⟩
    · exact absurd g u
    · exact hq2.trans (if_pos v)
/-- a call that is good -/
def rx_gd (fn : Nat → Int64) (td ma : Nat → Int32) (nm : Nat → Int64) (fz : Int32) (k : Nat) : Prop := ∃ r : Nat, (r : Int) < fz.toInt ∧ fn r = nm k ∧ (∀ j, j < r → fn j ≠ nm k) ∧ (td r).toInt = (ma k).toInt
theorem rx_gd_y {fn : Nat → Int64} {td ma : Nat → Int32} {nm : Nat → Int64} {fz r : Int32} {k : Nat} (h : rx_ff fn (nm k) fz r) (h0 : r.toInt ≠ -1) (e : (td (Int32.toNatClampNeg r)).toInt = (ma k).toInt) : rx_gd fn td ma nm fz k := by
  rcases h with ⟨g, -⟩ | ⟨g0, g1, g2, g3⟩
  · exact absurd g h0
  · have n1 := zn_nat g0
    exact ⟨_, by omega, g2, fun j hj => g3 j (by omega), e⟩
theorem rx_gd_n {fn : Nat → Int64} {td ma : Nat → Int32} {nm : Nat → Int64} {fz r : Int32} {k : Nat} (h : rx_ff fn (nm k) fz r) (e : r.toInt = -1 ∨ (td (Int32.toNatClampNeg r)).toInt ≠ (ma k).toInt) : ¬ rx_gd fn td ma nm fz k := by
  rintro ⟨q, h1, h2, h3, h4⟩
  rcases h with ⟨g, g2⟩ | ⟨g0, g1, g2, g3⟩
  · exact g2 q h1 h2
  · have n1 := zn_nat g0
    have eq : q = Int32.toNatClampNeg r := by
      rcases Nat.lt_trichotomy q (Int32.toNatClampNeg r) with u | u | u
      · exact absurd h2 (g3 q (by omega))
      · exact u
      · exact absurd g2 (h3 _ u)
    rw [← eq] at e
    exact e.elim (fun u => by omega) (fun u => u h4)
/-- the calls so far, the worst of them -/
def rx_wo (fn : Nat → Int64) (td ma : Nat → Int32) (nm : Nat → Int64) (fz : Int32) (wh ow : Nat → Int32) (wo k3 : Int32) : Prop := (wo.toInt = -1 → ∀ k : Nat, (k : Int) < k3.toInt → (wh k).toInt = 3 → rx_gd fn td ma nm fz k ∧ rx_ff fn (nm k) fz (ow k) ∧ 0 ≤ (ow k).toInt) ∧ (wo.toInt ≠ -1 → ∃ k : Nat, (k : Int) < k3.toInt ∧ (wh k).toInt = 3 ∧ ¬ rx_gd fn td ma nm fz k)
section
variable {fn : Nat → Int64} {td ma : Nat → Int32} {nm : Nat → Int64} {fz : Int32} {wh ow ow2 : Nat → Int32} {wo wo2 k3 k4 : Int32}
theorem rx_wo_0 (h : wo.toInt = -1) (hk : k3.toInt = 0) : rx_wo fn td ma nm fz wh ow wo k3 := ⟨fun _ k h1 => by omega, fun g => absurd h g⟩
theorem rx_wo_n (h : rx_wo fn td ma nm fz wh ow wo k3) (h0 : 0 ≤ k3.toInt) (e : k4.toInt = k3.toInt + 1) (hg : (wh (Int32.toNatClampNeg k3)).toInt ≠ 3) : rx_wo fn td ma nm fz wh ow wo k4 := by
  have n0 := zn_nat h0
  refine ⟨fun g k h1 h2 => ?_, fun g => ?_⟩
  · by_cases u : k = Int32.toNatClampNeg k3
    · rw [u] at h2; exact absurd h2 hg
    · exact h.1 g k (by omega) h2
  · obtain ⟨k, h1, h2⟩ := h.2 g
    exact ⟨k, by omega, h2⟩
theorem rx_wo_y {r : Int32} (h : rx_wo fn td ma nm fz wh ow wo k3) (h0 : 0 ≤ k3.toInt) (e : k4.toInt = k3.toInt + 1) (hf : rx_ff fn (nm (Int32.toNatClampNeg k3)) fz r) (hr : r.toInt ≠ -1) (et : (td (Int32.toNatClampNeg r)).toInt = (ma (Int32.toNatClampNeg k3)).toInt) (eo : ow2 = upd ow (Int32.toNatClampNeg k3) r) : rx_wo fn td ma nm fz wh ow2 wo k4 := by
  have n0 := zn_nat h0
  refine ⟨fun g k h1 h2 => ?_, fun g => ?_⟩
  · by_cases u : k = Int32.toNatClampNeg k3
    · rw [u, eo, zu_s]
      exact ⟨rx_gd_y hf hr et, hf, hf.elim (fun g => absurd g.1 hr) (fun g => g.1)⟩
    · rw [eo, zu_n u]; exact h.1 g k (by omega) h2
  · obtain ⟨k, h1, h2⟩ := h.2 g
    exact ⟨k, by omega, h2⟩
theorem rx_wo_b (h0 : 0 ≤ k3.toInt) (e : k4.toInt = k3.toInt + 1) (h3 : (wh (Int32.toNatClampNeg k3)).toInt = 3) (hb : ¬ rx_gd fn td ma nm fz (Int32.toNatClampNeg k3)) (hw : wo2.toInt ≠ -1) : rx_wo fn td ma nm fz wh ow wo2 k4 := by
  have n0 := zn_nat h0
  exact ⟨fun g => absurd g hw, fun _ => ⟨_, by omega, h3, hb⟩⟩
end
/-- the worst call so far, by its place -/
def rx_wp (fn : Nat → Int64) (td ma : Nat → Int32) (nm : Nat → Int64) (fz : Int32) (wh pl : Nat → Int32) (wo k3 : Int32) : Prop := (wo.toInt ≠ -1 → (0 ≤ wo.toInt ∧ wo.toInt < k3.toInt) ∧ (wh (Int32.toNatClampNeg wo)).toInt = 3 ∧ ¬ rx_gd fn td ma nm fz (Int32.toNatClampNeg wo)) ∧ ∀ k : Nat, (k : Int) < k3.toInt → (wh k).toInt = 3 → ¬ rx_gd fn td ma nm fz k → wo.toInt ≠ -1 ∧ (pl (Int32.toNatClampNeg wo)).toInt ≤ (pl k).toInt
section
variable {fn : Nat → Int64} {td ma : Nat → Int32} {nm : Nat → Int64} {fz : Int32} {wh pl : Nat → Int32} {wo wo2 k3 k4 : Int32}
theorem rx_wp_0 (h : wo.toInt = -1) (hk : k3.toInt = 0) : rx_wp fn td ma nm fz wh pl wo k3 := ⟨fun g => absurd h g, fun k h1 => by omega⟩
theorem rx_wp_n (h : rx_wp fn td ma nm fz wh pl wo k3) (h0 : 0 ≤ k3.toInt) (e : k4.toInt = k3.toInt + 1) (hg : (wh (Int32.toNatClampNeg k3)).toInt ≠ 3) : rx_wp fn td ma nm fz wh pl wo k4 := by
  have n0 := zn_nat h0
  refine ⟨fun g => ⟨⟨(h.1 g).1.1, by have := (h.1 g).1.2; omega⟩, (h.1 g).2⟩, fun k h1 h2 hb => ?_⟩
  by_cases u : k = Int32.toNatClampNeg k3
  · rw [u] at h2; exact absurd h2 hg
  · exact h.2 k (by omega) h2 hb
theorem rx_wp_y {r : Int32} (h : rx_wp fn td ma nm fz wh pl wo k3) (h0 : 0 ≤ k3.toInt) (e : k4.toInt = k3.toInt + 1) (hf : rx_ff fn (nm (Int32.toNatClampNeg k3)) fz r) (hr : r.toInt ≠ -1) (et : (td (Int32.toNatClampNeg r)).toInt = (ma (Int32.toNatClampNeg k3)).toInt) : rx_wp fn td ma nm fz wh pl wo k4 := by
  have n0 := zn_nat h0
  refine ⟨fun g => ⟨⟨(h.1 g).1.1, by have := (h.1 g).1.2; omega⟩, (h.1 g).2⟩, fun k h1 h2 hb => ?_⟩
  by_cases u : k = Int32.toNatClampNeg k3
  · rw [u] at hb; exact absurd (rx_gd_y hf hr et) hb
  · exact h.2 k (by omega) h2 hb
theorem rx_wp_k (h : rx_wp fn td ma nm fz wh pl wo k3) (h0 : 0 ≤ k3.toInt) (e : k4.toInt = k3.toInt + 1) (hw : wo.toInt ≠ -1) (hp : (pl (Int32.toNatClampNeg wo)).toInt ≤ (pl (Int32.toNatClampNeg k3)).toInt) : rx_wp fn td ma nm fz wh pl wo k4 := by
  have n0 := zn_nat h0
  refine ⟨fun g => ⟨⟨(h.1 g).1.1, by have := (h.1 g).1.2; omega⟩, (h.1 g).2⟩, fun k h1 h2 hb => ?_⟩
  by_cases u : k = Int32.toNatClampNeg k3
  · rw [u]; exact ⟨hw, hp⟩
  · exact h.2 k (by omega) h2 hb
theorem rx_wp_b (h : rx_wp fn td ma nm fz wh pl wo k3) (h0 : 0 ≤ k3.toInt) (e : k4.toInt = k3.toInt + 1) (h3 : (wh (Int32.toNatClampNeg k3)).toInt = 3) (hb : ¬ rx_gd fn td ma nm fz (Int32.toNatClampNeg k3)) (hp : wo.toInt = -1 ∨ (pl (Int32.toNatClampNeg k3)).toInt < (pl (Int32.toNatClampNeg wo)).toInt) : rx_wp fn td ma nm fz wh pl k3 k4 := by
  have n0 := zn_nat h0
  refine ⟨fun _ => ⟨⟨h0, by omega⟩, h3, hb⟩, fun k h1 h2 hb2 => ?_⟩
  by_cases u : k = Int32.toNatClampNeg k3
  · rw [u]; exact ⟨by omega, Int.le_refl _⟩
  · obtain ⟨v1, v2⟩ := h.2 k (by omega) h2 hb2
    have := hp.resolve_left v1
    exact ⟨by omega, by omega⟩
end
section
variable {pl : Nat → Int32} {T P : Nat → Int32} {V : Nat → Int64} {s0 : sp_S} {F0 : sp_F} {s : sp_S} {fn : Nat → Int64} {td ma : Nat → Int32} {nm : Nat → Int64} {fz : Int32} {wh ow : Nat → Int32} {wo pz k3 : Int32} {fw : Nat → Int64} {ft : Nat → Int} {G : Nat → Tm}
theorem rx_pg_eq (hD : sp_ds T P V 31 s0 F0 = some (s, (Int32.toNatClampNeg fz, fw, ft, G))) : sp_pg T P V s0 F0 = if ∀ c ∈ s.2.2.2.2, sp_fi fw c.1 (Int32.toNatClampNeg fz) < Int32.toNatClampNeg fz ∧ ft (sp_fi fw c.1 (Int32.toNatClampNeg fz)) = c.2.1 then some (s, (Int32.toNatClampNeg fz, fw, ft, G)) else none := by
  unfold sp_pg; exact sp_b1 hD
theorem rx_pg_y (hD : sp_ds T P V 31 s0 F0 = some (s, (Int32.toNatClampNeg fz, fw, ft, G))) (h0 : 0 ≤ fz.toInt) (hw : rx_wo fn td ma nm fz wh ow wo k3) (hk3 : k3.toInt = pz.toInt) (hwo : wo.toInt = -1) (hc : sp_cr wh ma pl nm pz s.2.2.2.2) (hf : sp_fr fn td fz fw ft) : sp_pg T P V s0 F0 = some (s, (Int32.toNatClampNeg fz, fw, ft, G)) := by
  have n0 := zn_nat h0
  refine (rx_pg_eq hD).trans (if_pos (fun c hm => ?_))
  obtain ⟨k, h1, h2, h3, h4, -⟩ := hc.2 c hm
  obtain ⟨⟨r, r1, r2, r3, r4⟩, -⟩ := hw.1 hwo k (by omega) h2
  have e : sp_fi fw c.1 (Int32.toNatClampNeg fz) = r := sp_fi_eq (by omega) (fun j hj q => r3 j hj ((sp_cv_inj (hf j (by omega)).1 h3).mp q)) (Or.inr ((sp_cv_inj (hf r r1).1 h3).mpr r2))
  rw [e]
  exact ⟨by omega, by rw [(hf r r1).2, r4, h4]⟩
theorem rx_pg_n (hD : sp_ds T P V 31 s0 F0 = some (s, (Int32.toNatClampNeg fz, fw, ft, G))) (h0 : 0 ≤ fz.toInt) (hw : rx_wo fn td ma nm fz wh ow wo k3) (hk3 : k3.toInt = pz.toInt) (hwo : wo.toInt ≠ -1) (hc : sp_cr wh ma pl nm pz s.2.2.2.2) (hf : sp_fr fn td fz fw ft) : sp_pg T P V s0 F0 = none := by
  have n0 := zn_nat h0
  refine (rx_pg_eq hD).trans (if_neg (fun g => ?_))
  obtain ⟨k, h1, h2, h3⟩ := hw.2 hwo
  obtain ⟨c, hm, h4, h5, -⟩ := hc.1 k (by omega) h2
  obtain ⟨g1, g2⟩ := g c hm
  have hj : ∀ j, j < Int32.toNatClampNeg fz → (fw j = c.1 ↔ fn j = nm k) := fun j hj => sp_cv_inj (hf j (by omega)).1 h4
  exact h3 ⟨sp_fi fw c.1 (Int32.toNatClampNeg fz), by omega, (hj _ g1).mp (sp_fi_at _ g1), fun j h9 q => sp_fi_ne _ j h9 ((hj j (by omega)).mpr q), by rw [← (hf _ (by omega)).2, g2, h5]⟩
theorem rx_gd_iff {c : Int64 × Int × Int} {k : Nat} (h0 : 0 ≤ fz.toInt) (hf : sp_fr fn td fz fw ft) (h4 : sp_cv c.1 (nm k)) (h5 : (ma k).toInt = c.2.1) : pf_bad (Int32.toNatClampNeg fz, fw, ft, G) c ↔ ¬ rx_gd fn td ma nm fz k := by
  have n0 := zn_nat h0
  have hj : ∀ j, j < Int32.toNatClampNeg fz → (fw j = c.1 ↔ fn j = nm k) := fun j hj => sp_cv_inj (hf j (by omega)).1 h4
  constructor
  · rintro b ⟨r, r1, r2, r3, r4⟩
    have e : sp_fi fw c.1 (Int32.toNatClampNeg fz) = r := sp_fi_eq (by omega) (fun j hj2 q => r3 j hj2 ((hj j (by omega)).mp q)) (Or.inr ((hj r (by omega)).mpr r2))
    refine b ?_
    show sp_fi fw c.1 (Int32.toNatClampNeg fz) < Int32.toNatClampNeg fz ∧ ft (sp_fi fw c.1 (Int32.toNatClampNeg fz)) = c.2.1
    rw [e]
    exact ⟨by omega, by rw [(hf r r1).2, r4, h5]⟩
  · intro b g
    have g : sp_fi fw c.1 (Int32.toNatClampNeg fz) < Int32.toNatClampNeg fz ∧ ft (sp_fi fw c.1 (Int32.toNatClampNeg fz)) = c.2.1 := g
    exact b ⟨sp_fi fw c.1 (Int32.toNatClampNeg fz), by omega, (hj _ g.1).mp (sp_fi_at _ g.1), fun j h9 q => sp_fi_ne _ j h9 ((hj j (by omega)).mpr q), by rw [← (hf _ (by omega)).2, g.2, h5]⟩
theorem rxp_pg_n {p : Int} (hD : sp_ds T P V 31 s0 F0 = some (s, (Int32.toNatClampNeg fz, fw, ft, G))) (h0 : 0 ≤ fz.toInt) (hw : rx_wp fn td ma nm fz wh pl wo k3) (hk3 : k3.toInt = pz.toInt) (hwo : wo.toInt ≠ -1) (hc : sp_cr wh ma pl nm pz s.2.2.2.2) (hf : sp_fr fn td fz fw ft) (hp : p = (pl (Int32.toNatClampNeg wo)).toInt) : pf_pg T P V s0 F0 p := by
  subst hp
  obtain ⟨⟨w1, w2⟩, w3, w4⟩ := hw.1 hwo
  have n1 := zn_nat w1
  refine Or.inr ⟨_, hD, ?_, fun c hm hb => ?_⟩
  · obtain ⟨c, hm, h4, h5, h6⟩ := hc.1 _ (by omega) w3
    exact ⟨c, hm, (rx_gd_iff h0 hf h4 h5).mpr w4, h6⟩
  · obtain ⟨k, h1, h2, h3, h4, h5⟩ := hc.2 c hm
    rw [← h5]
    exact (hw.2 k (by omega) h2 ((rx_gd_iff h0 hf h3 h4).mp hb)).2
end
theorem rx_pgx {T P : Nat → Int32} {V : Nat → Int64} {s0 : sp_S} {F0 : sp_F} (h : sp_ds T P V 31 s0 F0 = none) : sp_pg T P V s0 F0 = none := sp_bx h
/-- each call's function -/
def rCa (fn : Nat → Int64) (fz : Int32) (B : Nat → Nat → Int32) (nm : Nat → Int64) (z : Nat) : Prop := ∀ k, k < z → (B 0 k).toInt = 3 → rx_ff fn (nm k) fz (B 2 k) ∧ 0 ≤ (B 2 k).toInt
theorem rx_wo_ca {fn : Nat → Int64} {nm : Nat → Int64} {fz : Int32} {wh pl ow on tw th be ma td : Nat → Int32} {wo pz k3 : Int32} (hw : rx_wo fn td ma nm fz wh ow wo k3) (h0 : 0 ≤ pz.toInt) (hk3 : k3.toInt = pz.toInt) (hwo : wo.toInt = -1) : rCa fn fz (rcs wh pl ow on tw th be ma) nm (Int32.toNatClampNeg pz) := fun k hk g => by
  have n0 := zn_nat h0
  exact (hw.1 hwo k (by omega) g).2
/-- what a program was read as -/
def rx_pp (o : Option (sp_S × sp_F)) (kn : Nat → Int64) (fi : Nat → Int32) (kz : Int32) (fn : Nat → Int64) (td : Nat → Int32) (fz : Int32) (B : Nat → Nat → Int32) (nm : Nat → Int64) (fs bo : Nat → Int32) (pz : Int32) (wd mk : Nat → Int32) : Prop := ∃ (s : sp_S) (kw : Nat → Int64) (kf : Nat → Int32) (fw : Nat → Int64) (ft : Nat → Int) (G : Nat → Tm), o = some (s, (Int32.toNatClampNeg fz, fw, ft, G)) ∧ s.2.1 = Int32.toNatClampNeg kz ∧ s.2.2.1 = kw ∧ s.2.2.2.1 = kf ∧ sp_kr kn fi kz kw kf ∧ sp_fr fn td fz fw ft ∧ rPg B nm fs bo (Int32.toNatClampNeg fz) G (Int32.toNatClampNeg pz) ∧ rWa wd td fz G ∧ rMa B mk (Int32.toNatClampNeg pz) ∧ rCa fn fz B nm (Int32.toNatClampNeg pz)

end
section
set_option maxRecDepth 1000000 in theorem wi_1854 : Cond.code yX14_needed cX14_needed 9 none ∈ zw := zw_in (List.mem_of_getElem? (i := 1854) (by rfl)) (by decide +kernel)
theorem wi_1851 : Cond.methodLink RX14 331 yX14_needed ∈ zw := zw_in (List.mem_of_getElem? (i := 1851) (by decide +kernel)) (by decide +kernel)
theorem wi_1853 : Cond.instanceMethod yX14_needed ∈ zw := zw_in (List.mem_of_getElem? (i := 1853) (by decide +kernel)) (by decide +kernel)
theorem wi_100 : Cond.selects RX14 yX14_needed yX14_needed ∈ zw := zw_in (List.mem_of_getElem? (i := 100) (by decide +kernel)) (by decide +kernel)
theorem wi_1761 : Cond.code yX14_functionOf cX14_functionOf 4 (some .int) ∈ zw := zw_in (List.mem_of_getElem? (i := 1761) (by decide +kernel)) (by decide +kernel)
theorem wi_1759 : Cond.methodLink RX14 318 yX14_functionOf ∈ zw := zw_in (List.mem_of_getElem? (i := 1759) (by decide +kernel)) (by decide +kernel)
theorem wi_1760 : Cond.static yX14_functionOf ∈ zw := zw_in (List.mem_of_getElem? (i := 1760) (by decide +kernel)) (by decide +kernel)
theorem dX14_reads_0 : decode cX14_reads 0 = .ok (.aload_n 0, 1) := by decide +kernel
theorem dX14_reads_1 : decode cX14_reads 1 = .ok (.getfield 27, 3) := by decide +kernel
theorem dX14_reads_4 : decode cX14_reads 4 = .ok (.iconst 0, 1) := by decide +kernel
theorem dX14_reads_5 : decode cX14_reads 5 = .ok (.putfield 191, 3) := by decide +kernel
theorem dX14_reads_8 : decode cX14_reads 8 = .ok (.aload_n 0, 1) := by decide +kernel
theorem dX14_reads_9 : decode cX14_reads 9 = .ok (.getfield 27, 3) := by decide +kernel
theorem dX14_reads_12 : decode cX14_reads 12 = .ok (.iconst 0, 1) := by decide +kernel
theorem dX14_reads_13 : decode cX14_reads 13 = .ok (.putfield 230, 3) := by decide +kernel
theorem dX14_reads_16 : decode cX14_reads 16 = .ok (.aload_n 0, 1) := by decide +kernel
theorem dX14_reads_17 : decode cX14_reads 17 = .ok (.getfield 27, 3) := by decide +kernel
theorem dX14_reads_20 : decode cX14_reads 20 = .ok (.iconst 0, 1) := by decide +kernel
theorem dX14_reads_21 : decode cX14_reads 21 = .ok (.putfield 239, 3) := by decide +kernel
theorem dX14_reads_24 : decode cX14_reads 24 = .ok (.aload_n 0, 1) := by decide +kernel
theorem dX14_reads_25 : decode cX14_reads 25 = .ok (.invokevirtual 184, 3) := by decide +kernel
theorem dX14_reads_28 : decode cX14_reads 28 = .ok (.iconst 1, 1) := by decide +kernel
theorem dX14_reads_29 : decode cX14_reads 29 = .ok (.istore_n 1, 1) := by decide +kernel
theorem dX14_reads_30 : decode cX14_reads 30 = .ok (.iload_n 1, 1) := by decide +kernel
theorem dX14_reads_31 : decode cX14_reads 31 = .ok (.ifCond .eq 277, 3) := by decide +kernel
theorem dX14_reads_34 : decode cX14_reads 34 = .ok (.aload_n 0, 1) := by decide +kernel
theorem dX14_reads_35 : decode cX14_reads 35 = .ok (.ldc 142, 2) := by decide +kernel
theorem dX14_reads_37 : decode cX14_reads 37 = .ok (.invokevirtual 187, 3) := by decide +kernel
theorem dX14_reads_40 : decode cX14_reads 40 = .ok (.ifCond .ne 13, 3) := by decide +kernel
theorem dX14_reads_43 : decode cX14_reads 43 = .ok (.aload_n 0, 1) := by decide +kernel
theorem dX14_reads_44 : decode cX14_reads 44 = .ok (.iconst 1, 1) := by decide +kernel
theorem dX14_reads_45 : decode cX14_reads 45 = .ok (.aload_n 0, 1) := by decide +kernel
theorem dX14_reads_46 : decode cX14_reads 46 = .ok (.getfield 151, 3) := by decide +kernel
theorem dX14_reads_49 : decode cX14_reads 49 = .ok (.invokevirtual 181, 3) := by decide +kernel
theorem dX14_reads_52 : decode cX14_reads 52 = .ok (.athrow, 1) := by decide +kernel
theorem dX14_reads_53 : decode cX14_reads 53 = .ok (.aload_n 0, 1) := by decide +kernel
theorem dX14_reads_54 : decode cX14_reads 54 = .ok (.getfield 27, 3) := by decide +kernel
theorem dX14_reads_57 : decode cX14_reads 57 = .ok (.getfield 230, 3) := by decide +kernel
theorem dX14_reads_60 : decode cX14_reads 60 = .ok (.bipush 30, 2) := by decide +kernel
theorem dX14_reads_62 : decode cX14_reads 62 = .ok (.if_icmp .ne 13, 3) := by decide +kernel
theorem dX14_reads_65 : decode cX14_reads 65 = .ok (.aload_n 0, 1) := by decide +kernel
theorem dX14_reads_66 : decode cX14_reads 66 = .ok (.iconst 5, 1) := by decide +kernel
theorem dX14_reads_67 : decode cX14_reads 67 = .ok (.aload_n 0, 1) := by decide +kernel
theorem dX14_reads_68 : decode cX14_reads 68 = .ok (.getfield 151, 3) := by decide +kernel
theorem dX14_reads_71 : decode cX14_reads 71 = .ok (.invokevirtual 181, 3) := by decide +kernel
theorem dX14_reads_74 : decode cX14_reads 74 = .ok (.athrow, 1) := by decide +kernel
theorem dX14_reads_75 : decode cX14_reads 75 = .ok (.aload_n 0, 1) := by decide +kernel
theorem dX14_reads_76 : decode cX14_reads 76 = .ok (.getfield 27, 3) := by decide +kernel
theorem dX14_reads_79 : decode cX14_reads 79 = .ok (.getfield 230, 3) := by decide +kernel
theorem dX14_reads_82 : decode cX14_reads 82 = .ok (.istore_n 2, 1) := by decide +kernel
theorem dX14_reads_83 : decode cX14_reads 83 = .ok (.aload_n 0, 1) := by decide +kernel
theorem dX14_reads_84 : decode cX14_reads 84 = .ok (.invokevirtual 184, 3) := by decide +kernel
theorem dX14_reads_87 : decode cX14_reads 87 = .ok (.aload_n 0, 1) := by decide +kernel
theorem dX14_reads_88 : decode cX14_reads 88 = .ok (.getfield 152, 3) := by decide +kernel
theorem dX14_reads_91 : decode cX14_reads 91 = .ok (.iconst 2, 1) := by decide +kernel
theorem dX14_reads_92 : decode cX14_reads 92 = .ok (.if_icmp .eq 13, 3) := by decide +kernel
theorem dX14_reads_95 : decode cX14_reads 95 = .ok (.aload_n 0, 1) := by decide +kernel
theorem dX14_reads_96 : decode cX14_reads 96 = .ok (.iconst 1, 1) := by decide +kernel
theorem dX14_reads_97 : decode cX14_reads 97 = .ok (.aload_n 0, 1) := by decide +kernel
theorem dX14_reads_98 : decode cX14_reads 98 = .ok (.getfield 151, 3) := by decide +kernel
theorem dX14_reads_101 : decode cX14_reads 101 = .ok (.invokevirtual 181, 3) := by decide +kernel
theorem dX14_reads_104 : decode cX14_reads 104 = .ok (.athrow, 1) := by decide +kernel
theorem dX14_reads_105 : decode cX14_reads 105 = .ok (.aload_n 0, 1) := by decide +kernel
theorem dX14_reads_106 : decode cX14_reads 106 = .ok (.getfield 27, 3) := by decide +kernel
theorem dX14_reads_109 : decode cX14_reads 109 = .ok (.aload_n 0, 1) := by decide +kernel
theorem dX14_reads_110 : decode cX14_reads 110 = .ok (.getfield 168, 3) := by decide +kernel
theorem dX14_reads_113 : decode cX14_reads 113 = .ok (.invokestatic 318, 3) := by decide +kernel
theorem dX14_reads_116 : decode cX14_reads 116 = .ok (.iconst (-1), 1) := by decide +kernel
theorem dX14_reads_117 : decode cX14_reads 117 = .ok (.if_icmp .eq 13, 3) := by decide +kernel
theorem dX14_reads_120 : decode cX14_reads 120 = .ok (.aload_n 0, 1) := by decide +kernel
theorem dX14_reads_121 : decode cX14_reads 121 = .ok (.iconst 3, 1) := by decide +kernel
theorem dX14_reads_122 : decode cX14_reads 122 = .ok (.aload_n 0, 1) := by decide +kernel
theorem dX14_reads_123 : decode cX14_reads 123 = .ok (.getfield 151, 3) := by decide +kernel
theorem dX14_reads_126 : decode cX14_reads 126 = .ok (.invokevirtual 181, 3) := by decide +kernel
theorem dX14_reads_129 : decode cX14_reads 129 = .ok (.athrow, 1) := by decide +kernel
theorem dX14_reads_130 : decode cX14_reads 130 = .ok (.aload_n 0, 1) := by decide +kernel
theorem dX14_reads_131 : decode cX14_reads 131 = .ok (.getfield 27, 3) := by decide +kernel
theorem dX14_reads_134 : decode cX14_reads 134 = .ok (.getfield 315, 3) := by decide +kernel
theorem dX14_reads_137 : decode cX14_reads 137 = .ok (.iload_n 2, 1) := by decide +kernel
theorem dX14_reads_138 : decode cX14_reads 138 = .ok (.aload_n 0, 1) := by decide +kernel
theorem dX14_reads_139 : decode cX14_reads 139 = .ok (.getfield 168, 3) := by decide +kernel
theorem dX14_reads_142 : decode cX14_reads 142 = .ok (.lastore, 1) := by decide +kernel
theorem dX14_reads_143 : decode cX14_reads 143 = .ok (.aload_n 0, 1) := by decide +kernel
theorem dX14_reads_144 : decode cX14_reads 144 = .ok (.invokevirtual 184, 3) := by decide +kernel
theorem dX14_reads_147 : decode cX14_reads 147 = .ok (.aload_n 0, 1) := by decide +kernel
theorem dX14_reads_148 : decode cX14_reads 148 = .ok (.getfield 27, 3) := by decide +kernel
theorem dX14_reads_151 : decode cX14_reads 151 = .ok (.getfield 322, 3) := by decide +kernel
theorem dX14_reads_154 : decode cX14_reads 154 = .ok (.iload_n 2, 1) := by decide +kernel
theorem dX14_reads_155 : decode cX14_reads 155 = .ok (.aload_n 0, 1) := by decide +kernel
theorem dX14_reads_156 : decode cX14_reads 156 = .ok (.getfield 27, 3) := by decide +kernel
theorem dX14_reads_159 : decode cX14_reads 159 = .ok (.getfield 191, 3) := by decide +kernel
theorem dX14_reads_162 : decode cX14_reads 162 = .ok (.iastore, 1) := by decide +kernel
theorem dX14_reads_163 : decode cX14_reads 163 = .ok (.aload_n 0, 1) := by decide +kernel
theorem dX14_reads_164 : decode cX14_reads 164 = .ok (.getfield 27, 3) := by decide +kernel
theorem dX14_reads_167 : decode cX14_reads 167 = .ok (.getfield 227, 3) := by decide +kernel
theorem dX14_reads_170 : decode cX14_reads 170 = .ok (.iload_n 2, 1) := by decide +kernel
theorem dX14_reads_171 : decode cX14_reads 171 = .ok (.iconst 0, 1) := by decide +kernel
theorem dX14_reads_172 : decode cX14_reads 172 = .ok (.iastore, 1) := by decide +kernel
theorem dX14_reads_173 : decode cX14_reads 173 = .ok (.aload_n 0, 1) := by decide +kernel
theorem dX14_reads_174 : decode cX14_reads 174 = .ok (.iconst 0, 1) := by decide +kernel
theorem dX14_reads_175 : decode cX14_reads 175 = .ok (.putfield 220, 3) := by decide +kernel
theorem dX14_reads_178 : decode cX14_reads 178 = .ok (.aload_n 0, 1) := by decide +kernel
theorem dX14_reads_179 : decode cX14_reads 179 = .ok (.iconst 0, 1) := by decide +kernel
theorem dX14_reads_180 : decode cX14_reads 180 = .ok (.putfield 252, 3) := by decide +kernel
theorem dX14_reads_183 : decode cX14_reads 183 = .ok (.aload_n 0, 1) := by decide +kernel
theorem dX14_reads_184 : decode cX14_reads 184 = .ok (.getfield 152, 3) := by decide +kernel
theorem dX14_reads_187 : decode cX14_reads 187 = .ok (.iconst 2, 1) := by decide +kernel
theorem dX14_reads_188 : decode cX14_reads 188 = .ok (.if_icmp .ne 52, 3) := by decide +kernel
theorem dX14_reads_191 : decode cX14_reads 191 = .ok (.aload_n 0, 1) := by decide +kernel
theorem dX14_reads_192 : decode cX14_reads 192 = .ok (.aload_n 0, 1) := by decide +kernel
theorem dX14_reads_193 : decode cX14_reads 193 = .ok (.getfield 168, 3) := by decide +kernel
theorem dX14_reads_196 : decode cX14_reads 196 = .ok (.invokevirtual 223, 3) := by decide +kernel
theorem dX14_reads_199 : decode cX14_reads 199 = .ok (.iconst (-1), 1) := by decide +kernel
theorem dX14_reads_200 : decode cX14_reads 200 = .ok (.if_icmp .eq 13, 3) := by decide +kernel
theorem dX14_reads_203 : decode cX14_reads 203 = .ok (.aload_n 0, 1) := by decide +kernel
theorem dX14_reads_204 : decode cX14_reads 204 = .ok (.iconst 3, 1) := by decide +kernel
theorem dX14_reads_205 : decode cX14_reads 205 = .ok (.aload_n 0, 1) := by decide +kernel
theorem dX14_reads_206 : decode cX14_reads 206 = .ok (.getfield 151, 3) := by decide +kernel
theorem dX14_reads_209 : decode cX14_reads 209 = .ok (.invokevirtual 181, 3) := by decide +kernel
theorem dX14_reads_212 : decode cX14_reads 212 = .ok (.athrow, 1) := by decide +kernel
theorem dX14_reads_213 : decode cX14_reads 213 = .ok (.aload_n 0, 1) := by decide +kernel
theorem dX14_reads_214 : decode cX14_reads 214 = .ok (.getfield 220, 3) := by decide +kernel
theorem dX14_reads_217 : decode cX14_reads 217 = .ok (.bipush 6, 2) := by decide +kernel
theorem dX14_reads_219 : decode cX14_reads 219 = .ok (.if_icmp .ne 13, 3) := by decide +kernel
theorem dX14_reads_222 : decode cX14_reads 222 = .ok (.aload_n 0, 1) := by decide +kernel
theorem dX14_reads_223 : decode cX14_reads 223 = .ok (.iconst 5, 1) := by decide +kernel
theorem dX14_reads_224 : decode cX14_reads 224 = .ok (.aload_n 0, 1) := by decide +kernel
theorem dX14_reads_225 : decode cX14_reads 225 = .ok (.getfield 151, 3) := by decide +kernel
theorem dX14_reads_228 : decode cX14_reads 228 = .ok (.invokevirtual 181, 3) := by decide +kernel
theorem dX14_reads_231 : decode cX14_reads 231 = .ok (.athrow, 1) := by decide +kernel
theorem dX14_reads_232 : decode cX14_reads 232 = .ok (.aload_n 0, 1) := by decide +kernel
theorem dX14_reads_233 : decode cX14_reads 233 = .ok (.invokevirtual 265, 3) := by decide +kernel
theorem dX14_reads_236 : decode cX14_reads 236 = .ok (.istore_n 3, 1) := by decide +kernel
theorem dX14_reads_237 : decode cX14_reads 237 = .ok (.goto (-54), 3) := by decide +kernel
theorem dX14_reads_240 : decode cX14_reads 240 = .ok (.aload_n 0, 1) := by decide +kernel
theorem dX14_reads_241 : decode cX14_reads 241 = .ok (.getfield 27, 3) := by decide +kernel
theorem dX14_reads_244 : decode cX14_reads 244 = .ok (.getfield 325, 3) := by decide +kernel
theorem dX14_reads_247 : decode cX14_reads 247 = .ok (.iload_n 2, 1) := by decide +kernel
theorem dX14_reads_248 : decode cX14_reads 248 = .ok (.aload_n 0, 1) := by decide +kernel
theorem dX14_reads_249 : decode cX14_reads 249 = .ok (.getfield 220, 3) := by decide +kernel
theorem dX14_reads_252 : decode cX14_reads 252 = .ok (.iastore, 1) := by decide +kernel
theorem dX14_reads_253 : decode cX14_reads 253 = .ok (.aload_n 0, 1) := by decide +kernel
theorem dX14_reads_254 : decode cX14_reads 254 = .ok (.bipush 61, 2) := by decide +kernel
theorem dX14_reads_256 : decode cX14_reads 256 = .ok (.invokevirtual 268, 3) := by decide +kernel
theorem dX14_reads_259 : decode cX14_reads 259 = .ok (.aload_n 0, 1) := by decide +kernel
theorem dX14_reads_260 : decode cX14_reads 260 = .ok (.getfield 27, 3) := by decide +kernel
theorem dX14_reads_263 : decode cX14_reads 263 = .ok (.getfield 328, 3) := by decide +kernel
theorem dX14_reads_266 : decode cX14_reads 266 = .ok (.iload_n 2, 1) := by decide +kernel
theorem dX14_reads_267 : decode cX14_reads 267 = .ok (.aload_n 0, 1) := by decide +kernel
theorem dX14_reads_268 : decode cX14_reads 268 = .ok (.invokevirtual 272, 3) := by decide +kernel
theorem dX14_reads_271 : decode cX14_reads 271 = .ok (.iastore, 1) := by decide +kernel
theorem dX14_reads_272 : decode cX14_reads 272 = .ok (.aload_n 0, 1) := by decide +kernel
theorem dX14_reads_273 : decode cX14_reads 273 = .ok (.bipush 59, 2) := by decide +kernel
theorem dX14_reads_275 : decode cX14_reads 275 = .ok (.invokevirtual 268, 3) := by decide +kernel
theorem dX14_reads_278 : decode cX14_reads 278 = .ok (.aload_n 0, 1) := by decide +kernel
theorem dX14_reads_279 : decode cX14_reads 279 = .ok (.getfield 27, 3) := by decide +kernel
theorem dX14_reads_282 : decode cX14_reads 282 = .ok (.dup, 1) := by decide +kernel
theorem dX14_reads_283 : decode cX14_reads 283 = .ok (.getfield 230, 3) := by decide +kernel
theorem dX14_reads_286 : decode cX14_reads 286 = .ok (.iconst 1, 1) := by decide +kernel
theorem dX14_reads_287 : decode cX14_reads 287 = .ok (.iadd, 1) := by decide +kernel
theorem dX14_reads_288 : decode cX14_reads 288 = .ok (.putfield 230, 3) := by decide +kernel
theorem dX14_reads_291 : decode cX14_reads 291 = .ok (.aload_n 0, 1) := by decide +kernel
theorem dX14_reads_292 : decode cX14_reads 292 = .ok (.getfield 152, 3) := by decide +kernel
theorem dX14_reads_295 : decode cX14_reads 295 = .ok (.iconst 1, 1) := by decide +kernel
theorem dX14_reads_296 : decode cX14_reads 296 = .ok (.if_icmp .eq 7, 3) := by decide +kernel
theorem dX14_reads_299 : decode cX14_reads 299 = .ok (.iconst 1, 1) := by decide +kernel
theorem dX14_reads_300 : decode cX14_reads 300 = .ok (.goto 4, 3) := by decide +kernel
theorem dX14_reads_303 : decode cX14_reads 303 = .ok (.iconst 0, 1) := by decide +kernel
theorem dX14_reads_304 : decode cX14_reads 304 = .ok (.istore_n 1, 1) := by decide +kernel
theorem dX14_reads_305 : decode cX14_reads 305 = .ok (.goto (-275), 3) := by decide +kernel
theorem dX14_reads_308 : decode cX14_reads 308 = .ok (.iconst (-1), 1) := by decide +kernel
theorem dX14_reads_309 : decode cX14_reads 309 = .ok (.istore_n 2, 1) := by decide +kernel
theorem dX14_reads_310 : decode cX14_reads 310 = .ok (.iconst 0, 1) := by decide +kernel
theorem dX14_reads_311 : decode cX14_reads 311 = .ok (.istore_n 3, 1) := by decide +kernel
theorem dX14_reads_312 : decode cX14_reads 312 = .ok (.iload_n 3, 1) := by decide +kernel
theorem dX14_reads_313 : decode cX14_reads 313 = .ok (.aload_n 0, 1) := by decide +kernel
theorem dX14_reads_314 : decode cX14_reads 314 = .ok (.getfield 27, 3) := by decide +kernel
theorem dX14_reads_317 : decode cX14_reads 317 = .ok (.getfield 191, 3) := by decide +kernel
theorem dX14_reads_320 : decode cX14_reads 320 = .ok (.if_icmp .ge 122, 3) := by decide +kernel
theorem dX14_reads_323 : decode cX14_reads 323 = .ok (.aload_n 0, 1) := by decide +kernel
theorem dX14_reads_324 : decode cX14_reads 324 = .ok (.getfield 27, 3) := by decide +kernel
theorem dX14_reads_327 : decode cX14_reads 327 = .ok (.getfield 194, 3) := by decide +kernel
theorem dX14_reads_330 : decode cX14_reads 330 = .ok (.iload_n 3, 1) := by decide +kernel
theorem dX14_reads_331 : decode cX14_reads 331 = .ok (.baload, 1) := by decide +kernel
theorem dX14_reads_332 : decode cX14_reads 332 = .ok (.iconst 3, 1) := by decide +kernel
theorem dX14_reads_333 : decode cX14_reads 333 = .ok (.if_icmp .eq 6, 3) := by decide +kernel
theorem dX14_reads_336 : decode cX14_reads 336 = .ok (.goto 100, 3) := by decide +kernel
theorem dX14_reads_339 : decode cX14_reads 339 = .ok (.aload_n 0, 1) := by decide +kernel
theorem dX14_reads_340 : decode cX14_reads 340 = .ok (.getfield 27, 3) := by decide +kernel
theorem dX14_reads_343 : decode cX14_reads 343 = .ok (.aload_n 0, 1) := by decide +kernel
theorem dX14_reads_344 : decode cX14_reads 344 = .ok (.getfield 27, 3) := by decide +kernel
theorem dX14_reads_347 : decode cX14_reads 347 = .ok (.getfield 217, 3) := by decide +kernel
theorem dX14_reads_350 : decode cX14_reads 350 = .ok (.iload_n 3, 1) := by decide +kernel
theorem dX14_reads_351 : decode cX14_reads 351 = .ok (.laload, 1) := by decide +kernel
theorem dX14_reads_352 : decode cX14_reads 352 = .ok (.invokestatic 318, 3) := by decide +kernel
theorem dX14_reads_355 : decode cX14_reads 355 = .ok (.istore 4, 2) := by decide +kernel
theorem dX14_reads_357 : decode cX14_reads 357 = .ok (.iload 4, 2) := by decide +kernel
theorem dX14_reads_359 : decode cX14_reads 359 = .ok (.iconst (-1), 1) := by decide +kernel
theorem dX14_reads_360 : decode cX14_reads 360 = .ok (.if_icmp .eq 25, 3) := by decide +kernel
theorem dX14_reads_363 : decode cX14_reads 363 = .ok (.aload_n 0, 1) := by decide +kernel
theorem dX14_reads_364 : decode cX14_reads 364 = .ok (.getfield 27, 3) := by decide +kernel
theorem dX14_reads_367 : decode cX14_reads 367 = .ok (.getfield 325, 3) := by decide +kernel
theorem dX14_reads_370 : decode cX14_reads 370 = .ok (.iload 4, 2) := by decide +kernel
theorem dX14_reads_372 : decode cX14_reads 372 = .ok (.iaload, 1) := by decide +kernel
theorem dX14_reads_373 : decode cX14_reads 373 = .ok (.aload_n 0, 1) := by decide +kernel
theorem dX14_reads_374 : decode cX14_reads 374 = .ok (.getfield 27, 3) := by decide +kernel
theorem dX14_reads_377 : decode cX14_reads 377 = .ok (.getfield 214, 3) := by decide +kernel
theorem dX14_reads_380 : decode cX14_reads 380 = .ok (.iload_n 3, 1) := by decide +kernel
theorem dX14_reads_381 : decode cX14_reads 381 = .ok (.iaload, 1) := by decide +kernel
theorem dX14_reads_382 : decode cX14_reads 382 = .ok (.if_icmp .eq 7, 3) := by decide +kernel
theorem dX14_reads_385 : decode cX14_reads 385 = .ok (.iconst 1, 1) := by decide +kernel
theorem dX14_reads_386 : decode cX14_reads 386 = .ok (.goto 4, 3) := by decide +kernel
theorem dX14_reads_389 : decode cX14_reads 389 = .ok (.iconst 0, 1) := by decide +kernel
theorem dX14_reads_390 : decode cX14_reads 390 = .ok (.istore 5, 2) := by decide +kernel
theorem dX14_reads_392 : decode cX14_reads 392 = .ok (.iload 5, 2) := by decide +kernel
theorem dX14_reads_394 : decode cX14_reads 394 = .ok (.ifCond .eq 31, 3) := by decide +kernel
theorem dX14_reads_397 : decode cX14_reads 397 = .ok (.iload_n 2, 1) := by decide +kernel
theorem dX14_reads_398 : decode cX14_reads 398 = .ok (.iconst (-1), 1) := by decide +kernel
theorem dX14_reads_399 : decode cX14_reads 399 = .ok (.if_icmp .eq 24, 3) := by decide +kernel
theorem dX14_reads_402 : decode cX14_reads 402 = .ok (.aload_n 0, 1) := by decide +kernel
theorem dX14_reads_403 : decode cX14_reads 403 = .ok (.getfield 27, 3) := by decide +kernel
theorem dX14_reads_406 : decode cX14_reads 406 = .ok (.getfield 197, 3) := by decide +kernel
theorem dX14_reads_409 : decode cX14_reads 409 = .ok (.iload_n 3, 1) := by decide +kernel
theorem dX14_reads_410 : decode cX14_reads 410 = .ok (.iaload, 1) := by decide +kernel
theorem dX14_reads_411 : decode cX14_reads 411 = .ok (.aload_n 0, 1) := by decide +kernel
theorem dX14_reads_412 : decode cX14_reads 412 = .ok (.getfield 27, 3) := by decide +kernel
theorem dX14_reads_415 : decode cX14_reads 415 = .ok (.getfield 197, 3) := by decide +kernel
theorem dX14_reads_418 : decode cX14_reads 418 = .ok (.iload_n 2, 1) := by decide +kernel
theorem dX14_reads_419 : decode cX14_reads 419 = .ok (.iaload, 1) := by decide +kernel
theorem dX14_reads_420 : decode cX14_reads 420 = .ok (.if_icmp .ge 5, 3) := by decide +kernel
theorem dX14_reads_423 : decode cX14_reads 423 = .ok (.iload_n 3, 1) := by decide +kernel
theorem dX14_reads_424 : decode cX14_reads 424 = .ok (.istore_n 2, 1) := by decide +kernel
theorem dX14_reads_425 : decode cX14_reads 425 = .ok (.aload_n 0, 1) := by decide +kernel
theorem dX14_reads_426 : decode cX14_reads 426 = .ok (.getfield 27, 3) := by decide +kernel
theorem dX14_reads_429 : decode cX14_reads 429 = .ok (.getfield 199, 3) := by decide +kernel
theorem dX14_reads_432 : decode cX14_reads 432 = .ok (.iload_n 3, 1) := by decide +kernel
theorem dX14_reads_433 : decode cX14_reads 433 = .ok (.iload 4, 2) := by decide +kernel
theorem dX14_reads_435 : decode cX14_reads 435 = .ok (.iastore, 1) := by decide +kernel
theorem dX14_reads_436 : decode cX14_reads 436 = .ok (.iinc 3 1, 3) := by decide +kernel
theorem dX14_reads_439 : decode cX14_reads 439 = .ok (.goto (-127), 3) := by decide +kernel
theorem dX14_reads_442 : decode cX14_reads 442 = .ok (.iload_n 2, 1) := by decide +kernel
theorem dX14_reads_443 : decode cX14_reads 443 = .ok (.iconst (-1), 1) := by decide +kernel
theorem dX14_reads_444 : decode cX14_reads 444 = .ok (.if_icmp .eq 35, 3) := by decide +kernel
theorem dX14_reads_447 : decode cX14_reads 447 = .ok (.aload_n 0, 1) := by decide +kernel
theorem dX14_reads_448 : decode cX14_reads 448 = .ok (.aload_n 0, 1) := by decide +kernel
theorem dX14_reads_449 : decode cX14_reads 449 = .ok (.getfield 27, 3) := by decide +kernel
theorem dX14_reads_452 : decode cX14_reads 452 = .ok (.getfield 199, 3) := by decide +kernel
theorem dX14_reads_455 : decode cX14_reads 455 = .ok (.iload_n 2, 1) := by decide +kernel
theorem dX14_reads_456 : decode cX14_reads 456 = .ok (.iaload, 1) := by decide +kernel
theorem dX14_reads_457 : decode cX14_reads 457 = .ok (.iconst (-1), 1) := by decide +kernel
theorem dX14_reads_458 : decode cX14_reads 458 = .ok (.if_icmp .ne 7, 3) := by decide +kernel
theorem dX14_reads_461 : decode cX14_reads 461 = .ok (.iconst 2, 1) := by decide +kernel
theorem dX14_reads_462 : decode cX14_reads 462 = .ok (.goto 4, 3) := by decide +kernel
theorem dX14_reads_465 : decode cX14_reads 465 = .ok (.iconst 4, 1) := by decide +kernel
theorem dX14_reads_466 : decode cX14_reads 466 = .ok (.aload_n 0, 1) := by decide +kernel
theorem dX14_reads_467 : decode cX14_reads 467 = .ok (.getfield 27, 3) := by decide +kernel
theorem dX14_reads_470 : decode cX14_reads 470 = .ok (.getfield 197, 3) := by decide +kernel
theorem dX14_reads_473 : decode cX14_reads 473 = .ok (.iload_n 2, 1) := by decide +kernel
theorem dX14_reads_474 : decode cX14_reads 474 = .ok (.iaload, 1) := by decide +kernel
theorem dX14_reads_475 : decode cX14_reads 475 = .ok (.invokevirtual 181, 3) := by decide +kernel
theorem dX14_reads_478 : decode cX14_reads 478 = .ok (.athrow, 1) := by decide +kernel
theorem dX14_reads_479 : decode cX14_reads 479 = .ok (.iconst 0, 1) := by decide +kernel
theorem dX14_reads_480 : decode cX14_reads 480 = .ok (.istore_n 3, 1) := by decide +kernel
theorem dX14_reads_481 : decode cX14_reads 481 = .ok (.iload_n 3, 1) := by decide +kernel
theorem dX14_reads_482 : decode cX14_reads 482 = .ok (.aload_n 0, 1) := by decide +kernel
theorem dX14_reads_483 : decode cX14_reads 483 = .ok (.getfield 27, 3) := by decide +kernel
theorem dX14_reads_486 : decode cX14_reads 486 = .ok (.getfield 230, 3) := by decide +kernel
theorem dX14_reads_489 : decode cX14_reads 489 = .ok (.if_icmp .ge 14, 3) := by decide +kernel
theorem dX14_reads_492 : decode cX14_reads 492 = .ok (.aload_n 0, 1) := by decide +kernel
theorem dX14_reads_493 : decode cX14_reads 493 = .ok (.iload_n 3, 1) := by decide +kernel
theorem dX14_reads_494 : decode cX14_reads 494 = .ok (.invokevirtual 331, 3) := by decide +kernel
theorem dX14_reads_497 : decode cX14_reads 497 = .ok (.iinc 3 1, 3) := by decide +kernel
theorem dX14_reads_500 : decode cX14_reads 500 = .ok (.goto (-19), 3) := by decide +kernel
theorem dX14_reads_503 : decode cX14_reads 503 = .ok (.return_, 1) := by decide +kernel
theorem zKA_t {S : Nat → Nat → Int32} {u b bo : Nat → Int32} {t t2 f f2 : Nat} (h : zKA S u b bo t f) (e1 : t = t2) (e2 : f = f2) : zKA S u b bo t2 f2 := e1 ▸ e2 ▸ h

end
section
set_option maxHeartbeats 40000000 in
set_option maxRecDepth 100000 in
theorem c_X14_reads_481 (l : Launch) (dC : Nat → ClassId) (dI : Nat → Nat → Nat) (aK : Nat → Nat) (aV : Nat → Nat) (h0 : Nat) (m_thrown : Int32) (m_stop : Nat) (m_tape : Nat) (m_taped : Int32) (m_length : Int32) (m_at : Int32) (m_sort : Int32) (m_place : Int32) (m_sign : Int32) (m_letters : Int64) (m_p : Nat) (m_spare : Nat) (m_isTaken : Int32) (m_scope : Nat) (m_scoped : Int32) (m_deep : Int32) (m_counted : Int32) (m_fault : Int32) (m_where : Int32) (m_cellKind : Nat) (m_cellCount : Nat) (m_free : Nat) (m_pile : Nat) (m_cellField : Nat) (m_freeCount : Int32) (m_given : Int32) (m_nextPlain : Int32) (m_otherKind : Nat) (m_otherField : Nat) (m_isPlain : Int32) (m_hasRun : Int32) (m_hasValue : Int32) (m_hasOther : Int32) (m_value : Int64) (m_other : Int64) (m_steps : Int32) (m_made : Int32) (m_reused : Int32) (m_freed : Int32) (m_most : Int32) (m_doubled : Int32) (m_openMost : Int32) (m_taskWhat : Nat) (m_taskPart : Nat) (m_values : Nat) (m_tasks : Int32) (m_valued : Int32) (m_open : Int32) (m_slots : Nat) (m_present : Nat) (m_shell : Nat) (m_shellArm : Nat) (m_shellCall : Nat) (m_shells : Int32) (m_keptCounts : Nat) (m_asideKind : Nat) (m_asideCount : Nat) (m_asideField : Nat) (m_out : Nat) (m_side : Nat) (m_outs : Int32) (m_sides : Int32) (m_saying : Nat) (stk : Int32) (stp : Int32) (mk_ : ClassId) (gt : Nat → Int32) (pr_what : Nat) (pr_place : Nat) (pr_own : Nat) (pr_one : Nat) (pr_two : Nat) (pr_three : Nat) (pr_beside : Nat) (pr_many : Nat) (pr_uses : Nat) (pr_behind : Nat) (pr_name : Nat) (pr_makes : Nat) (pr_parts : Int32) (pr_functionName : Nat) (pr_kindName : Nat) (pr_told : Nat) (pr_body : Nat) (pr_first : Nat) (pr_widest : Nat) (pr_fields : Nat) (pr_functions : Int32) (pr_kinds : Int32) (rk_what : ClassId) (rk_place : ClassId) (rk_own : ClassId) (rk_one : ClassId) (rk_two : ClassId) (rk_three : ClassId) (rk_beside : ClassId) (rk_many : ClassId) (rk_uses : ClassId) (rk_behind : ClassId) (rk_name : ClassId) (rk_makes : ClassId) (rk_functionName : ClassId) (rk_kindName : ClassId) (rk_told : ClassId) (rk_body : ClassId) (rk_first : ClassId) (rk_widest : ClassId) (rk_fields : ClassId) (rg_what : Nat → Int32) (rg_place : Nat → Int32) (rg_own : Nat → Int32) (rg_one : Nat → Int32) (rg_two : Nat → Int32) (rg_three : Nat → Int32) (rg_beside : Nat → Int32) (rg_many : Nat → Int32) (rg_uses : Nat → Int32) (rg_behind : Nat → Int32) (rg_name : Nat → Int64) (rg_makes : Nat → Int32) (rg_functionName : Nat → Int64) (rg_kindName : Nat → Int64) (rg_told : Nat → Int32) (rg_body : Nat → Int32) (rg_first : Nat → Int32) (rg_widest : Nat → Int32) (rg_fields : Nat → Int32) (sk_ : ClassId) (gsc : Nat → Int64) (gT : Nat → Int32) (gP : Nat → Int32) (gV : Nat → Int64) (gz : Int32) (gE : Nat → Nat) (gkw : Nat → Int64) (gkf : Nat → Int32) (gfw : Nat → Int64) (gTr : Nat → Tm) (hlt : l.stackTraces = false) (hzb : zb gt) (hat0 : 0 ≤ m_at.toInt) (hat1 : m_at.toInt ≤ m_length.toInt) (hle : m_length.toInt ≤ 2000) (hat9 : m_at.toInt = 0) (p : Program) (e : Env) (s : State) (m : MethodId) (below : List Frame) (meth : Method) (c : Code) (s₁ : State) (hml : c.maxLocals = 6) (hnh : ∀ (x : ExceptionTableEntry), x ∈ c.exceptionTable.toList → False) (hN : zN s) (hx : p.tables.exec = exec) (hb : c.code = cX14_reads) (hr : meth.sig.returnType = none) (hA : ∀ (w : Cond), w ∈ zw → w.before #[Value.ref h0] s = true) (hown : s.vm.findClass RX14 = some m.cls) (hlocks : meth.locks = false) (A : Nat → Prop) (hT : zT aK aV A s s.heap) (hAA : ∀ (q : Nat), Array.size s.heap ≤ q → A q) (H_d2 : Heap) (hPc : va_P (dC, dI) vwCl [(h0, Sum.inr (14, let y := let y := let y := let y := [Value.ref m_side, Value.int m_outs, Value.int m_sides, Value.ref m_saying]; Value.ref m_asideKind :: Value.ref m_asideCount :: Value.ref m_asideField :: Value.ref m_out :: y; let y := Value.ref m_shellArm :: Value.ref m_shellCall :: Value.int m_shells :: Value.ref m_keptCounts :: y; Value.int m_open :: Value.ref m_slots :: Value.ref m_present :: Value.ref m_shell :: y; let y := let y := Value.ref m_taskPart :: Value.ref m_values :: Value.int m_tasks :: Value.int m_valued :: y; Value.int m_most :: Value.int m_doubled :: Value.int m_openMost :: Value.ref m_taskWhat :: y; let y := Value.int m_steps :: Value.int m_made :: Value.int m_reused :: Value.int m_freed :: y; Value.int m_hasValue :: Value.int m_hasOther :: Value.long m_value :: Value.long m_other :: y; let y := let y := let y := Value.ref m_otherKind :: Value.ref m_otherField :: Value.int m_isPlain :: Value.int m_hasRun :: y; Value.ref m_cellField :: Value.int m_freeCount :: Value.int m_given :: Value.int m_nextPlain :: y; let y := Value.ref m_cellKind :: Value.ref m_cellCount :: Value.ref m_free :: Value.ref m_pile :: y; Value.int m_deep :: Value.int m_counted :: Value.int m_fault :: Value.int m_where :: y; let y := let y := Value.ref m_spare :: Value.int m_isTaken :: Value.ref m_scope :: Value.int m_scoped :: y; Value.int m_place :: Value.int m_sign :: Value.long m_letters :: Value.ref m_p :: y; Value.int m_thrown :: Value.ref m_stop :: Value.ref m_tape :: Value.int m_taped :: Value.int m_length :: Value.int m_at :: Value.int m_sort :: y)), (m_tape, Sum.inl (mk_, 2000, Sum.inl gt))] H_d2) (hDc : va_D A [(h0, Sum.inr (14, let y := let y := let y := let y := [Value.ref m_side, Value.int m_outs, Value.int m_sides, Value.ref m_saying]; Value.ref m_asideKind :: Value.ref m_asideCount :: Value.ref m_asideField :: Value.ref m_out :: y; let y := Value.ref m_shellArm :: Value.ref m_shellCall :: Value.int m_shells :: Value.ref m_keptCounts :: y; Value.int m_open :: Value.ref m_slots :: Value.ref m_present :: Value.ref m_shell :: y; let y := let y := Value.ref m_taskPart :: Value.ref m_values :: Value.int m_tasks :: Value.int m_valued :: y; Value.int m_most :: Value.int m_doubled :: Value.int m_openMost :: Value.ref m_taskWhat :: y; let y := Value.int m_steps :: Value.int m_made :: Value.int m_reused :: Value.int m_freed :: y; Value.int m_hasValue :: Value.int m_hasOther :: Value.long m_value :: Value.long m_other :: y; let y := let y := let y := Value.ref m_otherKind :: Value.ref m_otherField :: Value.int m_isPlain :: Value.int m_hasRun :: y; Value.ref m_cellField :: Value.int m_freeCount :: Value.int m_given :: Value.int m_nextPlain :: y; let y := Value.ref m_cellKind :: Value.ref m_cellCount :: Value.ref m_free :: Value.ref m_pile :: y; Value.int m_deep :: Value.int m_counted :: Value.int m_fault :: Value.int m_where :: y; let y := let y := Value.ref m_spare :: Value.int m_isTaken :: Value.ref m_scope :: Value.int m_scoped :: y; Value.int m_place :: Value.int m_sign :: Value.long m_letters :: Value.ref m_p :: y; Value.int m_thrown :: Value.ref m_stop :: Value.ref m_tape :: Value.int m_taped :: Value.int m_length :: Value.int m_at :: Value.int m_sort :: y)), (m_tape, Sum.inl (mk_, 2000, Sum.inl gt))]) (hKc : va_K (dC, dI) vwCl [(mk_, FieldType.byte)] s) (hFc : ∀ (q : Nat), va_A [(h0, Sum.inr (14, let y := let y := let y := let y := [Value.ref m_side, Value.int m_outs, Value.int m_sides, Value.ref m_saying]; Value.ref m_asideKind :: Value.ref m_asideCount :: Value.ref m_asideField :: Value.ref m_out :: y; let y := Value.ref m_shellArm :: Value.ref m_shellCall :: Value.int m_shells :: Value.ref m_keptCounts :: y; Value.int m_open :: Value.ref m_slots :: Value.ref m_present :: Value.ref m_shell :: y; let y := let y := Value.ref m_taskPart :: Value.ref m_values :: Value.int m_tasks :: Value.int m_valued :: y; Value.int m_most :: Value.int m_doubled :: Value.int m_openMost :: Value.ref m_taskWhat :: y; let y := Value.int m_steps :: Value.int m_made :: Value.int m_reused :: Value.int m_freed :: y; Value.int m_hasValue :: Value.int m_hasOther :: Value.long m_value :: Value.long m_other :: y; let y := let y := let y := Value.ref m_otherKind :: Value.ref m_otherField :: Value.int m_isPlain :: Value.int m_hasRun :: y; Value.ref m_cellField :: Value.int m_freeCount :: Value.int m_given :: Value.int m_nextPlain :: y; let y := Value.ref m_cellKind :: Value.ref m_cellCount :: Value.ref m_free :: Value.ref m_pile :: y; Value.int m_deep :: Value.int m_counted :: Value.int m_fault :: Value.int m_where :: y; let y := let y := Value.ref m_spare :: Value.int m_isTaken :: Value.ref m_scope :: Value.int m_scoped :: y; Value.int m_place :: Value.int m_sign :: Value.long m_letters :: Value.ref m_p :: y; Value.int m_thrown :: Value.ref m_stop :: Value.ref m_tape :: Value.int m_taped :: Value.int m_length :: Value.int m_at :: Value.int m_sort :: y)), (m_tape, Sum.inl (mk_, 2000, Sum.inl gt))] (Array.size H_d2) q → A q) (t : State) (H1 : Heap) (ht : t.heap = H1) (hvm : s.vm.Alike t.vm) (hz1 : Array.size H_d2 ≤ Array.size H1) (hk1 : ∀ (q : Nat), q < Array.size H_d2 → ¬va_A [(h0, Sum.inr (14, have y := have y := have y := have y := [Value.ref m_side, Value.int m_outs, Value.int m_sides, Value.ref m_saying]; Value.ref m_asideKind :: Value.ref m_asideCount :: Value.ref m_asideField :: Value.ref m_out :: y; have y := Value.ref m_shellArm :: Value.ref m_shellCall :: Value.int m_shells :: Value.ref m_keptCounts :: y; Value.int m_open :: Value.ref m_slots :: Value.ref m_present :: Value.ref m_shell :: y; have y := have y := Value.ref m_taskPart :: Value.ref m_values :: Value.int m_tasks :: Value.int m_valued :: y; Value.int m_most :: Value.int m_doubled :: Value.int m_openMost :: Value.ref m_taskWhat :: y; have y := Value.int m_steps :: Value.int m_made :: Value.int m_reused :: Value.int m_freed :: y; Value.int m_hasValue :: Value.int m_hasOther :: Value.long m_value :: Value.long m_other :: y; have y := have y := have y := Value.ref m_otherKind :: Value.ref m_otherField :: Value.int m_isPlain :: Value.int m_hasRun :: y; Value.ref m_cellField :: Value.int m_freeCount :: Value.int m_given :: Value.int m_nextPlain :: y; have y := Value.ref m_cellKind :: Value.ref m_cellCount :: Value.ref m_free :: Value.ref m_pile :: y; Value.int m_deep :: Value.int m_counted :: Value.int m_fault :: Value.int m_where :: y; have y := have y := Value.ref m_spare :: Value.int m_isTaken :: Value.ref m_scope :: Value.int m_scoped :: y; Value.int m_place :: Value.int m_sign :: Value.long m_letters :: Value.ref m_p :: y; Value.int m_thrown :: Value.ref m_stop :: Value.ref m_tape :: Value.int m_taped :: Value.int m_length :: Value.int m_at :: Value.int m_sort :: y)), (m_tape, Sum.inl (mk_, 2000, Sum.inl gt))] (Array.size H_d2) q → H1[q]? = H_d2[q]?) (at_2 : Int32) (so_3 : Int32) (pl_4 : Int32) (sg_5 : Int32) (le_6 : Int64) (hP1 : va_P (dC, dI) vwCl [(h0, Sum.inr (14, have y := have y := have y := have y := [Value.ref m_side, Value.int m_outs, Value.int m_sides, Value.ref m_saying]; Value.ref m_asideKind :: Value.ref m_asideCount :: Value.ref m_asideField :: Value.ref m_out :: y; have y := Value.ref m_shellArm :: Value.ref m_shellCall :: Value.int m_shells :: Value.ref m_keptCounts :: y; Value.int m_open :: Value.ref m_slots :: Value.ref m_present :: Value.ref m_shell :: y; have y := have y := Value.ref m_taskPart :: Value.ref m_values :: Value.int m_tasks :: Value.int m_valued :: y; Value.int m_most :: Value.int m_doubled :: Value.int m_openMost :: Value.ref m_taskWhat :: y; have y := Value.int m_steps :: Value.int m_made :: Value.int m_reused :: Value.int m_freed :: y; Value.int m_hasValue :: Value.int m_hasOther :: Value.long m_value :: Value.long m_other :: y; have y := have y := have y := Value.ref m_otherKind :: Value.ref m_otherField :: Value.int m_isPlain :: Value.int m_hasRun :: y; Value.ref m_cellField :: Value.int m_freeCount :: Value.int m_given :: Value.int m_nextPlain :: y; have y := Value.ref m_cellKind :: Value.ref m_cellCount :: Value.ref m_free :: Value.ref m_pile :: y; Value.int m_deep :: Value.int m_counted :: Value.int m_fault :: Value.int m_where :: y; have y := have y := Value.ref m_spare :: Value.int m_isTaken :: Value.ref m_scope :: Value.int m_scoped :: y; Value.int pl_4 :: Value.int sg_5 :: Value.long le_6 :: Value.ref m_p :: y; Value.int m_thrown :: Value.ref m_stop :: Value.ref m_tape :: Value.int m_taped :: Value.int m_length :: Value.int at_2 :: Value.int so_3 :: y)), (m_tape, Sum.inl (mk_, 2000, Sum.inl gt))] H1) (hD1 : va_D (va_A [(h0, Sum.inr (14, have y := have y := have y := have y := [Value.ref m_side, Value.int m_outs, Value.int m_sides, Value.ref m_saying]; Value.ref m_asideKind :: Value.ref m_asideCount :: Value.ref m_asideField :: Value.ref m_out :: y; have y := Value.ref m_shellArm :: Value.ref m_shellCall :: Value.int m_shells :: Value.ref m_keptCounts :: y; Value.int m_open :: Value.ref m_slots :: Value.ref m_present :: Value.ref m_shell :: y; have y := have y := Value.ref m_taskPart :: Value.ref m_values :: Value.int m_tasks :: Value.int m_valued :: y; Value.int m_most :: Value.int m_doubled :: Value.int m_openMost :: Value.ref m_taskWhat :: y; have y := Value.int m_steps :: Value.int m_made :: Value.int m_reused :: Value.int m_freed :: y; Value.int m_hasValue :: Value.int m_hasOther :: Value.long m_value :: Value.long m_other :: y; have y := have y := have y := Value.ref m_otherKind :: Value.ref m_otherField :: Value.int m_isPlain :: Value.int m_hasRun :: y; Value.ref m_cellField :: Value.int m_freeCount :: Value.int m_given :: Value.int m_nextPlain :: y; have y := Value.ref m_cellKind :: Value.ref m_cellCount :: Value.ref m_free :: Value.ref m_pile :: y; Value.int m_deep :: Value.int m_counted :: Value.int m_fault :: Value.int m_where :: y; have y := have y := Value.ref m_spare :: Value.int m_isTaken :: Value.ref m_scope :: Value.int m_scoped :: y; Value.int m_place :: Value.int m_sign :: Value.long m_letters :: Value.ref m_p :: y; Value.int m_thrown :: Value.ref m_stop :: Value.ref m_tape :: Value.int m_taped :: Value.int m_length :: Value.int m_at :: Value.int m_sort :: y)), (m_tape, Sum.inl (mk_, 2000, Sum.inl gt))] (Array.size H_d2)) [(h0, Sum.inr (14, have y := have y := have y := have y := [Value.ref m_side, Value.int m_outs, Value.int m_sides, Value.ref m_saying]; Value.ref m_asideKind :: Value.ref m_asideCount :: Value.ref m_asideField :: Value.ref m_out :: y; have y := Value.ref m_shellArm :: Value.ref m_shellCall :: Value.int m_shells :: Value.ref m_keptCounts :: y; Value.int m_open :: Value.ref m_slots :: Value.ref m_present :: Value.ref m_shell :: y; have y := have y := Value.ref m_taskPart :: Value.ref m_values :: Value.int m_tasks :: Value.int m_valued :: y; Value.int m_most :: Value.int m_doubled :: Value.int m_openMost :: Value.ref m_taskWhat :: y; have y := Value.int m_steps :: Value.int m_made :: Value.int m_reused :: Value.int m_freed :: y; Value.int m_hasValue :: Value.int m_hasOther :: Value.long m_value :: Value.long m_other :: y; have y := have y := have y := Value.ref m_otherKind :: Value.ref m_otherField :: Value.int m_isPlain :: Value.int m_hasRun :: y; Value.ref m_cellField :: Value.int m_freeCount :: Value.int m_given :: Value.int m_nextPlain :: y; have y := Value.ref m_cellKind :: Value.ref m_cellCount :: Value.ref m_free :: Value.ref m_pile :: y; Value.int m_deep :: Value.int m_counted :: Value.int m_fault :: Value.int m_where :: y; have y := have y := Value.ref m_spare :: Value.int m_isTaken :: Value.ref m_scope :: Value.int m_scoped :: y; Value.int pl_4 :: Value.int sg_5 :: Value.long le_6 :: Value.ref m_p :: y; Value.int m_thrown :: Value.ref m_stop :: Value.ref m_tape :: Value.int m_taped :: Value.int m_length :: Value.int at_2 :: Value.int so_3 :: y)), (m_tape, Sum.inl (mk_, 2000, Sum.inl gt))]) (hK1 : va_K (dC, dI) vwCl [(mk_, FieldType.byte)] s) (hK : va_K (dC, dI) vwCl [(rk_what, FieldType.byte), (rk_place, FieldType.int), (rk_own, FieldType.int), (rk_one, FieldType.int), (rk_two, FieldType.int), (rk_three, FieldType.int), (rk_beside, FieldType.int), (rk_many, FieldType.int), (rk_uses, FieldType.int), (rk_behind, FieldType.int), (rk_name, FieldType.long), (rk_makes, FieldType.byte), (rk_functionName, FieldType.long), (rk_kindName, FieldType.long), (rk_told, FieldType.int), (rk_body, FieldType.int), (rk_first, FieldType.int), (rk_widest, FieldType.int), (rk_fields, FieldType.int), (sk_, FieldType.long), (mk_, FieldType.byte)] s) (hq_7 : m_at.toInt ≤ pl_4.toInt) (hq_8 : pl_4.toInt ≤ at_2.toInt) (hq_9 : at_2.toInt ≤ m_length.toInt) (hq_10 : 0 ≤ so_3.toInt) (hq_11 : so_3.toInt ≤ 7) (hq_12 : so_3.toInt = 0 ∨ so_3.toInt = 1 ∨ pl_4.toInt + 1 ≤ at_2.toInt) (hq_13 : zkl so_3 le_6) (hq_14 : rx_nx gt m_length m_at pl_4 at_2 so_3 sg_5 le_6) (hrx0 : rx_st gt m_length gT gP gV gz gE 0 at_2 so_3 sg_5 le_6 pl_4) (mr : Int32) (lat : Int32) (lso : Int32) (lpl : Int32) (lsg : Int32) (lle : Int64) (lsd : Int32) (ldp : Int32) (lcn : Int32) (lpz : Int32) (lkz : Int32) (lfz : Int32) (l_what : Nat → Int32) (l_place : Nat → Int32) (l_own : Nat → Int32) (l_one : Nat → Int32) (l_two : Nat → Int32) (l_three : Nat → Int32) (l_beside : Nat → Int32) (l_many : Nat → Int32) (l_name : Nat → Int64) (l_functionName : Nat → Int64) (l_kindName : Nat → Int64) (l_told : Nat → Int32) (l_body : Nat → Int32) (l_first : Nat → Int32) (l_widest : Nat → Int32) (l_fields : Nat → Int32) (lsc : Nat → Int64) (hll1 : lpl.toInt ≤ lat.toInt) (hll2 : lat.toInt ≤ m_length.toInt) (hll3 : 0 ≤ lso.toInt) (hll4 : lso.toInt ≤ 7) (hll5 : lso.toInt = 0 ∨ lso.toInt = 1 ∨ lpl.toInt + 1 ≤ lat.toInt) (hllk : zkl lso lle) (hl0 : 0 ≤ lpz.toInt) (hl7 : lpz.toInt ≤ lpl.toInt) (hl8 : 0 ≤ lkz.toInt) (hlc : lkz.toInt ≤ 20) (hlkn : zkn lkz l_kindName) (hlf0 : 0 ≤ lfz.toInt) (hlf1 : lfz.toInt ≤ 30) (hmr : mr.toInt = 0 ∨ mr.toInt = 1) (lL : Nat → Nat) (lC : Nat → Nat) (li : Nat) (ln : Nat) (lkw : Nat → Int64) (lkf : Nat → Int32) (lCa : List (Int64 × Int × Int)) (lfw : Nat → Int64) (lft : Nat → Int) (lG : Nat → Tm) (hlst : rx_st gt m_length gT gP gV gz gE li lat lso lsg lle lpl) (hlkr : sp_kr l_kindName l_fields lkz lkw lkf) (hlcr : sp_cr l_what l_many l_place l_name lpz lCa) (hlfr : sp_fr l_functionName l_told lfz lfw lft) (hln : (↑ln : Int) = 31 - lfz.toInt) (hlPg : rPg (rcs l_what l_place l_own l_one l_two l_three l_beside l_many) l_name l_first l_body lfz.toNatClampNeg lG lpz.toNatClampNeg) (hlWa : rWa l_widest l_told lfz lG) (hlq2 : sp_im (mr.toInt = 0) (sp_ds gT gP gV 31 (0, 0, gkw, gkf, []) (0, gfw, fun x => 0, gTr) = some ((li, lkz.toNatClampNeg, lkw, lkf, lCa), lfz.toNatClampNeg, lfw, lft, lG))) (c_15 : mr = 0) (ic_15 : mr.toInt = 0) (n9 : Nat) (wo : Int32) (k3 : Int32) (lo : Nat → Int32) (H : Heap) (locs : List Loc) (hm : (lpz.toInt - k3.toInt + 1).toNat ≤ n9 + 1) (hk30 : 0 ≤ k3.toInt) (hk31 : k3.toInt ≤ lpz.toInt) (hwo : wo.toInt = -1 ∨ 0 ≤ wo.toInt ∧ wo.toInt < k3.toInt) (hwS : rx_wo l_functionName l_told l_many l_name lfz l_what lo wo k3) (hO : zJo l_own lo l_what l_many l_told lfz wo k3) (hP : va_P (dC, dI) vwCl [(m_stop, Sum.inr (13, [Value.null, Value.null, Value.null, Value.null, Value.null, Value.int 0, Value.int stk, Value.int stp])), (m_spare, Sum.inr (12, [Value.ref pr_what, Value.ref pr_place, Value.ref pr_own, Value.ref pr_one, Value.ref pr_two, Value.ref pr_three, Value.ref pr_beside, Value.ref pr_many, Value.ref pr_uses, Value.ref pr_behind, Value.ref pr_name, Value.ref pr_makes, Value.int lpz, Value.ref pr_functionName, Value.ref pr_kindName, Value.ref pr_told, Value.ref pr_body, Value.ref pr_first, Value.ref pr_widest, Value.ref pr_fields, Value.int lfz, Value.int lkz])), (pr_what, Sum.inl (rk_what, 2100, Sum.inl l_what)), (pr_place, Sum.inl (rk_place, 2100, Sum.inl l_place)), (pr_own, Sum.inl (rk_own, 2100, Sum.inl lo)), (pr_one, Sum.inl (rk_one, 2100, Sum.inl l_one)), (pr_two, Sum.inl (rk_two, 2100, Sum.inl l_two)), (pr_three, Sum.inl (rk_three, 2100, Sum.inl l_three)), (pr_beside, Sum.inl (rk_beside, 2100, Sum.inl l_beside)), (pr_many, Sum.inl (rk_many, 2100, Sum.inl l_many)), (pr_uses, Sum.inl (rk_uses, 2100, Sum.inl rg_uses)), (pr_behind, Sum.inl (rk_behind, 2100, Sum.inl rg_behind)), (pr_name, Sum.inl (rk_name, 2100, Sum.inr (Sum.inl l_name))), (pr_makes, Sum.inl (rk_makes, 2100, Sum.inl rg_makes)), (pr_functionName, Sum.inl (rk_functionName, 30, Sum.inr (Sum.inl l_functionName))), (pr_kindName, Sum.inl (rk_kindName, 20, Sum.inr (Sum.inl l_kindName))), (pr_told, Sum.inl (rk_told, 30, Sum.inl l_told)), (pr_body, Sum.inl (rk_body, 30, Sum.inl l_body)), (pr_first, Sum.inl (rk_first, 30, Sum.inl l_first)), (pr_widest, Sum.inl (rk_widest, 30, Sum.inl l_widest)), (pr_fields, Sum.inl (rk_fields, 20, Sum.inl l_fields)), (m_scope, Sum.inl (sk_, 24, Sum.inr (Sum.inl lsc))), (h0, Sum.inr (14, let y := let y := let y := let y := [Value.ref m_side, Value.int m_outs, Value.int m_sides, Value.ref m_saying]; Value.ref m_asideKind :: Value.ref m_asideCount :: Value.ref m_asideField :: Value.ref m_out :: y; let y := Value.ref m_shellArm :: Value.ref m_shellCall :: Value.int m_shells :: Value.ref m_keptCounts :: y; Value.int m_open :: Value.ref m_slots :: Value.ref m_present :: Value.ref m_shell :: y; let y := let y := Value.ref m_taskPart :: Value.ref m_values :: Value.int m_tasks :: Value.int m_valued :: y; Value.int m_most :: Value.int m_doubled :: Value.int m_openMost :: Value.ref m_taskWhat :: y; let y := Value.int m_steps :: Value.int m_made :: Value.int m_reused :: Value.int m_freed :: y; Value.int m_hasValue :: Value.int m_hasOther :: Value.long m_value :: Value.long m_other :: y; let y := let y := let y := Value.ref m_otherKind :: Value.ref m_otherField :: Value.int m_isPlain :: Value.int m_hasRun :: y; Value.ref m_cellField :: Value.int m_freeCount :: Value.int m_given :: Value.int m_nextPlain :: y; let y := Value.ref m_cellKind :: Value.ref m_cellCount :: Value.ref m_free :: Value.ref m_pile :: y; Value.int ldp :: Value.int lcn :: Value.int m_fault :: Value.int m_where :: y; let y := let y := Value.ref m_spare :: Value.int m_isTaken :: Value.ref m_scope :: Value.int lsd :: y; Value.int lpl :: Value.int lsg :: Value.long lle :: Value.ref m_p :: y; Value.int m_thrown :: Value.ref m_stop :: Value.ref m_tape :: Value.int m_taped :: Value.int m_length :: Value.int lat :: Value.int lso :: y)), (m_tape, Sum.inl (mk_, 2000, Sum.inl gt))] H) (hD : va_D A [(m_stop, Sum.inr (13, [Value.null, Value.null, Value.null, Value.null, Value.null, Value.int 0, Value.int stk, Value.int stp])), (m_spare, Sum.inr (12, [Value.ref pr_what, Value.ref pr_place, Value.ref pr_own, Value.ref pr_one, Value.ref pr_two, Value.ref pr_three, Value.ref pr_beside, Value.ref pr_many, Value.ref pr_uses, Value.ref pr_behind, Value.ref pr_name, Value.ref pr_makes, Value.int lpz, Value.ref pr_functionName, Value.ref pr_kindName, Value.ref pr_told, Value.ref pr_body, Value.ref pr_first, Value.ref pr_widest, Value.ref pr_fields, Value.int lfz, Value.int lkz])), (pr_what, Sum.inl (rk_what, 2100, Sum.inl l_what)), (pr_place, Sum.inl (rk_place, 2100, Sum.inl l_place)), (pr_own, Sum.inl (rk_own, 2100, Sum.inl lo)), (pr_one, Sum.inl (rk_one, 2100, Sum.inl l_one)), (pr_two, Sum.inl (rk_two, 2100, Sum.inl l_two)), (pr_three, Sum.inl (rk_three, 2100, Sum.inl l_three)), (pr_beside, Sum.inl (rk_beside, 2100, Sum.inl l_beside)), (pr_many, Sum.inl (rk_many, 2100, Sum.inl l_many)), (pr_uses, Sum.inl (rk_uses, 2100, Sum.inl rg_uses)), (pr_behind, Sum.inl (rk_behind, 2100, Sum.inl rg_behind)), (pr_name, Sum.inl (rk_name, 2100, Sum.inr (Sum.inl l_name))), (pr_makes, Sum.inl (rk_makes, 2100, Sum.inl rg_makes)), (pr_functionName, Sum.inl (rk_functionName, 30, Sum.inr (Sum.inl l_functionName))), (pr_kindName, Sum.inl (rk_kindName, 20, Sum.inr (Sum.inl l_kindName))), (pr_told, Sum.inl (rk_told, 30, Sum.inl l_told)), (pr_body, Sum.inl (rk_body, 30, Sum.inl l_body)), (pr_first, Sum.inl (rk_first, 30, Sum.inl l_first)), (pr_widest, Sum.inl (rk_widest, 30, Sum.inl l_widest)), (pr_fields, Sum.inl (rk_fields, 20, Sum.inl l_fields)), (m_scope, Sum.inl (sk_, 24, Sum.inr (Sum.inl lsc))), (h0, Sum.inr (14, let y := let y := let y := let y := [Value.ref m_side, Value.int m_outs, Value.int m_sides, Value.ref m_saying]; Value.ref m_asideKind :: Value.ref m_asideCount :: Value.ref m_asideField :: Value.ref m_out :: y; let y := Value.ref m_shellArm :: Value.ref m_shellCall :: Value.int m_shells :: Value.ref m_keptCounts :: y; Value.int m_open :: Value.ref m_slots :: Value.ref m_present :: Value.ref m_shell :: y; let y := let y := Value.ref m_taskPart :: Value.ref m_values :: Value.int m_tasks :: Value.int m_valued :: y; Value.int m_most :: Value.int m_doubled :: Value.int m_openMost :: Value.ref m_taskWhat :: y; let y := Value.int m_steps :: Value.int m_made :: Value.int m_reused :: Value.int m_freed :: y; Value.int m_hasValue :: Value.int m_hasOther :: Value.long m_value :: Value.long m_other :: y; let y := let y := let y := Value.ref m_otherKind :: Value.ref m_otherField :: Value.int m_isPlain :: Value.int m_hasRun :: y; Value.ref m_cellField :: Value.int m_freeCount :: Value.int m_given :: Value.int m_nextPlain :: y; let y := Value.ref m_cellKind :: Value.ref m_cellCount :: Value.ref m_free :: Value.ref m_pile :: y; Value.int ldp :: Value.int lcn :: Value.int m_fault :: Value.int m_where :: y; let y := let y := Value.ref m_spare :: Value.int m_isTaken :: Value.ref m_scope :: Value.int lsd :: y; Value.int lpl :: Value.int lsg :: Value.long lle :: Value.ref m_p :: y; Value.int m_thrown :: Value.ref m_stop :: Value.ref m_tape :: Value.int m_taped :: Value.int m_length :: Value.int lat :: Value.int lso :: y)), (m_tape, Sum.inl (mk_, 2000, Sum.inl gt))]) (hS : va_S A s.heap H locs) (c_16 : lpz ≤ k3) (ic_16 : lpz.toInt ≤ k3.toInt) (c_17 : wo = -1) (ic_17 : wo.toInt = -1) (hP2 : zJP (zJS l_what lo l_one l_two l_three l_beside l_many l_fields lkz) lL lC lfz.toNatClampNeg lpz.toNatClampNeg l_first l_body l_told) (ls : Array Slot) (hl : lv_has ls 6 [(3, Value.int 0), (2, Value.int wo), (0, Value.ref h0)]) : ∀ (n9 : Nat) (f3 : Int32) (lu : Nat → Int32) (lb : Nat → Int32) (lmk : Nat → Int32) (gt9 : Nat) (H : Heap) (locs : List Loc) (ls : Array Slot), (lfz.toInt - f3.toInt + 1).toNat ≤ n9 → 0 ≤ f3.toInt → f3.toInt ≤ lfz.toInt → zKA (zJS l_what lo l_one l_two l_three l_beside l_many l_fields lkz) lu lb l_body gt9 (Int32.toNatClampNeg f3) → zMA (zJS l_what lo l_one l_two l_three l_beside l_many l_fields lkz) lmk gt9 → (Int32.toInt f3 < lfz.toInt → (l_first (Int32.toNatClampNeg f3)).toInt = (gt9 : Int)) → (Int32.toInt f3 = lfz.toInt → gt9 = Int32.toNatClampNeg lpz) → va_P (dC, dI) vwCl [(m_stop, .inr (13, [.null, .null, .null, .null, .null, .int 0, .int stk, .int stp])), (m_spare, .inr (12, [.ref pr_what, .ref pr_place, .ref pr_own, .ref pr_one, .ref pr_two, .ref pr_three, .ref pr_beside, .ref pr_many, .ref pr_uses, .ref pr_behind, .ref pr_name, .ref pr_makes, .int lpz, .ref pr_functionName, .ref pr_kindName, .ref pr_told, .ref pr_body, .ref pr_first, .ref pr_widest, .ref pr_fields, .int lfz, .int lkz])), (pr_what, .inl (rk_what, 2100, .inl l_what)), (pr_place, .inl (rk_place, 2100, .inl l_place)), (pr_own, .inl (rk_own, 2100, .inl lo)), (pr_one, .inl (rk_one, 2100, .inl l_one)), (pr_two, .inl (rk_two, 2100, .inl l_two)), (pr_three, .inl (rk_three, 2100, .inl l_three)), (pr_beside, .inl (rk_beside, 2100, .inl l_beside)), (pr_many, .inl (rk_many, 2100, .inl l_many)), (pr_uses, .inl (rk_uses, 2100, .inl lu)), (pr_behind, .inl (rk_behind, 2100, .inl lb)), (pr_name, .inl (rk_name, 2100, .inr (.inl l_name))), (pr_makes, .inl (rk_makes, 2100, .inl lmk)), (pr_functionName, .inl (rk_functionName, 30, .inr (.inl l_functionName))), (pr_kindName, .inl (rk_kindName, 20, .inr (.inl l_kindName))), (pr_told, .inl (rk_told, 30, .inl l_told)), (pr_body, .inl (rk_body, 30, .inl l_body)), (pr_first, .inl (rk_first, 30, .inl l_first)), (pr_widest, .inl (rk_widest, 30, .inl l_widest)), (pr_fields, .inl (rk_fields, 20, .inl l_fields)), (m_scope, .inl (sk_, 24, .inr (.inl lsc))), (h0, .inr (14, [.int m_thrown, .ref m_stop, .ref m_tape, .int m_taped, .int m_length, .int lat, .int lso, .int lpl, .int lsg, .long lle, .ref m_p, .ref m_spare, .int m_isTaken, .ref m_scope, .int lsd, .int ldp, .int lcn, .int m_fault, .int m_where, .ref m_cellKind, .ref m_cellCount, .ref m_free, .ref m_pile, .ref m_cellField, .int m_freeCount, .int m_given, .int m_nextPlain, .ref m_otherKind, .ref m_otherField, .int m_isPlain, .int m_hasRun, .int m_hasValue, .int m_hasOther, .long m_value, .long m_other, .int m_steps, .int m_made, .int m_reused, .int m_freed, .int m_most, .int m_doubled, .int m_openMost, .ref m_taskWhat, .ref m_taskPart, .ref m_values, .int m_tasks, .int m_valued, .int m_open, .ref m_slots, .ref m_present, .ref m_shell, .ref m_shellArm, .ref m_shellCall, .int m_shells, .ref m_keptCounts, .ref m_asideKind, .ref m_asideCount, .ref m_asideField, .ref m_out, .ref m_side, .int m_outs, .int m_sides, .ref m_saying])), (m_tape, .inl (mk_, 2000, .inl gt))] H → va_D A [(m_stop, .inr (13, [.null, .null, .null, .null, .null, .int 0, .int stk, .int stp])), (m_spare, .inr (12, [.ref pr_what, .ref pr_place, .ref pr_own, .ref pr_one, .ref pr_two, .ref pr_three, .ref pr_beside, .ref pr_many, .ref pr_uses, .ref pr_behind, .ref pr_name, .ref pr_makes, .int lpz, .ref pr_functionName, .ref pr_kindName, .ref pr_told, .ref pr_body, .ref pr_first, .ref pr_widest, .ref pr_fields, .int lfz, .int lkz])), (pr_what, .inl (rk_what, 2100, .inl l_what)), (pr_place, .inl (rk_place, 2100, .inl l_place)), (pr_own, .inl (rk_own, 2100, .inl lo)), (pr_one, .inl (rk_one, 2100, .inl l_one)), (pr_two, .inl (rk_two, 2100, .inl l_two)), (pr_three, .inl (rk_three, 2100, .inl l_three)), (pr_beside, .inl (rk_beside, 2100, .inl l_beside)), (pr_many, .inl (rk_many, 2100, .inl l_many)), (pr_uses, .inl (rk_uses, 2100, .inl lu)), (pr_behind, .inl (rk_behind, 2100, .inl lb)), (pr_name, .inl (rk_name, 2100, .inr (.inl l_name))), (pr_makes, .inl (rk_makes, 2100, .inl lmk)), (pr_functionName, .inl (rk_functionName, 30, .inr (.inl l_functionName))), (pr_kindName, .inl (rk_kindName, 20, .inr (.inl l_kindName))), (pr_told, .inl (rk_told, 30, .inl l_told)), (pr_body, .inl (rk_body, 30, .inl l_body)), (pr_first, .inl (rk_first, 30, .inl l_first)), (pr_widest, .inl (rk_widest, 30, .inl l_widest)), (pr_fields, .inl (rk_fields, 20, .inl l_fields)), (m_scope, .inl (sk_, 24, .inr (.inl lsc))), (h0, .inr (14, [.int m_thrown, .ref m_stop, .ref m_tape, .int m_taped, .int m_length, .int lat, .int lso, .int lpl, .int lsg, .long lle, .ref m_p, .ref m_spare, .int m_isTaken, .ref m_scope, .int lsd, .int ldp, .int lcn, .int m_fault, .int m_where, .ref m_cellKind, .ref m_cellCount, .ref m_free, .ref m_pile, .ref m_cellField, .int m_freeCount, .int m_given, .int m_nextPlain, .ref m_otherKind, .ref m_otherField, .int m_isPlain, .int m_hasRun, .int m_hasValue, .int m_hasOther, .long m_value, .long m_other, .int m_steps, .int m_made, .int m_reused, .int m_freed, .int m_most, .int m_doubled, .int m_openMost, .ref m_taskWhat, .ref m_taskPart, .ref m_values, .int m_tasks, .int m_valued, .int m_open, .ref m_slots, .ref m_present, .ref m_shell, .ref m_shellArm, .ref m_shellCall, .int m_shells, .ref m_keptCounts, .ref m_asideKind, .ref m_asideCount, .ref m_asideField, .ref m_out, .ref m_side, .int m_outs, .int m_sides, .ref m_saying])), (m_tape, .inl (mk_, 2000, .inl gt))] → va_S A s.heap H locs → lv_has ls 6 [(3, .int f3), (0, .ref h0)] → W p l e (headSpec (Cond.code yX14_reads cX14_reads 6 none :: zw) ({ frames := 1368, cells := 0, slots := 0, locals := 68200 })).room s m #[.ref h0] below meth c H locs 0 0 (vz_MQ m_stop below (va_Qv (fun u : Int32 × Int32 × Int32 × Int32 × Int64 × Int32 × Int32 × Int32 × Int32 × Int32 × Int32 × (Nat → Int32) × (Nat → Int32) × (Nat → Int32) × (Nat → Int32) × (Nat → Int32) × (Nat → Int32) × (Nat → Int32) × (Nat → Int32) × (Nat → Int32) × (Nat → Int32) × (Nat → Int64) × (Nat → Int32) × (Nat → Int64) × (Nat → Int64) × (Nat → Int32) × (Nat → Int32) × (Nat → Int32) × (Nat → Int32) × (Nat → Int32) × (Nat → Int64) => match u with | (at2, so2, pl2, sg2, le2, sd2, dp2, cn2, pz2, kz2, fz2, n_what, n_place, n_own, n_one, n_two, n_three, n_beside, n_many, n_uses, n_behind, n_name, n_makes, n_functionName, n_kindName, n_told, n_body, n_first, n_widest, n_fields, n_sc) => (0 ≤ fz2.toInt) ∧ (zkn kz2 n_kindName) ∧ (zRd n_what n_own n_one n_two n_three n_beside n_many n_fields kz2 n_uses n_behind n_first n_body n_told fz2 pz2) ∧ (rx_pp (sp_pg gT gP gV (0, 0, gkw, gkf, []) (0, gfw, (fun _ => 0), gTr)) n_kindName n_fields kz2 n_functionName n_told fz2 (rcs n_what n_place n_own n_one n_two n_three n_beside n_many) n_name n_first n_body pz2 n_widest n_makes)) (fun u => match u with | (at2, so2, pl2, sg2, le2, sd2, dp2, cn2, pz2, kz2, fz2, n_what, n_place, n_own, n_one, n_two, n_three, n_beside, n_many, n_uses, n_behind, n_name, n_makes, n_functionName, n_kindName, n_told, n_body, n_first, n_widest, n_fields, n_sc) => zQ dC dI A [(mk_, .byte), (rk_what, .byte), (rk_place, .int), (rk_own, .int), (rk_one, .int), (rk_two, .int), (rk_three, .int), (rk_beside, .int), (rk_many, .int), (rk_uses, .int), (rk_behind, .int), (rk_name, .long), (rk_makes, .byte), (rk_functionName, .long), (rk_kindName, .long), (rk_told, .int), (rk_body, .int), (rk_first, .int), (rk_widest, .int), (rk_fields, .int), (sk_, .long)] [(h0, .inr (14, [.int m_thrown, .ref m_stop, .ref m_tape, .int m_taped, .int m_length, .int at2, .int so2, .int pl2, .int sg2, .long le2, .ref m_p, .ref m_spare, .int m_isTaken, .ref m_scope, .int sd2, .int dp2, .int cn2, .int m_fault, .int m_where, .ref m_cellKind, .ref m_cellCount, .ref m_free, .ref m_pile, .ref m_cellField, .int m_freeCount, .int m_given, .int m_nextPlain, .ref m_otherKind, .ref m_otherField, .int m_isPlain, .int m_hasRun, .int m_hasValue, .int m_hasOther, .long m_value, .long m_other, .int m_steps, .int m_made, .int m_reused, .int m_freed, .int m_most, .int m_doubled, .int m_openMost, .ref m_taskWhat, .ref m_taskPart, .ref m_values, .int m_tasks, .int m_valued, .int m_open, .ref m_slots, .ref m_present, .ref m_shell, .ref m_shellArm, .ref m_shellCall, .int m_shells, .ref m_keptCounts, .ref m_asideKind, .ref m_asideCount, .ref m_asideField, .ref m_out, .ref m_side, .int m_outs, .int m_sides, .ref m_saying])), (m_stop, .inr (13, [.null, .null, .null, .null, .null, .int 0, .int stk, .int stp])), (m_tape, .inl (mk_, 2000, .inl gt)), (m_spare, .inr (12, [.ref pr_what, .ref pr_place, .ref pr_own, .ref pr_one, .ref pr_two, .ref pr_three, .ref pr_beside, .ref pr_many, .ref pr_uses, .ref pr_behind, .ref pr_name, .ref pr_makes, .int pz2, .ref pr_functionName, .ref pr_kindName, .ref pr_told, .ref pr_body, .ref pr_first, .ref pr_widest, .ref pr_fields, .int fz2, .int kz2])), (pr_what, .inl (rk_what, 2100, .inl n_what)), (pr_place, .inl (rk_place, 2100, .inl n_place)), (pr_own, .inl (rk_own, 2100, .inl n_own)), (pr_one, .inl (rk_one, 2100, .inl n_one)), (pr_two, .inl (rk_two, 2100, .inl n_two)), (pr_three, .inl (rk_three, 2100, .inl n_three)), (pr_beside, .inl (rk_beside, 2100, .inl n_beside)), (pr_many, .inl (rk_many, 2100, .inl n_many)), (pr_uses, .inl (rk_uses, 2100, .inl n_uses)), (pr_behind, .inl (rk_behind, 2100, .inl n_behind)), (pr_name, .inl (rk_name, 2100, .inr (.inl n_name))), (pr_makes, .inl (rk_makes, 2100, .inl n_makes)), (pr_functionName, .inl (rk_functionName, 30, .inr (.inl n_functionName))), (pr_kindName, .inl (rk_kindName, 20, .inr (.inl n_kindName))), (pr_told, .inl (rk_told, 30, .inl n_told)), (pr_body, .inl (rk_body, 30, .inl n_body)), (pr_first, .inl (rk_first, 30, .inl n_first)), (pr_widest, .inl (rk_widest, 30, .inl n_widest)), (pr_fields, .inl (rk_fields, 20, .inl n_fields)), (m_scope, .inl (sk_, 24, .inr (.inl n_sc)))]) A) (vx_X (fun u : Int32 × Int32 × Int32 × Int32 × Int64 × Int32 × Int32 × Int32 × Int32 × Int32 × Int32 × (Nat → Int32) × (Nat → Int32) × (Nat → Int32) × (Nat → Int32) × (Nat → Int32) × (Nat → Int32) × (Nat → Int32) × (Nat → Int32) × (Nat → Int32) × (Nat → Int32) × (Nat → Int64) × (Nat → Int32) × (Nat → Int64) × (Nat → Int64) × (Nat → Int32) × (Nat → Int32) × (Nat → Int32) × (Nat → Int32) × (Nat → Int32) × (Nat → Int64) × Int32 × Int32 => match u with | (at2, so2, pl2, sg2, le2, sd2, dp2, cn2, pz2, kz2, fz2, n_what, n_place, n_own, n_one, n_two, n_three, n_beside, n_many, n_uses, n_behind, n_name, n_makes, n_functionName, n_kindName, n_told, n_body, n_first, n_widest, n_fields, n_sc, sk2, sp2) => (pf_pg gT gP gV (0, 0, gkw, gkf, []) (0, gfw, (fun _ => 0), gTr) (Int32.toInt sp2)) ∧ (sp_pg gT gP gV (0, 0, gkw, gkf, []) (0, gfw, (fun _ => 0), gTr) = none)) (fun E u t => E = "ReuseHouseModel$Stop" ∧ (match u with | (at2, so2, pl2, sg2, le2, sd2, dp2, cn2, pz2, kz2, fz2, n_what, n_place, n_own, n_one, n_two, n_three, n_beside, n_many, n_uses, n_behind, n_name, n_makes, n_functionName, n_kindName, n_told, n_body, n_first, n_widest, n_fields, n_sc, sk2, sp2) => zQ dC dI A [(mk_, .byte), (rk_what, .byte), (rk_place, .int), (rk_own, .int), (rk_one, .int), (rk_two, .int), (rk_three, .int), (rk_beside, .int), (rk_many, .int), (rk_uses, .int), (rk_behind, .int), (rk_name, .long), (rk_makes, .byte), (rk_functionName, .long), (rk_kindName, .long), (rk_told, .int), (rk_body, .int), (rk_first, .int), (rk_widest, .int), (rk_fields, .int), (sk_, .long)] [(h0, .inr (14, [.int m_thrown, .ref m_stop, .ref m_tape, .int m_taped, .int m_length, .int at2, .int so2, .int pl2, .int sg2, .long le2, .ref m_p, .ref m_spare, .int m_isTaken, .ref m_scope, .int sd2, .int dp2, .int cn2, .int m_fault, .int m_where, .ref m_cellKind, .ref m_cellCount, .ref m_free, .ref m_pile, .ref m_cellField, .int m_freeCount, .int m_given, .int m_nextPlain, .ref m_otherKind, .ref m_otherField, .int m_isPlain, .int m_hasRun, .int m_hasValue, .int m_hasOther, .long m_value, .long m_other, .int m_steps, .int m_made, .int m_reused, .int m_freed, .int m_most, .int m_doubled, .int m_openMost, .ref m_taskWhat, .ref m_taskPart, .ref m_values, .int m_tasks, .int m_valued, .int m_open, .ref m_slots, .ref m_present, .ref m_shell, .ref m_shellArm, .ref m_shellCall, .int m_shells, .ref m_keptCounts, .ref m_asideKind, .ref m_asideCount, .ref m_asideField, .ref m_out, .ref m_side, .int m_outs, .int m_sides, .ref m_saying])), (m_stop, .inr (13, [.null, .null, .null, .null, .null, .int 0, .int sk2, .int sp2])), (m_tape, .inl (mk_, 2000, .inl gt)), (m_spare, .inr (12, [.ref pr_what, .ref pr_place, .ref pr_own, .ref pr_one, .ref pr_two, .ref pr_three, .ref pr_beside, .ref pr_many, .ref pr_uses, .ref pr_behind, .ref pr_name, .ref pr_makes, .int pz2, .ref pr_functionName, .ref pr_kindName, .ref pr_told, .ref pr_body, .ref pr_first, .ref pr_widest, .ref pr_fields, .int fz2, .int kz2])), (pr_what, .inl (rk_what, 2100, .inl n_what)), (pr_place, .inl (rk_place, 2100, .inl n_place)), (pr_own, .inl (rk_own, 2100, .inl n_own)), (pr_one, .inl (rk_one, 2100, .inl n_one)), (pr_two, .inl (rk_two, 2100, .inl n_two)), (pr_three, .inl (rk_three, 2100, .inl n_three)), (pr_beside, .inl (rk_beside, 2100, .inl n_beside)), (pr_many, .inl (rk_many, 2100, .inl n_many)), (pr_uses, .inl (rk_uses, 2100, .inl n_uses)), (pr_behind, .inl (rk_behind, 2100, .inl n_behind)), (pr_name, .inl (rk_name, 2100, .inr (.inl n_name))), (pr_makes, .inl (rk_makes, 2100, .inl n_makes)), (pr_functionName, .inl (rk_functionName, 30, .inr (.inl n_functionName))), (pr_kindName, .inl (rk_kindName, 20, .inr (.inl n_kindName))), (pr_told, .inl (rk_told, 30, .inl n_told)), (pr_body, .inl (rk_body, 30, .inl n_body)), (pr_first, .inl (rk_first, 30, .inl n_first)), (pr_widest, .inl (rk_widest, 30, .inl n_widest)), (pr_fields, .inl (rk_fields, 20, .inl n_fields)), (m_scope, .inl (sk_, 24, .inr (.inl n_sc)))] t)) A) #[.ref h0] s 0 0 0 0 A) (F0 m 481 ls []) := by
  intro n9
  induction n9 with
  | zero => intro f3 lu lb lmk gt9 H locs ls hm hf30 hf31 hKa hMa hgt hgt2; exfalso; omega
  | succ n9 ih_481 =>
    intro f3 lu lb lmk gt9 H locs ls hm hf30 hf31 hKa hMa hgt hgt2 hP hD hS hl
    refine lv_iload_n hx hb dX14_reads_481 rfl (lv_at hl 0 rfl) ?_
    refine lv_aload_n hx hb dX14_reads_482 rfl (lv_at hl 1 rfl) ?_
    refine va_get (D := (dC, dI)) (ci := 14) (v := .ref m_spare) (C := RX14) (T := TX14) (N := 63) hx hb hA zin_X14 hown hK hP 22 rfl rfl 11 (by decide) (hA _ wi_1508) (fun _ h9 => h9) rfl dX14_reads_483 ?_
    refine va_getN (D := (dC, dI)) (ci := 12) (v := .int lfz) (C := RX12) (T := TX12) (N := 22) hx hb hA zin_X12 hown hK hP 1 rfl rfl 20 (by decide) (va_Nw.use rfl (hN.1 ("ReuseHouseModel", 230, "ReuseHouseModel$Program", "functions", "I", "ReuseHouseModel") (by decide +kernel))) (fun _ h9 => h9) rfl dX14_reads_486 ?_
    refine lv_icmp_ge (tgt := 503) hx hb dX14_reads_489 (by decide) (fun c_18 => ?_) (fun c_18 => ?_)
    · have ic_18 : lfz.toInt ≤ f3.toInt := zi_le c_18
      have hP9 := hP.sub (ws' := [(h0, .inr (14, [.int m_thrown, .ref m_stop, .ref m_tape, .int m_taped, .int m_length, .int lat, .int lso, .int lpl, .int lsg, .long lle, .ref m_p, .ref m_spare, .int m_isTaken, .ref m_scope, .int lsd, .int ldp, .int lcn, .int m_fault, .int m_where, .ref m_cellKind, .ref m_cellCount, .ref m_free, .ref m_pile, .ref m_cellField, .int m_freeCount, .int m_given, .int m_nextPlain, .ref m_otherKind, .ref m_otherField, .int m_isPlain, .int m_hasRun, .int m_hasValue, .int m_hasOther, .long m_value, .long m_other, .int m_steps, .int m_made, .int m_reused, .int m_freed, .int m_most, .int m_doubled, .int m_openMost, .ref m_taskWhat, .ref m_taskPart, .ref m_values, .int m_tasks, .int m_valued, .int m_open, .ref m_slots, .ref m_present, .ref m_shell, .ref m_shellArm, .ref m_shellCall, .int m_shells, .ref m_keptCounts, .ref m_asideKind, .ref m_asideCount, .ref m_asideField, .ref m_out, .ref m_side, .int m_outs, .int m_sides, .ref m_saying])), (m_stop, .inr (13, [.null, .null, .null, .null, .null, .int 0, .int stk, .int stp])), (m_tape, .inl (mk_, 2000, .inl gt)), (m_spare, .inr (12, [.ref pr_what, .ref pr_place, .ref pr_own, .ref pr_one, .ref pr_two, .ref pr_three, .ref pr_beside, .ref pr_many, .ref pr_uses, .ref pr_behind, .ref pr_name, .ref pr_makes, .int lpz, .ref pr_functionName, .ref pr_kindName, .ref pr_told, .ref pr_body, .ref pr_first, .ref pr_widest, .ref pr_fields, .int lfz, .int lkz])), (pr_what, .inl (rk_what, 2100, .inl l_what)), (pr_place, .inl (rk_place, 2100, .inl l_place)), (pr_own, .inl (rk_own, 2100, .inl lo)), (pr_one, .inl (rk_one, 2100, .inl l_one)), (pr_two, .inl (rk_two, 2100, .inl l_two)), (pr_three, .inl (rk_three, 2100, .inl l_three)), (pr_beside, .inl (rk_beside, 2100, .inl l_beside)), (pr_many, .inl (rk_many, 2100, .inl l_many)), (pr_uses, .inl (rk_uses, 2100, .inl lu)), (pr_behind, .inl (rk_behind, 2100, .inl lb)), (pr_name, .inl (rk_name, 2100, .inr (.inl l_name))), (pr_makes, .inl (rk_makes, 2100, .inl lmk)), (pr_functionName, .inl (rk_functionName, 30, .inr (.inl l_functionName))), (pr_kindName, .inl (rk_kindName, 20, .inr (.inl l_kindName))), (pr_told, .inl (rk_told, 30, .inl l_told)), (pr_body, .inl (rk_body, 30, .inl l_body)), (pr_first, .inl (rk_first, 30, .inl l_first)), (pr_widest, .inl (rk_widest, 30, .inl l_widest)), (pr_fields, .inl (rk_fields, 20, .inl l_fields)), (m_scope, .inl (sk_, 24, .inr (.inl lsc)))]) [22, 0, 23, 1, 2, 3, 4, 5, 6, 7, 8, 9, 10, 11, 12, 13, 14, 15, 16, 17, 18, 19, 20, 21] rfl
      have hD9 := hD.sub (ws' := [(h0, .inr (14, [.int m_thrown, .ref m_stop, .ref m_tape, .int m_taped, .int m_length, .int lat, .int lso, .int lpl, .int lsg, .long lle, .ref m_p, .ref m_spare, .int m_isTaken, .ref m_scope, .int lsd, .int ldp, .int lcn, .int m_fault, .int m_where, .ref m_cellKind, .ref m_cellCount, .ref m_free, .ref m_pile, .ref m_cellField, .int m_freeCount, .int m_given, .int m_nextPlain, .ref m_otherKind, .ref m_otherField, .int m_isPlain, .int m_hasRun, .int m_hasValue, .int m_hasOther, .long m_value, .long m_other, .int m_steps, .int m_made, .int m_reused, .int m_freed, .int m_most, .int m_doubled, .int m_openMost, .ref m_taskWhat, .ref m_taskPart, .ref m_values, .int m_tasks, .int m_valued, .int m_open, .ref m_slots, .ref m_present, .ref m_shell, .ref m_shellArm, .ref m_shellCall, .int m_shells, .ref m_keptCounts, .ref m_asideKind, .ref m_asideCount, .ref m_asideField, .ref m_out, .ref m_side, .int m_outs, .int m_sides, .ref m_saying])), (m_stop, .inr (13, [.null, .null, .null, .null, .null, .int 0, .int stk, .int stp])), (m_tape, .inl (mk_, 2000, .inl gt)), (m_spare, .inr (12, [.ref pr_what, .ref pr_place, .ref pr_own, .ref pr_one, .ref pr_two, .ref pr_three, .ref pr_beside, .ref pr_many, .ref pr_uses, .ref pr_behind, .ref pr_name, .ref pr_makes, .int lpz, .ref pr_functionName, .ref pr_kindName, .ref pr_told, .ref pr_body, .ref pr_first, .ref pr_widest, .ref pr_fields, .int lfz, .int lkz])), (pr_what, .inl (rk_what, 2100, .inl l_what)), (pr_place, .inl (rk_place, 2100, .inl l_place)), (pr_own, .inl (rk_own, 2100, .inl lo)), (pr_one, .inl (rk_one, 2100, .inl l_one)), (pr_two, .inl (rk_two, 2100, .inl l_two)), (pr_three, .inl (rk_three, 2100, .inl l_three)), (pr_beside, .inl (rk_beside, 2100, .inl l_beside)), (pr_many, .inl (rk_many, 2100, .inl l_many)), (pr_uses, .inl (rk_uses, 2100, .inl lu)), (pr_behind, .inl (rk_behind, 2100, .inl lb)), (pr_name, .inl (rk_name, 2100, .inr (.inl l_name))), (pr_makes, .inl (rk_makes, 2100, .inl lmk)), (pr_functionName, .inl (rk_functionName, 30, .inr (.inl l_functionName))), (pr_kindName, .inl (rk_kindName, 20, .inr (.inl l_kindName))), (pr_told, .inl (rk_told, 30, .inl l_told)), (pr_body, .inl (rk_body, 30, .inl l_body)), (pr_first, .inl (rk_first, 30, .inl l_first)), (pr_widest, .inl (rk_widest, 30, .inl l_widest)), (pr_fields, .inl (rk_fields, 20, .inl l_fields)), (m_scope, .inl (sk_, 24, .inr (.inl lsc)))]) [22, 0, 23, 1, 2, 3, 4, 5, 6, 7, 8, 9, 10, 11, 12, 13, 14, 15, 16, 17, 18, 19, 20, 21] (by decide) rfl
      have hK9 := hK.sub (tys' := [(mk_, .byte), (rk_what, .byte), (rk_place, .int), (rk_own, .int), (rk_one, .int), (rk_two, .int), (rk_three, .int), (rk_beside, .int), (rk_many, .int), (rk_uses, .int), (rk_behind, .int), (rk_name, .long), (rk_makes, .byte), (rk_functionName, .long), (rk_kindName, .long), (rk_told, .int), (rk_body, .int), (rk_first, .int), (rk_widest, .int), (rk_fields, .int), (sk_, .long)]) [20, 0, 1, 2, 3, 4, 5, 6, 7, 8, 9, 10, 11, 12, 13, 14, 15, 16, 17, 18, 19] rfl
      exact vy_mono vz_ret (vx_ret (W.vret hx hb hr (fun t ht hW => ⟨⟨(lat, lso, lpl, lsg, lle, lsd, ldp, lcn, lpz, lkz, lfz, l_what, l_place, lo, l_one, l_two, l_three, l_beside, l_many, lu, lb, l_name, lmk, l_functionName, l_kindName, l_told, l_body, l_first, l_widest, l_fields, lsc), rfl, ⟨by omega, hlkn, ⟨⟨lL, lC, hP2, zKA_t hKa (hgt2 (by omega)) (by have := zn_nat (x := f3) (by omega); have := zn_nat (x := lfz) (by omega); omega)⟩, fun j hj hc => hO.2 (by omega) j (by omega) hc, by omega, by omega, by omega, by omega, by omega, by omega⟩, ⟨_, _, _, _, _, _, rx_pg_y (hlq2 (by omega)) (by omega) hwS (by omega) (by omega) hlcr hlfr, rfl, rfl, rfl, hlkr, hlfr, rPg_ow hlPg hO.1, hlWa, rMa_mk hMa (hgt2 (by omega)), rx_wo_ca hwS (by omega) (by omega) (by omega)⟩⟩, by rw [ht]; exact hP9, va_K.moved hW.alike hK9, hD9⟩, hS.F ht⟩) hS.2.2 dX14_reads_503))
    · have ic_18 : f3.toInt < lfz.toInt := zi_nle c_18
      have hnf3 := zn_nat (x := f3) (by omega)
      have hnlf := zn_nat (x := lfz) (by omega)
      have hnpz := zn_nat (x := lpz) (by omega)
      obtain ⟨ga9, ge9, hw9, hfi9, hbo9, hn91, hn92, hez9, -⟩ := zJP_get hP2 (f := Int32.toNatClampNeg f3) (by omega)
      have hga9 : gt9 = ga9 := by have h9 := hgt (by omega); omega
      refine lv_aload_n hx hb dX14_reads_492 rfl (lv_at hl 1 rfl) ?_
      refine lv_iload_n hx hb dX14_reads_493 rfl (lv_at hl 0 rfl) ?_
      have hPc := hP.sub (ws' := [(h0, .inr (14, [.int m_thrown, .ref m_stop, .ref m_tape, .int m_taped, .int m_length, .int lat, .int lso, .int lpl, .int lsg, .long lle, .ref m_p, .ref m_spare, .int m_isTaken, .ref m_scope, .int lsd, .int ldp, .int lcn, .int m_fault, .int m_where, .ref m_cellKind, .ref m_cellCount, .ref m_free, .ref m_pile, .ref m_cellField, .int m_freeCount, .int m_given, .int m_nextPlain, .ref m_otherKind, .ref m_otherField, .int m_isPlain, .int m_hasRun, .int m_hasValue, .int m_hasOther, .long m_value, .long m_other, .int m_steps, .int m_made, .int m_reused, .int m_freed, .int m_most, .int m_doubled, .int m_openMost, .ref m_taskWhat, .ref m_taskPart, .ref m_values, .int m_tasks, .int m_valued, .int m_open, .ref m_slots, .ref m_present, .ref m_shell, .ref m_shellArm, .ref m_shellCall, .int m_shells, .ref m_keptCounts, .ref m_asideKind, .ref m_asideCount, .ref m_asideField, .ref m_out, .ref m_side, .int m_outs, .int m_sides, .ref m_saying])), (m_spare, .inr (12, [.ref pr_what, .ref pr_place, .ref pr_own, .ref pr_one, .ref pr_two, .ref pr_three, .ref pr_beside, .ref pr_many, .ref pr_uses, .ref pr_behind, .ref pr_name, .ref pr_makes, .int lpz, .ref pr_functionName, .ref pr_kindName, .ref pr_told, .ref pr_body, .ref pr_first, .ref pr_widest, .ref pr_fields, .int lfz, .int lkz])), (pr_what, .inl (rk_what, 2100, .inl l_what)), (pr_own, .inl (rk_own, 2100, .inl lo)), (pr_one, .inl (rk_one, 2100, .inl l_one)), (pr_two, .inl (rk_two, 2100, .inl l_two)), (pr_three, .inl (rk_three, 2100, .inl l_three)), (pr_beside, .inl (rk_beside, 2100, .inl l_beside)), (pr_many, .inl (rk_many, 2100, .inl l_many)), (pr_uses, .inl (rk_uses, 2100, .inl lu)), (pr_behind, .inl (rk_behind, 2100, .inl lb)), (pr_makes, .inl (rk_makes, 2100, .inl lmk)), (pr_first, .inl (rk_first, 30, .inl l_first)), (pr_body, .inl (rk_body, 30, .inl l_body))]) [22, 1, 2, 4, 5, 6, 7, 8, 9, 10, 11, 13, 18, 17] rfl
      have hDc := hD.sub (ws' := [(h0, .inr (14, [.int m_thrown, .ref m_stop, .ref m_tape, .int m_taped, .int m_length, .int lat, .int lso, .int lpl, .int lsg, .long lle, .ref m_p, .ref m_spare, .int m_isTaken, .ref m_scope, .int lsd, .int ldp, .int lcn, .int m_fault, .int m_where, .ref m_cellKind, .ref m_cellCount, .ref m_free, .ref m_pile, .ref m_cellField, .int m_freeCount, .int m_given, .int m_nextPlain, .ref m_otherKind, .ref m_otherField, .int m_isPlain, .int m_hasRun, .int m_hasValue, .int m_hasOther, .long m_value, .long m_other, .int m_steps, .int m_made, .int m_reused, .int m_freed, .int m_most, .int m_doubled, .int m_openMost, .ref m_taskWhat, .ref m_taskPart, .ref m_values, .int m_tasks, .int m_valued, .int m_open, .ref m_slots, .ref m_present, .ref m_shell, .ref m_shellArm, .ref m_shellCall, .int m_shells, .ref m_keptCounts, .ref m_asideKind, .ref m_asideCount, .ref m_asideField, .ref m_out, .ref m_side, .int m_outs, .int m_sides, .ref m_saying])), (m_spare, .inr (12, [.ref pr_what, .ref pr_place, .ref pr_own, .ref pr_one, .ref pr_two, .ref pr_three, .ref pr_beside, .ref pr_many, .ref pr_uses, .ref pr_behind, .ref pr_name, .ref pr_makes, .int lpz, .ref pr_functionName, .ref pr_kindName, .ref pr_told, .ref pr_body, .ref pr_first, .ref pr_widest, .ref pr_fields, .int lfz, .int lkz])), (pr_what, .inl (rk_what, 2100, .inl l_what)), (pr_own, .inl (rk_own, 2100, .inl lo)), (pr_one, .inl (rk_one, 2100, .inl l_one)), (pr_two, .inl (rk_two, 2100, .inl l_two)), (pr_three, .inl (rk_three, 2100, .inl l_three)), (pr_beside, .inl (rk_beside, 2100, .inl l_beside)), (pr_many, .inl (rk_many, 2100, .inl l_many)), (pr_uses, .inl (rk_uses, 2100, .inl lu)), (pr_behind, .inl (rk_behind, 2100, .inl lb)), (pr_makes, .inl (rk_makes, 2100, .inl lmk)), (pr_first, .inl (rk_first, 30, .inl l_first)), (pr_body, .inl (rk_body, 30, .inl l_body))]) [22, 1, 2, 4, 5, 6, 7, 8, 9, 10, 11, 13, 18, 17] (by decide) rfl
      have hKc := hK.sub (tys' := [(rk_what, .byte), (rk_own, .int), (rk_one, .int), (rk_two, .int), (rk_three, .int), (rk_beside, .int), (rk_many, .int), (rk_uses, .int), (rk_behind, .int), (rk_makes, .byte), (rk_first, .int), (rk_body, .int)]) [0, 2, 3, 4, 5, 6, 7, 8, 9, 11, 16, 15] rfl
      have hFc := va_free (wc := [(h0, .inr (14, [.int m_thrown, .ref m_stop, .ref m_tape, .int m_taped, .int m_length, .int lat, .int lso, .int lpl, .int lsg, .long lle, .ref m_p, .ref m_spare, .int m_isTaken, .ref m_scope, .int lsd, .int ldp, .int lcn, .int m_fault, .int m_where, .ref m_cellKind, .ref m_cellCount, .ref m_free, .ref m_pile, .ref m_cellField, .int m_freeCount, .int m_given, .int m_nextPlain, .ref m_otherKind, .ref m_otherField, .int m_isPlain, .int m_hasRun, .int m_hasValue, .int m_hasOther, .long m_value, .long m_other, .int m_steps, .int m_made, .int m_reused, .int m_freed, .int m_most, .int m_doubled, .int m_openMost, .ref m_taskWhat, .ref m_taskPart, .ref m_values, .int m_tasks, .int m_valued, .int m_open, .ref m_slots, .ref m_present, .ref m_shell, .ref m_shellArm, .ref m_shellCall, .int m_shells, .ref m_keptCounts, .ref m_asideKind, .ref m_asideCount, .ref m_asideField, .ref m_out, .ref m_side, .int m_outs, .int m_sides, .ref m_saying])), (m_spare, .inr (12, [.ref pr_what, .ref pr_place, .ref pr_own, .ref pr_one, .ref pr_two, .ref pr_three, .ref pr_beside, .ref pr_many, .ref pr_uses, .ref pr_behind, .ref pr_name, .ref pr_makes, .int lpz, .ref pr_functionName, .ref pr_kindName, .ref pr_told, .ref pr_body, .ref pr_first, .ref pr_widest, .ref pr_fields, .int lfz, .int lkz])), (pr_what, .inl (rk_what, 2100, .inl l_what)), (pr_own, .inl (rk_own, 2100, .inl lo)), (pr_one, .inl (rk_one, 2100, .inl l_one)), (pr_two, .inl (rk_two, 2100, .inl l_two)), (pr_three, .inl (rk_three, 2100, .inl l_three)), (pr_beside, .inl (rk_beside, 2100, .inl l_beside)), (pr_many, .inl (rk_many, 2100, .inl l_many)), (pr_uses, .inl (rk_uses, 2100, .inl lu)), (pr_behind, .inl (rk_behind, 2100, .inl lb)), (pr_makes, .inl (rk_makes, 2100, .inl lmk)), (pr_first, .inl (rk_first, 30, .inl l_first)), (pr_body, .inl (rk_body, 30, .inl l_body))]) hD hS hAA [22, 1, 2, 4, 5, 6, 7, 8, 9, 10, 11, 13, 18, 17] rfl
      refine va_callv (va_runV (As := [.int f3]) (rest := []) ⟨hx, hb, hml, hown, hA⟩ (c_X14_needed_x l dC dI aK aV h0 m_thrown m_stop m_tape m_taped m_length lat lso lpl lsg lle m_p m_spare m_isTaken m_scope lsd ldp lcn m_fault m_where m_cellKind m_cellCount m_free m_pile m_cellField m_freeCount m_given m_nextPlain m_otherKind m_otherField m_isPlain m_hasRun m_hasValue m_hasOther m_value m_other m_steps m_made m_reused m_freed m_most m_doubled m_openMost m_taskWhat m_taskPart m_values m_tasks m_valued m_open m_slots m_present m_shell m_shellArm m_shellCall m_shells m_keptCounts m_asideKind m_asideCount m_asideField m_out m_side m_outs m_sides m_saying pr_what pr_place pr_own pr_one pr_two pr_three pr_beside pr_many pr_uses pr_behind pr_name pr_makes lpz pr_functionName pr_kindName pr_told pr_body pr_first pr_widest pr_fields lfz lkz rk_what rk_own rk_one rk_two rk_three rk_beside rk_many rk_uses rk_behind rk_makes rk_first rk_body l_what lo l_one l_two l_three l_beside l_many lu lb lmk l_first l_body l_fields lkz lL lC ga9 ge9 f3 H.size (by omega) (by omega) (by omega) hfi9 (fun h9 => hn91 (by omega)) (fun h9 => by have h8 := hn92 (by omega); omega) hbo9 (by omega) hw9) (cwV 1 hA (zw_V wi_1851 wi_1853 wi_100 wi_143 (zw_good wi_1854)) rfl rfl rfl (by decide +kernel) ⟨(Nat.le_of_ble_eq_true rfl), (Nat.le_of_ble_eq_true rfl)⟩) ⟨zP_blind, va_recv hKc hPc (ci := 14) (q0 := 0) rfl rfl, zz_pre hKc hPc hDc hN hT hS hFc⟩ rfl rfl hl.1 rfl (lv_room (Nat.le_of_ble_eq_true rfl)) dX14_reads_494 ⟨(Nat.le_of_ble_eq_true rfl), (Nat.le_of_ble_eq_true rfl)⟩) hS (fun q _ h => hFc q h) hFc (fun u t H1 locs ht hvm hw hB hz1 hk1 hS => ?_)
      obtain ⟨n_uses_20, n_makes_21, n_behind_22⟩ := u
      obtain ⟨hP1, hK1, hD1⟩ := hB
      rw [ht] at hP1
      have hK1 := va_K.moved hvm.symm hK1
      obtain ⟨hP, hD⟩ := va_join (wr := [(m_stop, .inr (13, [.null, .null, .null, .null, .null, .int 0, .int stk, .int stp])), (pr_place, .inl (rk_place, 2100, .inl l_place)), (pr_name, .inl (rk_name, 2100, .inr (.inl l_name))), (pr_functionName, .inl (rk_functionName, 30, .inr (.inl l_functionName))), (pr_kindName, .inl (rk_kindName, 20, .inr (.inl l_kindName))), (pr_told, .inl (rk_told, 30, .inl l_told)), (pr_widest, .inl (rk_widest, 30, .inl l_widest)), (pr_fields, .inl (rk_fields, 20, .inl l_fields)), (m_scope, .inl (sk_, 24, .inr (.inl lsc))), (m_tape, .inl (mk_, 2000, .inl gt))]) (w1 := [(h0, .inr (14, [.int m_thrown, .ref m_stop, .ref m_tape, .int m_taped, .int m_length, .int lat, .int lso, .int lpl, .int lsg, .long lle, .ref m_p, .ref m_spare, .int m_isTaken, .ref m_scope, .int lsd, .int ldp, .int lcn, .int m_fault, .int m_where, .ref m_cellKind, .ref m_cellCount, .ref m_free, .ref m_pile, .ref m_cellField, .int m_freeCount, .int m_given, .int m_nextPlain, .ref m_otherKind, .ref m_otherField, .int m_isPlain, .int m_hasRun, .int m_hasValue, .int m_hasOther, .long m_value, .long m_other, .int m_steps, .int m_made, .int m_reused, .int m_freed, .int m_most, .int m_doubled, .int m_openMost, .ref m_taskWhat, .ref m_taskPart, .ref m_values, .int m_tasks, .int m_valued, .int m_open, .ref m_slots, .ref m_present, .ref m_shell, .ref m_shellArm, .ref m_shellCall, .int m_shells, .ref m_keptCounts, .ref m_asideKind, .ref m_asideCount, .ref m_asideField, .ref m_out, .ref m_side, .int m_outs, .int m_sides, .ref m_saying])), (m_spare, .inr (12, [.ref pr_what, .ref pr_place, .ref pr_own, .ref pr_one, .ref pr_two, .ref pr_three, .ref pr_beside, .ref pr_many, .ref pr_uses, .ref pr_behind, .ref pr_name, .ref pr_makes, .int lpz, .ref pr_functionName, .ref pr_kindName, .ref pr_told, .ref pr_body, .ref pr_first, .ref pr_widest, .ref pr_fields, .int lfz, .int lkz])), (pr_what, .inl (rk_what, 2100, .inl l_what)), (pr_own, .inl (rk_own, 2100, .inl lo)), (pr_one, .inl (rk_one, 2100, .inl l_one)), (pr_two, .inl (rk_two, 2100, .inl l_two)), (pr_three, .inl (rk_three, 2100, .inl l_three)), (pr_beside, .inl (rk_beside, 2100, .inl l_beside)), (pr_many, .inl (rk_many, 2100, .inl l_many)), (pr_uses, .inl (rk_uses, 2100, .inl n_uses_20)), (pr_behind, .inl (rk_behind, 2100, .inl n_behind_22)), (pr_makes, .inl (rk_makes, 2100, .inl n_makes_21)), (pr_first, .inl (rk_first, 30, .inl l_first)), (pr_body, .inl (rk_body, 30, .inl l_body))]) hP hD [22, 1, 2, 4, 5, 6, 7, 8, 9, 10, 11, 13, 18, 17] [0, 3, 12, 14, 15, 16, 19, 20, 21, 23] rfl rfl (by decide) (by decide) hk1 hFc hP1 hD1
      have hK := (hK.sub (tys' := [(rk_place, .int), (rk_name, .long), (rk_functionName, .long), (rk_kindName, .long), (rk_told, .int), (rk_widest, .int), (rk_fields, .int), (sk_, .long), (mk_, .byte)]) [1, 10, 12, 13, 14, 17, 18, 19, 20] rfl).app hK1
      generalize H1 = H at hP hS ⊢
      have hP : va_P (dC, dI) vwCl [(m_stop, .inr (13, [.null, .null, .null, .null, .null, .int 0, .int stk, .int stp])), (pr_place, .inl (rk_place, 2100, .inl l_place)), (pr_name, .inl (rk_name, 2100, .inr (.inl l_name))), (pr_functionName, .inl (rk_functionName, 30, .inr (.inl l_functionName))), (pr_kindName, .inl (rk_kindName, 20, .inr (.inl l_kindName))), (pr_told, .inl (rk_told, 30, .inl l_told)), (pr_widest, .inl (rk_widest, 30, .inl l_widest)), (pr_fields, .inl (rk_fields, 20, .inl l_fields)), (m_scope, .inl (sk_, 24, .inr (.inl lsc))), (m_tape, .inl (mk_, 2000, .inl gt)), (h0, .inr (14, [.int m_thrown, .ref m_stop, .ref m_tape, .int m_taped, .int m_length, .int lat, .int lso, .int lpl, .int lsg, .long lle, .ref m_p, .ref m_spare, .int m_isTaken, .ref m_scope, .int lsd, .int ldp, .int lcn, .int m_fault, .int m_where, .ref m_cellKind, .ref m_cellCount, .ref m_free, .ref m_pile, .ref m_cellField, .int m_freeCount, .int m_given, .int m_nextPlain, .ref m_otherKind, .ref m_otherField, .int m_isPlain, .int m_hasRun, .int m_hasValue, .int m_hasOther, .long m_value, .long m_other, .int m_steps, .int m_made, .int m_reused, .int m_freed, .int m_most, .int m_doubled, .int m_openMost, .ref m_taskWhat, .ref m_taskPart, .ref m_values, .int m_tasks, .int m_valued, .int m_open, .ref m_slots, .ref m_present, .ref m_shell, .ref m_shellArm, .ref m_shellCall, .int m_shells, .ref m_keptCounts, .ref m_asideKind, .ref m_asideCount, .ref m_asideField, .ref m_out, .ref m_side, .int m_outs, .int m_sides, .ref m_saying])), (m_spare, .inr (12, [.ref pr_what, .ref pr_place, .ref pr_own, .ref pr_one, .ref pr_two, .ref pr_three, .ref pr_beside, .ref pr_many, .ref pr_uses, .ref pr_behind, .ref pr_name, .ref pr_makes, .int lpz, .ref pr_functionName, .ref pr_kindName, .ref pr_told, .ref pr_body, .ref pr_first, .ref pr_widest, .ref pr_fields, .int lfz, .int lkz])), (pr_what, .inl (rk_what, 2100, .inl l_what)), (pr_own, .inl (rk_own, 2100, .inl lo)), (pr_one, .inl (rk_one, 2100, .inl l_one)), (pr_two, .inl (rk_two, 2100, .inl l_two)), (pr_three, .inl (rk_three, 2100, .inl l_three)), (pr_beside, .inl (rk_beside, 2100, .inl l_beside)), (pr_many, .inl (rk_many, 2100, .inl l_many)), (pr_uses, .inl (rk_uses, 2100, .inl n_uses_20)), (pr_behind, .inl (rk_behind, 2100, .inl n_behind_22)), (pr_makes, .inl (rk_makes, 2100, .inl n_makes_21)), (pr_first, .inl (rk_first, 30, .inl l_first)), (pr_body, .inl (rk_body, 30, .inl l_body))] H := hP
      have hD : va_D A [(m_stop, .inr (13, [.null, .null, .null, .null, .null, .int 0, .int stk, .int stp])), (pr_place, .inl (rk_place, 2100, .inl l_place)), (pr_name, .inl (rk_name, 2100, .inr (.inl l_name))), (pr_functionName, .inl (rk_functionName, 30, .inr (.inl l_functionName))), (pr_kindName, .inl (rk_kindName, 20, .inr (.inl l_kindName))), (pr_told, .inl (rk_told, 30, .inl l_told)), (pr_widest, .inl (rk_widest, 30, .inl l_widest)), (pr_fields, .inl (rk_fields, 20, .inl l_fields)), (m_scope, .inl (sk_, 24, .inr (.inl lsc))), (m_tape, .inl (mk_, 2000, .inl gt)), (h0, .inr (14, [.int m_thrown, .ref m_stop, .ref m_tape, .int m_taped, .int m_length, .int lat, .int lso, .int lpl, .int lsg, .long lle, .ref m_p, .ref m_spare, .int m_isTaken, .ref m_scope, .int lsd, .int ldp, .int lcn, .int m_fault, .int m_where, .ref m_cellKind, .ref m_cellCount, .ref m_free, .ref m_pile, .ref m_cellField, .int m_freeCount, .int m_given, .int m_nextPlain, .ref m_otherKind, .ref m_otherField, .int m_isPlain, .int m_hasRun, .int m_hasValue, .int m_hasOther, .long m_value, .long m_other, .int m_steps, .int m_made, .int m_reused, .int m_freed, .int m_most, .int m_doubled, .int m_openMost, .ref m_taskWhat, .ref m_taskPart, .ref m_values, .int m_tasks, .int m_valued, .int m_open, .ref m_slots, .ref m_present, .ref m_shell, .ref m_shellArm, .ref m_shellCall, .int m_shells, .ref m_keptCounts, .ref m_asideKind, .ref m_asideCount, .ref m_asideField, .ref m_out, .ref m_side, .int m_outs, .int m_sides, .ref m_saying])), (m_spare, .inr (12, [.ref pr_what, .ref pr_place, .ref pr_own, .ref pr_one, .ref pr_two, .ref pr_three, .ref pr_beside, .ref pr_many, .ref pr_uses, .ref pr_behind, .ref pr_name, .ref pr_makes, .int lpz, .ref pr_functionName, .ref pr_kindName, .ref pr_told, .ref pr_body, .ref pr_first, .ref pr_widest, .ref pr_fields, .int lfz, .int lkz])), (pr_what, .inl (rk_what, 2100, .inl l_what)), (pr_own, .inl (rk_own, 2100, .inl lo)), (pr_one, .inl (rk_one, 2100, .inl l_one)), (pr_two, .inl (rk_two, 2100, .inl l_two)), (pr_three, .inl (rk_three, 2100, .inl l_three)), (pr_beside, .inl (rk_beside, 2100, .inl l_beside)), (pr_many, .inl (rk_many, 2100, .inl l_many)), (pr_uses, .inl (rk_uses, 2100, .inl n_uses_20)), (pr_behind, .inl (rk_behind, 2100, .inl n_behind_22)), (pr_makes, .inl (rk_makes, 2100, .inl n_makes_21)), (pr_first, .inl (rk_first, 30, .inl l_first)), (pr_body, .inl (rk_body, 30, .inl l_body))] := hD
      have hK : va_K (dC, dI) vwCl [(rk_place, .int), (rk_name, .long), (rk_functionName, .long), (rk_kindName, .long), (rk_told, .int), (rk_widest, .int), (rk_fields, .int), (sk_, .long), (mk_, .byte), (rk_what, .byte), (rk_own, .int), (rk_one, .int), (rk_two, .int), (rk_three, .int), (rk_beside, .int), (rk_many, .int), (rk_uses, .int), (rk_behind, .int), (rk_makes, .byte), (rk_first, .int), (rk_body, .int)] s := hK
      obtain ⟨hq_23, hq_24, hq_25⟩ := hw
      obtain ⟨x_26, ex_26⟩ : ∃ y : Int32, y = f3 + Int32.ofInt 1 := ⟨_, rfl⟩
      refine lv_iinc (v := x_26) (lv' := [(3, .int x_26), (0, .ref h0)]) hx hb dX14_reads_497 hl (k := 0) rfl (by rw [ex_26]) (by decide) rfl (fun ls hl => ?_)
      have ix_26 : x_26.toInt = f3.toInt + 1 := by rw [ex_26]; exact zi_addc (by decide) (by omega) (by omega)
      refine lv_goto (tgt := 481) hx hb dX14_reads_500 (by decide) ?_
      have hz_27 : zMA (zJS l_what lo l_one l_two l_three l_beside l_many l_fields lkz) n_makes_21 ge9 := zMA_st (zJP_s hP2) hez9 (hga9 ▸ hMa) hq_25
      have hz_28 : zKA (zJS l_what lo l_one l_two l_three l_beside l_many l_fields lkz) n_uses_20 n_behind_22 l_body ge9 (Int32.toNatClampNeg x_26) := zKA_st (zJP_s hP2) hw9 hez9 (hga9 ▸ hKa) hq_23 hq_24 hbo9 (by have := zn_nat (x := f3) (by omega); have := zn_nat (x := x_26) (by omega); omega)
      have hz_29 : Int32.toInt x_26 < lfz.toInt → (l_first (Int32.toNatClampNeg x_26)).toInt = (ge9 : Int) := fun h9 => by rw [show Int32.toNatClampNeg x_26 = Int32.toNatClampNeg f3 + 1 by have := zn_nat (x := f3) (by omega); have := zn_nat (x := x_26) (by omega); omega]; exact hn91 (by have := zn_nat (x := f3) (by omega); have := zn_nat (x := lfz) (by omega); omega)
      have hz_30 : Int32.toInt x_26 = lfz.toInt → ge9 = Int32.toNatClampNeg lpz := fun h9 => (hn92 (by have := zn_nat (x := f3) (by omega); have := zn_nat (x := lfz) (by omega); have := zn_nat (x := x_26) (by omega); omega)).symm
      exact ih_481 x_26 n_uses_20 n_behind_22 n_makes_21 ge9 _ _ _ (by omega) (by omega) (by omega) hz_28 hz_27 hz_29 hz_30 (hP.sub [0, 11, 12, 1, 13, 14, 15, 16, 17, 18, 19, 20, 2, 21, 3, 4, 5, 23, 22, 6, 7, 8, 10, 9] rfl) (hD.sub [0, 11, 12, 1, 13, 14, 15, 16, 17, 18, 19, 20, 2, 21, 3, 4, 5, 23, 22, 6, 7, 8, 10, 9] (by decide) rfl) hS (lv_sub hl [0, 1] rfl)

end
