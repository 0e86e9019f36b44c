/-! parts, as the run sees them -/
theorem zP_w {S : Nat → Nat → Int32} {u b : Nat → Int32} {z : Nat} {L C : Nat → Nat} {bo to : Nat → Int32} {nf : Int} {k : Nat} (hg : zPG S u b L C z bo to nf) (hk : k < z) {n : Nat} (hw : (S 0 k).toInt = (n : Int)) : zJn S L C k n ∧ zKq S u k (u k) n ∧ zKb S u b k n ∧ C k ≤ 24 := by
  obtain ⟨l1, l2, hJ, hC⟩ := hg.1 k (Nat.zero_le _) hk
  have hq := hg.2.2.1 k hk
  have := (zwh hJ).2.2
  rw [show Int32.toNatClampNeg (S 0 k) = n by omega] at hJ hq
  exact ⟨hJ, hq.1, hq.2, hC⟩
/-- part r is one to be worked -/
def zPoc (S : Nat → Nat → Int32) (z : Nat) (x : Int32) : Prop := 0 ≤ x.toInt ∧ Int32.toNatClampNeg x < z ∧ (S 0 (Int32.toNatClampNeg x)).toInt ≠ 9
theorem zP_5 {S : Nat → Nat → Int32} {u b : Nat → Int32} {z : Nat} {L C : Nat → Nat} {bo to : Nat → Int32} {nf : Int} {k : Nat} (hg : zPG S u b L C z bo to nf) (hk : k < z) (hw : (S 0 k).toInt = 5) : zPoc S z (S 2 k) ∧ zPoc S z (S 3 k) ∧ (∀ j, j < 32 → zbit (b (Int32.toNatClampNeg (S 2 k))) j = (zbit (b k) j || zbit (u (Int32.toNatClampNeg (S 3 k))) j)) ∧ b (Int32.toNatClampNeg (S 3 k)) = b k ∧ ∀ j, j < 32 → zbit (u k) j = (zbit (u (Int32.toNatClampNeg (S 2 k))) j || zbit (u (Int32.toNatClampNeg (S 3 k))) j) := by
  obtain ⟨hJ, hq, hb, -⟩ := zP_w hg hk (n := 5) hw
  obtain ⟨x, y, g1, g2, g3, g4, g5, g6, g7⟩ := hJ
  have x1 := zJr_in g1 x List.mem_cons_self
  have y1 := zJr_in g1 y (List.mem_cons_of_mem _ List.mem_cons_self)
  have ex : Int32.toNatClampNeg (S 2 k) = x := by have := zn_nat (x := S 2 k) (by omega); omega
  have ey : Int32.toNatClampNeg (S 3 k) = y := by have := zn_nat (x := S 3 k) (by omega); omega
  exact ⟨⟨by omega, by omega, by rw [ex]; exact g6⟩, ⟨by omega, by omega, by rw [ey]; exact g7⟩, hb.1, hb.2, hq⟩
theorem zP_6 {S : Nat → Nat → Int32} {u b : Nat → Int32} {z : Nat} {L C : Nat → Nat} {bo to : Nat → Int32} {nf : Int} {k : Nat} (hg : zPG S u b L C z bo to nf) (hk : k < z) (hw : (S 0 k).toInt = 6) : zPoc S z (S 2 k) ∧ zPoc S z (S 3 k) ∧ (∀ j, j < 32 → zbit (b (Int32.toNatClampNeg (S 2 k))) j = (zbit (b k) j || (zbit (u (Int32.toNatClampNeg (S 3 k))) j && !(j == Int32.toNatClampNeg (S 1 k))))) ∧ b (Int32.toNatClampNeg (S 3 k)) = b k ∧ (∀ j, j < 32 → zbit (u k) j = (zbit (u (Int32.toNatClampNeg (S 2 k))) j || (zbit (u (Int32.toNatClampNeg (S 3 k))) j && !(j == Int32.toNatClampNeg (S 1 k))))) ∧ 0 ≤ (S 1 k).toInt ∧ (S 1 k).toInt < 24 := by
  obtain ⟨hJ, hq, hb, hC⟩ := zP_w hg hk (n := 6) hw
  obtain ⟨x, y, g1, g2, g3, g4, g5, g6, g7, g8⟩ := hJ
  have x1 := zJr_in g1 x List.mem_cons_self
  have y1 := zJr_in g1 y (List.mem_cons_of_mem _ List.mem_cons_self)
  have ex : Int32.toNatClampNeg (S 2 k) = x := by have := zn_nat (x := S 2 k) (by omega); omega
  have ey : Int32.toNatClampNeg (S 3 k) = y := by have := zn_nat (x := S 3 k) (by omega); omega
  have cy := (hg.1 y (Nat.zero_le _) (by omega)).2.2.2
  exact ⟨⟨by omega, by omega, by rw [ex]; exact g6⟩, ⟨by omega, by omega, by rw [ey]; exact g7⟩, hb.1, hb.2, hq, by omega, by omega⟩
theorem zP_7 {S : Nat → Nat → Int32} {u b : Nat → Int32} {z : Nat} {L C : Nat → Nat} {bo to : Nat → Int32} {nf : Int} {k : Nat} (hg : zPG S u b L C z bo to nf) (hk : k < z) (hw : (S 0 k).toInt = 7) : zPoc S z (S 2 k) ∧ zPoc S z (S 3 k) ∧ zPoc S z (S 4 k) ∧ (∀ j, j < 32 → zbit (b (Int32.toNatClampNeg (S 2 k))) j = (zbit (b k) j || zbit (u (Int32.toNatClampNeg (S 3 k))) j || zbit (u (Int32.toNatClampNeg (S 4 k))) j)) ∧ b (Int32.toNatClampNeg (S 3 k)) = b k ∧ b (Int32.toNatClampNeg (S 4 k)) = b k ∧ ∀ j, j < 32 → zbit (u k) j = (zbit (u (Int32.toNatClampNeg (S 2 k))) j || zbit (u (Int32.toNatClampNeg (S 3 k))) j || zbit (u (Int32.toNatClampNeg (S 4 k))) j) := by
  obtain ⟨hJ, hq, hb, hC⟩ := zP_w hg hk (n := 7) hw
  obtain ⟨x, y, v, g1, g2, g3, g4, g5, g6, g7, g8, g9, g10⟩ := hJ
  have x1 := zJr_in g1 x List.mem_cons_self
  have y1 := zJr_in g1 y (List.mem_cons_of_mem _ List.mem_cons_self)
  have v1 := zJr_in g1 v (List.mem_cons_of_mem _ (List.mem_cons_of_mem _ List.mem_cons_self))
  have ex : Int32.toNatClampNeg (S 2 k) = x := by have := zn_nat (x := S 2 k) (by omega); omega
  have ey : Int32.toNatClampNeg (S 3 k) = y := by have := zn_nat (x := S 3 k) (by omega); omega
  have ev : Int32.toNatClampNeg (S 4 k) = v := by have := zn_nat (x := S 4 k) (by omega); omega
  exact ⟨⟨by omega, by omega, by rw [ex]; exact g8⟩, ⟨by omega, by omega, by rw [ey]; exact g9⟩, ⟨by omega, by omega, by rw [ev]; exact g10⟩, hb.1, hb.2.1, hb.2.2, hq⟩
theorem zP_2 {S : Nat → Nat → Int32} {u b : Nat → Int32} {z : Nat} {L C : Nat → Nat} {bo to : Nat → Int32} {nf : Int} {k : Nat} (hg : zPG S u b L C z bo to nf) (hk : k < z) (hw : (S 0 k).toInt = 2) : 0 ≤ (S 1 k).toInt ∧ (S 1 k).toInt < 24 ∧ zbit (u k) (Int32.toNatClampNeg (S 1 k)) = true := by
  obtain ⟨hJ, hq, hb, hC⟩ := zP_w hg hk (n := 2) hw
  have h1 := hJ.2.1
  have h2 := hJ.2.2
  have h3 := zn_nat h1
  exact ⟨h1, by omega, by rw [hq _ (by omega)]; exact beq_self_eq_true _⟩
/-- calls, and what is made: the arguments -/
theorem zP_34 {S : Nat → Nat → Int32} {u b : Nat → Int32} {z : Nat} {L C : Nat → Nat} {bo to : Nat → Int32} {nf : Int} {k : Nat} (hg : zPG S u b L C z bo to nf) (hk : k < z) (hw : (S 0 k).toInt = 3 ∨ (S 0 k).toInt = 4) : ∃ R, zli (S 5) (S 2 k) R ∧ (R.length : Int) = (S 6 k).toInt ∧ R.length ≤ 6 ∧ (∀ r ∈ R, r < z ∧ (S 0 r).toInt ≠ 9) ∧ (∀ D r E, R = D ++ r :: E → ∀ j, j < 32 → zbit (b r) j = (zbit (b k) j || E.any (zKf u j))) ∧ (∀ j, j < 32 → zbit (u k) j = R.any (zKf u j)) ∧ ((S 0 k).toInt = 4 → 0 ≤ (S 1 k).toInt ∧ (S 1 k).toInt < (S 8 0).toInt ∧ S 7 (Int32.toNatClampNeg (S 1 k)) = S 6 k ∧ (S 6 k).toInt ≤ 3) := by
  rcases hw with hw | hw
  · obtain ⟨hJ, hq, hb, hC⟩ := zP_w hg hk (n := 3) hw
    obtain ⟨R, g1, g2, g3, g4⟩ := hJ
    have c := hg.2.2.2.1 k hk hw
    have d := hg.2.2.2.2 (Int32.toNatClampNeg (S 1 k)) (by have := zn_nat c.1; omega)
    rw [c.2.2] at d
    exact ⟨R, g2, g3, by omega, fun r hr => ⟨by have := zJr_in g1 r hr; omega, (g4 r hr).2⟩, hb R g2, hq R g2, fun g => absurd g (by omega)⟩
  · obtain ⟨hJ, hq, hb, hC⟩ := zP_w hg hk (n := 4) hw
    obtain ⟨R, g1, g2, g3, g4, g5, g6, g7, g8⟩ := hJ
    exact ⟨R, g2, g3, by omega, fun r hr => ⟨by have := zJr_in g1 r hr; omega, (g4 r hr).2⟩, hb R g2, hq R g2, fun _ => ⟨g6, g7, g8, by omega⟩⟩
theorem zP_m {S : Nat → Nat → Int32} {u b : Nat → Int32} {z : Nat} {L C : Nat → Nat} {bo to : Nat → Int32} {nf : Int} (hg : zPG S u b L C z bo to nf) : ∀ k, k < z → (S 0 k).toInt = 3 ∨ (S 0 k).toInt = 4 → (S 6 k).toInt ≤ 6 := fun k hk hw => by
  obtain ⟨R, -, h2, h3, -⟩ := zP_34 hg hk hw
  omega
/-- an arm of the match k -/
def zMa (S : Nat → Nat → Int32) (u b : Nat → Int32) (z k a : Nat) : Prop := zPoc S z (S 2 a) ∧ 0 ≤ (S 3 a).toInt ∧ (S 1 k).toInt < (S 3 a).toInt ∧ 0 ≤ (S 6 a).toInt ∧ (S 6 a).toInt ≤ 3 ∧ (S 3 a).toInt + (S 6 a).toInt ≤ 24 ∧ ((S 1 a).toInt = -1 ∧ (S 6 a).toInt = 0 ∨ 0 ≤ (S 1 a).toInt ∧ (S 1 a).toInt < (S 8 0).toInt ∧ S 7 (Int32.toNatClampNeg (S 1 a)) = S 6 a) ∧ b a = b k ∧ b (Int32.toNatClampNeg (S 2 a)) = b k ∧ ∀ j, j < 32 → zbit (u (Int32.toNatClampNeg (S 2 a))) j = true → ¬ ((S 3 a).toInt ≤ (j : Int) ∧ (j : Int) < (S 3 a).toInt + (S 6 a).toInt) → zbit (u k) j = true
theorem zP_8 {S : Nat → Nat → Int32} {u b : Nat → Int32} {z : Nat} {L C : Nat → Nat} {bo to : Nat → Int32} {nf : Int} {k : Nat} (hg : zPG S u b L C z bo to nf) (hk : k < z) (hw : (S 0 k).toInt = 8) : ∃ R, zli (S 5) (S 2 k) R ∧ 0 ≤ (S 1 k).toInt ∧ (S 1 k).toInt < 24 ∧ zbit (u k) (Int32.toNatClampNeg (S 1 k)) = true ∧ ∀ r ∈ R, r < z ∧ zMa S u b z k r := by
  obtain ⟨hJ, hq, hb, hC⟩ := zP_w hg hk (n := 8) hw
  obtain ⟨R, g1, g2, g3, g4, g5⟩ := hJ
  have hn := zn_nat g4
  refine ⟨R, g2, g4, by omega, by rw [hq R g2 _ (by omega), beq_self_eq_true]; rfl, fun r hr => ?_⟩
  have r1 := zJr_in g1 r hr
  have hrz : r < z := by omega
  refine ⟨hrz, ?_⟩
  obtain ⟨aJ, aq, ab, aC⟩ := zP_w hg hrz (n := 9) (g3 r hr).2
  obtain ⟨x, a1, a2, a3, a4, a5, a6, a7, a8⟩ := aJ
  have x1 := zJr_in a1 x List.mem_cons_self
  have ex : Int32.toNatClampNeg (S 2 r) = x := by have := zn_nat (x := S 2 r) (by omega); omega
  have cx := (hg.1 x (Nat.zero_le _) (by omega)).2.2.2
  have cr := (g3 r hr).1
  have br : b r = b k := hb R g2 r hr
  refine ⟨⟨by omega, by omega, by rw [ex]; exact a5⟩, by omega, by omega, a6, a7, by omega, a8, br, ((show b (Int32.toNatClampNeg (S 2 r)) = b r from ab).trans br), fun j hj h1 h2 => ?_⟩
  rw [hq R g2 j hj, Bool.or_eq_true]
  refine Or.inr (List.any_eq_true.mpr ⟨r, hr, ?_⟩)
  show zbit (u r) j = true
  rw [aq j hj, h1, Bool.true_and, Bool.not_eq_true', Bool.and_eq_false_iff, decide_eq_false_iff_not, decide_eq_false_iff_not]
  by_cases g : (S 3 r).toInt ≤ (j : Int)
  · exact Or.inr (fun w => h2 ⟨g, w⟩)
  · exact Or.inl g
theorem zTW_u {S : Nat → Nat → Int32} {u b : Nat → Int32} {z : Nat} {pr tw tp : Nat → Int32} {t o h k : Nat} (a : zTW S u b z pr tw tp t o h k) {j : Nat} (hj : j < 32) (h : zbit (u k) j = true) : 1 ≤ o ∧ zbit (pr (o - 1)) j = true := by
  obtain ⟨M, -, -, g⟩ := a
  exact g j hj h
theorem zTW_e {S : Nat → Nat → Int32} {u b : Nat → Int32} {z : Nat} {pr tw tp : Nat → Int32} {tw2 tp2 : Nat → Int32} {t o h k : Nat} {w c : Int32} (a : zTW S u b z pr tw tp t o h k) (hw : w.toInt = 2) (ew : zTa tw tw2 t w) (ep : zTa tp tp2 t c) : zTW S u b z pr tw2 tp2 (t + 1) o h k := by
  obtain ⟨M, a, g⟩ := a
  exact ⟨M, zTK_e a hw ew ep, g⟩
/-- a way of the match begins -/
theorem zTB_m {S : Nat → Nat → Int32} {u b : Nat → Int32} {z : Nat} {pr tw tp : Nat → Int32} {pr2 : Nat → Int32} {t o h k a : Nat} {kp : Prop} (x : zTW S u b z pr tw tp t o h k) (hm : zMa S u b z k a) (ho : 1 ≤ o) (h0 : 0 ≤ (S 1 k).toInt) (p1 : ∀ i, i ≠ o - 1 → pr2 i = pr i) (q1 : ∀ j, j < 32 → zbit (pr (o - 1)) j = true → j ≠ Int32.toNatClampNeg (S 1 k) ∨ kp → zbit (pr2 (o - 1)) j = true) (q2 : ∀ i : Nat, (i : Int) < (S 6 a).toInt → zbit (u (Int32.toNatClampNeg (S 2 a))) (Int32.toNatClampNeg (S 3 a) + i) = true → zbit (pr2 (o - 1)) (Int32.toNatClampNeg (S 3 a) + i) = true) (q3 : kp ∨ zbit (u (Int32.toNatClampNeg (S 2 a))) (Int32.toNatClampNeg (S 1 k)) = false ∧ zbit (b a) (Int32.toNatClampNeg (S 1 k)) = false) : zTB S u b z pr2 tw tp t o h (Int32.toNatClampNeg (S 2 a)) := by
  obtain ⟨M, x, hx, hu⟩ := x
  obtain ⟨m1, m2, m3, m4, m5, m6, m7, m8, m9, m10⟩ := hm
  have e3 := zn_nat m2
  have e1 := zn_nat h0
  refine ⟨M, zTK_ext x (fun _ g => g) (fun i hi => p1 i (by omega)) (fun _ _ => rfl) (fun _ _ => rfl), fun j g => ?_, fun j hj g => ?_⟩
  · obtain ⟨g1, g2, g3, g4⟩ := hx j g
    refine ⟨g1, g2, q1 j g2 g3 ?_, by rw [m9]; exact g4⟩
    rcases q3 with q | q
    · exact Or.inr q
    · exact Or.inl (fun e => by rw [← m8, e, q.2] at g4; exact Bool.noConfusion g4)
  · by_cases w : (S 3 a).toInt ≤ (j : Int) ∧ (j : Int) < (S 3 a).toInt + (S 6 a).toInt
    · have := q2 (j - Int32.toNatClampNeg (S 3 a)) (by omega)
      rw [show Int32.toNatClampNeg (S 3 a) + (j - Int32.toNatClampNeg (S 3 a)) = j by omega] at this
      exact ⟨ho, this g⟩
    · have v := hu j hj (m10 j hj g w)
      refine ⟨v.1, q1 j hj v.2 ?_⟩
      rcases q3 with q | q
      · exact Or.inr q
      · exact Or.inl (fun e => by rw [e, q.1] at g; exact Bool.noConfusion g)
/-! what works leaves -/
theorem zW_5 {S : Nat → Nat → Int32} {u b : Nat → Int32} {z : Nat} {pr tw tp : Nat → Int32} {L C : Nat → Nat} {bo to : Nat → Int32} {nf : Int} {tw1 tp1 tw2 tp2 tw3 tp3 : Nat → Int32} {t o h k : Nat} {w0 w1 w2 kk : Int32} (hg : zPG S u b L C z bo to nf) (hk : k < z) (hw : (S 0 k).toInt = 5) (ek : kk.toInt = (k : Int)) (a : zTW S u b z pr tw tp t o h k) (h0 : w0.toInt = 1) (h1 : w1.toInt = 0) (h2 : w2.toInt = 0) (ew1 : zTa tw tw1 t w0) (ep1 : zTa tp tp1 t kk) (ew2 : zTa tw1 tw2 (t + 1) w1) (ep2 : zTa tp1 tp2 (t + 1) (S 3 k)) (ew3 : zTa tw2 tw3 (t + 2) w2) (ep3 : zTa tp2 tp3 (t + 2) (S 2 k)) : zTS S u b z pr tw3 tp3 (t + 3) o h := by
  obtain ⟨⟨x1, x2, x3⟩, ⟨y1, y2, y3⟩, hb1, hb2, hu⟩ := zP_5 hg hk hw
  obtain ⟨M, a, hm, hv⟩ := a
  have en : Int32.toNatClampNeg kk = k := by have := zn_nat (x := kk) (by omega); omega
  have s1 := zTK_d (h := h + 2) (h' := h) (M2 := M) (k := kk) a (by omega) (by rw [en]; exact hk) (fun j g => ⟨g, (hm j g).2.1, by rw [en]; exact (hm j g).2.2.2⟩) (by rw [en]; exact Or.inr (Or.inl ⟨hw, rfl⟩)) h0 ew1 ep1
  have s2 := zTK_w (h := h + 1) s1 y1 y2 y3 (fun j g => ⟨(hm j g).2.1, by rw [hb2]; exact (hm j g).2.2.2⟩) h1 ew2 ep2
  have s3 := zTK_w (h := h) s2 x1 x2 x3 (fun j g => by
    rcases g with g | g
    · exact ⟨(hm j g).2.1, by rw [hb1 j (hm j g).2.1, (hm j g).2.2.2]; rfl⟩
    · exact ⟨g.1, by rw [hb1 j g.1, g.2, Bool.or_true]⟩) h2 ew3 ep3
  refine ⟨_, s3, fun j g => ?_⟩
  rcases g with (g | g) | g
  · exact ⟨(hm j g).1, (hm j g).2.1, (hm j g).2.2.1⟩
  · have := hv j g.1 (by rw [hu j g.1, g.2, Bool.or_true]); exact ⟨this.1, g.1, this.2⟩
  · have := hv j g.1 (by rw [hu j g.1, g.2]; rfl); exact ⟨this.1, g.1, this.2⟩
theorem zW_67 {S : Nat → Nat → Int32} {u b : Nat → Int32} {z : Nat} {pr tw tp : Nat → Int32} {L C : Nat → Nat} {bo to : Nat → Int32} {nf : Int} {tw1 tp1 tw2 tp2 : Nat → Int32} {t o h k : Nat} {w0 w1 kk : Int32} (hg : zPG S u b L C z bo to nf) (hk : k < z) (hw : (S 0 k).toInt = 6 ∨ (S 0 k).toInt = 7) (ek : kk.toInt = (k : Int)) (a : zTW S u b z pr tw tp t o h k) (h0 : w0.toInt = 1) (h1 : w1.toInt = 0) (ew1 : zTa tw tw1 t w0) (ep1 : zTa tp tp1 t kk) (ew2 : zTa tw1 tw2 (t + 1) w1) (ep2 : zTa tp1 tp2 (t + 1) (S 2 k)) : zTS S u b z pr tw2 tp2 (t + 2) o h := by
  obtain ⟨M, a, hm, hv⟩ := a
  have en : Int32.toNatClampNeg kk = k := by have := zn_nat (x := kk) (by omega); omega
  rcases hw with hw | hw
  · obtain ⟨⟨x1, x2, x3⟩, -, hb1, hb2, hu, -⟩ := zP_6 hg hk hw
    have s1 := zTK_d (h := h + 1) (h' := h) (M2 := fun j => M j ∨ j < 32 ∧ j ≠ Int32.toNatClampNeg (S 1 k) ∧ zbit (u (Int32.toNatClampNeg (S 3 k))) j = true) (k := kk) a (by omega) (by rw [en]; exact hk) (fun j g => ⟨Or.inl g, (hm j g).2.1, by rw [en]; exact (hm j g).2.2.2⟩) (by rw [en]; exact Or.inr (Or.inr (Or.inl ⟨hw, rfl, fun j g1 g2 g3 => Or.inr ⟨g1, g2, g3⟩⟩))) h0 ew1 ep1
    have s2 := zTK_w (h := h) s1 x1 x2 x3 (fun j g => by
      rcases g with g | g
      · exact ⟨(hm j g).2.1, by rw [hb1 j (hm j g).2.1, (hm j g).2.2.2]; rfl⟩
      · exact ⟨g.1, by rw [hb1 j g.1, g.2.2, beq_false_of_ne g.2.1, Bool.not_false, Bool.true_and, Bool.or_true]⟩) h1 ew2 ep2
    refine ⟨_, s2, fun j g => ?_⟩
    rcases g with (g | g) | g
    · exact ⟨(hm j g).1, (hm j g).2.1, (hm j g).2.2.1⟩
    · have := hv j g.1 (by rw [hu j g.1, g.2.2, beq_false_of_ne g.2.1, Bool.not_false, Bool.true_and, Bool.or_true]); exact ⟨this.1, g.1, this.2⟩
    · have := hv j g.1 (by rw [hu j g.1, g.2]; rfl); exact ⟨this.1, g.1, this.2⟩
  · obtain ⟨⟨x1, x2, x3⟩, -, -, hb1, hb2, hb3, hu⟩ := zP_7 hg hk hw
    have s1 := zTK_d (h := h + 1) (h' := h) (M2 := fun j => M j ∨ j < 32 ∧ (zbit (u (Int32.toNatClampNeg (S 3 k))) j = true ∨ zbit (u (Int32.toNatClampNeg (S 4 k))) j = true)) (k := kk) a (by omega) (by rw [en]; exact hk) (fun j g => ⟨Or.inl g, (hm j g).2.1, by rw [en]; exact (hm j g).2.2.2⟩) (by rw [en]; exact Or.inr (Or.inr (Or.inr ⟨hw, rfl, fun j g1 g2 => Or.inr ⟨g1, g2⟩⟩))) h0 ew1 ep1
    have s2 := zTK_w (h := h) s1 x1 x2 x3 (fun j g => by
      rcases g with g | g
      · exact ⟨(hm j g).2.1, by rw [hb1 j (hm j g).2.1, (hm j g).2.2.2]; rfl⟩
      · refine ⟨g.1, ?_⟩
        rw [hb1 j g.1]
        rcases g.2 with q | q
        · rw [q, Bool.or_true]; rfl
        · rw [q, Bool.or_true]) h1 ew2 ep2
    refine ⟨_, s2, fun j g => ?_⟩
    rcases g with (g | g) | g
    · exact ⟨(hm j g).1, (hm j g).2.1, (hm j g).2.2.1⟩
    · have := hv j g.1 (by
        rw [hu j g.1]
        rcases g.2 with q | q
        · rw [q, Bool.or_true]; rfl
        · rw [q, Bool.or_true])
      exact ⟨this.1, g.1, this.2⟩
    · have := hv j g.1 (by rw [hu j g.1, g.2]; rfl); exact ⟨this.1, g.1, this.2⟩
theorem zW_34 {S : Nat → Nat → Int32} {u b : Nat → Int32} {z : Nat} {pr tw tp : Nat → Int32} {tw1 tp1 tw2 tp2 : Nat → Int32} {t o h k : Nat} {w0 kk : Int32} {R : List Nat} (hk : k < z) (hw : (S 0 k).toInt = 3 ∨ (S 0 k).toInt = 4) (ek : kk.toInt = (k : Int)) (a : zTW S u b z pr tw tp t o h k) (hl : (R.length : Int) = (S 6 k).toInt) (hR : ∀ r ∈ R, r < z ∧ (S 0 r).toInt ≠ 9) (hb : ∀ D r E, R = D ++ r :: E → ∀ j, j < 32 → zbit (b r) j = (zbit (b k) j || E.any (zKf u j))) (hu : ∀ j, j < 32 → zbit (u k) j = R.any (zKf u j)) (h0 : w0.toInt = 1) (ew1 : zTa tw tw1 t w0) (ep1 : zTa tp tp1 t kk) (hp : (∀ i : Nat, i < t + 1 → tw2 i = tw1 i ∧ tp2 i = tp1 i) ∧ ∀ i : Nat, i < R.length → Int32.toInt (tw2 (t + 1 + i)) = 0 ∧ Int32.toInt (tp2 (t + 1 + i)) = ((R.getD (R.length - 1 - i) 0 : Nat) : Int)) : zTS S u b z pr tw2 tp2 (t + 1 + R.length) o h := by
  obtain ⟨M, a, hm, hv⟩ := a
  have en : Int32.toNatClampNeg kk = k := by have := zn_nat (x := kk) (by omega); omega
  have s1 := zTK_d (h := h + R.length) (h' := h) (M2 := M) (k := kk) a (by omega) (by rw [en]; exact hk) (fun j g => ⟨g, (hm j g).2.1, by rw [en]; exact (hm j g).2.2.2⟩) (by rw [en]; exact Or.inl ⟨hw, by rw [← hl]; omega⟩) h0 ew1 ep1
  have s2 := zTK_ext (pr2 := pr) (tw2 := tw2) (tp2 := tp2) s1 (fun _ g => g) (fun _ _ => rfl) (fun i hi => (hp.1 i hi).1) (fun i hi => (hp.1 i hi).2)
  have s3 := zTK_args (k := k) (n := R.length) rfl hR hb (fun j g => ⟨(hm j g).2.1, (hm j g).2.2.2⟩) s2 (fun i hi => (hp.2 i hi).1) (fun i hi => (hp.2 i hi).2) R [] rfl
  rw [show h + R.length - R.length = h by omega] at s3
  refine ⟨_, s3, fun j g => ?_⟩
  rcases g with g | g
  · exact ⟨(hm j g).1, (hm j g).2.1, (hm j g).2.2.1⟩
  · have := hv j g.1 (by rw [hu j g.1]; exact g.2); exact ⟨this.1, g.1, this.2⟩
/-! what is to be done -/
theorem zTD_34 {S : Nat → Nat → Int32} {u b : Nat → Int32} {z : Nat} {pr tw tp : Nat → Int32} {t o h k : Nat} (a : zTD S u b z pr tw tp t o h k) (hw : (S 0 k).toInt = 3 ∨ (S 0 k).toInt = 4) : ∃ h' : Nat, (h : Int) = (h' : Int) + (S 6 k).toInt ∧ zTS S u b z pr tw tp t o (h' + 1) := by
  obtain ⟨M, h', a, hm, hd⟩ := a
  rcases hd with ⟨-, e⟩ | ⟨g, -⟩ | ⟨g, -⟩ | ⟨g, -⟩
  · exact ⟨h', e, M, a, fun j g => ⟨(hm j g).1, (hm j g).2.1, (hm j g).2.2.1⟩⟩
  · omega
  · omega
  · omega
theorem zTD_5 {S : Nat → Nat → Int32} {u b : Nat → Int32} {z : Nat} {pr tw tp : Nat → Int32} {t o h k : Nat} (a : zTD S u b z pr tw tp t o h k) (hw : (S 0 k).toInt = 5) : ∃ h', h = h' + 2 ∧ zTS S u b z pr tw tp t o (h' + 1) := by
  obtain ⟨M, h', a, hm, hd⟩ := a
  rcases hd with ⟨g, -⟩ | ⟨-, e⟩ | ⟨g, -⟩ | ⟨g, -⟩
  · omega
  · exact ⟨h', e, M, a, fun j g => ⟨(hm j g).1, (hm j g).2.1, (hm j g).2.2.1⟩⟩
  · omega
  · omega
theorem zTD_6h {S : Nat → Nat → Int32} {u b : Nat → Int32} {z : Nat} {pr tw tp : Nat → Int32} {t o h k : Nat} (a : zTD S u b z pr tw tp t o h k) (hw : (S 0 k).toInt = 6 ∨ (S 0 k).toInt = 7) : 1 ≤ h := by
  obtain ⟨M, h', a, hm, hd⟩ := a
  rcases hd with ⟨g, -⟩ | ⟨g, -⟩ | ⟨g, e, -⟩ | ⟨g, e, -⟩ <;> omega
theorem zTD_6 {S : Nat → Nat → Int32} {u b : Nat → Int32} {z : Nat} {pr tw tp : Nat → Int32} {L C : Nat → Nat} {bo to : Nat → Int32} {nf : Int} {pr2 tw2 tp2 : Nat → Int32} {t o h h2 k : Nat} {w nd : Int32} (hg : zPG S u b L C z bo to nf) (hk : k < z) (hw : (S 0 k).toInt = 6) (a : zTD S u b z pr tw tp t o h k) (eh : h = h2 + 1) (ho : 1 ≤ o) (gp : zGp pr pr2 (o - 1) (Int32.toNatClampNeg (S 1 k)) nd) (hn : nd.toInt ≠ 0 ∨ zbit (u (Int32.toNatClampNeg (S 3 k))) (Int32.toNatClampNeg (S 1 k)) = false) (h0 : w.toInt = 0) (ew : zTa tw tw2 t w) (ep : zTa tp tp2 t (S 3 k)) : zTS S u b z pr2 tw2 tp2 (t + 1) o h2 := by
  obtain ⟨-, ⟨y1, y2, y3⟩, -, hb2, -, -, -⟩ := zP_6 hg hk hw
  obtain ⟨M, h', a, hm, hd⟩ := a
  rcases hd with ⟨g, -⟩ | ⟨g, -⟩ | ⟨-, e, hd⟩ | ⟨g, -⟩
  · omega
  · omega
  · have e2 : h' = h2 := by omega
    subst e2
    refine ⟨_, zTK_w (zTK_ext a (fun _ g => g) (fun i hi => gp.1 i (by omega)) (fun _ _ => rfl) (fun _ _ => rfl)) y1 y2 y3 (fun j g => ⟨(hm j g).2.1, by rw [hb2]; exact (hm j g).2.2.2⟩) h0 ew ep, fun j g => ?_⟩
    rcases g with g | g
    · exact ⟨(hm j g).1, (hm j g).2.1, by rw [gp.2 j (hm j g).2.1, (hm j g).2.2.1]; rfl⟩
    · refine ⟨ho, g.1, ?_⟩
      rw [gp.2 j g.1]
      by_cases q : j = Int32.toNatClampNeg (S 1 k)
      · rcases hn with w | w
        · rw [q, beq_self_eq_true, decide_eq_true w, Bool.true_and, Bool.or_true]
        · rw [q] at g; rw [w] at g; exact Bool.noConfusion g.2
      · rw [(hd j g.1 q g.2).2.2]; rfl
  · omega
theorem zTD_7 {S : Nat → Nat → Int32} {u b : Nat → Int32} {z : Nat} {pr tw tp : Nat → Int32} {L C : Nat → Nat} {bo to : Nat → Int32} {nf : Int} {t o h h2 k : Nat} {x : Int32} (hg : zPG S u b L C z bo to nf) (hk : k < z) (hw : (S 0 k).toInt = 7) (a : zTD S u b z pr tw tp t o h k) (eh : h = h2 + 1) (hx : x = S 3 k ∨ x = S 4 k) : zTB S u b z pr tw tp t o h2 (Int32.toNatClampNeg x) ∧ zPoc S z x := by
  obtain ⟨-, y3, y4, -, hb3, hb4, -⟩ := zP_7 hg hk hw
  obtain ⟨M, h', a, hm, hd⟩ := a
  rcases hd with ⟨g, -⟩ | ⟨g, -⟩ | ⟨g, -⟩ | ⟨-, e, hd⟩
  · omega
  · omega
  · omega
  · have e2 : h' = h2 := by omega
    subst e2
    rcases hx with hx | hx
    · rw [hx]
      exact ⟨⟨M, a, fun j g => ⟨(hm j g).1, (hm j g).2.1, (hm j g).2.2.1, by rw [hb3]; exact (hm j g).2.2.2⟩, fun j hj g => ⟨(hd j hj (Or.inl g)).1, (hd j hj (Or.inl g)).2.2⟩⟩, y3⟩
    · rw [hx]
      exact ⟨⟨M, a, fun j g => ⟨(hm j g).1, (hm j g).2.1, (hm j g).2.2.1, by rw [hb4]; exact (hm j g).2.2.2⟩, fun j hj g => ⟨(hd j hj (Or.inr g)).1, (hd j hj (Or.inr g)).2.2⟩⟩, y4⟩
