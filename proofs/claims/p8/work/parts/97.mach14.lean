/-! one turn: from row to row -/
theorem zGo {x : Int32} {P : Nat → Prop} (h : ∃ s : Nat, x.toInt = (s : Int) ∧ P s) : 0 ≤ x.toInt ∧ P (Int32.toNatClampNeg x) := by
  obtain ⟨s, a, b⟩ := h
  have hn := zn_nat (x := x) (by omega)
  exact ⟨by omega, by rw [show Int32.toNatClampNeg x = s by omega]; exact b⟩
theorem zbh_bf {S : Nat → Nat → Int32} {nd : Nat → Int32} {ro : Int32} (h : 0 ≤ ro.toInt) : zbh S nd (Int32.toNatClampNeg ro) = zbe (S 3) nd ro := by
  unfold zbh zbe
  rw [if_neg (show ¬ ro.toInt = -1 by omega)]
theorem zfl_k {S : Nat → Nat → Int32} {kz : Int32} {kf : Nat → Int32} (e9 : S 9 = kf) (e14 : S 14 0 = kz) (k : Int32) : zfl S k = zfk kz kf k := by
  unfold zfl zfk
  rw [e9, e14]
theorem zfk_m2 {kz : Int32} {kf : Nat → Int32} {k : Int32} (h : k.toInt = -2) : zfk kz kf k = 0 := by
  unfold zfk
  rw [if_neg (by omega)]
theorem zMP_ks {n : Nat} {kz : Int32} {kf gk : Nat → Int32} {gv : Nat → Int64} {fresh : Int32} {st : Nat → Int64} {p : Nat → Bool} {sh sh2 : Nat → Int32} {sn sn2 : Int32} (h : zMP n kz kf gk gv fresh st p sh sn) (hk : 0 ≤ sn.toInt ∧ sn.toInt < 3000 ∧ sn2.toInt = sn.toInt + 1 ∧ sh2 = upd sh (Int32.toNatClampNeg sn) (-1) ∨ sn2.toInt = sn.toInt ∧ sh2 = sh) : zMP n kz kf gk gv fresh st p sh2 sn2 := by
  refine ⟨h.1, h.2.1, fun i hi => ?_⟩
  rcases hk with ⟨a, b, c, d⟩ | ⟨a, b⟩
  · rw [d]
    have hn := zn_nat a
    by_cases g : i = Int32.toNatClampNeg sn
    · rw [g, zu_s]; decide
    · rw [zu_n g]; exact h.2.2 i (by omega)
  · rw [b]; exact h.2.2 i (by omega)
theorem zV_rg {S : Nat → Nat → Int32} {nd en : Nat → Int32} {fz : Int32} {G : Nat → Nat → Int} {L : List Nat} {p : Nat → Bool} {cb ck : Nat → Int32} {on ba tp st : Int32} {r : Nat} (hw : zWk S nd en fz G L) (h : zV S nd G L p cb ck on ba tp st r) : (0 ≤ tp.toInt ∧ tp.toInt ≤ 22400) ∧ (0 ≤ ba.toInt ∧ ba.toInt ≤ tp.toInt) ∧ (1 ≤ on.toInt ∧ on.toInt ≤ 100) ∧ (0 ≤ st.toInt ∧ st.toInt ≤ 20000) ∧ tp.toInt ≤ st.toInt + 24 * on.toInt := by
  obtain ⟨v1, v2, v3, v4, v5, v6, v7, v8, -⟩ := h
  obtain ⟨w1, w2, w3, w4, w5, w6, w7⟩ := hw.1 r v1
  omega
theorem zV0_rg {S : Nat → Nat → Int32} {nd en : Nat → Int32} {fz : Int32} {G : Nat → Nat → Int} {L : List Nat} {p : Nat → Bool} {cb ck : Nat → Int32} {on ba tp st : Int32} {r : Nat} (hw : zWk S nd en fz G L) (h : zV0 S nd G L p cb ck on ba tp st r) : (0 ≤ tp.toInt ∧ tp.toInt ≤ 22400) ∧ (0 ≤ ba.toInt ∧ ba.toInt ≤ tp.toInt) ∧ (1 ≤ on.toInt ∧ on.toInt ≤ 100) ∧ (0 ≤ st.toInt ∧ st.toInt ≤ 20000) ∧ tp.toInt ≤ st.toInt + 24 * on.toInt := by
  obtain ⟨v1, v0, v2, v3, v4, v5, v6, v7, v8, -⟩ := h
  obtain ⟨w1, w2, w3, w4, w5, w6, w7⟩ := hw.1 r v1
  omega
/-- which operation stands at a row that is about to be worked -/
theorem zV_op {S : Nat → Nat → Int32} {nd en op : Nat → Int32} {fz : Int32} {G : Nat → Nat → Int} {L : List Nat} {p : Nat → Bool} {cb ck : Nat → Int32} {on ba tp st x : Int32} {r : Nat} (hw : zWk S nd en fz G L) (e0 : S 0 = op) (hx : x = op r) (h : zV S nd G L p cb ck on ba tp st r ∨ zV0 S nd G L p cb ck on ba tp st r) : (zV S nd G L p cb ck on ba tp st r ∧ 1 ≤ x.toInt ∧ x.toInt ≤ 17) ∨ (zV0 S nd G L p cb ck on ba tp st r ∧ x.toInt = 0) := by
  subst e0
  subst hx
  rcases h with h | h
  · left
    refine ⟨h, ?_⟩
    have hr := zV_rg hw h
    obtain ⟨f, po, z, -⟩ := zV_row hw h.1 (n := Int32.toNatClampNeg (S 0 r)) rfl
    obtain ⟨w1, w2, w3, w4, w5, w6, w7⟩ := hw.1 r h.1
    have h6 := h.2.2.2.2.2.1
    by_cases g : (S 0 r).toInt ≤ 0
    · exfalso
      have e : Int32.toNatClampNeg (S 0 r) = 0 := by show (S 0 r).toInt.toNat = 0; omega
      rw [e] at z
      simp only [zop] at z
      omega
    · refine ⟨by omega, ?_⟩
      have hn := zn_nat (x := S 0 r) (by omega)
      by_cases g2 : (S 0 r).toInt ≤ 17
      · exact g2
      · exfalso
        rw [show Int32.toNatClampNeg (S 0 r) = (Int32.toNatClampNeg (S 0 r) - 18) + 18 by omega] at z
        exact z
  · right
    refine ⟨h, ?_⟩
    obtain ⟨f, po, z, -⟩ := zV_row hw h.1 h.2.1
    simp only [zop] at z
    exact z.2.2.2.2.2
theorem zT_op {S : Nat → Nat → Int32} {op : Nat → Int32} {x : Int32} {r n : Nat} (e0 : S 0 = op) (hx : x = op r) (h : x.toInt = (n : Int)) : Int32.toNatClampNeg (S 0 r) = n := by
  rw [e0, ← hx]
  have := zn_nat (x := x) (by omega)
  omega
theorem zT_1 {S : Nat → Nat → Int32} {nd en nx : Nat → Int32} {fz : Int32} {G : Nat → Nat → Int} {L : List Nat} {p : Nat → Bool} {cb ck : Nat → Int32} {on ba tp st st2 mat : Int32} {r : Nat} (hw : zWk S nd en fz G L) (e3 : S 3 = nx) (h : zV S nd G L p cb ck on ba tp st r) (ho : Int32.toNatClampNeg (S 0 r) = 1) (hs : st2.toInt = st.toInt + 1) (h2 : st2.toInt ≤ 20000) (hm : mat = nx r) : 0 ≤ mat.toInt ∧ zV S nd G L p cb ck on ba tp st2 (Int32.toNatClampNeg mat) := by
  subst e3
  subst hm
  obtain ⟨f, po, z, -⟩ := zV_row hw h.1 ho
  simp only [zop] at z
  exact zGo (zV_pl hw h ho (Or.inl rfl) (by omega) (by omega) (by omega) h2 (fun _ _ g => g) (fun k hk => h.2.2.2.2.2.2.2.2.2.1 k (by omega)))
theorem zT_2 {S : Nat → Nat → Int32} {nd en nx : Nat → Int32} {fz : Int32} {G : Nat → Nat → Int} {L : List Nat} {p : Nat → Bool} {cb ck : Nat → Int32} {on ba tp st tp2 st2 mat : Int32} {r : Nat} (hw : zWk S nd en fz G L) (e3 : S 3 = nx) (h : zV S nd G L p cb ck on ba tp st r) (ho : Int32.toNatClampNeg (S 0 r) = 2 ∨ Int32.toNatClampNeg (S 0 r) = 4) (hs : st2.toInt = st.toInt + 1) (h2 : st2.toInt ≤ 20000) (ht : tp2.toInt = tp.toInt + 1) (hm : mat = nx r) : 0 ≤ mat.toInt ∧ zV S nd G L (zpA p (Int32.toNatClampNeg tp)) cb ck on ba tp2 st2 (Int32.toNatClampNeg mat) := by
  subst e3
  subst hm
  obtain ⟨w1, w2, w3, w4, w5, w6, w7⟩ := hw.1 r h.1
  have h6 := h.2.2.2.2.2.1
  have h5 := h.2.2.2.2.1
  have hba := zn_nat h5
  have htn := zn_nat (x := tp) (by omega)
  have h1 : G r 1 = G r 0 + 1 := by
    rcases ho with g | g
    · obtain ⟨f, po, z, -⟩ := zV_row hw h.1 g
      simp only [zop] at z
      exact z.1
    · obtain ⟨f, po, z, -⟩ := zV_row hw h.1 g
      simp only [zop] at z
      exact z.2.2.2.1
  refine zGo (zV_pl hw h rfl (ho.elim (fun g => by rw [g]; exact Or.inr (Or.inl rfl)) (fun g => by rw [g]; exact Or.inr (Or.inr (Or.inl rfl)))) (by omega) (by omega) (by omega) h2 (fun _ _ g => zpA_i g) (fun k hk => ?_))
  by_cases g : (k : Int) = G r 0
  · rw [show Int32.toNatClampNeg ba + (zNm S G r).toNat + k = Int32.toNatClampNeg tp by omega]; exact zpA_s
  · exact zpA_i (h.2.2.2.2.2.2.2.2.2.1 k (by omega))
theorem zT_3h {S : Nat → Nat → Int32} {nd en a : Nat → Int32} {fz : Int32} {G : Nat → Nat → Int} {L : List Nat} {p : Nat → Bool} {cb ck : Nat → Int32} {on ba tp st : Int32} {r : Nat} (hw : zWk S nd en fz G L) (e1 : S 1 = a) (h : zV S nd G L p cb ck on ba tp st r) (ho : Int32.toNatClampNeg (S 0 r) = 3) : (0 ≤ (a r).toInt ∧ (a r).toInt < 24) ∧ p (Int32.toNatClampNeg ba + Int32.toNatClampNeg (a r)) = true := by
  subst e1
  obtain ⟨w1, w2, w3, w4, w5, w6, w7⟩ := hw.1 r h.1
  obtain ⟨f, po, z, -, -, -, -, hb⟩ := zV_row hw h.1 ho
  simp only [zop] at z
  have hn := zn_nat z.1
  refine ⟨⟨z.1, by omega⟩, h.2.2.2.2.2.2.2.2.1 _ (by omega) ?_⟩
  rw [hb _ (by omega)]
  show (_ || (Int32.toNatClampNeg (S 1 r) == Int32.toNatClampNeg (S 1 r))) = true
  rw [beq_self_eq_true, Bool.or_true]
theorem zT_3 {S : Nat → Nat → Int32} {nd en a nx : Nat → Int32} {fz : Int32} {G : Nat → Nat → Int} {L : List Nat} {p p2 : Nat → Bool} {cb ck : Nat → Int32} {on ba tp st tp2 st2 mat ro : Int32} (hw : zWk S nd en fz G L) (e1 : S 1 = a) (e3 : S 3 = nx) (hr : 0 ≤ ro.toInt) (h : zV S nd G L p cb ck on ba tp st (Int32.toNatClampNeg ro)) (ho : Int32.toNatClampNeg (S 0 (Int32.toNatClampNeg ro)) = 3) (ht : tp2.toInt = tp.toInt + 1) (hs : st2.toInt = st.toInt + 1) (h2 : st2.toInt ≤ 20000) (ht2 : p2 (Int32.toNatClampNeg tp) = true) (hp : ∀ j : Nat, p j = true → j ≠ Int32.toNatClampNeg ba + Int32.toNatClampNeg (a (Int32.toNatClampNeg ro)) ∨ zbit (zbe nx nd ro) (Int32.toNatClampNeg (a (Int32.toNatClampNeg ro))) = true → p2 j = true) (hm : mat = nx (Int32.toNatClampNeg ro)) : 0 ≤ mat.toInt ∧ zV S nd G L p2 cb ck on ba tp2 st2 (Int32.toNatClampNeg mat) := by
  subst e1
  subst e3
  subst hm
  exact zGo (zV_nm hw h ho ht hs h2 ht2 (fun j hj g => hp j hj (by rw [← zbh_bf hr]; exact g)))
theorem zT_5h {S : Nat → Nat → Int32} {nd en a kf : Nat → Int32} {fz kz : Int32} {G : Nat → Nat → Int} {L : List Nat} {p : Nat → Bool} {cb ck : Nat → Int32} {on ba tp st : Int32} {r : Nat} (hw : zWk S nd en fz G L) (e1 : S 1 = a) (e9 : S 9 = kf) (e14 : S 14 0 = kz) (hx : zx 4 kf) (h : zV S nd G L p cb ck on ba tp st r) (ho : Int32.toNatClampNeg (S 0 r) = 5) : ∃ wz : Int, zfk kz kf (a r) = wz ∧ 1 ≤ wz ∧ wz ≤ 3 ∧ wz ≤ tp.toInt ∧ wz ≤ G r 0 ∧ G r 1 = G r 0 - wz + 1 ∧ ∀ k : Nat, (k : Int) < wz → p (Int32.toNatClampNeg tp - wz.toNat + k) = true := by
  subst e1
  subst e9
  subst e14
  obtain ⟨w1, w2, w3, w4, w5, w6, w7⟩ := hw.1 r h.1
  have h6 := h.2.2.2.2.2.1
  have h5 := h.2.2.2.2.1
  have hba := zn_nat h5
  have htn := zn_nat (x := tp) (by omega)
  obtain ⟨f, po, z, -⟩ := zV_row hw h.1 ho
  simp only [zop] at z
  obtain ⟨z1, z2, z3, z4, z5, z6⟩ := z
  have hk3 := (hx (Int32.toNatClampNeg (S 1 r))).2
  refine ⟨(S 9 (Int32.toNatClampNeg (S 1 r))).toInt, by unfold zfk; rw [if_pos ⟨z1, z2, by omega⟩], z3, by omega, by omega, z4, z5, fun k hk => ?_⟩
  have := h.2.2.2.2.2.2.2.2.2.1 ((G r 0).toNat - (S 9 (Int32.toNatClampNeg (S 1 r))).toInt.toNat + k) (by omega)
  rw [show Int32.toNatClampNeg ba + (zNm S G r).toNat + ((G r 0).toNat - (S 9 (Int32.toNatClampNeg (S 1 r))).toInt.toNat + k) = Int32.toNatClampNeg tp - (S 9 (Int32.toNatClampNeg (S 1 r))).toInt.toNat + k by omega] at this
  exact this
theorem zT_5 {S : Nat → Nat → Int32} {nd en nx : Nat → Int32} {fz : Int32} {G : Nat → Nat → Int} {L : List Nat} {p p2 : Nat → Bool} {cb ck : Nat → Int32} {on ba tp st tp2 mat : Int32} {r : Nat} {wz : Int} (hw : zWk S nd en fz G L) (e3 : S 3 = nx) (h : zV S nd G L p cb ck on ba tp st r) (ho : Int32.toNatClampNeg (S 0 r) = 5) (hw1 : 1 ≤ wz) (hw0 : wz ≤ G r 0) (hg1 : G r 1 = G r 0 - wz + 1) (ht : tp2.toInt = tp.toInt - wz + 1) (h1 : p2 (Int32.toNatClampNeg tp - wz.toNat) = true) (hp : ∀ j : Nat, p j = true → (j : Int) < tp.toInt - wz → p2 j = true) (hm : mat = nx r) : 0 ≤ mat.toInt ∧ zV S nd G L p2 cb ck on ba tp2 st (Int32.toNatClampNeg mat) := by
  subst e3
  subst hm
  obtain ⟨w1, w2, w3, w4, w5, w6, w7⟩ := hw.1 r h.1
  have h6 := h.2.2.2.2.2.1
  have h5 := h.2.2.2.2.1
  have hst := h.2.2.2.2.2.2.2.1
  have hba := zn_nat h5
  have htn := zn_nat (x := tp) (by omega)
  refine zGo (zV_pl hw h ho (Or.inr (Or.inr (Or.inr (Or.inl rfl)))) (by omega) (by omega) (Int.le_refl _) hst.2 (fun j hj g => hp j g (by omega)) (fun k hk => ?_))
  by_cases g : (k : Int) = G r 0 - wz
  · rw [show Int32.toNatClampNeg ba + (zNm S G r).toNat + k = Int32.toNatClampNeg tp - wz.toNat by omega]; exact h1
  · exact hp _ (h.2.2.2.2.2.2.2.2.2.1 k (by omega)) (by omega)
theorem zT_8 {S : Nat → Nat → Int32} {nd en nx : Nat → Int32} {fz : Int32} {G : Nat → Nat → Int} {L : List Nat} {p : Nat → Bool} {cb ck : Nat → Int32} {on ba tp st tp2 mat : Int32} {r n : Nat} (hw : zWk S nd en fz G L) (e3 : S 3 = nx) (h : zV S nd G L p cb ck on ba tp st r) (ho : Int32.toNatClampNeg (S 0 r) = n) (hn : n = 8 ∨ n = 9 ∨ n = 10 ∨ n = 11) (ht : tp2.toInt = tp.toInt - 1) (hm : mat = nx r) : 0 ≤ mat.toInt ∧ zV S nd G L (zpA p (Int32.toNatClampNeg tp - 2)) cb ck on ba tp2 st (Int32.toNatClampNeg mat) := by
  subst e3
  subst hm
  obtain ⟨w1, w2, w3, w4, w5, w6, w7⟩ := hw.1 r h.1
  have h6 := h.2.2.2.2.2.1
  have h5 := h.2.2.2.2.1
  have hst := h.2.2.2.2.2.2.2.1
  have hba := zn_nat h5
  have htn := zn_nat (x := tp) (by omega)
  have hz : 2 ≤ G r 0 ∧ G r 1 = G r 0 - 1 := by
    obtain ⟨f, po, z, -⟩ := zV_row hw h.1 ho
    rcases hn with g | g | g | g <;> (rw [g] at z; simp only [zop] at z; exact ⟨z.1, z.2.1⟩)
  refine zGo (zV_pl hw h ho (by rcases hn with g | g | g | g <;> simp [g]) (by omega) (by omega) (Int.le_refl _) hst.2 (fun _ _ g => zpA_i g) (fun k hk => zpA_i (h.2.2.2.2.2.2.2.2.2.1 k (by omega))))
theorem zT_8h {S : Nat → Nat → Int32} {nd en : Nat → Int32} {fz : Int32} {G : Nat → Nat → Int} {L : List Nat} {p : Nat → Bool} {cb ck : Nat → Int32} {on ba tp st : Int32} {r n : Nat} (hw : zWk S nd en fz G L) (h : zV S nd G L p cb ck on ba tp st r) (ho : Int32.toNatClampNeg (S 0 r) = n) (hn : n = 8 ∨ n = 9 ∨ n = 10 ∨ n = 11) : 2 ≤ tp.toInt := by
  obtain ⟨w1, w2, w3, w4, w5, w6, w7⟩ := hw.1 r h.1
  have h6 := h.2.2.2.2.2.1
  have h5 := h.2.2.2.2.1
  obtain ⟨f, po, z, -⟩ := zV_row hw h.1 ho
  rcases hn with g | g | g | g <;> (rw [g] at z; simp only [zop] at z; omega)
theorem zT_12h {S : Nat → Nat → Int32} {nd en a : Nat → Int32} {fz : Int32} {G : Nat → Nat → Int} {L : List Nat} {p : Nat → Bool} {cb ck : Nat → Int32} {on ba tp st : Int32} {r : Nat} (hw : zWk S nd en fz G L) (e1 : S 1 = a) (h : zV S nd G L p cb ck on ba tp st r) (ho : Int32.toNatClampNeg (S 0 r) = 12) : (0 ≤ (a r).toInt ∧ (a r).toInt < 24) ∧ 1 ≤ tp.toInt ∧ p (Int32.toNatClampNeg tp - 1) = true := by
  subst e1
  obtain ⟨w1, ⟨f', po', z', -⟩, w3, w4, w5, w6, w7⟩ := hw.1 r h.1
  have h6 := h.2.2.2.2.2.1
  have h5 := h.2.2.2.2.1
  have hba := zn_nat h5
  have htn := zn_nat (x := tp) (by omega)
  have z4 := z'.2.2.2.1
  obtain ⟨f, po, z, -, -, -, zn, -⟩ := zV_row hw h.1 ho
  simp only [zop] at z
  refine ⟨⟨by omega, by omega⟩, by omega, ?_⟩
  have := h.2.2.2.2.2.2.2.2.2.1 ((G r 0).toNat - 1) (by omega)
  rw [show Int32.toNatClampNeg ba + (zNm S G r).toNat + ((G r 0).toNat - 1) = Int32.toNatClampNeg tp - 1 by omega] at this
  exact this
theorem zT_12 {S : Nat → Nat → Int32} {nd en a nx : Nat → Int32} {fz : Int32} {G : Nat → Nat → Int} {L : List Nat} {p p2 : Nat → Bool} {cb ck : Nat → Int32} {on ba tp st tp2 mat ro : Int32} (hw : zWk S nd en fz G L) (e1 : S 1 = a) (e3 : S 3 = nx) (hr : 0 ≤ ro.toInt) (h : zV S nd G L p cb ck on ba tp st (Int32.toNatClampNeg ro)) (ho : Int32.toNatClampNeg (S 0 (Int32.toNatClampNeg ro)) = 12) (ht : tp2.toInt = tp.toInt - 1) (hs : zbit (zbe nx nd ro) (Int32.toNatClampNeg (a (Int32.toNatClampNeg ro))) = true → p2 (Int32.toNatClampNeg ba + Int32.toNatClampNeg (a (Int32.toNatClampNeg ro))) = true) (hp : ∀ j : Nat, p j = true → j ≠ Int32.toNatClampNeg ba + Int32.toNatClampNeg (a (Int32.toNatClampNeg ro)) → (j : Int) ≠ tp2.toInt → p2 j = true) (hm : mat = nx (Int32.toNatClampNeg ro)) : 0 ≤ mat.toInt ∧ zV S nd G L p2 cb ck on ba tp2 st (Int32.toNatClampNeg mat) := by
  subst e1
  subst e3
  subst hm
  exact zGo (zV_let hw h ho ht (fun g => hs (by rw [← zbh_bf hr]; exact g)) hp)
