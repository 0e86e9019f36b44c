section
/-! one turn, its ways that fork -/
theorem zT_13h {S : Nat → Nat → Int32} {nd en a nx : Nat → Int32} {fz : Int32} {G : Nat → Nat → Int} {L : List Nat} {p : Nat → Bool} {cb ck : Nat → Int32} {on ba tp st ro : Int32} (hw : zWk S nd en fz G L) (e1 : S 1 = a) (e3 : S 3 = nx) (h11 : (S 11 0).toInt ≤ 3000) (hr : 0 ≤ ro.toInt) (h : zV S nd G L p cb ck on ba tp st (Int32.toNatClampNeg ro)) (ho : Int32.toNatClampNeg (S 0 (Int32.toNatClampNeg ro)) = 13) : 1 ≤ tp.toInt ∧ (-1 ≤ (a (Int32.toNatClampNeg ro)).toInt ∧ (a (Int32.toNatClampNeg ro)).toInt < 3000) ∧ ∀ k, k < 24 → zbit (zbe nx nd ro) k = true ∨ zbit (zbe nx nd (a (Int32.toNatClampNeg ro))) k = true → p (Int32.toNatClampNeg ba + k) = true := by
  subst e1
  subst e3
  obtain ⟨w1, w2, w3, w4, w5, w6, w7⟩ := hw.1 _ h.1
  have h6 := h.2.2.2.2.2.1
  have h5 := h.2.2.2.2.1
  obtain ⟨f, po, z, hq, -, -, -, hb⟩ := zV_row hw h.1 ho
  simp only [zop] at z
  obtain ⟨z1, z2, z3, z4⟩ := z
  refine ⟨by omega, ?_, fun k hk hk2 => h.2.2.2.2.2.2.2.2.1 k (by omega) ?_⟩
  · rcases z4 with t | ⟨t1, t2, -⟩
    · omega
    · have := (hw.1 _ (hq _ t2)).1
      have := zn_nat t1
      omega
  · rw [hb k (by omega)]
    show (zbit (zbh S nd (Int32.toNatClampNeg ro)) k || zbit (zbe (S 3) nd (S 1 (Int32.toNatClampNeg ro))) k) = true
    rw [zbh_bf hr]
    rcases hk2 with g | g
    · rw [g]; rfl
    · rw [g, Bool.or_true]
theorem zT_13a {S : Nat → Nat → Int32} {nd en a nx : Nat → Int32} {fz : Int32} {G : Nat → Nat → Int} {L : List Nat} {p p2 : Nat → Bool} {cb ck : Nat → Int32} {on ba tp st tp2 mat ro mask : Int32} (hw : zWk S nd en fz G L) (e1 : S 1 = a) (e3 : S 3 = nx) (hr : 0 ≤ ro.toInt) (h : zV S nd G L p cb ck on ba tp st (Int32.toNatClampNeg ro)) (ho : Int32.toNatClampNeg (S 0 (Int32.toNatClampNeg ro)) = 13) (ht : tp2.toInt = tp.toInt - 1) (hm : ∀ k, k < 32 → zbit mask k = true → zbit (zbe nx nd (a (Int32.toNatClampNeg ro))) k = true ∧ zbit (zbe nx nd ro) k = false) (hp : ∀ j : Nat, p j = true → (∀ k, k < 24 → zbit mask k = true → j ≠ Int32.toNatClampNeg ba + k) → p2 j = true) (hmt : mat = nx (Int32.toNatClampNeg ro)) : 0 ≤ mat.toInt ∧ zV S nd G L p2 cb ck on ba tp2 st (Int32.toNatClampNeg mat) := by
  subst e1
  subst e3
  subst hmt
  obtain ⟨s, c1, c2, c3, c4, c5⟩ := zV_nx hw h.1 (by rw [ho]; decide)
  obtain ⟨f, po, z, hq, -, -, -, hb⟩ := zV_row hw h.1 ho
  simp only [zop] at z
  obtain ⟨z1, z2, z3, z4⟩ := z
  have hbe : zbe (S 3) nd ro = nd s := by rw [← zbh_bf hr]; exact c5
  refine zGo ⟨s, c1, zV_br hw h c2 c4 (by omega) (by omega) (fun k hk hk2 => ?_) (fun k hk hk2 => ?_) hp⟩
  · rw [hb k hk]
    show (zbit (zbh S nd (Int32.toNatClampNeg ro)) k || _) = true
    rw [c5, hk2]; rfl
  · have u := hm k (by omega) hk2
    rw [hbe] at u
    refine ⟨?_, u.2⟩
    rw [hb k (by omega)]
    show (_ || zbit (zbe (S 3) nd (S 1 (Int32.toNatClampNeg ro))) k) = true
    rw [u.1, Bool.or_true]
theorem zT_tg {S : Nat → Nat → Int32} {nd en : Nat → Int32} {fz : Int32} {G : Nat → Nat → Int} {L : List Nat} {p : Nat → Bool} {cb ck : Nat → Int32} {on ba tp st : Int32} {r : Nat} {po : List Nat} {hh : Int} (hw : zWk S nd en fz G L) (h : zV S nd G L p cb ck on ba tp st r) (hq : ∀ q ∈ r :: po, q ∈ L) (hne : (S 1 r).toInt ≠ -1) (t : ztg S G r po hh) : ∃ s : Nat, (S 3 (Int32.toNatClampNeg (S 1 r))).toInt = (s : Int) ∧ s ∈ L ∧ G s 0 = hh ∧ G s 4 = G r 4 ∧ zbe (S 3) nd (S 1 r) = nd s := by
  obtain ⟨w1, w2, w3, w4, w5, w6, w7⟩ := hw.1 _ h.1
  obtain ⟨t1, t2, t3, t4, t5⟩ := t.resolve_left hne
  obtain ⟨s, c1, c2, c3, c4, c5⟩ := zV_tg hw t1 (hq _ t2) (by omega)
  exact ⟨s, c1, c2, by omega, by omega, c5⟩
theorem zT_13b {S : Nat → Nat → Int32} {nd en a nx : Nat → Int32} {fz : Int32} {G : Nat → Nat → Int} {L : List Nat} {p p2 : Nat → Bool} {cb ck : Nat → Int32} {on ba tp st tp2 mat ro mask : Int32} (hw : zWk S nd en fz G L) (e1 : S 1 = a) (e3 : S 3 = nx) (hr : 0 ≤ ro.toInt) (h : zV S nd G L p cb ck on ba tp st (Int32.toNatClampNeg ro)) (ho : Int32.toNatClampNeg (S 0 (Int32.toNatClampNeg ro)) = 13) (ht : tp2.toInt = tp.toInt - 1) (hm : ∀ k, k < 32 → zbit mask k = true → zbit (zbe nx nd ro) k = true ∧ zbit (zbe nx nd (a (Int32.toNatClampNeg ro))) k = false) (hp : ∀ j : Nat, p j = true → (∀ k, k < 24 → zbit mask k = true → j ≠ Int32.toNatClampNeg ba + k) → p2 j = true) (hmt : (a (Int32.toNatClampNeg ro)).toInt = -1 ∧ mat.toInt = -1 ∨ (a (Int32.toNatClampNeg ro)).toInt ≠ -1 ∧ mat = nx (Int32.toNatClampNeg (a (Int32.toNatClampNeg ro)))) : mat.toInt = -1 ∨ 0 ≤ mat.toInt ∧ zV S nd G L p2 cb ck on ba tp2 st (Int32.toNatClampNeg mat) := by
  subst e1
  subst e3
  rcases hmt with u | ⟨u1, u2⟩
  · exact Or.inl u.2
  right
  subst u2
  obtain ⟨f, po, z, hq, -, -, -, hb⟩ := zV_row hw h.1 ho
  simp only [zop] at z
  obtain ⟨z1, z2, z3, z4⟩ := z
  obtain ⟨s, c1, c2, c3, c4, c5⟩ := zT_tg hw h hq u1 z4
  refine zGo ⟨s, c1, zV_br hw h c2 c4 (by omega) (by omega) (fun k hk hk2 => ?_) (fun k hk hk2 => ?_) hp⟩
  · rw [hb k hk]
    show (_ || zbit (zbe (S 3) nd (S 1 (Int32.toNatClampNeg ro))) k) = true
    rw [c5, hk2, Bool.or_true]
  · have u := hm k (by omega) hk2
    rw [c5] at u
    refine ⟨?_, u.2⟩
    rw [hb k (by omega)]
    show (zbit (zbh S nd (Int32.toNatClampNeg ro)) k || _) = true
    rw [zbh_bf hr, u.1]; rfl
theorem zT_14h {S : Nat → Nat → Int32} {nd en a : Nat → Int32} {fz : Int32} {G : Nat → Nat → Int} {L : List Nat} {p : Nat → Bool} {cb ck : Nat → Int32} {on ba tp st : Int32} {r n : Nat} (hw : zWk S nd en fz G L) (e1 : S 1 = a) (h11 : (S 11 0).toInt ≤ 3000) (h : zV S nd G L p cb ck on ba tp st r) (ho : Int32.toNatClampNeg (S 0 r) = n) (hn : n = 14 ∨ n = 16) : -1 ≤ (a r).toInt ∧ (a r).toInt < 3000 := by
  subst e1
  obtain ⟨f, po, z, hq, -, -, -, -⟩ := zV_row hw h.1 ho
  have t : ztg S G r po (G r 0) := by rcases hn with g | g <;> (rw [g] at z; simp only [zop] at z; exact z)
  rcases t with t | ⟨t1, t2, -⟩
  · omega
  · have := (hw.1 _ (hq _ t2)).1
    have := zn_nat t1
    omega
theorem zT_14 {S : Nat → Nat → Int32} {nd en a nx : Nat → Int32} {fz : Int32} {G : Nat → Nat → Int} {L : List Nat} {p : Nat → Bool} {cb ck : Nat → Int32} {on ba tp st mat : Int32} {r n : Nat} (hw : zWk S nd en fz G L) (e1 : S 1 = a) (e3 : S 3 = nx) (h : zV S nd G L p cb ck on ba tp st r) (ho : Int32.toNatClampNeg (S 0 r) = n) (hn : n = 14 ∨ n = 16) (hmt : (a r).toInt = -1 ∧ mat.toInt = -1 ∨ (a r).toInt ≠ -1 ∧ mat = nx (Int32.toNatClampNeg (a r))) : mat.toInt = -1 ∨ 0 ≤ mat.toInt ∧ zV S nd G L p cb ck on ba tp st (Int32.toNatClampNeg mat) := by
  subst e1
  subst e3
  rcases hmt with u | ⟨u1, u2⟩
  · exact Or.inl u.2
  right
  subst u2
  obtain ⟨f, po, z, hq, -, -, -, hb⟩ := zV_row hw h.1 ho
  have t : ztg S G r po (G r 0) := by rcases hn with g | g <;> (rw [g] at z; simp only [zop] at z; exact z)
  obtain ⟨s, c1, c2, c3, c4, c5⟩ := zT_tg hw h hq u1 t
  refine zGo ⟨s, c1, zV_br (mask := 0) hw h c2 c4 (by omega) (by omega) (fun k hk hk2 => ?_) (fun k hk hk2 => ?_) (fun j hj _ => hj)⟩
  · rw [hb k hk]
    rcases hn with g | g <;> (rw [g]; show zbit (zbe (S 3) nd (S 1 r)) k = true; rw [c5]; exact hk2)
  · rw [zbit_z (by omega)] at hk2; exact Bool.noConfusion hk2
theorem zT_15h {S : Nat → Nat → Int32} {nd en a b nx ak an bf fs kf : Nat → Int32} {fz kz : Int32} {G : Nat → Nat → Int} {L : List Nat} {p : Nat → Bool} {cb ck : Nat → Int32} {on ba tp st : Int32} {r : Nat} (hw : zWk S nd en fz G L) (e1 : S 1 = a) (e2 : S 2 = b) (e3 : S 3 = nx) (e4 : S 4 = ak) (e5 : S 5 = an) (e6 : S 6 = bf) (e8 : S 8 = fs) (e9 : S 9 = kf) (e14 : S 14 0 = kz) (h11 : (S 11 0).toInt ≤ 3000) (h13 : (S 13 0).toInt ≤ 400) (h : zV S nd G L p cb ck on ba tp st r) (ho : Int32.toNatClampNeg (S 0 r) = 15) : ((0 ≤ (a r).toInt ∧ (a r).toInt < 24) ∧ (a r).toInt < G r 2 ∧ p (Int32.toNatClampNeg ba + Int32.toNatClampNeg (a r)) = true ∧ ∀ k, k < 24 → zbit (nd r) k = true → p (Int32.toNatClampNeg ba + k) = true) ∧ ∃ gA : List Nat, gA.length ≤ 8 ∧ zli an (b r) gA ∧ (∀ ma ∈ gA, ma < 400 ∧ (0 ≤ (bf ma).toInt ∧ (bf ma).toInt < 3000) ∧ (fs ma).toInt = G r 2 ∧ G r 2 + zfk kz kf (ak ma) ≤ 24 ∧ ((ak ma).toInt = -2 ∨ 0 ≤ (ak ma).toInt)) ∧ ∀ ma ∈ gA, ∃ s : Nat, (nx (Int32.toNatClampNeg (bf ma))).toInt = (s : Int) ∧ s ∈ L ∧ G s 0 = G r 0 ∧ G s 4 = G r 4 ∧ zbe nx nd (bf ma) = nd s := by
  subst e1 e2 e3 e4 e5 e6 e8 e9 e14
  obtain ⟨q1, q2, q3, q4, -⟩ := zV_mr hw h ho
  obtain ⟨w1, w2, w3, w4, w5, w6, w7⟩ := hw.1 r h.1
  obtain ⟨f, po, z, hq, zf, -, zn, hb⟩ := zV_row hw h.1 ho
  simp only [zop] at z
  obtain ⟨z1, z2, AL, z3, z4, z5⟩ := z
  have za := zn_nat q1
  refine ⟨⟨⟨q1, by omega⟩, q2, h.2.2.2.2.2.2.2.2.1 _ (by omega) q4, fun k hk hk2 => h.2.2.2.2.2.2.2.2.1 k (by omega) hk2⟩, AL, z3, z4, fun m hm => ?_, fun m hm => ?_⟩
  · obtain ⟨m1, m2, m3, m4, m5, m6, m7, m8, m9, m10⟩ := z5 m hm
    have := (hw.1 _ (hq _ m7)).1
    have hn6 := zn_nat m6
    refine ⟨by omega, ⟨m6, by omega⟩, m4, by rw [← zfl_k rfl rfl]; omega, ?_⟩
    rcases m3 with u | u
    · exact Or.inl u
    · exact Or.inr u.1
  · obtain ⟨m1, m2, m3, m4, m5, m6, m7, m8, m9, m10⟩ := z5 m hm
    obtain ⟨s, c1, c2, c3, c4, c5⟩ := zV_tg hw m6 (hq _ m7) (by omega)
    exact ⟨s, c1, c2, by omega, by omega, c5⟩
theorem zT_15 {S : Nat → Nat → Int32} {nd en a b nx ak an bf fs kf : Nat → Int32} {fz kz : Int32} {G : Nat → Nat → Int} {L : List Nat} {p p2 : Nat → Bool} {cb ck : Nat → Int32} {on ba tp st mask mat : Int32} {r ma : Nat} {gA : List Nat} (hw : zWk S nd en fz G L) (e1 : S 1 = a) (e2 : S 2 = b) (e3 : S 3 = nx) (e4 : S 4 = ak) (e5 : S 5 = an) (e6 : S 6 = bf) (e8 : S 8 = fs) (e9 : S 9 = kf) (e14 : S 14 0 = kz) (h : zV S nd G L p cb ck on ba tp st r) (ho : Int32.toNatClampNeg (S 0 r) = 15) (hA : gA.length ≤ 8) (hli : zli an (b r) gA) (hfs : (fs ma).toInt = G r 2) (hs : ∃ s : Nat, (nx (Int32.toNatClampNeg (bf ma))).toInt = (s : Int) ∧ s ∈ L ∧ G s 0 = G r 0 ∧ G s 4 = G r 4 ∧ zbe nx nd (bf ma) = nd s) (hmA : ma ∈ gA) (hmt : mat = nx (Int32.toNatClampNeg (bf ma))) (hm : ∀ k, k < 32 → zbit mask k = true → zbit (nd r) k = true ∧ zbit (zbe nx nd (bf ma)) k = false) (hp : ∀ j : Nat, p j = true → j ≠ Int32.toNatClampNeg ba + Int32.toNatClampNeg (a r) ∨ zbit (zbe nx nd (bf ma)) (Int32.toNatClampNeg (a r)) = true → (∀ k, k < 24 → zbit mask k = true → j ≠ Int32.toNatClampNeg ba + k) → p2 j = true) (hf : ∀ i : Nat, (i : Int) < zfk kz kf (ak ma) → zbit (zbe nx nd (bf ma)) (Int32.toNatClampNeg (fs ma) + i) = true → p2 (Int32.toNatClampNeg ba + Int32.toNatClampNeg (fs ma) + i) = true) : 0 ≤ mat.toInt ∧ zV S nd G L p2 cb ck on ba tp st (Int32.toNatClampNeg mat) := by
  subst e1 e2 e3 e4 e5 e6 e8 e9 e14 hmt
  obtain ⟨s, c1, c2, c3, c4, c5⟩ := hs
  rw [c5] at hm hp hf
  exact zGo ⟨s, c1, zV_mt hw h ho hA hli hmA hfs c2 c3 c4 c5 (fun k hk => hm k (by omega)) hp (fun i hi => hf i (by rw [← zfl_k rfl rfl]; exact hi))⟩
theorem zT_0h {S : Nat → Nat → Int32} {nd en a ff : Nat → Int32} {fz : Int32} {G : Nat → Nat → Int} {L : List Nat} {p : Nat → Bool} {cb ck : Nat → Int32} {on ba tp st : Int32} {r : Nat} (hw : zWk S nd en fz G L) (e1 : S 1 = a) (e10 : S 10 = ff) (h : zV0 S nd G L p cb ck on ba tp st r) : (0 ≤ (a r).toInt ∧ (a r).toInt < fz.toInt) ∧ (0 ≤ (ff (5 * Int32.toNatClampNeg (a r))).toInt ∧ (ff (5 * Int32.toNatClampNeg (a r))).toInt ≤ 6) ∧ ∀ k : Nat, (k : Int) < (ff (5 * Int32.toNatClampNeg (a r))).toInt → p (Int32.toNatClampNeg ba + k) = true := by
  subst e1 e10
  obtain ⟨f, po, z, hq, zf, zl, zn, hb⟩ := zV_row hw h.1 h.2.1
  simp only [zop] at z
  obtain ⟨z1, z2, z3, z4, z5, z6⟩ := z
  have hn := zn_nat (x := S 1 r) (by omega)
  have t := hw.2.2.2.2.2.1 f zl
  have e : Int32.toNatClampNeg (S 1 r) = f := by omega
  rw [e]
  refine ⟨by omega, ⟨t.1, t.2.1⟩, fun k hk => h.2.2.2.2.2.2.2.2.2.1 k ?_⟩
  rw [zf]; exact hk
theorem zT_0 {S : Nat → Nat → Int32} {nd en nx : Nat → Int32} {fz : Int32} {G : Nat → Nat → Int} {L : List Nat} {p p2 : Nat → Bool} {cb ck : Nat → Int32} {on ba tp st mask mat ro : Int32} (hw : zWk S nd en fz G L) (e3 : S 3 = nx) (hr : 0 ≤ ro.toInt) (h : zV0 S nd G L p cb ck on ba tp st (Int32.toNatClampNeg ro)) (hm : ∀ k, k < 32 → zbit mask k = true → zbit (zbe nx nd ro) k = false) (hp : ∀ j : Nat, p j = true → (∀ k, k < 24 → zbit mask k = true → j ≠ Int32.toNatClampNeg ba + k) → p2 j = true) (hmt : mat = nx (Int32.toNatClampNeg ro)) : 0 ≤ mat.toInt ∧ zV S nd G L p2 cb ck on ba tp st (Int32.toNatClampNeg mat) := by
  subst e3 hmt
  exact zGo (zV_en hw h (fun k hk g => by rw [zbh_bf hr]; exact hm k (by omega) g) hp)
theorem zT_6h {S : Nat → Nat → Int32} {nd en a ff : Nat → Int32} {fz : Int32} {G : Nat → Nat → Int} {L : List Nat} {p : Nat → Bool} {cb ck : Nat → Int32} {on ba tp st : Int32} {r : Nat} (hw : zWk S nd en fz G L) (e1 : S 1 = a) (e10 : S 10 = ff) (h : zV S nd G L p cb ck on ba tp st r) (ho : Int32.toNatClampNeg (S 0 r) = 6 ∨ Int32.toNatClampNeg (S 0 r) = 7) : (0 ≤ (a r).toInt ∧ (a r).toInt < fz.toInt) ∧ ∃ td nmz : Int, (ff (5 * Int32.toNatClampNeg (a r))).toInt = td ∧ (ff (5 * Int32.toNatClampNeg (a r) + 1)).toInt = nmz ∧ 0 ≤ td ∧ td ≤ tp.toInt ∧ 0 ≤ nmz ∧ nmz ≤ 24 ∧ td = (S 2 r).toInt := by
  subst e1 e10
  obtain ⟨w1, w2, w3, w4, w5, w6, w7⟩ := hw.1 r h.1
  have h6 := h.2.2.2.2.2.1
  have h5 := h.2.2.2.2.1
  obtain ⟨c1, c2, c3⟩ := hw.2.2.2.2.2.2 r h.1 ho
  have hf2 := zn_nat c1
  obtain ⟨t1, t2, t3, t4⟩ := hw.2.2.2.2.2.1 (Int32.toNatClampNeg (S 1 r)) (by omega)
  have hb : (S 2 r).toInt ≤ G r 0 := by
    rcases ho with g | g
    · obtain ⟨f, po, z, -⟩ := zV_row hw h.1 g
      simp only [zop] at z
      exact z.2.1
    · obtain ⟨f, po, z, -⟩ := zV_row hw h.1 g
      simp only [zop] at z
      exact z.2.1
  have e : (S 10 (5 * Int32.toNatClampNeg (S 1 r))).toInt = (S 2 r).toInt := by rw [c3]
  exact ⟨⟨c1, c2⟩, _, _, rfl, rfl, t1, by omega, by omega, by omega, e⟩
theorem zT_6 {S : Nat → Nat → Int32} {nd en a nx ff : Nat → Int32} {fz : Int32} {G : Nat → Nat → Int} {L : List Nat} {p : Nat → Bool} {cb ck cb2 ck2 : Nat → Int32} {on ba tp st st2 on2 ba2 tp2 mat : Int32} {r : Nat} {td nmz : Int} (hw : zWk S nd en fz G L) (e1 : S 1 = a) (e3 : S 3 = nx) (e10 : S 10 = ff) (h : zV S nd G L p cb ck on ba tp st r) (ho : Int32.toNatClampNeg (S 0 r) = 6 ∨ Int32.toNatClampNeg (S 0 r) = 7) (hs : st2.toInt = st.toInt + 1 ∨ Int32.toNatClampNeg (S 0 r) = 7 ∧ st2.toInt = st.toInt) (hs2 : st2.toInt ≤ 20000) (htd : td = (S 2 r).toInt) (hnm : (ff (5 * Int32.toNatClampNeg (a r) + 1)).toInt = nmz) (hc : on.toInt < 100 ∧ on2.toInt = on.toInt + 1 ∧ ba2.toInt = tp.toInt - td ∧ tp2.toInt = ba2.toInt + nmz) (ecb : cb2 = upd cb (Int32.toNatClampNeg on) ba2) (eck : ck2 = upd ck (Int32.toNatClampNeg on) (nx r)) (hm : mat = en (Int32.toNatClampNeg (a r))) : 0 ≤ mat.toInt ∧ zV0 S nd G L p cb2 ck2 on2 ba2 tp2 st2 (Int32.toNatClampNeg mat) := by
  subst e1 e3 e10 hm
  have hst : st.toInt ≤ st2.toInt := by omega
  have h6 := h.2.2.2.2.2.2.1
  have hv := zV_go (p2 := p) (tp2 := tp) (st2 := st2) hw h h.1 rfl (by omega) (by omega) hst hs2 h.2.2.2.2.2.2.2.2.1 h.2.2.2.2.2.2.2.2.2.1 (fun _ _ g => g)
  exact zV_call hw hv ho (hs.elim (fun g => Or.inr (by omega)) (fun g => Or.inl g.1)) hc.1 (by omega) (by omega) hc.2.1 ecb eck
theorem zT_17h {S : Nat → Nat → Int32} {nd en : Nat → Int32} {fz : Int32} {G : Nat → Nat → Int} {L : List Nat} {p : Nat → Bool} {cb ck : Nat → Int32} {on ba tp st : Int32} {r : Nat} (hw : zWk S nd en fz G L) (h : zV S nd G L p cb ck on ba tp st r) (ho : Int32.toNatClampNeg (S 0 r) = 17) : 1 ≤ tp.toInt ∧ ba.toInt < tp.toInt ∧ p (Int32.toNatClampNeg tp - 1) = true ∧ ba.toInt ≤ tp.toInt - 1 := by
  obtain ⟨w1, w2, w3, w4, w5, w6, w7⟩ := hw.1 r h.1
  have h6 := h.2.2.2.2.2.1
  have h5 := h.2.2.2.2.1
  have hba := zn_nat h5
  have htn := zn_nat (x := tp) (by omega)
  obtain ⟨f, po, z, -⟩ := zV_row hw h.1 ho
  simp only [zop] at z
  refine ⟨by omega, by omega, ?_, by omega⟩
  have := h.2.2.2.2.2.2.2.2.2.1 ((G r 0).toNat - 1) (by omega)
  rw [show Int32.toNatClampNeg ba + (zNm S G r).toNat + ((G r 0).toNat - 1) = Int32.toNatClampNeg tp - 1 by omega] at this
  exact this
theorem zT_17 {S : Nat → Nat → Int32} {nd en : Nat → Int32} {fz : Int32} {G : Nat → Nat → Int} {L : List Nat} {p : Nat → Bool} {cb ck : Nat → Int32} {on ba tp st on2 ba2 tp2 mat : Int32} {r : Nat} (hw : zWk S nd en fz G L) (h : zV S nd G L p cb ck on ba tp st r) (ho : Int32.toNatClampNeg (S 0 r) = 17) (h1 : 1 < on.toInt) (hon2 : on2.toInt = on.toInt - 1) (ht : tp2.toInt = ba.toInt + 1) (hm : mat = ck (Int32.toNatClampNeg on2)) (hb : ba2 = cb (Int32.toNatClampNeg on2 - 1)) : 0 ≤ mat.toInt ∧ zV S nd G L (zpA (zpR p (Int32.toNatClampNeg tp - 1)) (Int32.toNatClampNeg ba)) cb ck on2 ba2 tp2 st (Int32.toNatClampNeg mat) := by
  subst hm
  have q := zT_17h hw h ho
  have hba := zn_nat h.2.2.2.2.1
  have htn := zn_nat (x := tp) (by omega)
  exact zGo (zV_ret hw h hon2 (by omega) hb ht (fun j hj g => zpA_i ((zpR_n (by omega)).trans g)) zpA_s)
/-- a run's value: its cells are counted -/
def zRes (kz : Int32) (kf gk gc : Nat → Int32) (gv : Nat → Int64) (fresh ff held dbl : Int32) (re : Int64) : Prop :=
  ∃ (lv : Nat → Bool) (FL : List Nat), zCS (zwd kz kf gk) gc gv fresh ff held dbl lv (fun c => zr re c) FL [] (-1) ∧ (∀ c, lv c = true → ∀ k, k < zwd kz kf gk c → zvk kz kf (gv (3 * c + k))) ∧ zvk kz kf re
theorem zMD_re {n : Nat} {kz : Int32} {kf gk gc : Nat → Int32} {gv : Nat → Int64} {fresh ff held dbl : Int32} {st : Nat → Int64} {p : Nat → Bool} {sh : Nat → Int32} {sn : Int32} {j : Nat} {re : Int64} (h : zMD n kz kf gk gc gv fresh ff held dbl st p sh sn) (hj : p j = true) (e : re = st j) : zRes kz kf gk gc gv fresh ff held dbl re := by
  obtain ⟨lv, FL, a, b, c, -⟩ := h
  subst e
  refine ⟨lv, FL, zCS_mono a (fun _ => zr_0 _ _) (fun y => ?_), b, (c j hj).2⟩
  have := zRS_rm (n := n) (st := st) (c j hj).1 hj y
  have := zRS_0 (n := n) (st := st) (p := zpR p j) (c := y)
  show zr (st j) y ≤ zRS n st p y + 0
  omega
/-- a plain run's value -/
def zRep (kz : Int32) (kf gk : Nat → Int32) (gv : Nat → Int64) (fresh : Int32) (re : Int64) : Prop :=
  zgq fresh kz kf re ∧ (∀ c : Nat, (c : Int) < fresh.toInt → ∀ k, k < zwd kz kf gk c → zgq fresh kz kf (gv (3 * c + k))) ∧ fresh.toInt ≤ 4000
/-! one turn of the plain machine, as the class's methods say it -/
def cRn (S : Nat → Nat → Int32) (nx : Nat → Int32) (H : Int32 → Int64 → Prop) (az : Int) (z : Nat) (kz : Int32) (kf : Nat → Int32) (F : sp_F) (al : Nat) (s0 : pm_S) (gs : Nat → Int64) (kb kk gk : Nat → Int32) (gv : Nat → Int64) (on ba tp st fr x : Int32) (i : Int) : Prop := st.toInt ≤ (al : Int) ∧ ∃ s, pm_re F al s0 s ∧ cSm S nx H az z kz kf gs kb kk gk gv on ba tp st fr x i s
/-- it has ended with mh at the place q -/
def cEn (F : sp_F) (al : Nat) (s0 : pm_S) (mh : Int32) (q : Int) : Prop := ∃ h : Nat, mh.toInt = (h : Int) ∧ pm_ou F al s0 (h, if h = 1 then -1 else q)
/-- it has ended with mh, and the place is told -/
def cEv (F : sp_F) (al : Nat) (s0 : pm_S) (mh sp : Int32) : Prop := ∃ h : Nat, mh.toInt = (h : Int) ∧ pm_ou F al s0 (h, sp.toInt)
def cOu (S : Nat → Nat → Int32) (nx : Nat → Int32) (H : Int32 → Int64 → Prop) (az : Int) (z : Nat) (kz : Int32) (kf : Nat → Int32) (F : sp_F) (al : Nat) (s0 : pm_S) (gs : Nat → Int64) (kb kk gk : Nat → Int32) (gv : Nat → Int64) (on ba tp st fr x : Int32) (i : Int) (mh : Int32) (q : Int) : Prop := mh.toInt ≠ 0 ∧ cEn F al s0 mh q ∨ mh.toInt = 0 ∧ cRn S nx H az z kz kf F al s0 gs kb kk gk gv on ba tp st fr x i
def cOv (S : Nat → Nat → Int32) (nx : Nat → Int32) (H : Int32 → Int64 → Prop) (az : Int) (z : Nat) (kz : Int32) (kf : Nat → Int32) (F : sp_F) (al : Nat) (s0 : pm_S) (gs : Nat → Int64) (kb kk gk : Nat → Int32) (gv : Nat → Int64) (on ba tp st fr x : Int32) (i : Int) (mh sp : Int32) : Prop := mh.toInt ≠ 0 ∧ cEv F al s0 mh sp ∨ mh.toInt = 0 ∧ sp.toInt = -1 ∧ cRn S nx H az z kz kf F al s0 gs kb kk gk gv on ba tp st fr x i
def cEq (S : Nat → Nat → Int32) (op a b ak an ab af : Nat → Int32) : Prop := S 0 = op ∧ S 1 = a ∧ S 2 = b ∧ S 4 = ak ∧ S 5 = an ∧ S 6 = ab ∧ S 8 = af
theorem pm_ou_t {F : sp_F} {al : Nat} {s s2 : pm_S} {e : Nat × Int} (h : pm_re F al s s2) (h2 : pm_ou F al s2 e) : pm_ou F al s e := by
  obtain ⟨n, h⟩ := h
  obtain ⟨k, h2⟩ := h2
  refine ⟨n + k, ?_⟩
  revert s
  induction n with
  | zero => intro s h; cases h; rw [Nat.zero_add]; exact h2
  | succ n ih =>
    intro s h
    rw [show n + 1 + k = (n + k) + 1 from by omega]
    unfold pm_it at h ⊢
    cases g : pm_st F al s with
    | ok a => rw [g] at h; exact ih h
    | error e2 => rw [g] at h; cases h
theorem pm_re_t {F : sp_F} {al : Nat} {s s2 s3 : pm_S} (h : pm_re F al s s2) (h2 : pm_re F al s2 s3) : pm_re F al s s3 := by
  obtain ⟨n, h⟩ := h
  obtain ⟨k, h2⟩ := h2
  refine ⟨n + k, ?_⟩
  revert s
  induction n with
  | zero => intro s h; cases h; rw [Nat.zero_add]; exact h2
  | succ n ih =>
    intro s h
    rw [show n + 1 + k = (n + k) + 1 from by omega]
    unfold pm_it at h ⊢
    cases g : pm_st F al s with
    | ok a => rw [g] at h; exact ih h
    | error e2 => rw [g] at h; cases h
theorem cOv_0 {S : Nat → Nat → Int32} {nx : Nat → Int32} {H : Int32 → Int64 → Prop} {az : Int} {z : Nat} {kz : Int32} {kf : Nat → Int32} {F : sp_F} {al : Nat} {s0 : pm_S} {gs : Nat → Int64} {kb kk gk : Nat → Int32} {gv : Nat → Int64} {on ba tp st fr x mh sp : Int32} {i q : Int} (h : cOu S nx H az z kz kf F al s0 gs kb kk gk gv on ba tp st fr x i mh q) (h0 : mh.toInt = 0) (h1 : sp.toInt = -1) : cOv S nx H az z kz kf F al s0 gs kb kk gk gv on ba tp st fr x i mh sp := Or.inr ⟨h0, h1, (h.resolve_left (fun u => u.1 h0)).2⟩
theorem cOv_of {S : Nat → Nat → Int32} {nx : Nat → Int32} {H : Int32 → Int64 → Prop} {az : Int} {z : Nat} {kz : Int32} {kf : Nat → Int32} {F : sp_F} {al : Nat} {s0 : pm_S} {gs : Nat → Int64} {kb kk gk : Nat → Int32} {gv : Nat → Int64} {on ba tp st fr x mh sp sp2 pl : Int32} {i q : Int} (h : cOu S nx H az z kz kf F al s0 gs kb kk gk gv on ba tp st fr x i mh q) (hs : cSq pl sp sp2 mh) (h1 : sp.toInt = -1) (hq : q = pl.toInt) : cOv S nx H az z kz kf F al s0 gs kb kk gk gv on ba tp st fr x i mh sp2 := by
  rcases h with ⟨h0, h, e, g⟩ | ⟨h0, g⟩
  · refine Or.inl ⟨h0, h, e, ?_⟩
    rcases hs with ⟨s1, s2, s3⟩ | ⟨s1, s2⟩
    · rw [s3, ← hq]; rw [if_neg (by omega)] at g; exact g
    · rw [s2, h1]; rw [if_pos (by omega)] at g; exact g
  · refine Or.inr ⟨h0, ?_, g⟩
    rcases hs with ⟨s1, -⟩ | ⟨-, s2⟩
    · exact absurd h0 s1
    · rw [s2]; exact h1
section
variable {S : Nat → Nat → Int32} {nx op a b ak an ab af : Nat → Int32} {H : Int32 → Int64 → Prop} {az : Int} {z : Nat} {kz : Int32} {kf en ff : Nat → Int32} {F : sp_F} {al : Nat} {s0 : pm_S} {gs gs2 : Nat → Int64} {kb kk kb2 kk2 gk gk2 : Nat → Int32} {gv gv2 : Nat → Int64} {on ba tp st fr on2 ba2 tp2 st2 fr2 ro x2 mh mh2 alw mat1 : Int32} {i : Int}
theorem cEn_of {s : pm_S} {h : Nat} {q : Int} (g : pm_re F al s0 s) (g2 : pm_ou F al s (h, q)) (e : mh2.toInt = (h : Int)) (h0 : 2 ≤ h) : cOu S nx H az z kz kf F al s0 gs2 kb2 kk2 gk2 gv2 on2 ba2 tp2 st2 fr2 x2 i mh2 q := Or.inl ⟨by omega, h, e, by rw [if_neg (by omega)]; exact pm_ou_t g g2⟩
theorem cEn_1 {s : pm_S} {q : Int} (g : pm_re F al s0 s) (g2 : pm_ou F al s (1, -1)) (e : mh2.toInt = 1) : cOu S nx H az z kz kf F al s0 gs2 kb2 kk2 gk2 gv2 on2 ba2 tp2 st2 fr2 x2 i mh2 q := Or.inl ⟨by omega, 1, e, by rw [if_pos rfl]; exact pm_ou_t g g2⟩
theorem ct_si (E : cEq S op a b ak an ab af) (h : cRn S nx H az z kz kf F al s0 gs kb kk gk gv on ba tp st fr ro i) (h0 : 0 ≤ ro.toInt) (ho : (op (Int32.toNatClampNeg ro)).toInt = 0 ∧ x2 = nx (Int32.toNatClampNeg ro) ∨ ((op (Int32.toNatClampNeg ro)).toInt = 14 ∨ (op (Int32.toNatClampNeg ro)).toInt = 16) ∧ ((a (Int32.toNatClampNeg ro)).toInt = -1 ∧ x2.toInt = -1 ∨ (a (Int32.toNatClampNeg ro)).toInt ≠ -1 ∧ x2 = nx (Int32.toNatClampNeg (a (Int32.toNatClampNeg ro))))) (hmh : mh.toInt = 0) : cOu S nx H az z kz kf F al s0 gs kb kk gk gv on ba tp st fr x2 (i + 1) mh (S 3 (Int32.toNatClampNeg ro)).toInt := by
  obtain ⟨rfl, rfl, rfl, rfl, rfl, rfl, rfl⟩ := E
  obtain ⟨h1, s, h2, h3⟩ := h
  refine Or.inr ⟨hmh, h1, s, h2, cs_si h3 (zn_nat h0).symm ?_ ?_ ?_⟩
  · rcases ho with ho | ho
    · exact Or.inl ho.1
    · exact Or.inr ho.1
  · intro g
    rcases ho with ho | ho
    · exact ho.2
    · omega
  · intro g g2
    rcases ho with ho | ho
    · omega
    · rcases ho.2 with u | u
      · omega
      · exact u.2
theorem ct_1 {r : Int32} (E : cEq S op a b ak an ab af) (h : cRn S nx H az z kz kf F al s0 gs kb kk gk gv on ba tp st fr ro i) (h0 : 0 ≤ ro.toInt) (ho : (op (Int32.toNatClampNeg ro)).toInt = 1) (ha : alw.toInt = (al : Int)) (hmh : mh.toInt = 0) (hf : r.toInt = 1 ∧ st2.toInt = st.toInt + 1 ∧ st2.toInt ≤ alw.toInt ∧ mh2.toInt = mh.toInt ∨ r.toInt = 0 ∧ mh2.toInt = 5 ∧ alw.toInt ≤ st.toInt) (e : x2 = nx (Int32.toNatClampNeg ro)) : cOu S nx H az z kz kf F al s0 gs kb kk gk gv on ba tp st2 fr x2 (i + 1) mh2 (S 3 (Int32.toNatClampNeg ro)).toInt := by
  obtain ⟨rfl, rfl, rfl, rfl, rfl, rfl, rfl⟩ := E
  obtain ⟨h1, s, h2, h3⟩ := h
  subst e
  rcases hf with ⟨-, f1, f2, f3⟩ | ⟨-, f1, f2⟩
  · obtain ⟨s2, g1, g2⟩ := cs_1 (F := F) (al := al) h3 (zn_nat h0).symm ho (by omega) f1
    exact Or.inr ⟨by omega, by omega, s2, pm_re_s h2 g1, g2⟩
  · exact cEn_of h2 (pm_ou_s pm_re_r (cs_cut h3 (zn_nat h0).symm (Or.inl ho) (by omega))) f1 (by decide)
theorem ct_2 (E : cEq S op a b ak an ab af) (h : cRn S nx H az z kz kf F al s0 gs kb kk gk gv on ba tp st fr ro i) (h0 : 0 ≤ ro.toInt) (ho : (op (Int32.toNatClampNeg ro)).toInt = 2) (ha : alw.toInt = (al : Int)) (hmh : mh.toInt = 0) (hf : mh2.toInt = 5 ∧ alw.toInt ≤ st.toInt ∨ mh2.toInt = mh.toInt ∧ st2.toInt = st.toInt + 1 ∧ st2.toInt ≤ alw.toInt ∧ tp2.toInt = tp.toInt + 1) (hf2 : mh2.toInt = 5 ∨ ∃ v : Int64, gs2 = vp_updL gs (Int32.toNatClampNeg tp) v ∧ zhs v = 0 ∧ v.toInt32 = a (Int32.toNatClampNeg ro)) (e : x2 = nx (Int32.toNatClampNeg ro)) : cOu S nx H az z kz kf F al s0 gs2 kb kk gk gv on ba tp2 st2 fr x2 (i + 1) mh2 (S 3 (Int32.toNatClampNeg ro)).toInt := by
  obtain ⟨rfl, rfl, rfl, rfl, rfl, rfl, rfl⟩ := E
  obtain ⟨h1, s, h2, h3⟩ := h
  subst e
  rcases hf with ⟨f1, f2⟩ | ⟨f1, f2, f3, f4⟩
  · exact cEn_of h2 (pm_ou_s pm_re_r (cs_cut h3 (zn_nat h0).symm (Or.inr (Or.inl ho)) (by omega))) f1 (by decide)
  · obtain ⟨v, v1, v2, v3⟩ := hf2.resolve_left (by omega)
    rw [pv0_eq v2 v3] at v1
    obtain ⟨s2, g1, g2⟩ := cs_2 (F := F) (al := al) h3 (zn_nat h0).symm ho (by omega) f2 f4 v1
    exact Or.inr ⟨by omega, by omega, s2, pm_re_s h2 g1, g2⟩
theorem ct_4 (E : cEq S op a b ak an ab af) (h : cRn S nx H az z kz kf F al s0 gs kb kk gk gv on ba tp st fr ro i) (h0 : 0 ≤ ro.toInt) (ho : (op (Int32.toNatClampNeg ro)).toInt = 4) (ha : alw.toInt = (al : Int)) (hmh : mh.toInt = 0) (hf : mh2.toInt = 5 ∧ alw.toInt ≤ st.toInt ∨ mh2.toInt = mh.toInt ∧ st2.toInt = st.toInt + 1 ∧ st2.toInt ≤ alw.toInt ∧ tp2.toInt = tp.toInt + 1) (hf2 : mh2.toInt = 5 ∨ ∃ v : Int64, gs2 = vp_updL gs (Int32.toNatClampNeg tp) v ∧ zhs v = 1 ∧ v.toInt32 = a (Int32.toNatClampNeg ro)) (e : x2 = nx (Int32.toNatClampNeg ro)) : cOu S nx H az z kz kf F al s0 gs2 kb kk gk gv on ba tp2 st2 fr x2 (i + 1) mh2 (S 3 (Int32.toNatClampNeg ro)).toInt := by
  obtain ⟨rfl, rfl, rfl, rfl, rfl, rfl, rfl⟩ := E
  obtain ⟨h1, s, h2, h3⟩ := h
  subst e
  rcases hf with ⟨f1, f2⟩ | ⟨f1, f2, f3, f4⟩
  · exact cEn_of h2 (pm_ou_s pm_re_r (cs_cut h3 (zn_nat h0).symm (Or.inr (Or.inr (Or.inr (Or.inl ho)))) (by omega))) f1 (by decide)
  · obtain ⟨v, v1, v2, v3⟩ := hf2.resolve_left (by omega)
    rw [pv1_eq v2 v3] at v1
    obtain ⟨s2, g1, g2⟩ := cs_4 (F := F) (al := al) h3 (zn_nat h0).symm ho (by omega) f2 f4 v1
    exact Or.inr ⟨by omega, by omega, s2, pm_re_t h2 g1, g2⟩
theorem ct_3 (E : cEq S op a b ak an ab af) (h : cRn S nx H az z kz kf F al s0 gs kb kk gk gv on ba tp st fr ro i) (h0 : 0 ≤ ro.toInt) (ho : (op (Int32.toNatClampNeg ro)).toInt = 3) (ha : alw.toInt = (al : Int)) (hmh : mh.toInt = 0) (hf : mh2.toInt = 5 ∧ alw.toInt ≤ st.toInt ∨ mh2.toInt = mh.toInt ∧ st2.toInt = st.toInt + 1 ∧ st2.toInt ≤ alw.toInt ∧ tp2.toInt = tp.toInt + 1) (hf2 : mh2.toInt = 5 ∨ gs2 = vp_updL gs (Int32.toNatClampNeg tp) (gs (Int32.toNatClampNeg ba + Int32.toNatClampNeg (a (Int32.toNatClampNeg ro))))) (e : x2 = nx (Int32.toNatClampNeg ro)) : cOu S nx H az z kz kf F al s0 gs2 kb kk gk gv on ba tp2 st2 fr x2 (i + 1) mh2 (S 3 (Int32.toNatClampNeg ro)).toInt := by
  obtain ⟨rfl, rfl, rfl, rfl, rfl, rfl, rfl⟩ := E
  obtain ⟨h1, s, h2, h3⟩ := h
  subst e
  rcases hf with ⟨f1, f2⟩ | ⟨f1, f2, f3, f4⟩
  · exact cEn_of h2 (pm_ou_s pm_re_r (cs_cut h3 (zn_nat h0).symm (Or.inr (Or.inr (Or.inl ho))) (by omega))) f1 (by decide)
  · obtain ⟨s2, g1, g2⟩ := cs_3 (F := F) (al := al) h3 (zn_nat h0).symm ho (by omega) f2 f4 (hf2.resolve_left (by omega))
    exact Or.inr ⟨by omega, by omega, s2, pm_re_s h2 g1, g2⟩
theorem ct_5 {wz : Int} {lim : Int32} (hz : kz.toInt = (z : Int)) (h3f : ∀ k, zfk kz kf k ≤ 3) (hl : lim.toInt = 4000) (E : cEq S op a b ak an ab af) (h : cRn S nx H az z kz kf F al s0 gs kb kk gk gv on ba tp st fr ro i) (h0 : 0 ≤ ro.toInt) (ho : (op (Int32.toNatClampNeg ro)).toInt = 5) (hmh : mh.toInt = 0) (hw : zfk kz kf (a (Int32.toNatClampNeg ro)) = wz) (hf0 : 0 ≤ fr.toInt) (hb : mh2.toInt = 3 ∨ mh2.toInt = mh.toInt ∧ tp2.toInt = tp.toInt - wz + 1) (hf : mh2.toInt = 3 ∧ lim.toInt ≤ fr.toInt ∨ mh2.toInt = mh.toInt ∧ fr.toInt < 4000 ∧ fr2.toInt = fr.toInt + 1 ∧ gk2 = upd gk (Int32.toNatClampNeg fr) (a (Int32.toNatClampNeg ro)) ∧ zfw gv gv2 (Int32.toNatClampNeg fr) gs (Int32.toNatClampNeg tp - wz.toNat) wz.toNat ∧ ∃ v : Int64, gs2 = vp_updL gs (Int32.toNatClampNeg tp - wz.toNat) v ∧ zhs v = 2 ∧ v.toInt32 = fr) (e : x2 = nx (Int32.toNatClampNeg ro)) : cOu S nx H az z kz kf F al s0 gs2 kb kk gk2 gv2 on ba tp2 st fr2 x2 (i + 1) mh2 (S 3 (Int32.toNatClampNeg ro)).toInt := by
  obtain ⟨rfl, rfl, rfl, rfl, rfl, rfl, rfl⟩ := E
  obtain ⟨h1, s, h2, h3⟩ := h
  subst e
  have key := cs_5 (F := F) (al := al) (fr2 := fr2) (tp2 := tp2) (gs2 := gs2) (gk2 := gk2) (gv2 := gv2) hz h3f h3 (zn_nat h0).symm ho hw
  rcases hf with ⟨f1, f2⟩ | ⟨f1, f2, f3, f4, f5, v, v1, v2, v3⟩
  · have g := key.1 (by omega)
    exact cEn_of h2 g f1 (by decide)
  · rw [pv2_eq v2 v3] at v1
    obtain ⟨s2, g1, g2⟩ := key.2 f2 f3 (hb.resolve_left (by omega)).2 v1 f4 (fun k hk => f5.1 k (by omega)) (fun j hj => f5.2 j (by omega))
    exact Or.inr ⟨by omega, h1, s2, pm_re_t h2 g1, g2⟩
theorem ct_7 {td nmz : Int} {P9 : Prop} (hp : cPx S nx H az z kf en ff F) (E : cEq S op a b ak an ab af) (h : cRn S nx H az z kz kf F al s0 gs kb kk gk gv on ba tp st fr ro i) (h0 : 0 ≤ ro.toInt) (ho : (op (Int32.toNatClampNeg ro)).toInt = 7) (hmh : mh.toInt = 0) (htd : (ff (5 * Int32.toNatClampNeg (a (Int32.toNatClampNeg ro)))).toInt = td) (hnm : (ff (5 * Int32.toNatClampNeg (a (Int32.toNatClampNeg ro)) + 1)).toInt = nmz) (hq : td = (b (Int32.toNatClampNeg ro)).toInt) (hf : mh2.toInt = 4 ∧ 100 ≤ on.toInt ∨ (mh2.toInt = mh.toInt ∧ on.toInt < 100 ∧ on2.toInt = on.toInt + 1 ∧ ba2.toInt = tp.toInt - td ∧ tp2.toInt = ba2.toInt + nmz) ∧ kb2 = upd kb (Int32.toNatClampNeg on) ba2 ∧ kk2 = upd kk (Int32.toNatClampNeg on) (nx (Int32.toNatClampNeg ro)) ∧ P9 ∧ x2 = en (Int32.toNatClampNeg (a (Int32.toNatClampNeg ro)))) : cOu S nx H az z kz kf F al s0 gs kb2 kk2 gk gv on2 ba2 tp2 st fr x2 (i + 1) mh2 (S 3 (Int32.toNatClampNeg ro)).toInt := by
  obtain ⟨rfl, rfl, rfl, rfl, rfl, rfl, rfl⟩ := E
  obtain ⟨h1, s, h2, h3⟩ := h
  have key := cs_7 (F := F) (al := al) (on2 := on2) (ba2 := ba2) (tp2 := tp2) (kb2 := kb2) (kk2 := kk2) (x2 := x2) hp h3 (zn_nat h0).symm ho (by rw [← hq, htd])
  rcases hf with ⟨f1, f2⟩ | ⟨⟨f1, f2, f3, f4, f5⟩, f6, f7, -, f8⟩
  · have g := key.1 f2
    exact cEn_of h2 g f1 (by decide)
  · obtain ⟨s2, g1, g2⟩ := key.2 f2 f3 (by rw [htd]; exact f4) (by rw [hnm]; exact f5) f6 f7 f8
    exact Or.inr ⟨by omega, h1, s2, pm_re_t h2 g1, g2⟩
theorem ct_6 {td nmz : Int} {P9 : Prop} (hp : cPx S nx H az z kf en ff F) (E : cEq S op a b ak an ab af) (h : cRn S nx H az z kz kf F al s0 gs kb kk gk gv on ba tp st fr ro i) (h0 : 0 ≤ ro.toInt) (ho : (op (Int32.toNatClampNeg ro)).toInt = 6) (ha : alw.toInt = (al : Int)) (hmh : mh.toInt = 0) (htd : (ff (5 * Int32.toNatClampNeg (a (Int32.toNatClampNeg ro)))).toInt = td) (hnm : (ff (5 * Int32.toNatClampNeg (a (Int32.toNatClampNeg ro)) + 1)).toInt = nmz) (hq : td = (b (Int32.toNatClampNeg ro)).toInt) (hf : mh2.toInt = 5 ∧ alw.toInt ≤ st.toInt ∨ st2.toInt = st.toInt + 1 ∧ st2.toInt ≤ alw.toInt ∧ (mh2.toInt = 4 ∧ 100 ≤ on.toInt ∨ (mh2.toInt = mh.toInt ∧ on.toInt < 100 ∧ on2.toInt = on.toInt + 1 ∧ ba2.toInt = tp.toInt - td ∧ tp2.toInt = ba2.toInt + nmz) ∧ kb2 = upd kb (Int32.toNatClampNeg on) ba2 ∧ kk2 = upd kk (Int32.toNatClampNeg on) (nx (Int32.toNatClampNeg ro)) ∧ P9 ∧ x2 = en (Int32.toNatClampNeg (a (Int32.toNatClampNeg ro))))) : cOu S nx H az z kz kf F al s0 gs kb2 kk2 gk gv on2 ba2 tp2 st2 fr x2 (i + 1) mh2 (S 3 (Int32.toNatClampNeg ro)).toInt := by
  obtain ⟨rfl, rfl, rfl, rfl, rfl, rfl, rfl⟩ := E
  obtain ⟨h1, s, h2, h3⟩ := h
  rcases hf with ⟨f1, f2⟩ | ⟨e1, e2, hf⟩
  · exact cEn_of h2 (pm_ou_s pm_re_r (cs_cut h3 (zn_nat h0).symm (Or.inr (Or.inr (Or.inr (Or.inr ho)))) (by omega))) f1 (by decide)
  · have key := cs_6 (F := F) (al := al) (st2 := st2) (on2 := on2) (ba2 := ba2) (tp2 := tp2) (kb2 := kb2) (kk2 := kk2) (x2 := x2) hp h3 (zn_nat h0).symm ho (by omega) (by rw [← hq, htd])
    rcases hf with ⟨f1, f2⟩ | ⟨⟨f1, f2, f3, f4, f5⟩, f6, f7, -, f8⟩
    · have g := key.1 f2
      exact cEn_of h2 g f1 (by decide)
    · obtain ⟨s2, g1, g2⟩ := key.2 f2 e1 f3 (by rw [htd]; exact f4) (by rw [hnm]; exact f5) f6 f7 f8
      exact Or.inr ⟨by omega, by omega, s2, pm_re_t h2 g1, g2⟩
theorem ct_8 (E : cEq S op a b ak an ab af) (h : cRn S nx H az z kz kf F al s0 gs kb kk gk gv on ba tp st fr ro i) (h0 : 0 ≤ ro.toInt) (ho : 8 ≤ (op (Int32.toNatClampNeg ro)).toInt ∧ (op (Int32.toNatClampNeg ro)).toInt ≤ 11) (hmh : mh.toInt = 0) (hf : mh2.toInt = 2 ∧ ¬ (zhs (gs (Int32.toNatClampNeg tp - 2)) = 0 ∧ zhs (gs (Int32.toNatClampNeg tp - 1)) = 0) ∨ mh2.toInt = mh.toInt ∧ tp2.toInt = tp.toInt - 1 ∧ (zhs (gs (Int32.toNatClampNeg tp - 2)) = 0 ∧ zhs (gs (Int32.toNatClampNeg tp - 1)) = 0) ∧ ∃ v : Int64, gs2 = vp_updL gs (Int32.toNatClampNeg tp - 2) v ∧ zhs v = 0 ∧ v.toInt32 = crk (op (Int32.toNatClampNeg ro)).toInt (gs (Int32.toNatClampNeg tp - 2)).toInt32 (gs (Int32.toNatClampNeg tp - 1)).toInt32) (e : x2 = nx (Int32.toNatClampNeg ro)) : cOu S nx H az z kz kf F al s0 gs2 kb kk gk gv on ba tp2 st fr x2 (i + 1) mh2 (S 3 (Int32.toNatClampNeg ro)).toInt := by
  obtain ⟨rfl, rfl, rfl, rfl, rfl, rfl, rfl⟩ := E
  obtain ⟨h1, s, h2, h3⟩ := h
  subst e
  have key := cs_8 (F := F) (al := al) (tp2 := tp2) (gs2 := gs2) h3 (zn_nat h0).symm ho
  rcases hf with ⟨f1, f2⟩ | ⟨f1, f2, f3, v, v1, v2, v3⟩
  · have g := key.1 f2
    exact cEn_of h2 g f1 (by decide)
  · rw [pv0_eq v2 v3] at v1
    obtain ⟨s2, g1, g2⟩ := key.2 f3 f2 v1
    exact Or.inr ⟨by omega, h1, s2, pm_re_t h2 g1, g2⟩
theorem ct_12 (E : cEq S op a b ak an ab af) (h : cRn S nx H az z kz kf F al s0 gs kb kk gk gv on ba tp st fr ro i) (h0 : 0 ≤ ro.toInt) (ho : (op (Int32.toNatClampNeg ro)).toInt = 12) (hmh : mh.toInt = 0) (e1 : tp2.toInt = tp.toInt - 1) (e2 : gs2 = vp_updL gs (Int32.toNatClampNeg ba + Int32.toNatClampNeg (a (Int32.toNatClampNeg ro))) (gs (Int32.toNatClampNeg tp - 1))) (e : x2 = nx (Int32.toNatClampNeg ro)) : cOu S nx H az z kz kf F al s0 gs2 kb kk gk gv on ba tp2 st fr x2 (i + 1) mh (S 3 (Int32.toNatClampNeg ro)).toInt := by
  obtain ⟨rfl, rfl, rfl, rfl, rfl, rfl, rfl⟩ := E
  obtain ⟨h1, s, h2, h3⟩ := h
  subst e
  obtain ⟨s2, g1, g2⟩ := cs_12 (F := F) (al := al) h3 (zn_nat h0).symm ho e1 e2
  exact Or.inr ⟨hmh, h1, s2, pm_re_t h2 g1, g2⟩
theorem ct_13 (E : cEq S op a b ak an ab af) (h : cRn S nx H az z kz kf F al s0 gs kb kk gk gv on ba tp st fr ro i) (h0 : 0 ≤ ro.toInt) (ho : (op (Int32.toNatClampNeg ro)).toInt = 13) (hmh : mh.toInt = 0) (hb : mh2.toInt = 2 ∨ mh2.toInt = mh.toInt ∧ tp2.toInt = tp.toInt - 1) (hf : mh2.toInt = 2 ∧ ¬ zhs (gs (Int32.toNatClampNeg tp - 1)) = 0 ∨ mh2.toInt = mh.toInt ∧ zhs (gs (Int32.toNatClampNeg tp - 1)) = 0 ∧ ((gs (Int32.toNatClampNeg tp - 1)).toInt32 ≠ 0 → x2 = mat1) ∧ ((gs (Int32.toNatClampNeg tp - 1)).toInt32 = 0 → (a (Int32.toNatClampNeg ro)).toInt = -1 ∧ x2.toInt = -1 ∨ (a (Int32.toNatClampNeg ro)).toInt ≠ -1 ∧ x2 = nx (Int32.toNatClampNeg (a (Int32.toNatClampNeg ro))))) (e : mat1 = nx (Int32.toNatClampNeg ro)) : cOu S nx H az z kz kf F al s0 gs kb kk gk gv on ba tp2 st fr x2 (i + 1) mh2 (S 3 (Int32.toNatClampNeg ro)).toInt := by
  obtain ⟨rfl, rfl, rfl, rfl, rfl, rfl, rfl⟩ := E
  obtain ⟨h1, s, h2, h3⟩ := h
  subst e
  have key := cs_13 (F := F) (al := al) (tp2 := tp2) (x2 := x2) h3 (zn_nat h0).symm ho
  rcases hf with ⟨f1, f2⟩ | ⟨f1, f2, f3, f4⟩
  · have g := key.1 f2
    exact cEn_of h2 g f1 (by decide)
  · obtain ⟨s2, g1, g2⟩ := key.2 f2 (hb.resolve_left (by omega)).2 f3 (fun u u2 => by
      rcases f4 u with w | w
      · omega
      · exact w.2)
    exact Or.inr ⟨by omega, h1, s2, pm_re_t h2 g1, g2⟩
theorem ct_15 (hz : kz.toInt = (z : Int)) (E : cEq S op a b ak an ab af) (h : cRn S nx H az z kz kf F al s0 gs kb kk gk gv on ba tp st fr ro i) (h0 : 0 ≤ ro.toInt) (ho : (op (Int32.toNatClampNeg ro)).toInt = 15) (hmh : mh.toInt = 0) (hq : zgq fr kz kf (gs (Int32.toNatClampNeg ba + Int32.toNatClampNeg (a (Int32.toNatClampNeg ro))))) (hf : cMt ak an ab af nx kz kf gk gv gs gs2 (gs (Int32.toNatClampNeg ba + Int32.toNatClampNeg (a (Int32.toNatClampNeg ro)))) ba (b (Int32.toNatClampNeg ro)) mh mh2 x2) : cOu S nx H az z kz kf F al s0 gs2 kb kk gk gv on ba tp st fr x2 (i + 1) mh2 (S 3 (Int32.toNatClampNeg ro)).toInt := by
  obtain ⟨rfl, rfl, rfl, rfl, rfl, rfl, rfl⟩ := E
  obtain ⟨h1, s, h2, h3⟩ := h
  obtain ⟨kd, am, k1, k2, hf⟩ := hf
  have key := cs_15 (F := F) (al := al) (x2 := x2) (gs2 := gs2) hz h3 (zn_nat h0).symm ho rfl k1 (fun g => ⟨hq.1.1 g, hq.2 g⟩) hq.1.2 k2
  rcases hf with ⟨f1, f2⟩ | ⟨f1, f2, f3, f4, f5⟩
  · have g := key.1 f2
    exact cEn_of h2 g f1 (by decide)
  · obtain ⟨s2, g1, g2⟩ := key.2 f2 (fun _ => f3) f4 (fun u => ⟨fun k hk => (f5 u).1 k (by omega), fun j hj => (f5 u).2 j (fun k hk => hj k (by omega))⟩)
    exact Or.inr ⟨by omega, h1, s2, pm_re_t h2 g1, g2⟩
theorem ct_17 {re2 : Int64} (E : cEq S op a b ak an ab af) (h : cRn S nx H az z kz kf F al s0 gs kb kk gk gv on ba tp st fr ro i) (h0 : 0 ≤ ro.toInt) (ho : (op (Int32.toNatClampNeg ro)).toInt = 17) (hmh : mh.toInt = 0) (hf : on.toInt ≤ 1 ∧ mh2.toInt = 1 ∧ re2 = gs (Int32.toNatClampNeg tp - 1) ∨ 1 < on.toInt ∧ mh2.toInt = mh.toInt ∧ on2.toInt = on.toInt - 1 ∧ tp2.toInt = ba.toInt + 1 ∧ gs2 = vp_updL gs (Int32.toNatClampNeg ba) (gs (Int32.toNatClampNeg tp - 1)) ∧ x2 = kk (Int32.toNatClampNeg on2) ∧ ba2 = kb (Int32.toNatClampNeg on2 - 1)) : cOu S nx H az z kz kf F al s0 gs2 kb kk gk gv on2 ba2 tp2 st fr x2 (i + 1) mh2 (S 3 (Int32.toNatClampNeg ro)).toInt := by
  obtain ⟨rfl, rfl, rfl, rfl, rfl, rfl, rfl⟩ := E
  obtain ⟨h1, s, h2, h3⟩ := h
  have key := cs_17 (F := F) (al := al) (on2 := on2) (ba2 := ba2) (tp2 := tp2) (x2 := x2) (gs2 := gs2) h3 (zn_nat h0).symm ho
  rcases hf with ⟨f1, f2, f3⟩ | ⟨f1, f2, f3, f4, f5, f6, f7⟩
  · exact cEn_1 h2 (key.1 f1) f2
  · have en : Int32.toNatClampNeg on2 = Int32.toNatClampNeg on - 1 := by have := zn_nat (x := on2) (by omega); have := zn_nat (x := on) (by omega); omega
    rw [en] at f6 f7
    rw [show Int32.toNatClampNeg on - 1 - 1 = Int32.toNatClampNeg on - 2 from by omega] at f7
    obtain ⟨s2, g1, g2⟩ := key.2 f1 f3 f4 f5 f6 f7
    exact Or.inr ⟨by omega, h1, s2, pm_re_t h2 g1, g2⟩
theorem cKo_x {bd nm : Nat} {K : List (Nat × Tm)} {x : Int32} {m : Nat} (hk : ∀ u ∈ K, cOk z kf bd nm u) (h : cKo S nx H az K x m) : 0 ≤ x.toInt := by
  have hs : ∀ {n : Nat} {y : Int32}, cSi S nx n x y → x = y ∨ 0 ≤ x.toInt := fun {n y} g => by
    cases n with
    | zero => exact Or.inl g
    | succ n => obtain ⟨r, e, -⟩ := g; exact Or.inr (by omega)
  cases K with
  | nil =>
    obtain ⟨n, y, r, g1, g2, -⟩ := h
    rcases hs g1 with e | e
    · rw [e]; omega
    · exact e
  | cons u K2 =>
    obtain ⟨j, t⟩ := u
    obtain ⟨n, y, zz, w, m2, g1, g2, -⟩ := h
    rcases hs g1 with e | e
    · have ok := hk (j, t) List.mem_cons_self
      rw [e]
      rcases g2 with ⟨-, ⟨X, b1, b2⟩, -⟩ | ⟨-, b1⟩
      · obtain ⟨s1, ⟨c0, w1, w2⟩, w3⟩ := ok
        obtain ⟨r2, e1, -⟩ := cI_inv t s1 w1 w2 w3 b1 b2
        omega
      · obtain ⟨r2, e1, -⟩ := cD_inv (c := 0) t ok b1
        omega
    · exact e
theorem cRn_x (h : cRn S nx H az z kz kf F al s0 gs kb kk gk gv on ba tp st fr ro i) : 0 ≤ ro.toInt ∧ i ≤ 4 * (al : Int) + 2 := by
  obtain ⟨h1, s, h2, b, nm, K, Vs, e, bd, fs, m1, m2, tn, sn, cn, ck, cf, ⟨n1, n2, n3, n4, n5⟩, ⟨ht, hb, hk, hh⟩, hK, hF, hs, hc, hm⟩ := h
  exact ⟨cKo_x hk hK, by omega⟩
/-- the first call -/
theorem ct_0 {q : Int} {f : Nat} {a1 a2 a3 a4 : Int32} (hp : cPx S nx H az z kf en ff F) (hf : f < F.1) (hg : ∀ k : Nat, (k : Int) < (ff (5 * f)).toInt → gs k = pv0 (if k = 0 then a1 else if k = 1 then a2 else if k = 2 then a3 else if k = 3 then a4 else 0)) (e2 : st.toInt = 0) (e4 : on2.toInt = 1) (e5 : ba2.toInt = 0) (e6 : tp2.toInt = (ff (5 * f + 1)).toInt) (e7 : (kb2 0).toInt = 0) (e8 : fr.toInt = 0) (e9 : x2 = en f) (hmh : mh.toInt = 0) : cOu S nx H az z kz kf F al (pm_s0 F f a1 a2 a3 a4) gs kb2 kk2 gk gv on2 ba2 tp2 st fr x2 0 mh q := Or.inr ⟨hmh, by omega, _, pm_re_r, cs_0 hp hf hg e2 e4 e5 e6 e7 e8 e9⟩
end
theorem zti_q {l l2 : Nat → Int64} {v : Int64} {q : Nat → Int32} {n n2 t : Nat} (h : ∀ k, k < n → l k = pv0 (q k)) (e : l2 = vp_updL l t v) (et : t = n) (ev : zhs v = 0) (ev2 : v.toInt32 = q n) (en : n2 = n + 1) : ∀ k, k < n2 → l2 k = pv0 (q k) := fun k hk => by
  subst en et
  rw [e]
  by_cases u : k = t
  · rw [u, cul_s]; exact pv0_eq ev ev2
  · rw [cul_n u]; exact h k (by omega)
theorem cPx_of {S : Nat → Nat → Int32} {nx : Nat → Int32} {cz az kz fz : Int32} {kw : Nat → Int64} {kf en ff : Nat → Int32} {fw : Nat → Int64} {s : sp_S} {F : sp_F} (h : cZZ S nx cz az kz fz kw kf en ff fw s F) (hw : wfF s F) (hs : syF F) (hf : 0 ≤ fz.toInt) : cPx S nx (cHf fw fz) az.toInt (Int32.toNatClampNeg kz) kf en ff F := by
  obtain ⟨c1, c2, c3, c4, c5, c6, c7, c8, -⟩ := h
  have nf := zn_nat hf
  refine ⟨fun x w g => ?_, fun f hf2 => ?_⟩
  · obtain ⟨g1, g2, g3⟩ := g
    have nx2 := zn_nat g2
    have g1 : sp_fi fw w (Int32.toNatClampNeg fz) = if x.toInt = -1 then Int32.toNatClampNeg fz else Int32.toNatClampNeg x := g1
    rw [if_neg (by omega)] at g1
    exact ⟨g2, by rw [c5, c4]; exact g1, by omega⟩
  · obtain ⟨X, q, x1, x2, x3, x4, x5, x6, x7, x8⟩ := c7 f (by omega)
    obtain ⟨c, ⟨w1, w2⟩, w3⟩ := hw f hf2
    obtain ⟨d0, d1, -⟩ := c8 f (by omega)
    rw [c1, c3] at w3
    exact ⟨X, q, c, ⟨x1, x2, x3.1, x4, x6⟩, w1, by rw [d0]; exact w1, (hs f hf2).1, w3, by omega, by omega⟩
theorem gO_some {o : Option (sp_S × sp_F)} (h : ¬ o = none) : ∃ (s : sp_S) (F : sp_F), o = some (s, F) := by
  cases o with
  | none => exact absurd rfl h
  | some q => exact ⟨q.1, q.2, rfl⟩

end
section
theorem wi_1258 : Cond.code yX5_bindPlainly cX5_bindPlainly 5 none ∈ zw := zw_in (List.mem_of_getElem? (i := 1258) (by decide +kernel)) (by decide +kernel)
theorem wi_1255 : Cond.methodLink RX5 269 yX5_bindPlainly ∈ zw := zw_in (List.mem_of_getElem? (i := 1255) (by decide +kernel)) (by decide +kernel)
theorem wi_1257 : Cond.instanceMethod yX5_bindPlainly ∈ zw := zw_in (List.mem_of_getElem? (i := 1257) (by decide +kernel)) (by decide +kernel)
theorem wi_61 : Cond.selects RX5 yX5_bindPlainly yX5_bindPlainly ∈ zw := zw_in (List.mem_of_getElem? (i := 61) (by decide +kernel)) (by decide +kernel)
theorem dX5_match_82 : decode cX5_match 82 = .ok (.aload_n 0, 1) := by decide +kernel
theorem dX5_match_83 : decode cX5_match 83 = .ok (.iload 5, 2) := by decide +kernel
theorem dX5_match_85 : decode cX5_match 85 = .ok (.lload_n 3, 1) := by decide +kernel
theorem dX5_match_86 : decode cX5_match 86 = .ok (.invokevirtual 269, 3) := by decide +kernel
theorem dX5_match_89 : decode cX5_match 89 = .ok (.aload_n 0, 1) := by decide +kernel
theorem dX5_match_90 : decode cX5_match 90 = .ok (.iconst (-1), 1) := by decide +kernel
theorem dX5_match_91 : decode cX5_match 91 = .ok (.invokevirtual 273, 3) := by decide +kernel
theorem dX5_match_94 : decode cX5_match 94 = .ok (.return_, 1) := by decide +kernel
set_option maxHeartbeats 4000000 in
set_option maxRecDepth 100000 in
theorem c_X5_match_4000 (l : Launch) (dC : Nat → ClassId) (dI : Nat → Nat → Nat) (aK aV : Nat → Nat) (h0 : Nat) (mp : Nat) (gco : Nat) (mce : Nat) (sk : Nat) (kb : Nat) (kk : Nat) (ks : Nat) (sh : Nat) (mcn : Int32) (tp : Int32) (ba : Int32) (on : Int32) (sn : Int32) (mat : Int32) (alw : Int32) (st : Int32) (mo : Int32) (mh : Int32) (sp : Int32) (re : Int64) (sk1 : ClassId) (gs : Nat → Int64) (cop : Nat) (ca : Nat) (cb : Nat) (cplace : Nat) (cnext : Nat) (cneeded : Nat) (ckop : ClassId) (cka : ClassId) (ckb : ClassId) (ckplace : ClassId) (cknext : ClassId) (ckneeded : ClassId) (cz : Int32) (ct : Int32) (cgop : Nat → Int32) (cga : Nat → Int32) (cgb : Nat → Int32) (cgplace : Nat → Int32) (cgnext : Nat → Int32) (cgneeded : Nat → Int32) (gar : Nat) (gfu : Nat) (akind : Nat) (anext : Nat) (abefore : Nat) (aleave : Nat) (afirstSlot : Nat) (abuilds : Nat) (az : Int32) (akkind : ClassId) (aknext : ClassId) (akbefore : ClassId) (akfirstSlot : ClassId) (akbuilds : ClassId) (agkind : Nat → Int32) (agnext : Nat → Int32) (agbefore : Nat → Int32) (agfirstSlot : Nat → Int32) (agbuilds : Nat → Int32) (ek : Nat) (ec : Nat) (ef : Nat) (gki : Nat) (e1 : ClassId) (e2 : ClassId) (e3 : ClassId) (e_limit : Int32) (e_fresh : Int32) (e_firstFree : Int32) (e_held : Int32) (e_mostHeld : Int32) (e_made : Int32) (e_reused : Int32) (e_freed : Int32) (e_doubled : Int32) (gk : Nat → Int32) (gc : Nat → Int32) (gv : Nat → Int64) (kw : Nat) (kf : Nat) (k1 : ClassId) (k2 : ClassId) (kz : Int32) (kgw : Nat → Int64) (kgf : Nat → Int32) (sh1 : ClassId) (gsh : Nat → Int32) (ro : Int32) (nS : Nat) (pp : Nat → Bool) (gA : List Nat) (scz : Int) (sz : Nat) (hcn : mcn.toInt = 0) (hfr2 : e_fresh.toInt ≤ 4000) (hkz0 : 0 ≤ kz.toInt) (hkz1 : kz.toInt ≤ 20) (hkf : zx 4 kgf) (hnS : nS = 22424) (hba0 : 0 ≤ ba.toInt) (hba1 : ba.toInt + 24 ≤ 22424) (hr0 : 0 ≤ ro.toInt) (hr1 : ro.toInt < 3000) (hcn_ : zx 3000 cgnext) (hsl : 0 ≤ (cga (Int32.toNatClampNeg ro)).toInt ∧ (cga (Int32.toNatClampNeg ro)).toInt < 24) (hsc : (cga (Int32.toNatClampNeg ro)).toInt < scz) (hsn0 : 0 ≤ sn.toInt) (hsn1 : sn.toInt ≤ 3000) (hmd : zMP nS kz kgf gk gv e_fresh gs pp gsh sn) (hps : pp (Int32.toNatClampNeg ba + Int32.toNatClampNeg (cga (Int32.toNatClampNeg ro))) = true) (hli : zli agnext (cgb (Int32.toNatClampNeg ro)) gA) (harm : ∀ ma ∈ gA, ma < 400 ∧ (0 ≤ (agbefore ma).toInt ∧ (agbefore ma).toInt < 3000) ∧ (agfirstSlot ma).toInt = scz ∧ scz + zfk kz kgf (agkind ma) ≤ 24 ∧ ((agkind ma).toInt = -2 ∨ 0 ≤ (agkind ma).toInt)) (hnd : ∀ k, k < 24 → zbit (cgneeded (Int32.toNatClampNeg ro)) k = true → pp (Int32.toNatClampNeg ba + k) = true) : Met l yX5_match (Cond.code yX5_match cX5_match 9 none :: zw) ({ frames := 20, cells := 0, slots := 0, locals := 800 }) (va_Pc [.ref h0, .int ro] (zP dC dI aK aV sz [(sk1, .long), (ckop, .int), (cka, .int), (ckb, .int), (ckplace, .int), (cknext, .int), (ckneeded, .int), (akkind, .int), (aknext, .int), (akbefore, .int), (akfirstSlot, .int), (akbuilds, .int), (e1, .int), (e2, .int), (e3, .long), (k1, .long), (k2, .int), (sh1, .int)] [(h0, .inr (5, [.ref mp, .ref gco, .ref mce, .int mcn, .ref sk, .int tp, .int ba, .ref kb, .ref kk, .ref ks, .int on, .ref sh, .int sn, .int mat, .int alw, .int st, .int mo, .int mh, .int sp, .long re])), (sk, .inl (sk1, 22424, .inr (.inl gs))), (gco, .inr (2, [.ref cop, .ref ca, .ref cb, .ref cplace, .ref cnext, .ref cneeded, .int cz, .int ct])), (cop, .inl (ckop, 3000, .inl cgop)), (ca, .inl (cka, 3000, .inl cga)), (cb, .inl (ckb, 3000, .inl cgb)), (cplace, .inl (ckplace, 3000, .inl cgplace)), (cnext, .inl (cknext, 3000, .inl cgnext)), (cneeded, .inl (ckneeded, 3000, .inl cgneeded)), (mp, .inr (9, [.ref gco, .ref gar, .ref gki, .ref gfu])), (gar, .inr (0, [.ref akind, .ref anext, .ref abefore, .ref aleave, .ref afirstSlot, .ref abuilds, .int az])), (akind, .inl (akkind, 400, .inl agkind)), (anext, .inl (aknext, 400, .inl agnext)), (abefore, .inl (akbefore, 400, .inl agbefore)), (afirstSlot, .inl (akfirstSlot, 400, .inl agfirstSlot)), (abuilds, .inl (akbuilds, 400, .inl agbuilds)), (mce, .inr (1, [.ref ek, .ref ec, .ref ef, .ref gki, .int e_limit, .int e_fresh, .int e_firstFree, .int e_held, .int e_mostHeld, .int e_made, .int e_reused, .int e_freed, .int e_doubled])), (ek, .inl (e1, 4000, .inl gk)), (ec, .inl (e2, 4000, .inl gc)), (ef, .inl (e3, 12000, .inr (.inl gv))), (gki, .inr (4, [.ref kw, .ref kf, .int kz])), (kw, .inl (k1, 20, .inr (.inl kgw))), (kf, .inl (k2, 20, .inl kgf)), (sh, .inl (sh1, 3000, .inl gsh))])) (va_Qv (fun u : Int32 × Int32 × Int32 × (Nat → Int64) × Int32 × (Nat → Int32) => match u with | (mh2, sp2, mat2, gs2, sn2, gsh2) => (0 ≤ sn2.toInt) ∧ (sn2.toInt ≤ 3000) ∧ (mh2.toInt = 2 ∨ mh2.toInt = mh.toInt ∧ ∃ (ma : Nat) (mask : Int32) (p2 : Nat → Bool), ma ∈ gA ∧ mat2 = cgnext (Int32.toNatClampNeg (agbefore ma)) ∧ zMP nS kz kgf gk gv e_fresh gs2 p2 gsh2 sn2 ∧ (∀ k, k < 32 → zbit mask k = true → zbit (cgneeded (Int32.toNatClampNeg ro)) k = true ∧ zbit (zbe cgnext cgneeded (agbefore ma)) k = false) ∧ (∀ j : Nat, pp j = true → j ≠ Int32.toNatClampNeg ba + Int32.toNatClampNeg (cga (Int32.toNatClampNeg ro)) ∨ zbit (zbe cgnext cgneeded (agbefore ma)) (Int32.toNatClampNeg (cga (Int32.toNatClampNeg ro))) = true → (∀ k, k < 24 → zbit mask k = true → j ≠ Int32.toNatClampNeg ba + k) → p2 j = true) ∧ ∀ i : Nat, (i : Int) < zfk kz kgf (agkind ma) → zbit (zbe cgnext cgneeded (agbefore ma)) (Int32.toNatClampNeg (agfirstSlot ma) + i) = true → p2 (Int32.toNatClampNeg ba + Int32.toNatClampNeg (agfirstSlot ma) + i) = true) ∧ (cMt agkind agnext agbefore agfirstSlot cgnext kz kgf gk gv gs gs2 (gs (Int32.toNatClampNeg ba + Int32.toNatClampNeg (cga (Int32.toNatClampNeg ro)))) ba (cgb (Int32.toNatClampNeg ro)) mh mh2 mat2) ∧ (cSpl (cgplace (Int32.toNatClampNeg ro)) sp mh sp2 mh2)) (fun u => match u with | (mh2, sp2, mat2, gs2, sn2, gsh2) => zQ dC dI (va_A [(h0, .inr (5, [.ref mp, .ref gco, .ref mce, .int mcn, .ref sk, .int tp, .int ba, .ref kb, .ref kk, .ref ks, .int on, .ref sh, .int sn, .int mat, .int alw, .int st, .int mo, .int mh, .int sp, .long re])), (sk, .inl (sk1, 22424, .inr (.inl gs))), (gco, .inr (2, [.ref cop, .ref ca, .ref cb, .ref cplace, .ref cnext, .ref cneeded, .int cz, .int ct])), (cop, .inl (ckop, 3000, .inl cgop)), (ca, .inl (cka, 3000, .inl cga)), (cb, .inl (ckb, 3000, .inl cgb)), (cplace, .inl (ckplace, 3000, .inl cgplace)), (cnext, .inl (cknext, 3000, .inl cgnext)), (cneeded, .inl (ckneeded, 3000, .inl cgneeded)), (mp, .inr (9, [.ref gco, .ref gar, .ref gki, .ref gfu])), (gar, .inr (0, [.ref akind, .ref anext, .ref abefore, .ref aleave, .ref afirstSlot, .ref abuilds, .int az])), (akind, .inl (akkind, 400, .inl agkind)), (anext, .inl (aknext, 400, .inl agnext)), (abefore, .inl (akbefore, 400, .inl agbefore)), (afirstSlot, .inl (akfirstSlot, 400, .inl agfirstSlot)), (abuilds, .inl (akbuilds, 400, .inl agbuilds)), (mce, .inr (1, [.ref ek, .ref ec, .ref ef, .ref gki, .int e_limit, .int e_fresh, .int e_firstFree, .int e_held, .int e_mostHeld, .int e_made, .int e_reused, .int e_freed, .int e_doubled])), (ek, .inl (e1, 4000, .inl gk)), (ec, .inl (e2, 4000, .inl gc)), (ef, .inl (e3, 12000, .inr (.inl gv))), (gki, .inr (4, [.ref kw, .ref kf, .int kz])), (kw, .inl (k1, 20, .inr (.inl kgw))), (kf, .inl (k2, 20, .inl kgf)), (sh, .inl (sh1, 3000, .inl gsh))] sz) [(sk1, .long), (ckop, .int), (cka, .int), (ckb, .int), (ckplace, .int), (cknext, .int), (ckneeded, .int), (akkind, .int), (aknext, .int), (akbefore, .int), (akfirstSlot, .int), (akbuilds, .int), (e1, .int), (e2, .int), (e3, .long), (k1, .long), (k2, .int), (sh1, .int)] [(h0, .inr (5, [.ref mp, .ref gco, .ref mce, .int mcn, .ref sk, .int tp, .int ba, .ref kb, .ref kk, .ref ks, .int on, .ref sh, .int sn2, .int mat2, .int alw, .int st, .int mo, .int mh2, .int sp2, .long re])), (sk, .inl (sk1, 22424, .inr (.inl gs2))), (gco, .inr (2, [.ref cop, .ref ca, .ref cb, .ref cplace, .ref cnext, .ref cneeded, .int cz, .int ct])), (cop, .inl (ckop, 3000, .inl cgop)), (ca, .inl (cka, 3000, .inl cga)), (cb, .inl (ckb, 3000, .inl cgb)), (cplace, .inl (ckplace, 3000, .inl cgplace)), (cnext, .inl (cknext, 3000, .inl cgnext)), (cneeded, .inl (ckneeded, 3000, .inl cgneeded)), (mp, .inr (9, [.ref gco, .ref gar, .ref gki, .ref gfu])), (gar, .inr (0, [.ref akind, .ref anext, .ref abefore, .ref aleave, .ref afirstSlot, .ref abuilds, .int az])), (akind, .inl (akkind, 400, .inl agkind)), (anext, .inl (aknext, 400, .inl agnext)), (abefore, .inl (akbefore, 400, .inl agbefore)), (afirstSlot, .inl (akfirstSlot, 400, .inl agfirstSlot)), (abuilds, .inl (akbuilds, 400, .inl agbuilds)), (mce, .inr (1, [.ref ek, .ref ec, .ref ef, .ref gki, .int e_limit, .int e_fresh, .int e_firstFree, .int e_held, .int e_mostHeld, .int e_made, .int e_reused, .int e_freed, .int e_doubled])), (ek, .inl (e1, 4000, .inl gk)), (ec, .inl (e2, 4000, .inl gc)), (ef, .inl (e3, 12000, .inr (.inl gv))), (gki, .inr (4, [.ref kw, .ref kf, .int kz])), (kw, .inl (k1, 20, .inr (.inl kgw))), (kf, .inl (k2, 20, .inl kgf)), (sh, .inl (sh1, 3000, .inl gsh2))]) (va_A [(h0, .inr (5, [.ref mp, .ref gco, .ref mce, .int mcn, .ref sk, .int tp, .int ba, .ref kb, .ref kk, .ref ks, .int on, .ref sh, .int sn, .int mat, .int alw, .int st, .int mo, .int mh, .int sp, .long re])), (sk, .inl (sk1, 22424, .inr (.inl gs))), (gco, .inr (2, [.ref cop, .ref ca, .ref cb, .ref cplace, .ref cnext, .ref cneeded, .int cz, .int ct])), (cop, .inl (ckop, 3000, .inl cgop)), (ca, .inl (cka, 3000, .inl cga)), (cb, .inl (ckb, 3000, .inl cgb)), (cplace, .inl (ckplace, 3000, .inl cgplace)), (cnext, .inl (cknext, 3000, .inl cgnext)), (cneeded, .inl (ckneeded, 3000, .inl cgneeded)), (mp, .inr (9, [.ref gco, .ref gar, .ref gki, .ref gfu])), (gar, .inr (0, [.ref akind, .ref anext, .ref abefore, .ref aleave, .ref afirstSlot, .ref abuilds, .int az])), (akind, .inl (akkind, 400, .inl agkind)), (anext, .inl (aknext, 400, .inl agnext)), (abefore, .inl (akbefore, 400, .inl agbefore)), (afirstSlot, .inl (akfirstSlot, 400, .inl agfirstSlot)), (abuilds, .inl (akbuilds, 400, .inl agbuilds)), (mce, .inr (1, [.ref ek, .ref ec, .ref ef, .ref gki, .int e_limit, .int e_fresh, .int e_firstFree, .int e_held, .int e_mostHeld, .int e_made, .int e_reused, .int e_freed, .int e_doubled])), (ek, .inl (e1, 4000, .inl gk)), (ec, .inl (e2, 4000, .inl gc)), (ef, .inl (e3, 12000, .inr (.inl gv))), (gki, .inr (4, [.ref kw, .ref kf, .int kz])), (kw, .inl (k1, 20, .inr (.inl kgw))), (kf, .inl (k2, 20, .inl kgf)), (sh, .inl (sh1, 3000, .inl gsh))] sz)) 0 0 (va_A [(h0, .inr (5, [.ref mp, .ref gco, .ref mce, .int mcn, .ref sk, .int tp, .int ba, .ref kb, .ref kk, .ref ks, .int on, .ref sh, .int sn, .int mat, .int alw, .int st, .int mo, .int mh, .int sp, .long re])), (sk, .inl (sk1, 22424, .inr (.inl gs))), (gco, .inr (2, [.ref cop, .ref ca, .ref cb, .ref cplace, .ref cnext, .ref cneeded, .int cz, .int ct])), (cop, .inl (ckop, 3000, .inl cgop)), (ca, .inl (cka, 3000, .inl cga)), (cb, .inl (ckb, 3000, .inl cgb)), (cplace, .inl (ckplace, 3000, .inl cgplace)), (cnext, .inl (cknext, 3000, .inl cgnext)), (cneeded, .inl (ckneeded, 3000, .inl cgneeded)), (mp, .inr (9, [.ref gco, .ref gar, .ref gki, .ref gfu])), (gar, .inr (0, [.ref akind, .ref anext, .ref abefore, .ref aleave, .ref afirstSlot, .ref abuilds, .int az])), (akind, .inl (akkind, 400, .inl agkind)), (anext, .inl (aknext, 400, .inl agnext)), (abefore, .inl (akbefore, 400, .inl agbefore)), (afirstSlot, .inl (akfirstSlot, 400, .inl agfirstSlot)), (abuilds, .inl (akbuilds, 400, .inl agbuilds)), (mce, .inr (1, [.ref ek, .ref ec, .ref ef, .ref gki, .int e_limit, .int e_fresh, .int e_firstFree, .int e_held, .int e_mostHeld, .int e_made, .int e_reused, .int e_freed, .int e_doubled])), (ek, .inl (e1, 4000, .inl gk)), (ec, .inl (e2, 4000, .inl gc)), (ef, .inl (e3, 12000, .inr (.inl gv))), (gki, .inr (4, [.ref kw, .ref kf, .int kz])), (kw, .inl (k1, 20, .inr (.inl kgw))), (kf, .inl (k2, 20, .inl kgf)), (sh, .inl (sh1, 3000, .inl gsh))] sz) := by
  refine Met.ofW (cc := cX5_match) (maxL := 9) (ret := none) (by decide) rfl ?_
  intro p e s m args below meth c s₁ B hml hv
  obtain ⟨rfl, hsz, hP, hK, hD0, hN, hT⟩ := hv
  have hx := B.exec
  have hb := B.bytes
  have hr := B.returns
  have hts := atoms_spec (ws := Cond.code yX5_match cX5_match 9 none :: zw) B.pre
  have hA : ∀ w ∈ zw, w.before _ s = true := fun w h => hts w (List.mem_cons_of_mem _ h)
  have hown : s.vm.findClass RX5 = some m.cls := findClass_of_methodNamed B.named
  have hlocks := B.notSynchronized
  subst hsz
  have hD := hD0.self (sz := s.heap.size)
  generalize hAe : va_A [(h0, .inr (5, [.ref mp, .ref gco, .ref mce, .int mcn, .ref sk, .int tp, .int ba, .ref kb, .ref kk, .ref ks, .int on, .ref sh, .int sn, .int mat, .int alw, .int st, .int mo, .int mh, .int sp, .long re])), (sk, .inl (sk1, 22424, .inr (.inl gs))), (gco, .inr (2, [.ref cop, .ref ca, .ref cb, .ref cplace, .ref cnext, .ref cneeded, .int cz, .int ct])), (cop, .inl (ckop, 3000, .inl cgop)), (ca, .inl (cka, 3000, .inl cga)), (cb, .inl (ckb, 3000, .inl cgb)), (cplace, .inl (ckplace, 3000, .inl cgplace)), (cnext, .inl (cknext, 3000, .inl cgnext)), (cneeded, .inl (ckneeded, 3000, .inl cgneeded)), (mp, .inr (9, [.ref gco, .ref gar, .ref gki, .ref gfu])), (gar, .inr (0, [.ref akind, .ref anext, .ref abefore, .ref aleave, .ref afirstSlot, .ref abuilds, .int az])), (akind, .inl (akkind, 400, .inl agkind)), (anext, .inl (aknext, 400, .inl agnext)), (abefore, .inl (akbefore, 400, .inl agbefore)), (afirstSlot, .inl (akfirstSlot, 400, .inl agfirstSlot)), (abuilds, .inl (akbuilds, 400, .inl agbuilds)), (mce, .inr (1, [.ref ek, .ref ec, .ref ef, .ref gki, .int e_limit, .int e_fresh, .int e_firstFree, .int e_held, .int e_mostHeld, .int e_made, .int e_reused, .int e_freed, .int e_doubled])), (ek, .inl (e1, 4000, .inl gk)), (ec, .inl (e2, 4000, .inl gc)), (ef, .inl (e3, 12000, .inr (.inl gv))), (gki, .inr (4, [.ref kw, .ref kf, .int kz])), (kw, .inl (k1, 20, .inr (.inl kgw))), (kf, .inl (k2, 20, .inl kgf)), (sh, .inl (sh1, 3000, .inl gsh))] s.heap.size = A at hD hT ⊢
  have hAA : ∀ q : Nat, s.heap.size ≤ q → A q := fun q h => by rw [← hAe]; exact Or.inr h
  have hS : va_S A s.heap s.heap [] := va_S.rf
  have hl := lv_entry ([.ref h0, .int ro]) (n := 9) (Nat.le_of_ble_eq_true rfl)
  rw [lg_entry_eq]
  generalize (lg_sl ([.ref h0, .int ro]) ++ List.replicate (9 - (lg_sl ([.ref h0, .int ro])).length) Slot.unset).toArray = ls at hl ⊢
  have hl : lv_has ls 9 [(0, .ref h0), (1, .int ro)] := hl
  refine lv_aload_n hx hb dX5_match_0 rfl (lv_at hl 0 rfl) ?_
  refine va_get (D := (dC, dI)) (ci := 5) (v := .ref gco) (C := RX5) (T := TX5) (N := 20) hx hb hA zin_X5 hown hK hP 0 rfl rfl 1 (by decide) (hA _ wi_485) (fun _ h9 => h9) rfl dX5_match_1 ?_
  refine va_get (D := (dC, dI)) (ci := 2) (v := .ref ca) (C := RX2) (T := TX2) (N := 8) hx hb hA zin_X2 hown hK hP 2 rfl rfl 1 (by decide) (hA _ wi_182) (fun _ h9 => h9) rfl dX5_match_4 ?_
  refine lv_iload_n hx hb dX5_match_7 rfl (lv_at hl 1 rfl) ?_
  refine va_iald hx hb hK hP 4 2 rfl rfl (vp_in_iff.mpr ⟨by omega, by omega⟩) dX5_match_8 ?_
  refine lv_topi (fun x_1 ex_1 => ?_)
  have ix_1 : 0 ≤ x_1.toInt ∧ x_1.toInt < 24 := by rw [ex_1]; exact hsl
  have nx_1 := zn_nat (x := x_1) (by omega)
  refine lv_istore_n (lv' := [(2, .int x_1), (0, .ref h0), (1, .int ro)]) hx hb dX5_match_9 rfl hl (by decide) rfl (fun ls hl => ?_)
  refine lv_aload_n hx hb dX5_match_10 rfl (lv_at hl 1 rfl) ?_
  refine va_get (D := (dC, dI)) (ci := 5) (v := .ref sk) (C := RX5) (T := TX5) (N := 20) hx hb hA zin_X5 hown hK hP 0 rfl rfl 4 (by decide) (hA _ wi_488) (fun _ h9 => h9) rfl dX5_match_11 ?_
  refine lv_aload_n hx hb dX5_match_14 rfl (lv_at hl 1 rfl) ?_
  refine va_get (D := (dC, dI)) (ci := 5) (v := .int ba) (C := RX5) (T := TX5) (N := 20) hx hb hA zin_X5 hown hK hP 0 rfl rfl 6 (by decide) (hA _ wi_490) (fun _ h9 => h9) rfl dX5_match_15 ?_
  refine lv_iload_n hx hb dX5_match_18 rfl (lv_at hl 0 rfl) ?_
  refine lv_iadd hx hb dX5_match_19 ?_
  refine lv_topi (fun x_2 ex_2 => ?_)
  have ix_2 : x_2.toInt = ba.toInt + x_1.toInt := by rw [ex_2]; exact zi_addc rfl (by omega) (by omega)
  refine va_lald hx hb hK hP 1 0 rfl rfl (vp_in_iff.mpr ⟨by omega, by omega⟩) dX5_match_20 ?_
  refine lv_topl (fun x_3 ex_3 => ?_)
  have hv9 : x_3 = gs (Int32.toNatClampNeg ba + Int32.toNatClampNeg (cga (Int32.toNatClampNeg ro))) := by rw [ex_3, ← ex_1]; exact congrArg gs (by have := zn_nat (x := x_2) (by omega); have := zn_nat (x := ba) (by omega); have := zn_nat (x := x_1) (by omega); omega)
  refine lv_lstore_n (lv' := [(3, .long x_3), (2, .int x_1), (0, .ref h0), (1, .int ro)]) hx hb dX5_match_21 rfl hl (by decide) rfl (fun ls hl => ?_)
  refine lv_aload_n hx hb dX5_match_22 rfl (lv_at hl 2 rfl) ?_
  refine lv_aload_n hx hb dX5_match_23 rfl (lv_at hl 2 rfl) ?_
  refine va_get (D := (dC, dI)) (ci := 5) (v := .ref gco) (C := RX5) (T := TX5) (N := 20) hx hb hA zin_X5 hown hK hP 0 rfl rfl 1 (by decide) (hA _ wi_485) (fun _ h9 => h9) rfl dX5_match_24 ?_
  refine va_get (D := (dC, dI)) (ci := 2) (v := .ref cb) (C := RX2) (T := TX2) (N := 8) hx hb hA zin_X2 hown hK hP 2 rfl rfl 2 (by decide) (hA _ wi_187) (fun _ h9 => h9) rfl dX5_match_27 ?_
  refine lv_iload_n hx hb dX5_match_30 rfl (lv_at hl 3 rfl) ?_
  refine va_iald hx hb hK hP 5 3 rfl rfl (vp_in_iff.mpr ⟨by omega, by omega⟩) dX5_match_31 ?_
  refine lv_topi (fun x_4 ex_4 => ?_)
  refine lv_aload_n hx hb dX5_match_32 rfl (lv_at hl 2 rfl) ?_
  refine va_get (D := (dC, dI)) (ci := 5) (v := .ref mce) (C := RX5) (T := TX5) (N := 20) hx hb hA zin_X5 hown hK hP 0 rfl rfl 2 (by decide) (hA _ wi_486) (fun _ h9 => h9) rfl dX5_match_33 ?_
  refine lv_lload_n hx hb dX5_match_36 rfl (lv_at hl 0 rfl) ?_
  have hPc := hP.sub (ws' := [(mce, .inr (1, [.ref ek, .ref ec, .ref ef, .ref gki, .int e_limit, .int e_fresh, .int e_firstFree, .int e_held, .int e_mostHeld, .int e_made, .int e_reused, .int e_freed, .int e_doubled])), (ek, .inl (e1, 4000, .inl gk)), (ec, .inl (e2, 4000, .inl gc)), (ef, .inl (e3, 12000, .inr (.inl gv)))]) [16, 17, 18, 19] rfl
  have hDc := hD.sub (ws' := [(mce, .inr (1, [.ref ek, .ref ec, .ref ef, .ref gki, .int e_limit, .int e_fresh, .int e_firstFree, .int e_held, .int e_mostHeld, .int e_made, .int e_reused, .int e_freed, .int e_doubled])), (ek, .inl (e1, 4000, .inl gk)), (ec, .inl (e2, 4000, .inl gc)), (ef, .inl (e3, 12000, .inr (.inl gv)))]) [16, 17, 18, 19] (by decide) rfl
  have hKc := hK.sub (tys' := [(e1, .int), (e2, .int), (e3, .long)]) [12, 13, 14] rfl
  have hFc := va_free (wc := [(mce, .inr (1, [.ref ek, .ref ec, .ref ef, .ref gki, .int e_limit, .int e_fresh, .int e_firstFree, .int e_held, .int e_mostHeld, .int e_made, .int e_reused, .int e_freed, .int e_doubled])), (ek, .inl (e1, 4000, .inl gk)), (ec, .inl (e2, 4000, .inl gc)), (ef, .inl (e3, 12000, .inr (.inl gv)))]) hD hS hAA [16, 17, 18, 19] rfl
  refine va_calli (va_runV (As := [.long x_3]) (rest := [.int x_4, .ref h0]) ⟨hx, hb, hml, hown, hA⟩ (c_X1_kindOf_x4000 l dC dI aK aV mce ek ec ef gki e1 e2 e3 e_limit e_fresh e_firstFree e_held e_mostHeld e_made e_reused e_freed e_doubled gk gc gv x_3 s.heap.size (by rw [hv9]; exact fun g => ⟨(hmd.1 _ hps).2.1.1 g, by have := (hmd.1 _ hps).2.2 g; omega⟩)) (cwV 1 hA (zw_V wi_1246 wi_1247 wi_1248 wi_140 (zw_good wi_1249)) rfl rfl rfl (by decide +kernel) ⟨(Nat.le_of_ble_eq_true rfl), (Nat.le_of_ble_eq_true rfl)⟩) ⟨zP_blind, va_recv hKc hPc (ci := 1) (q0 := 0) rfl rfl, zz_pre hKc hPc hDc hN hT hS hFc⟩ rfl rfl hl.1 rfl (lv_room (Nat.le_of_ble_eq_true rfl)) dX5_match_37 ⟨(Nat.le_of_ble_eq_true rfl), (Nat.le_of_ble_eq_true rfl)⟩) hS (fun q _ h => hFc q h) hFc (fun r_5 u t H1 locs ht hvm hw hB hz1 hk1 hS => ?_)
  obtain ⟨hP1, hK1, hD1⟩ := hB
  rw [ht] at hP1
  have hK1 := va_K.moved hvm.symm hK1
  obtain ⟨hP, hD⟩ := va_join (wr := [(h0, .inr (5, [.ref mp, .ref gco, .ref mce, .int mcn, .ref sk, .int tp, .int ba, .ref kb, .ref kk, .ref ks, .int on, .ref sh, .int sn, .int mat, .int alw, .int st, .int mo, .int mh, .int sp, .long re])), (sk, .inl (sk1, 22424, .inr (.inl gs))), (gco, .inr (2, [.ref cop, .ref ca, .ref cb, .ref cplace, .ref cnext, .ref cneeded, .int cz, .int ct])), (cop, .inl (ckop, 3000, .inl cgop)), (ca, .inl (cka, 3000, .inl cga)), (cb, .inl (ckb, 3000, .inl cgb)), (cplace, .inl (ckplace, 3000, .inl cgplace)), (cnext, .inl (cknext, 3000, .inl cgnext)), (cneeded, .inl (ckneeded, 3000, .inl cgneeded)), (mp, .inr (9, [.ref gco, .ref gar, .ref gki, .ref gfu])), (gar, .inr (0, [.ref akind, .ref anext, .ref abefore, .ref aleave, .ref afirstSlot, .ref abuilds, .int az])), (akind, .inl (akkind, 400, .inl agkind)), (anext, .inl (aknext, 400, .inl agnext)), (abefore, .inl (akbefore, 400, .inl agbefore)), (afirstSlot, .inl (akfirstSlot, 400, .inl agfirstSlot)), (abuilds, .inl (akbuilds, 400, .inl agbuilds)), (gki, .inr (4, [.ref kw, .ref kf, .int kz])), (kw, .inl (k1, 20, .inr (.inl kgw))), (kf, .inl (k2, 20, .inl kgf)), (sh, .inl (sh1, 3000, .inl gsh))]) (w1 := [(mce, .inr (1, [.ref ek, .ref ec, .ref ef, .ref gki, .int e_limit, .int e_fresh, .int e_firstFree, .int e_held, .int e_mostHeld, .int e_made, .int e_reused, .int e_freed, .int e_doubled])), (ek, .inl (e1, 4000, .inl gk)), (ec, .inl (e2, 4000, .inl gc)), (ef, .inl (e3, 12000, .inr (.inl gv)))]) hP hD [16, 17, 18, 19] [0, 1, 2, 3, 4, 5, 6, 7, 8, 9, 10, 11, 12, 13, 14, 15, 20, 21, 22, 23] rfl rfl (by decide) (by decide) hk1 hFc hP1 hD1
  have hK := (hK.sub (tys' := [(sk1, .long), (ckop, .int), (cka, .int), (ckb, .int), (ckplace, .int), (cknext, .int), (ckneeded, .int), (akkind, .int), (aknext, .int), (akbefore, .int), (akfirstSlot, .int), (akbuilds, .int), (k1, .long), (k2, .int), (sh1, .int)]) [0, 1, 2, 3, 4, 5, 6, 7, 8, 9, 10, 11, 15, 16, 17] rfl).app hK1
  generalize H1 = H at hP hS ⊢
  have hP : va_P (dC, dI) vwCl [(h0, .inr (5, [.ref mp, .ref gco, .ref mce, .int mcn, .ref sk, .int tp, .int ba, .ref kb, .ref kk, .ref ks, .int on, .ref sh, .int sn, .int mat, .int alw, .int st, .int mo, .int mh, .int sp, .long re])), (sk, .inl (sk1, 22424, .inr (.inl gs))), (gco, .inr (2, [.ref cop, .ref ca, .ref cb, .ref cplace, .ref cnext, .ref cneeded, .int cz, .int ct])), (cop, .inl (ckop, 3000, .inl cgop)), (ca, .inl (cka, 3000, .inl cga)), (cb, .inl (ckb, 3000, .inl cgb)), (cplace, .inl (ckplace, 3000, .inl cgplace)), (cnext, .inl (cknext, 3000, .inl cgnext)), (cneeded, .inl (ckneeded, 3000, .inl cgneeded)), (mp, .inr (9, [.ref gco, .ref gar, .ref gki, .ref gfu])), (gar, .inr (0, [.ref akind, .ref anext, .ref abefore, .ref aleave, .ref afirstSlot, .ref abuilds, .int az])), (akind, .inl (akkind, 400, .inl agkind)), (anext, .inl (aknext, 400, .inl agnext)), (abefore, .inl (akbefore, 400, .inl agbefore)), (afirstSlot, .inl (akfirstSlot, 400, .inl agfirstSlot)), (abuilds, .inl (akbuilds, 400, .inl agbuilds)), (gki, .inr (4, [.ref kw, .ref kf, .int kz])), (kw, .inl (k1, 20, .inr (.inl kgw))), (kf, .inl (k2, 20, .inl kgf)), (sh, .inl (sh1, 3000, .inl gsh)), (mce, .inr (1, [.ref ek, .ref ec, .ref ef, .ref gki, .int e_limit, .int e_fresh, .int e_firstFree, .int e_held, .int e_mostHeld, .int e_made, .int e_reused, .int e_freed, .int e_doubled])), (ek, .inl (e1, 4000, .inl gk)), (ec, .inl (e2, 4000, .inl gc)), (ef, .inl (e3, 12000, .inr (.inl gv)))] H := hP
  have hD : va_D A [(h0, .inr (5, [.ref mp, .ref gco, .ref mce, .int mcn, .ref sk, .int tp, .int ba, .ref kb, .ref kk, .ref ks, .int on, .ref sh, .int sn, .int mat, .int alw, .int st, .int mo, .int mh, .int sp, .long re])), (sk, .inl (sk1, 22424, .inr (.inl gs))), (gco, .inr (2, [.ref cop, .ref ca, .ref cb, .ref cplace, .ref cnext, .ref cneeded, .int cz, .int ct])), (cop, .inl (ckop, 3000, .inl cgop)), (ca, .inl (cka, 3000, .inl cga)), (cb, .inl (ckb, 3000, .inl cgb)), (cplace, .inl (ckplace, 3000, .inl cgplace)), (cnext, .inl (cknext, 3000, .inl cgnext)), (cneeded, .inl (ckneeded, 3000, .inl cgneeded)), (mp, .inr (9, [.ref gco, .ref gar, .ref gki, .ref gfu])), (gar, .inr (0, [.ref akind, .ref anext, .ref abefore, .ref aleave, .ref afirstSlot, .ref abuilds, .int az])), (akind, .inl (akkind, 400, .inl agkind)), (anext, .inl (aknext, 400, .inl agnext)), (abefore, .inl (akbefore, 400, .inl agbefore)), (afirstSlot, .inl (akfirstSlot, 400, .inl agfirstSlot)), (abuilds, .inl (akbuilds, 400, .inl agbuilds)), (gki, .inr (4, [.ref kw, .ref kf, .int kz])), (kw, .inl (k1, 20, .inr (.inl kgw))), (kf, .inl (k2, 20, .inl kgf)), (sh, .inl (sh1, 3000, .inl gsh)), (mce, .inr (1, [.ref ek, .ref ec, .ref ef, .ref gki, .int e_limit, .int e_fresh, .int e_firstFree, .int e_held, .int e_mostHeld, .int e_made, .int e_reused, .int e_freed, .int e_doubled])), (ek, .inl (e1, 4000, .inl gk)), (ec, .inl (e2, 4000, .inl gc)), (ef, .inl (e3, 12000, .inr (.inl gv)))] := hD
  have hK : va_K (dC, dI) vwCl [(sk1, .long), (ckop, .int), (cka, .int), (ckb, .int), (ckplace, .int), (cknext, .int), (ckneeded, .int), (akkind, .int), (aknext, .int), (akbefore, .int), (akfirstSlot, .int), (akbuilds, .int), (k1, .long), (k2, .int), (sh1, .int), (e1, .int), (e2, .int), (e3, .long)] s := hK
  have hw_r_5 := hw
  try dsimp only at hw_r_5
  have hq_6 := hw
  have hPc := hP.sub (ws' := [(h0, .inr (5, [.ref mp, .ref gco, .ref mce, .int mcn, .ref sk, .int tp, .int ba, .ref kb, .ref kk, .ref ks, .int on, .ref sh, .int sn, .int mat, .int alw, .int st, .int mo, .int mh, .int sp, .long re])), (mp, .inr (9, [.ref gco, .ref gar, .ref gki, .ref gfu])), (gar, .inr (0, [.ref akind, .ref anext, .ref abefore, .ref aleave, .ref afirstSlot, .ref abuilds, .int az])), (akind, .inl (akkind, 400, .inl agkind)), (anext, .inl (aknext, 400, .inl agnext))]) [0, 9, 10, 11, 12] rfl
  have hDc := hD.sub (ws' := [(h0, .inr (5, [.ref mp, .ref gco, .ref mce, .int mcn, .ref sk, .int tp, .int ba, .ref kb, .ref kk, .ref ks, .int on, .ref sh, .int sn, .int mat, .int alw, .int st, .int mo, .int mh, .int sp, .long re])), (mp, .inr (9, [.ref gco, .ref gar, .ref gki, .ref gfu])), (gar, .inr (0, [.ref akind, .ref anext, .ref abefore, .ref aleave, .ref afirstSlot, .ref abuilds, .int az])), (akind, .inl (akkind, 400, .inl agkind)), (anext, .inl (aknext, 400, .inl agnext))]) [0, 9, 10, 11, 12] (by decide) rfl
  have hKc := hK.sub (tys' := [(akkind, .int), (aknext, .int)]) [7, 8] rfl
  have hFc := va_free (wc := [(h0, .inr (5, [.ref mp, .ref gco, .ref mce, .int mcn, .ref sk, .int tp, .int ba, .ref kb, .ref kk, .ref ks, .int on, .ref sh, .int sn, .int mat, .int alw, .int st, .int mo, .int mh, .int sp, .long re])), (mp, .inr (9, [.ref gco, .ref gar, .ref gki, .ref gfu])), (gar, .inr (0, [.ref akind, .ref anext, .ref abefore, .ref aleave, .ref afirstSlot, .ref abuilds, .int az])), (akind, .inl (akkind, 400, .inl agkind)), (anext, .inl (aknext, 400, .inl agnext))]) hD hS hAA [0, 9, 10, 11, 12] rfl
  refine va_calli (va_runV (As := [.int x_4, .int r_5]) (rest := []) ⟨hx, hb, hml, hown, hA⟩ (c_X5_fittingArm l dC dI aK aV h0 mp gco mce sk kb kk ks sh mcn tp ba on sn mat alw st mo mh sp re gar gki gfu akind anext abefore aleave afirstSlot abuilds az akkind aknext agkind agnext x_4 r_5 gA H.size (by rw [ex_4]; exact hli) (fun m9 hm => (harm m9 hm).1)) (cwV 2 hA (zw_V wi_1251 wi_1253 wi_60 wi_139 (zw_good wi_1254)) rfl rfl rfl (by decide +kernel) ⟨(Nat.le_of_ble_eq_true rfl), (Nat.le_of_ble_eq_true rfl)⟩) ⟨zP_blind, va_recv hKc hPc (ci := 5) (q0 := 0) rfl rfl, zz_pre hKc hPc hDc hN hT hS hFc⟩ rfl rfl hl.1 rfl (lv_room (Nat.le_of_ble_eq_true rfl)) dX5_match_40 ⟨(Nat.le_of_ble_eq_true rfl), (Nat.le_of_ble_eq_true rfl)⟩) hS (fun q _ h => hFc q h) hFc (fun r_7 u t H1 locs ht hvm hw hB hz1 hk1 hS => ?_)
  obtain ⟨hP1, hK1, hD1⟩ := hB
  rw [ht] at hP1
  have hK1 := va_K.moved hvm.symm hK1
  obtain ⟨hP, hD⟩ := va_join (wr := [(sk, .inl (sk1, 22424, .inr (.inl gs))), (gco, .inr (2, [.ref cop, .ref ca, .ref cb, .ref cplace, .ref cnext, .ref cneeded, .int cz, .int ct])), (cop, .inl (ckop, 3000, .inl cgop)), (ca, .inl (cka, 3000, .inl cga)), (cb, .inl (ckb, 3000, .inl cgb)), (cplace, .inl (ckplace, 3000, .inl cgplace)), (cnext, .inl (cknext, 3000, .inl cgnext)), (cneeded, .inl (ckneeded, 3000, .inl cgneeded)), (abefore, .inl (akbefore, 400, .inl agbefore)), (afirstSlot, .inl (akfirstSlot, 400, .inl agfirstSlot)), (abuilds, .inl (akbuilds, 400, .inl agbuilds)), (gki, .inr (4, [.ref kw, .ref kf, .int kz])), (kw, .inl (k1, 20, .inr (.inl kgw))), (kf, .inl (k2, 20, .inl kgf)), (sh, .inl (sh1, 3000, .inl gsh)), (mce, .inr (1, [.ref ek, .ref ec, .ref ef, .ref gki, .int e_limit, .int e_fresh, .int e_firstFree, .int e_held, .int e_mostHeld, .int e_made, .int e_reused, .int e_freed, .int e_doubled])), (ek, .inl (e1, 4000, .inl gk)), (ec, .inl (e2, 4000, .inl gc)), (ef, .inl (e3, 12000, .inr (.inl gv)))]) (w1 := [(h0, .inr (5, [.ref mp, .ref gco, .ref mce, .int mcn, .ref sk, .int tp, .int ba, .ref kb, .ref kk, .ref ks, .int on, .ref sh, .int sn, .int mat, .int alw, .int st, .int mo, .int mh, .int sp, .long re])), (mp, .inr (9, [.ref gco, .ref gar, .ref gki, .ref gfu])), (gar, .inr (0, [.ref akind, .ref anext, .ref abefore, .ref aleave, .ref afirstSlot, .ref abuilds, .int az])), (akind, .inl (akkind, 400, .inl agkind)), (anext, .inl (aknext, 400, .inl agnext))]) hP hD [0, 9, 10, 11, 12] [1, 2, 3, 4, 5, 6, 7, 8, 13, 14, 15, 16, 17, 18, 19, 20, 21, 22, 23] rfl rfl (by decide) (by decide) hk1 hFc hP1 hD1
  have hK := (hK.sub (tys' := [(sk1, .long), (ckop, .int), (cka, .int), (ckb, .int), (ckplace, .int), (cknext, .int), (ckneeded, .int), (akbefore, .int), (akfirstSlot, .int), (akbuilds, .int), (k1, .long), (k2, .int), (sh1, .int), (e1, .int), (e2, .int), (e3, .long)]) [0, 1, 2, 3, 4, 5, 6, 9, 10, 11, 12, 13, 14, 15, 16, 17] rfl).app hK1
  generalize H1 = H at hP hS ⊢
  have hP : va_P (dC, dI) vwCl [(sk, .inl (sk1, 22424, .inr (.inl gs))), (gco, .inr (2, [.ref cop, .ref ca, .ref cb, .ref cplace, .ref cnext, .ref cneeded, .int cz, .int ct])), (cop, .inl (ckop, 3000, .inl cgop)), (ca, .inl (cka, 3000, .inl cga)), (cb, .inl (ckb, 3000, .inl cgb)), (cplace, .inl (ckplace, 3000, .inl cgplace)), (cnext, .inl (cknext, 3000, .inl cgnext)), (cneeded, .inl (ckneeded, 3000, .inl cgneeded)), (abefore, .inl (akbefore, 400, .inl agbefore)), (afirstSlot, .inl (akfirstSlot, 400, .inl agfirstSlot)), (abuilds, .inl (akbuilds, 400, .inl agbuilds)), (gki, .inr (4, [.ref kw, .ref kf, .int kz])), (kw, .inl (k1, 20, .inr (.inl kgw))), (kf, .inl (k2, 20, .inl kgf)), (sh, .inl (sh1, 3000, .inl gsh)), (mce, .inr (1, [.ref ek, .ref ec, .ref ef, .ref gki, .int e_limit, .int e_fresh, .int e_firstFree, .int e_held, .int e_mostHeld, .int e_made, .int e_reused, .int e_freed, .int e_doubled])), (ek, .inl (e1, 4000, .inl gk)), (ec, .inl (e2, 4000, .inl gc)), (ef, .inl (e3, 12000, .inr (.inl gv))), (h0, .inr (5, [.ref mp, .ref gco, .ref mce, .int mcn, .ref sk, .int tp, .int ba, .ref kb, .ref kk, .ref ks, .int on, .ref sh, .int sn, .int mat, .int alw, .int st, .int mo, .int mh, .int sp, .long re])), (mp, .inr (9, [.ref gco, .ref gar, .ref gki, .ref gfu])), (gar, .inr (0, [.ref akind, .ref anext, .ref abefore, .ref aleave, .ref afirstSlot, .ref abuilds, .int az])), (akind, .inl (akkind, 400, .inl agkind)), (anext, .inl (aknext, 400, .inl agnext))] H := hP
  have hD : va_D A [(sk, .inl (sk1, 22424, .inr (.inl gs))), (gco, .inr (2, [.ref cop, .ref ca, .ref cb, .ref cplace, .ref cnext, .ref cneeded, .int cz, .int ct])), (cop, .inl (ckop, 3000, .inl cgop)), (ca, .inl (cka, 3000, .inl cga)), (cb, .inl (ckb, 3000, .inl cgb)), (cplace, .inl (ckplace, 3000, .inl cgplace)), (cnext, .inl (cknext, 3000, .inl cgnext)), (cneeded, .inl (ckneeded, 3000, .inl cgneeded)), (abefore, .inl (akbefore, 400, .inl agbefore)), (afirstSlot, .inl (akfirstSlot, 400, .inl agfirstSlot)), (abuilds, .inl (akbuilds, 400, .inl agbuilds)), (gki, .inr (4, [.ref kw, .ref kf, .int kz])), (kw, .inl (k1, 20, .inr (.inl kgw))), (kf, .inl (k2, 20, .inl kgf)), (sh, .inl (sh1, 3000, .inl gsh)), (mce, .inr (1, [.ref ek, .ref ec, .ref ef, .ref gki, .int e_limit, .int e_fresh, .int e_firstFree, .int e_held, .int e_mostHeld, .int e_made, .int e_reused, .int e_freed, .int e_doubled])), (ek, .inl (e1, 4000, .inl gk)), (ec, .inl (e2, 4000, .inl gc)), (ef, .inl (e3, 12000, .inr (.inl gv))), (h0, .inr (5, [.ref mp, .ref gco, .ref mce, .int mcn, .ref sk, .int tp, .int ba, .ref kb, .ref kk, .ref ks, .int on, .ref sh, .int sn, .int mat, .int alw, .int st, .int mo, .int mh, .int sp, .long re])), (mp, .inr (9, [.ref gco, .ref gar, .ref gki, .ref gfu])), (gar, .inr (0, [.ref akind, .ref anext, .ref abefore, .ref aleave, .ref afirstSlot, .ref abuilds, .int az])), (akind, .inl (akkind, 400, .inl agkind)), (anext, .inl (aknext, 400, .inl agnext))] := hD
  have hK : va_K (dC, dI) vwCl [(sk1, .long), (ckop, .int), (cka, .int), (ckb, .int), (ckplace, .int), (cknext, .int), (ckneeded, .int), (akbefore, .int), (akfirstSlot, .int), (akbuilds, .int), (k1, .long), (k2, .int), (sh1, .int), (e1, .int), (e2, .int), (e3, .long), (akkind, .int), (aknext, .int)] s := hK
  have hw_r_7 := hw
  try dsimp only at hw_r_7
  obtain ⟨hq_8, hq_9⟩ := hw
  refine lv_istore (lv' := [(5, .int r_7), (3, .long x_3), (2, .int x_1), (0, .ref h0), (1, .int ro)]) hx hb dX5_match_43 hl (by decide) rfl (fun ls hl => ?_)
  refine lv_iload hx hb dX5_match_45 (lv_at hl 0 rfl) ?_
  refine lv_iconst (v := (-1)) hx hb dX5_match_47 (by decide) ?_
  refine lv_icmp_ne (tgt := 58) hx hb dX5_match_48 (by decide) (fun c_10 => ?_) (fun c_10 => ?_)
  · have ic_10 : r_7.toInt ≠ (-1) := zi_ne c_10
    have hfa9 := hq_8.resolve_left (by omega)
    have har9 := harm _ hfa9.2.2.1
    have hns8 := zn_nat (x := x_1) (by omega)
    have hnf8 := zn_nat (x := agfirstSlot (Int32.toNatClampNeg r_7)) (by rw [har9.2.2.1]; have := hsc; rw [← ex_1] at this; omega)
    have hnb8 := zn_nat (x := ba) (by omega)
    have hsc9 : x_1.toInt < scz := by rw [ex_1]; exact hsc
    have hns9 : Int32.toNatClampNeg x_1 = Int32.toNatClampNeg (cga (Int32.toNatClampNeg ro)) := by rw [ex_1]
    have hfs9 : 0 ≤ (agfirstSlot (Int32.toNatClampNeg r_7)).toInt ∧ (agfirstSlot (Int32.toNatClampNeg r_7)).toInt + zfk kz kgf (agkind (Int32.toNatClampNeg r_7)) ≤ 24 := ⟨by rw [har9.2.2.1]; omega, by rw [har9.2.2.1]; exact har9.2.2.2.1⟩
    have hfz9 := har9.2.2.1
    have hfq9 := har9.2.2.2.1
    refine lv_aload_n hx hb dX5_match_58 rfl (lv_at hl 3 rfl) ?_
    refine lv_aload_n hx hb dX5_match_59 rfl (lv_at hl 3 rfl) ?_
    refine va_get (D := (dC, dI)) (ci := 5) (v := .ref mp) (C := RX5) (T := TX5) (N := 20) hx hb hA zin_X5 hown hK hP 19 rfl rfl 0 (by decide) (hA _ wi_484) (fun _ h9 => h9) rfl dX5_match_60 ?_
    refine va_get (D := (dC, dI)) (ci := 9) (v := .ref gar) (C := RX9) (T := TX9) (N := 4) hx hb hA zin_X9 hown hK hP 20 rfl rfl 1 (by decide) (hA _ wi_315) (fun _ h9 => h9) rfl dX5_match_63 ?_
    refine va_get (D := (dC, dI)) (ci := 0) (v := .ref abefore) (C := RX0) (T := TX0) (N := 7) hx hb hA zin_X0 hown hK hP 21 rfl rfl 2 (by decide) (hA _ wi_238) (fun _ h9 => h9) rfl dX5_match_66 ?_
    refine lv_iload hx hb dX5_match_69 (lv_at hl 0 rfl) ?_
    refine va_iald hx hb hK hP 8 7 rfl rfl (vp_in_iff.mpr ⟨by omega, by omega⟩) dX5_match_71 ?_
    refine lv_topi (fun x_11 ex_11 => ?_)
    have ix_11 : 0 ≤ x_11.toInt ∧ x_11.toInt < 3000 := by rw [ex_11]; exact har9.2.1
    have hPc := hP.sub (ws' := [(h0, .inr (5, [.ref mp, .ref gco, .ref mce, .int mcn, .ref sk, .int tp, .int ba, .ref kb, .ref kk, .ref ks, .int on, .ref sh, .int sn, .int mat, .int alw, .int st, .int mo, .int mh, .int sp, .long re])), (gco, .inr (2, [.ref cop, .ref ca, .ref cb, .ref cplace, .ref cnext, .ref cneeded, .int cz, .int ct])), (cnext, .inl (cknext, 3000, .inl cgnext))]) [19, 1, 6] rfl
    have hDc := hD.sub (ws' := [(h0, .inr (5, [.ref mp, .ref gco, .ref mce, .int mcn, .ref sk, .int tp, .int ba, .ref kb, .ref kk, .ref ks, .int on, .ref sh, .int sn, .int mat, .int alw, .int st, .int mo, .int mh, .int sp, .long re])), (gco, .inr (2, [.ref cop, .ref ca, .ref cb, .ref cplace, .ref cnext, .ref cneeded, .int cz, .int ct])), (cnext, .inl (cknext, 3000, .inl cgnext))]) [19, 1, 6] (by decide) rfl
    have hKc := hK.sub (tys' := [(cknext, .int)]) [5] rfl
    have hFc := va_free (wc := [(h0, .inr (5, [.ref mp, .ref gco, .ref mce, .int mcn, .ref sk, .int tp, .int ba, .ref kb, .ref kk, .ref ks, .int on, .ref sh, .int sn, .int mat, .int alw, .int st, .int mo, .int mh, .int sp, .long re])), (gco, .inr (2, [.ref cop, .ref ca, .ref cb, .ref cplace, .ref cnext, .ref cneeded, .int cz, .int ct])), (cnext, .inl (cknext, 3000, .inl cgnext))]) hD hS hAA [19, 1, 6] rfl
    refine va_callv (va_runV (As := [.int x_11]) (rest := []) ⟨hx, hb, hml, hown, hA⟩ (c_X5_goBehind l dC dI aK aV h0 mp gco mce sk kb kk ks sh mcn tp ba on sn mat alw st mo mh sp re cop ca cb cplace cnext cneeded cz ct cknext cgnext x_11 H.size (by omega) (by omega)) (cwV 1 hA (zw_V wi_1238 wi_1240 wi_58 wi_139 (zw_good wi_1241)) rfl rfl rfl (by decide +kernel) ⟨(Nat.le_of_ble_eq_true rfl), (Nat.le_of_ble_eq_true rfl)⟩) ⟨zP_blind, va_recv hKc hPc (ci := 5) (q0 := 0) rfl rfl, zz_pre hKc hPc hDc hN hT hS hFc⟩ rfl rfl hl.1 rfl (lv_room (Nat.le_of_ble_eq_true rfl)) dX5_match_72 ⟨(Nat.le_of_ble_eq_true rfl), (Nat.le_of_ble_eq_true rfl)⟩) hS (fun q _ h => hFc q h) hFc (fun u t H1 locs ht hvm hw hB hz1 hk1 hS => ?_)
    obtain ⟨mat_13, rfl⟩ : ∃ z, z = u := ⟨_, rfl⟩
    obtain ⟨hP1, hK1, hD1⟩ := hB
    rw [ht] at hP1
    have hK1 := va_K.moved hvm.symm hK1
    obtain ⟨hP, hD⟩ := va_join (wr := [(sk, .inl (sk1, 22424, .inr (.inl gs))), (cop, .inl (ckop, 3000, .inl cgop)), (ca, .inl (cka, 3000, .inl cga)), (cb, .inl (ckb, 3000, .inl cgb)), (cplace, .inl (ckplace, 3000, .inl cgplace)), (cneeded, .inl (ckneeded, 3000, .inl cgneeded)), (abefore, .inl (akbefore, 400, .inl agbefore)), (afirstSlot, .inl (akfirstSlot, 400, .inl agfirstSlot)), (abuilds, .inl (akbuilds, 400, .inl agbuilds)), (gki, .inr (4, [.ref kw, .ref kf, .int kz])), (kw, .inl (k1, 20, .inr (.inl kgw))), (kf, .inl (k2, 20, .inl kgf)), (sh, .inl (sh1, 3000, .inl gsh)), (mce, .inr (1, [.ref ek, .ref ec, .ref ef, .ref gki, .int e_limit, .int e_fresh, .int e_firstFree, .int e_held, .int e_mostHeld, .int e_made, .int e_reused, .int e_freed, .int e_doubled])), (ek, .inl (e1, 4000, .inl gk)), (ec, .inl (e2, 4000, .inl gc)), (ef, .inl (e3, 12000, .inr (.inl gv))), (mp, .inr (9, [.ref gco, .ref gar, .ref gki, .ref gfu])), (gar, .inr (0, [.ref akind, .ref anext, .ref abefore, .ref aleave, .ref afirstSlot, .ref abuilds, .int az])), (akind, .inl (akkind, 400, .inl agkind)), (anext, .inl (aknext, 400, .inl agnext))]) (w1 := [(h0, .inr (5, [.ref mp, .ref gco, .ref mce, .int mcn, .ref sk, .int tp, .int ba, .ref kb, .ref kk, .ref ks, .int on, .ref sh, .int sn, .int mat_13, .int alw, .int st, .int mo, .int mh, .int sp, .long re])), (gco, .inr (2, [.ref cop, .ref ca, .ref cb, .ref cplace, .ref cnext, .ref cneeded, .int cz, .int ct])), (cnext, .inl (cknext, 3000, .inl cgnext))]) hP hD [19, 1, 6] [0, 2, 3, 4, 5, 7, 8, 9, 10, 11, 12, 13, 14, 15, 16, 17, 18, 20, 21, 22, 23] rfl rfl (by decide) (by decide) hk1 hFc hP1 hD1
    have hK := (hK.sub (tys' := [(sk1, .long), (ckop, .int), (cka, .int), (ckb, .int), (ckplace, .int), (ckneeded, .int), (akbefore, .int), (akfirstSlot, .int), (akbuilds, .int), (k1, .long), (k2, .int), (sh1, .int), (e1, .int), (e2, .int), (e3, .long), (akkind, .int), (aknext, .int)]) [0, 1, 2, 3, 4, 6, 7, 8, 9, 10, 11, 12, 13, 14, 15, 16, 17] rfl).app hK1
    generalize H1 = H at hP hS ⊢
    have hP : va_P (dC, dI) vwCl [(sk, .inl (sk1, 22424, .inr (.inl gs))), (cop, .inl (ckop, 3000, .inl cgop)), (ca, .inl (cka, 3000, .inl cga)), (cb, .inl (ckb, 3000, .inl cgb)), (cplace, .inl (ckplace, 3000, .inl cgplace)), (cneeded, .inl (ckneeded, 3000, .inl cgneeded)), (abefore, .inl (akbefore, 400, .inl agbefore)), (afirstSlot, .inl (akfirstSlot, 400, .inl agfirstSlot)), (abuilds, .inl (akbuilds, 400, .inl agbuilds)), (gki, .inr (4, [.ref kw, .ref kf, .int kz])), (kw, .inl (k1, 20, .inr (.inl kgw))), (kf, .inl (k2, 20, .inl kgf)), (sh, .inl (sh1, 3000, .inl gsh)), (mce, .inr (1, [.ref ek, .ref ec, .ref ef, .ref gki, .int e_limit, .int e_fresh, .int e_firstFree, .int e_held, .int e_mostHeld, .int e_made, .int e_reused, .int e_freed, .int e_doubled])), (ek, .inl (e1, 4000, .inl gk)), (ec, .inl (e2, 4000, .inl gc)), (ef, .inl (e3, 12000, .inr (.inl gv))), (mp, .inr (9, [.ref gco, .ref gar, .ref gki, .ref gfu])), (gar, .inr (0, [.ref akind, .ref anext, .ref abefore, .ref aleave, .ref afirstSlot, .ref abuilds, .int az])), (akind, .inl (akkind, 400, .inl agkind)), (anext, .inl (aknext, 400, .inl agnext)), (h0, .inr (5, [.ref mp, .ref gco, .ref mce, .int mcn, .ref sk, .int tp, .int ba, .ref kb, .ref kk, .ref ks, .int on, .ref sh, .int sn, .int mat_13, .int alw, .int st, .int mo, .int mh, .int sp, .long re])), (gco, .inr (2, [.ref cop, .ref ca, .ref cb, .ref cplace, .ref cnext, .ref cneeded, .int cz, .int ct])), (cnext, .inl (cknext, 3000, .inl cgnext))] H := hP
    have hD : va_D A [(sk, .inl (sk1, 22424, .inr (.inl gs))), (cop, .inl (ckop, 3000, .inl cgop)), (ca, .inl (cka, 3000, .inl cga)), (cb, .inl (ckb, 3000, .inl cgb)), (cplace, .inl (ckplace, 3000, .inl cgplace)), (cneeded, .inl (ckneeded, 3000, .inl cgneeded)), (abefore, .inl (akbefore, 400, .inl agbefore)), (afirstSlot, .inl (akfirstSlot, 400, .inl agfirstSlot)), (abuilds, .inl (akbuilds, 400, .inl agbuilds)), (gki, .inr (4, [.ref kw, .ref kf, .int kz])), (kw, .inl (k1, 20, .inr (.inl kgw))), (kf, .inl (k2, 20, .inl kgf)), (sh, .inl (sh1, 3000, .inl gsh)), (mce, .inr (1, [.ref ek, .ref ec, .ref ef, .ref gki, .int e_limit, .int e_fresh, .int e_firstFree, .int e_held, .int e_mostHeld, .int e_made, .int e_reused, .int e_freed, .int e_doubled])), (ek, .inl (e1, 4000, .inl gk)), (ec, .inl (e2, 4000, .inl gc)), (ef, .inl (e3, 12000, .inr (.inl gv))), (mp, .inr (9, [.ref gco, .ref gar, .ref gki, .ref gfu])), (gar, .inr (0, [.ref akind, .ref anext, .ref abefore, .ref aleave, .ref afirstSlot, .ref abuilds, .int az])), (akind, .inl (akkind, 400, .inl agkind)), (anext, .inl (aknext, 400, .inl agnext)), (h0, .inr (5, [.ref mp, .ref gco, .ref mce, .int mcn, .ref sk, .int tp, .int ba, .ref kb, .ref kk, .ref ks, .int on, .ref sh, .int sn, .int mat_13, .int alw, .int st, .int mo, .int mh, .int sp, .long re])), (gco, .inr (2, [.ref cop, .ref ca, .ref cb, .ref cplace, .ref cnext, .ref cneeded, .int cz, .int ct])), (cnext, .inl (cknext, 3000, .inl cgnext))] := hD
    have hK : va_K (dC, dI) vwCl [(sk1, .long), (ckop, .int), (cka, .int), (ckb, .int), (ckplace, .int), (ckneeded, .int), (akbefore, .int), (akfirstSlot, .int), (akbuilds, .int), (k1, .long), (k2, .int), (sh1, .int), (e1, .int), (e2, .int), (e3, .long), (akkind, .int), (aknext, .int), (cknext, .int)] s := hK
    have hq_14 := hw
    have hmt9 : mat_13 = cgnext (Int32.toNatClampNeg (agbefore (Int32.toNatClampNeg r_7))) := by rw [← ex_11]; exact (hq_14.resolve_left (fun u => by omega)).2
    refine lv_aload_n hx hb dX5_match_75 rfl (lv_at hl 3 rfl) ?_
    refine va_get (D := (dC, dI)) (ci := 5) (v := .int mcn) (C := RX5) (T := TX5) (N := 20) hx hb hA zin_X5 hown hK hP 21 rfl rfl 3 (by decide) (hA _ wi_487) (fun _ h9 => h9) rfl dX5_match_76 ?_
    refine lv_if_ne (tgt := 95) hx hb dX5_match_79 (by decide) (fun c_15 => ?_) (fun c_15 => ?_)
    · have ic_15 : mcn.toInt ≠ 0 := zi_ne c_15
      exfalso
      omega
    · have ic_15 : mcn.toInt = 0 := zi_eq c_15
      refine lv_aload_n hx hb dX5_match_82 rfl (lv_at hl 3 rfl) ?_
      refine lv_iload hx hb dX5_match_83 (lv_at hl 0 rfl) ?_
      refine lv_lload_n hx hb dX5_match_85 rfl (lv_at hl 1 rfl) ?_
      have hkp9 : zhs x_3 = 2 → gk (Int32.toNatClampNeg (x_3.toInt32)) = (agkind (Int32.toNatClampNeg r_7)) ∨ zfk kz kgf (agkind (Int32.toNatClampNeg r_7)) = 0 := fun g => hfa9.2.2.2.elim (fun u => Or.inr (zfk_m2 u)) (fun u => Or.inl (by rw [u]; exact hq_6.elim (fun w => absurd (g.symm.trans w.1) (by decide)) (fun w => w.elim (fun q => q.2.symm) (fun q => absurd g q.2.1))))
      have hz09 : zhs x_3 ≠ 2 → zfk kz kgf (agkind (Int32.toNatClampNeg r_7)) = 0 := fun g => hfa9.2.2.2.elim (fun u => zfk_m2 u) (fun u => hq_6.elim (fun w => by have h9a := har9.2.2.2.2; rw [u, w.2] at h9a; have h9b : Int32.toInt (-1) = -1 := (by decide); omega) (fun w => w.elim (fun q => absurd q.1 g) (fun q => by rw [u, q.2.2, hv9]; exact (hmd.1 _ hps).2.1.2 (by rw [← hv9]; exact q.1) (by rw [← hv9]; exact q.2.1))))
      have hPc := hP.sub (ws' := [(h0, .inr (5, [.ref mp, .ref gco, .ref mce, .int mcn, .ref sk, .int tp, .int ba, .ref kb, .ref kk, .ref ks, .int on, .ref sh, .int sn, .int mat_13, .int alw, .int st, .int mo, .int mh, .int sp, .long re])), (sk, .inl (sk1, 22424, .inr (.inl gs))), (mp, .inr (9, [.ref gco, .ref gar, .ref gki, .ref gfu])), (gar, .inr (0, [.ref akind, .ref anext, .ref abefore, .ref aleave, .ref afirstSlot, .ref abuilds, .int az])), (akind, .inl (akkind, 400, .inl agkind)), (afirstSlot, .inl (akfirstSlot, 400, .inl agfirstSlot)), (mce, .inr (1, [.ref ek, .ref ec, .ref ef, .ref gki, .int e_limit, .int e_fresh, .int e_firstFree, .int e_held, .int e_mostHeld, .int e_made, .int e_reused, .int e_freed, .int e_doubled])), (ek, .inl (e1, 4000, .inl gk)), (ec, .inl (e2, 4000, .inl gc)), (ef, .inl (e3, 12000, .inr (.inl gv))), (gki, .inr (4, [.ref kw, .ref kf, .int kz])), (kw, .inl (k1, 20, .inr (.inl kgw))), (kf, .inl (k2, 20, .inl kgf))]) [21, 0, 17, 18, 19, 7, 13, 14, 15, 16, 9, 10, 11] rfl
      have hDc := hD.sub (ws' := [(h0, .inr (5, [.ref mp, .ref gco, .ref mce, .int mcn, .ref sk, .int tp, .int ba, .ref kb, .ref kk, .ref ks, .int on, .ref sh, .int sn, .int mat_13, .int alw, .int st, .int mo, .int mh, .int sp, .long re])), (sk, .inl (sk1, 22424, .inr (.inl gs))), (mp, .inr (9, [.ref gco, .ref gar, .ref gki, .ref gfu])), (gar, .inr (0, [.ref akind, .ref anext, .ref abefore, .ref aleave, .ref afirstSlot, .ref abuilds, .int az])), (akind, .inl (akkind, 400, .inl agkind)), (afirstSlot, .inl (akfirstSlot, 400, .inl agfirstSlot)), (mce, .inr (1, [.ref ek, .ref ec, .ref ef, .ref gki, .int e_limit, .int e_fresh, .int e_firstFree, .int e_held, .int e_mostHeld, .int e_made, .int e_reused, .int e_freed, .int e_doubled])), (ek, .inl (e1, 4000, .inl gk)), (ec, .inl (e2, 4000, .inl gc)), (ef, .inl (e3, 12000, .inr (.inl gv))), (gki, .inr (4, [.ref kw, .ref kf, .int kz])), (kw, .inl (k1, 20, .inr (.inl kgw))), (kf, .inl (k2, 20, .inl kgf))]) [21, 0, 17, 18, 19, 7, 13, 14, 15, 16, 9, 10, 11] (by decide) rfl
      have hKc := hK.sub (tys' := [(sk1, .long), (akkind, .int), (akfirstSlot, .int), (e1, .int), (e2, .int), (e3, .long), (k1, .long), (k2, .int)]) [0, 15, 7, 12, 13, 14, 9, 10] rfl
      have hFc := va_free (wc := [(h0, .inr (5, [.ref mp, .ref gco, .ref mce, .int mcn, .ref sk, .int tp, .int ba, .ref kb, .ref kk, .ref ks, .int on, .ref sh, .int sn, .int mat_13, .int alw, .int st, .int mo, .int mh, .int sp, .long re])), (sk, .inl (sk1, 22424, .inr (.inl gs))), (mp, .inr (9, [.ref gco, .ref gar, .ref gki, .ref gfu])), (gar, .inr (0, [.ref akind, .ref anext, .ref abefore, .ref aleave, .ref afirstSlot, .ref abuilds, .int az])), (akind, .inl (akkind, 400, .inl agkind)), (afirstSlot, .inl (akfirstSlot, 400, .inl agfirstSlot)), (mce, .inr (1, [.ref ek, .ref ec, .ref ef, .ref gki, .int e_limit, .int e_fresh, .int e_firstFree, .int e_held, .int e_mostHeld, .int e_made, .int e_reused, .int e_freed, .int e_doubled])), (ek, .inl (e1, 4000, .inl gk)), (ec, .inl (e2, 4000, .inl gc)), (ef, .inl (e3, 12000, .inr (.inl gv))), (gki, .inr (4, [.ref kw, .ref kf, .int kz])), (kw, .inl (k1, 20, .inr (.inl kgw))), (kf, .inl (k2, 20, .inl kgf))]) hD hS hAA [21, 0, 17, 18, 19, 7, 13, 14, 15, 16, 9, 10, 11] rfl
      refine va_callv (va_runV (As := [.int r_7, .long x_3]) (rest := []) ⟨hx, hb, hml, hown, hA⟩ (c_X5_bindPlainly_x l dC dI aK aV h0 mp gco mce sk kb kk ks sh mcn tp ba on sn mat_13 alw st mo mh sp re sk1 gs gar gfu akind anext abefore aleave afirstSlot abuilds az akkind akfirstSlot agkind agfirstSlot ek ec ef gki e1 e2 e3 e_limit e_fresh e_firstFree e_held e_mostHeld e_made e_reused e_freed e_doubled gk gc gv kw kf k1 k2 kz kgw kgf r_7 x_3 gsh nS pp H.size (by omega) (by omega) hkf hnS (by omega) (by omega) (by omega) (by omega) hfs9 (by omega) hmd (by rw [hv9]; exact (hmd.1 _ hps).2) hkp9) (cwV 2 hA (zw_V wi_1255 wi_1257 wi_61 wi_139 (zw_good wi_1258)) rfl rfl rfl (by decide +kernel) ⟨(Nat.le_of_ble_eq_true rfl), (Nat.le_of_ble_eq_true rfl)⟩) ⟨zP_blind, va_recv hKc hPc (ci := 5) (q0 := 0) rfl rfl, zz_pre hKc hPc hDc hN hT hS hFc⟩ rfl rfl hl.1 rfl (lv_room (Nat.le_of_ble_eq_true rfl)) dX5_match_86 ⟨(Nat.le_of_ble_eq_true rfl), (Nat.le_of_ble_eq_true rfl)⟩) hS (fun q _ h => hFc q h) hFc (fun u t H1 locs ht hvm hw hB hz1 hk1 hS => ?_)
      obtain ⟨gs_17, rfl⟩ : ∃ z, z = u := ⟨_, rfl⟩
      obtain ⟨hP1, hK1, hD1⟩ := hB
      rw [ht] at hP1
      have hK1 := va_K.moved hvm.symm hK1
      obtain ⟨hP, hD⟩ := va_join (wr := [(cop, .inl (ckop, 3000, .inl cgop)), (ca, .inl (cka, 3000, .inl cga)), (cb, .inl (ckb, 3000, .inl cgb)), (cplace, .inl (ckplace, 3000, .inl cgplace)), (cneeded, .inl (ckneeded, 3000, .inl cgneeded)), (abefore, .inl (akbefore, 400, .inl agbefore)), (abuilds, .inl (akbuilds, 400, .inl agbuilds)), (sh, .inl (sh1, 3000, .inl gsh)), (anext, .inl (aknext, 400, .inl agnext)), (gco, .inr (2, [.ref cop, .ref ca, .ref cb, .ref cplace, .ref cnext, .ref cneeded, .int cz, .int ct])), (cnext, .inl (cknext, 3000, .inl cgnext))]) (w1 := [(h0, .inr (5, [.ref mp, .ref gco, .ref mce, .int mcn, .ref sk, .int tp, .int ba, .ref kb, .ref kk, .ref ks, .int on, .ref sh, .int sn, .int mat_13, .int alw, .int st, .int mo, .int mh, .int sp, .long re])), (sk, .inl (sk1, 22424, .inr (.inl gs_17))), (mp, .inr (9, [.ref gco, .ref gar, .ref gki, .ref gfu])), (gar, .inr (0, [.ref akind, .ref anext, .ref abefore, .ref aleave, .ref afirstSlot, .ref abuilds, .int az])), (akind, .inl (akkind, 400, .inl agkind)), (afirstSlot, .inl (akfirstSlot, 400, .inl agfirstSlot)), (mce, .inr (1, [.ref ek, .ref ec, .ref ef, .ref gki, .int e_limit, .int e_fresh, .int e_firstFree, .int e_held, .int e_mostHeld, .int e_made, .int e_reused, .int e_freed, .int e_doubled])), (ek, .inl (e1, 4000, .inl gk)), (ec, .inl (e2, 4000, .inl gc)), (ef, .inl (e3, 12000, .inr (.inl gv))), (gki, .inr (4, [.ref kw, .ref kf, .int kz])), (kw, .inl (k1, 20, .inr (.inl kgw))), (kf, .inl (k2, 20, .inl kgf))]) hP hD [21, 0, 17, 18, 19, 7, 13, 14, 15, 16, 9, 10, 11] [1, 2, 3, 4, 5, 6, 8, 12, 20, 22, 23] rfl rfl (by decide) (by decide) hk1 hFc hP1 hD1
      have hK := (hK.sub (tys' := [(ckop, .int), (cka, .int), (ckb, .int), (ckplace, .int), (ckneeded, .int), (akbefore, .int), (akbuilds, .int), (sh1, .int), (aknext, .int), (cknext, .int)]) [1, 2, 3, 4, 5, 6, 8, 11, 16, 17] rfl).app hK1
      generalize H1 = H at hP hS ⊢
      have hP : va_P (dC, dI) vwCl [(cop, .inl (ckop, 3000, .inl cgop)), (ca, .inl (cka, 3000, .inl cga)), (cb, .inl (ckb, 3000, .inl cgb)), (cplace, .inl (ckplace, 3000, .inl cgplace)), (cneeded, .inl (ckneeded, 3000, .inl cgneeded)), (abefore, .inl (akbefore, 400, .inl agbefore)), (abuilds, .inl (akbuilds, 400, .inl agbuilds)), (sh, .inl (sh1, 3000, .inl gsh)), (anext, .inl (aknext, 400, .inl agnext)), (gco, .inr (2, [.ref cop, .ref ca, .ref cb, .ref cplace, .ref cnext, .ref cneeded, .int cz, .int ct])), (cnext, .inl (cknext, 3000, .inl cgnext)), (h0, .inr (5, [.ref mp, .ref gco, .ref mce, .int mcn, .ref sk, .int tp, .int ba, .ref kb, .ref kk, .ref ks, .int on, .ref sh, .int sn, .int mat_13, .int alw, .int st, .int mo, .int mh, .int sp, .long re])), (sk, .inl (sk1, 22424, .inr (.inl gs_17))), (mp, .inr (9, [.ref gco, .ref gar, .ref gki, .ref gfu])), (gar, .inr (0, [.ref akind, .ref anext, .ref abefore, .ref aleave, .ref afirstSlot, .ref abuilds, .int az])), (akind, .inl (akkind, 400, .inl agkind)), (afirstSlot, .inl (akfirstSlot, 400, .inl agfirstSlot)), (mce, .inr (1, [.ref ek, .ref ec, .ref ef, .ref gki, .int e_limit, .int e_fresh, .int e_firstFree, .int e_held, .int e_mostHeld, .int e_made, .int e_reused, .int e_freed, .int e_doubled])), (ek, .inl (e1, 4000, .inl gk)), (ec, .inl (e2, 4000, .inl gc)), (ef, .inl (e3, 12000, .inr (.inl gv))), (gki, .inr (4, [.ref kw, .ref kf, .int kz])), (kw, .inl (k1, 20, .inr (.inl kgw))), (kf, .inl (k2, 20, .inl kgf))] H := hP
      have hD : va_D A [(cop, .inl (ckop, 3000, .inl cgop)), (ca, .inl (cka, 3000, .inl cga)), (cb, .inl (ckb, 3000, .inl cgb)), (cplace, .inl (ckplace, 3000, .inl cgplace)), (cneeded, .inl (ckneeded, 3000, .inl cgneeded)), (abefore, .inl (akbefore, 400, .inl agbefore)), (abuilds, .inl (akbuilds, 400, .inl agbuilds)), (sh, .inl (sh1, 3000, .inl gsh)), (anext, .inl (aknext, 400, .inl agnext)), (gco, .inr (2, [.ref cop, .ref ca, .ref cb, .ref cplace, .ref cnext, .ref cneeded, .int cz, .int ct])), (cnext, .inl (cknext, 3000, .inl cgnext)), (h0, .inr (5, [.ref mp, .ref gco, .ref mce, .int mcn, .ref sk, .int tp, .int ba, .ref kb, .ref kk, .ref ks, .int on, .ref sh, .int sn, .int mat_13, .int alw, .int st, .int mo, .int mh, .int sp, .long re])), (sk, .inl (sk1, 22424, .inr (.inl gs_17))), (mp, .inr (9, [.ref gco, .ref gar, .ref gki, .ref gfu])), (gar, .inr (0, [.ref akind, .ref anext, .ref abefore, .ref aleave, .ref afirstSlot, .ref abuilds, .int az])), (akind, .inl (akkind, 400, .inl agkind)), (afirstSlot, .inl (akfirstSlot, 400, .inl agfirstSlot)), (mce, .inr (1, [.ref ek, .ref ec, .ref ef, .ref gki, .int e_limit, .int e_fresh, .int e_firstFree, .int e_held, .int e_mostHeld, .int e_made, .int e_reused, .int e_freed, .int e_doubled])), (ek, .inl (e1, 4000, .inl gk)), (ec, .inl (e2, 4000, .inl gc)), (ef, .inl (e3, 12000, .inr (.inl gv))), (gki, .inr (4, [.ref kw, .ref kf, .int kz])), (kw, .inl (k1, 20, .inr (.inl kgw))), (kf, .inl (k2, 20, .inl kgf))] := hD
      have hK : va_K (dC, dI) vwCl [(ckop, .int), (cka, .int), (ckb, .int), (ckplace, .int), (ckneeded, .int), (akbefore, .int), (akbuilds, .int), (sh1, .int), (aknext, .int), (cknext, .int), (sk1, .long), (akkind, .int), (akfirstSlot, .int), (e1, .int), (e2, .int), (e3, .long), (k1, .long), (k2, .int)] s := hK
      obtain ⟨hq_18, hq_19⟩ := hw
      have hbp9 := hq_19
      obtain ⟨p6, hm6, hp6, hf6x⟩ := hq_18
      have hf6 : ∀ i : Nat, (i : Int) < zfk kz kgf (agkind (Int32.toNatClampNeg r_7)) → p6 (Int32.toNatClampNeg ba + Int32.toNatClampNeg (agfirstSlot (Int32.toNatClampNeg r_7)) + i) = true := fun i hi => (if g : zhs x_3 = 2 then hf6x g i hi else absurd hi (by rw [hz09 g]; omega))
      refine lv_aload_n hx hb dX5_match_89 rfl (lv_at hl 3 rfl) ?_
      refine lv_iconst (v := (-1)) hx hb dX5_match_90 (by decide) ?_
      have hPc := hP.sub (ws' := [(h0, .inr (5, [.ref mp, .ref gco, .ref mce, .int mcn, .ref sk, .int tp, .int ba, .ref kb, .ref kk, .ref ks, .int on, .ref sh, .int sn, .int mat_13, .int alw, .int st, .int mo, .int mh, .int sp, .long re])), (sh, .inl (sh1, 3000, .inl gsh))]) [11, 7] rfl
      have hDc := hD.sub (ws' := [(h0, .inr (5, [.ref mp, .ref gco, .ref mce, .int mcn, .ref sk, .int tp, .int ba, .ref kb, .ref kk, .ref ks, .int on, .ref sh, .int sn, .int mat_13, .int alw, .int st, .int mo, .int mh, .int sp, .long re])), (sh, .inl (sh1, 3000, .inl gsh))]) [11, 7] (by decide) rfl
      have hKc := hK.sub (tys' := [(sh1, .int)]) [7] rfl
      have hFc := va_free (wc := [(h0, .inr (5, [.ref mp, .ref gco, .ref mce, .int mcn, .ref sk, .int tp, .int ba, .ref kb, .ref kk, .ref ks, .int on, .ref sh, .int sn, .int mat_13, .int alw, .int st, .int mo, .int mh, .int sp, .long re])), (sh, .inl (sh1, 3000, .inl gsh))]) hD hS hAA [11, 7] rfl
      refine va_callv (va_runV (As := [.int (-1)]) (rest := []) ⟨hx, hb, hml, hown, hA⟩ (c_X5_keepShell l dC dI aK aV h0 mp gco mce sk kb kk ks sh mcn tp ba on sn mat_13 alw st mo mh sp re sh1 gsh (-1) H.size (by omega) (by omega)) (cwV 1 hA (zw_V wi_1262 wi_1264 wi_62 wi_139 (zw_good wi_1265)) rfl rfl rfl (by decide +kernel) ⟨(Nat.le_of_ble_eq_true rfl), (Nat.le_of_ble_eq_true rfl)⟩) ⟨zP_blind, va_recv hKc hPc (ci := 5) (q0 := 0) rfl rfl, zz_pre hKc hPc hDc hN hT hS hFc⟩ rfl rfl hl.1 rfl (lv_room (Nat.le_of_ble_eq_true rfl)) dX5_match_91 ⟨(Nat.le_of_ble_eq_true rfl), (Nat.le_of_ble_eq_true rfl)⟩) hS (fun q _ h => hFc q h) hFc (fun u t H1 locs ht hvm hw hB hz1 hk1 hS => ?_)
      obtain ⟨sn_21, gsh_22⟩ := u
      obtain ⟨hP1, hK1, hD1⟩ := hB
      rw [ht] at hP1
      have hK1 := va_K.moved hvm.symm hK1
      obtain ⟨hP, hD⟩ := va_join (wr := [(cop, .inl (ckop, 3000, .inl cgop)), (ca, .inl (cka, 3000, .inl cga)), (cb, .inl (ckb, 3000, .inl cgb)), (cplace, .inl (ckplace, 3000, .inl cgplace)), (cneeded, .inl (ckneeded, 3000, .inl cgneeded)), (abefore, .inl (akbefore, 400, .inl agbefore)), (abuilds, .inl (akbuilds, 400, .inl agbuilds)), (anext, .inl (aknext, 400, .inl agnext)), (gco, .inr (2, [.ref cop, .ref ca, .ref cb, .ref cplace, .ref cnext, .ref cneeded, .int cz, .int ct])), (cnext, .inl (cknext, 3000, .inl cgnext)), (sk, .inl (sk1, 22424, .inr (.inl gs_17))), (mp, .inr (9, [.ref gco, .ref gar, .ref gki, .ref gfu])), (gar, .inr (0, [.ref akind, .ref anext, .ref abefore, .ref aleave, .ref afirstSlot, .ref abuilds, .int az])), (akind, .inl (akkind, 400, .inl agkind)), (afirstSlot, .inl (akfirstSlot, 400, .inl agfirstSlot)), (mce, .inr (1, [.ref ek, .ref ec, .ref ef, .ref gki, .int e_limit, .int e_fresh, .int e_firstFree, .int e_held, .int e_mostHeld, .int e_made, .int e_reused, .int e_freed, .int e_doubled])), (ek, .inl (e1, 4000, .inl gk)), (ec, .inl (e2, 4000, .inl gc)), (ef, .inl (e3, 12000, .inr (.inl gv))), (gki, .inr (4, [.ref kw, .ref kf, .int kz])), (kw, .inl (k1, 20, .inr (.inl kgw))), (kf, .inl (k2, 20, .inl kgf))]) (w1 := [(h0, .inr (5, [.ref mp, .ref gco, .ref mce, .int mcn, .ref sk, .int tp, .int ba, .ref kb, .ref kk, .ref ks, .int on, .ref sh, .int sn_21, .int mat_13, .int alw, .int st, .int mo, .int mh, .int sp, .long re])), (sh, .inl (sh1, 3000, .inl gsh_22))]) hP hD [11, 7] [0, 1, 2, 3, 4, 5, 6, 8, 9, 10, 12, 13, 14, 15, 16, 17, 18, 19, 20, 21, 22, 23] rfl rfl (by decide) (by decide) hk1 hFc hP1 hD1
      have hK := (hK.sub (tys' := [(ckop, .int), (cka, .int), (ckb, .int), (ckplace, .int), (ckneeded, .int), (akbefore, .int), (akbuilds, .int), (aknext, .int), (cknext, .int), (sk1, .long), (akkind, .int), (akfirstSlot, .int), (e1, .int), (e2, .int), (e3, .long), (k1, .long), (k2, .int)]) [0, 1, 2, 3, 4, 5, 6, 8, 9, 10, 11, 12, 13, 14, 15, 16, 17] rfl).app hK1
      generalize H1 = H at hP hS ⊢
      have hP : va_P (dC, dI) vwCl [(cop, .inl (ckop, 3000, .inl cgop)), (ca, .inl (cka, 3000, .inl cga)), (cb, .inl (ckb, 3000, .inl cgb)), (cplace, .inl (ckplace, 3000, .inl cgplace)), (cneeded, .inl (ckneeded, 3000, .inl cgneeded)), (abefore, .inl (akbefore, 400, .inl agbefore)), (abuilds, .inl (akbuilds, 400, .inl agbuilds)), (anext, .inl (aknext, 400, .inl agnext)), (gco, .inr (2, [.ref cop, .ref ca, .ref cb, .ref cplace, .ref cnext, .ref cneeded, .int cz, .int ct])), (cnext, .inl (cknext, 3000, .inl cgnext)), (sk, .inl (sk1, 22424, .inr (.inl gs_17))), (mp, .inr (9, [.ref gco, .ref gar, .ref gki, .ref gfu])), (gar, .inr (0, [.ref akind, .ref anext, .ref abefore, .ref aleave, .ref afirstSlot, .ref abuilds, .int az])), (akind, .inl (akkind, 400, .inl agkind)), (afirstSlot, .inl (akfirstSlot, 400, .inl agfirstSlot)), (mce, .inr (1, [.ref ek, .ref ec, .ref ef, .ref gki, .int e_limit, .int e_fresh, .int e_firstFree, .int e_held, .int e_mostHeld, .int e_made, .int e_reused, .int e_freed, .int e_doubled])), (ek, .inl (e1, 4000, .inl gk)), (ec, .inl (e2, 4000, .inl gc)), (ef, .inl (e3, 12000, .inr (.inl gv))), (gki, .inr (4, [.ref kw, .ref kf, .int kz])), (kw, .inl (k1, 20, .inr (.inl kgw))), (kf, .inl (k2, 20, .inl kgf)), (h0, .inr (5, [.ref mp, .ref gco, .ref mce, .int mcn, .ref sk, .int tp, .int ba, .ref kb, .ref kk, .ref ks, .int on, .ref sh, .int sn_21, .int mat_13, .int alw, .int st, .int mo, .int mh, .int sp, .long re])), (sh, .inl (sh1, 3000, .inl gsh_22))] H := hP
      have hD : va_D A [(cop, .inl (ckop, 3000, .inl cgop)), (ca, .inl (cka, 3000, .inl cga)), (cb, .inl (ckb, 3000, .inl cgb)), (cplace, .inl (ckplace, 3000, .inl cgplace)), (cneeded, .inl (ckneeded, 3000, .inl cgneeded)), (abefore, .inl (akbefore, 400, .inl agbefore)), (abuilds, .inl (akbuilds, 400, .inl agbuilds)), (anext, .inl (aknext, 400, .inl agnext)), (gco, .inr (2, [.ref cop, .ref ca, .ref cb, .ref cplace, .ref cnext, .ref cneeded, .int cz, .int ct])), (cnext, .inl (cknext, 3000, .inl cgnext)), (sk, .inl (sk1, 22424, .inr (.inl gs_17))), (mp, .inr (9, [.ref gco, .ref gar, .ref gki, .ref gfu])), (gar, .inr (0, [.ref akind, .ref anext, .ref abefore, .ref aleave, .ref afirstSlot, .ref abuilds, .int az])), (akind, .inl (akkind, 400, .inl agkind)), (afirstSlot, .inl (akfirstSlot, 400, .inl agfirstSlot)), (mce, .inr (1, [.ref ek, .ref ec, .ref ef, .ref gki, .int e_limit, .int e_fresh, .int e_firstFree, .int e_held, .int e_mostHeld, .int e_made, .int e_reused, .int e_freed, .int e_doubled])), (ek, .inl (e1, 4000, .inl gk)), (ec, .inl (e2, 4000, .inl gc)), (ef, .inl (e3, 12000, .inr (.inl gv))), (gki, .inr (4, [.ref kw, .ref kf, .int kz])), (kw, .inl (k1, 20, .inr (.inl kgw))), (kf, .inl (k2, 20, .inl kgf)), (h0, .inr (5, [.ref mp, .ref gco, .ref mce, .int mcn, .ref sk, .int tp, .int ba, .ref kb, .ref kk, .ref ks, .int on, .ref sh, .int sn_21, .int mat_13, .int alw, .int st, .int mo, .int mh, .int sp, .long re])), (sh, .inl (sh1, 3000, .inl gsh_22))] := hD
      have hK : va_K (dC, dI) vwCl [(ckop, .int), (cka, .int), (ckb, .int), (ckplace, .int), (ckneeded, .int), (akbefore, .int), (akbuilds, .int), (aknext, .int), (cknext, .int), (sk1, .long), (akkind, .int), (akfirstSlot, .int), (e1, .int), (e2, .int), (e3, .long), (k1, .long), (k2, .int), (sh1, .int)] s := hK
      obtain ⟨hq_23, hq_24, hq_25⟩ := hw
      have hm5 := zMP_ks hm6 hq_25
      have hP9 := hP.sub (ws' := [(h0, .inr (5, [.ref mp, .ref gco, .ref mce, .int mcn, .ref sk, .int tp, .int ba, .ref kb, .ref kk, .ref ks, .int on, .ref sh, .int sn_21, .int mat_13, .int alw, .int st, .int mo, .int mh, .int sp, .long re])), (sk, .inl (sk1, 22424, .inr (.inl gs_17))), (gco, .inr (2, [.ref cop, .ref ca, .ref cb, .ref cplace, .ref cnext, .ref cneeded, .int cz, .int ct])), (cop, .inl (ckop, 3000, .inl cgop)), (ca, .inl (cka, 3000, .inl cga)), (cb, .inl (ckb, 3000, .inl cgb)), (cplace, .inl (ckplace, 3000, .inl cgplace)), (cnext, .inl (cknext, 3000, .inl cgnext)), (cneeded, .inl (ckneeded, 3000, .inl cgneeded)), (mp, .inr (9, [.ref gco, .ref gar, .ref gki, .ref gfu])), (gar, .inr (0, [.ref akind, .ref anext, .ref abefore, .ref aleave, .ref afirstSlot, .ref abuilds, .int az])), (akind, .inl (akkind, 400, .inl agkind)), (anext, .inl (aknext, 400, .inl agnext)), (abefore, .inl (akbefore, 400, .inl agbefore)), (afirstSlot, .inl (akfirstSlot, 400, .inl agfirstSlot)), (abuilds, .inl (akbuilds, 400, .inl agbuilds)), (mce, .inr (1, [.ref ek, .ref ec, .ref ef, .ref gki, .int e_limit, .int e_fresh, .int e_firstFree, .int e_held, .int e_mostHeld, .int e_made, .int e_reused, .int e_freed, .int e_doubled])), (ek, .inl (e1, 4000, .inl gk)), (ec, .inl (e2, 4000, .inl gc)), (ef, .inl (e3, 12000, .inr (.inl gv))), (gki, .inr (4, [.ref kw, .ref kf, .int kz])), (kw, .inl (k1, 20, .inr (.inl kgw))), (kf, .inl (k2, 20, .inl kgf)), (sh, .inl (sh1, 3000, .inl gsh_22))]) [22, 10, 8, 0, 1, 2, 3, 9, 4, 11, 12, 13, 7, 5, 14, 6, 15, 16, 17, 18, 19, 20, 21, 23] rfl
      have hD9 := hD.sub (ws' := [(h0, .inr (5, [.ref mp, .ref gco, .ref mce, .int mcn, .ref sk, .int tp, .int ba, .ref kb, .ref kk, .ref ks, .int on, .ref sh, .int sn_21, .int mat_13, .int alw, .int st, .int mo, .int mh, .int sp, .long re])), (sk, .inl (sk1, 22424, .inr (.inl gs_17))), (gco, .inr (2, [.ref cop, .ref ca, .ref cb, .ref cplace, .ref cnext, .ref cneeded, .int cz, .int ct])), (cop, .inl (ckop, 3000, .inl cgop)), (ca, .inl (cka, 3000, .inl cga)), (cb, .inl (ckb, 3000, .inl cgb)), (cplace, .inl (ckplace, 3000, .inl cgplace)), (cnext, .inl (cknext, 3000, .inl cgnext)), (cneeded, .inl (ckneeded, 3000, .inl cgneeded)), (mp, .inr (9, [.ref gco, .ref gar, .ref gki, .ref gfu])), (gar, .inr (0, [.ref akind, .ref anext, .ref abefore, .ref aleave, .ref afirstSlot, .ref abuilds, .int az])), (akind, .inl (akkind, 400, .inl agkind)), (anext, .inl (aknext, 400, .inl agnext)), (abefore, .inl (akbefore, 400, .inl agbefore)), (afirstSlot, .inl (akfirstSlot, 400, .inl agfirstSlot)), (abuilds, .inl (akbuilds, 400, .inl agbuilds)), (mce, .inr (1, [.ref ek, .ref ec, .ref ef, .ref gki, .int e_limit, .int e_fresh, .int e_firstFree, .int e_held, .int e_mostHeld, .int e_made, .int e_reused, .int e_freed, .int e_doubled])), (ek, .inl (e1, 4000, .inl gk)), (ec, .inl (e2, 4000, .inl gc)), (ef, .inl (e3, 12000, .inr (.inl gv))), (gki, .inr (4, [.ref kw, .ref kf, .int kz])), (kw, .inl (k1, 20, .inr (.inl kgw))), (kf, .inl (k2, 20, .inl kgf)), (sh, .inl (sh1, 3000, .inl gsh_22))]) [22, 10, 8, 0, 1, 2, 3, 9, 4, 11, 12, 13, 7, 5, 14, 6, 15, 16, 17, 18, 19, 20, 21, 23] (by decide) rfl
      have hK9 := hK.sub (tys' := [(sk1, .long), (ckop, .int), (cka, .int), (ckb, .int), (ckplace, .int), (cknext, .int), (ckneeded, .int), (akkind, .int), (aknext, .int), (akbefore, .int), (akfirstSlot, .int), (akbuilds, .int), (e1, .int), (e2, .int), (e3, .long), (k1, .long), (k2, .int), (sh1, .int)]) [9, 0, 1, 2, 3, 8, 4, 10, 7, 5, 11, 6, 12, 13, 14, 15, 16, 17] rfl
      exact W.vret hx hb hr (fun t ht hW => ⟨⟨(mh, sp, mat_13, gs_17, sn_21, gsh_22), rfl, ⟨by omega, by omega, (Or.inr ⟨by omega, _, 0, p6, hfa9.2.2.1, hmt9, hm5, (fun k hk h => by rw [zbit_z hk] at h; exact Bool.noConfusion h), fun j hj _ _ => hp6 j hj, fun i hi h => hf6 i hi⟩), ⟨_, r_7, (by rw [← hv9]; exact cMt_kd hq_6), (by rw [hq_9, ex_4]), Or.inr ⟨by omega, by omega, hmt9, by rw [← hv9]; exact hbp9.1, by rw [← hv9]; exact hbp9.2⟩⟩, cSpl_0⟩, by rw [ht]; exact hP9, va_K.moved hW.alike hK9, hD9⟩, hS.F ht⟩) hS.2.2 dX5_match_94
  · have ic_10 : r_7.toInt = (-1) := zi_eq c_10
    refine lv_aload_n hx hb dX5_match_51 rfl (lv_at hl 3 rfl) ?_
    refine lv_iconst (v := 2) hx hb dX5_match_52 (by decide) ?_
    refine lv_iload_n hx hb dX5_match_53 rfl (lv_at hl 4 rfl) ?_
    have hPc := hP.sub (ws' := [(h0, .inr (5, [.ref mp, .ref gco, .ref mce, .int mcn, .ref sk, .int tp, .int ba, .ref kb, .ref kk, .ref ks, .int on, .ref sh, .int sn, .int mat, .int alw, .int st, .int mo, .int mh, .int sp, .long re])), (gco, .inr (2, [.ref cop, .ref ca, .ref cb, .ref cplace, .ref cnext, .ref cneeded, .int cz, .int ct])), (cplace, .inl (ckplace, 3000, .inl cgplace))]) [19, 1, 5] rfl
    have hDc := hD.sub (ws' := [(h0, .inr (5, [.ref mp, .ref gco, .ref mce, .int mcn, .ref sk, .int tp, .int ba, .ref kb, .ref kk, .ref ks, .int on, .ref sh, .int sn, .int mat, .int alw, .int st, .int mo, .int mh, .int sp, .long re])), (gco, .inr (2, [.ref cop, .ref ca, .ref cb, .ref cplace, .ref cnext, .ref cneeded, .int cz, .int ct])), (cplace, .inl (ckplace, 3000, .inl cgplace))]) [19, 1, 5] (by decide) rfl
    have hKc := hK.sub (tys' := [(ckplace, .int)]) [4] rfl
    have hFc := va_free (wc := [(h0, .inr (5, [.ref mp, .ref gco, .ref mce, .int mcn, .ref sk, .int tp, .int ba, .ref kb, .ref kk, .ref ks, .int on, .ref sh, .int sn, .int mat, .int alw, .int st, .int mo, .int mh, .int sp, .long re])), (gco, .inr (2, [.ref cop, .ref ca, .ref cb, .ref cplace, .ref cnext, .ref cneeded, .int cz, .int ct])), (cplace, .inl (ckplace, 3000, .inl cgplace))]) hD hS hAA [19, 1, 5] rfl
    refine va_callv (va_runV (As := [.int 2, .int ro]) (rest := []) ⟨hx, hb, hml, hown, hA⟩ (c_X5_stop l dC dI aK aV h0 mp gco mce sk kb kk ks sh mcn tp ba on sn mat alw st mo mh sp re cop ca cb cplace cnext cneeded cz ct ckplace cgplace 2 ro H.size (by omega) (by omega) (by have h9_0 : Int32.toInt 2 = 2 := (by decide); omega) (by have h9_0 : Int32.toInt 2 = 2 := (by decide); omega)) (cwV 2 hA (zw_V wi_1167 wi_1169 wi_47 wi_139 (zw_good wi_1170)) rfl rfl rfl (by decide +kernel) ⟨(Nat.le_of_ble_eq_true rfl), (Nat.le_of_ble_eq_true rfl)⟩) ⟨zP_blind, va_recv hKc hPc (ci := 5) (q0 := 0) rfl rfl, zz_pre hKc hPc hDc hN hT hS hFc⟩ rfl rfl hl.1 rfl (lv_room (Nat.le_of_ble_eq_true rfl)) dX5_match_54 ⟨(Nat.le_of_ble_eq_true rfl), (Nat.le_of_ble_eq_true rfl)⟩) hS (fun q _ h => hFc q h) hFc (fun u t H1 locs ht hvm hw hB hz1 hk1 hS => ?_)
    obtain ⟨sp_27, rfl⟩ : ∃ z, z = u := ⟨_, rfl⟩
    obtain ⟨hP1, hK1, hD1⟩ := hB
    rw [ht] at hP1
    have hK1 := va_K.moved hvm.symm hK1
    obtain ⟨hP, hD⟩ := va_join (wr := [(sk, .inl (sk1, 22424, .inr (.inl gs))), (cop, .inl (ckop, 3000, .inl cgop)), (ca, .inl (cka, 3000, .inl cga)), (cb, .inl (ckb, 3000, .inl cgb)), (cnext, .inl (cknext, 3000, .inl cgnext)), (cneeded, .inl (ckneeded, 3000, .inl cgneeded)), (abefore, .inl (akbefore, 400, .inl agbefore)), (afirstSlot, .inl (akfirstSlot, 400, .inl agfirstSlot)), (abuilds, .inl (akbuilds, 400, .inl agbuilds)), (gki, .inr (4, [.ref kw, .ref kf, .int kz])), (kw, .inl (k1, 20, .inr (.inl kgw))), (kf, .inl (k2, 20, .inl kgf)), (sh, .inl (sh1, 3000, .inl gsh)), (mce, .inr (1, [.ref ek, .ref ec, .ref ef, .ref gki, .int e_limit, .int e_fresh, .int e_firstFree, .int e_held, .int e_mostHeld, .int e_made, .int e_reused, .int e_freed, .int e_doubled])), (ek, .inl (e1, 4000, .inl gk)), (ec, .inl (e2, 4000, .inl gc)), (ef, .inl (e3, 12000, .inr (.inl gv))), (mp, .inr (9, [.ref gco, .ref gar, .ref gki, .ref gfu])), (gar, .inr (0, [.ref akind, .ref anext, .ref abefore, .ref aleave, .ref afirstSlot, .ref abuilds, .int az])), (akind, .inl (akkind, 400, .inl agkind)), (anext, .inl (aknext, 400, .inl agnext))]) (w1 := [(h0, .inr (5, [.ref mp, .ref gco, .ref mce, .int mcn, .ref sk, .int tp, .int ba, .ref kb, .ref kk, .ref ks, .int on, .ref sh, .int sn, .int mat, .int alw, .int st, .int mo, .int 2, .int sp_27, .long re])), (gco, .inr (2, [.ref cop, .ref ca, .ref cb, .ref cplace, .ref cnext, .ref cneeded, .int cz, .int ct])), (cplace, .inl (ckplace, 3000, .inl cgplace))]) hP hD [19, 1, 5] [0, 2, 3, 4, 6, 7, 8, 9, 10, 11, 12, 13, 14, 15, 16, 17, 18, 20, 21, 22, 23] rfl rfl (by decide) (by decide) hk1 hFc hP1 hD1
    have hK := (hK.sub (tys' := [(sk1, .long), (ckop, .int), (cka, .int), (ckb, .int), (cknext, .int), (ckneeded, .int), (akbefore, .int), (akfirstSlot, .int), (akbuilds, .int), (k1, .long), (k2, .int), (sh1, .int), (e1, .int), (e2, .int), (e3, .long), (akkind, .int), (aknext, .int)]) [0, 1, 2, 3, 5, 6, 7, 8, 9, 10, 11, 12, 13, 14, 15, 16, 17] rfl).app hK1
    generalize H1 = H at hP hS ⊢
    have hP : va_P (dC, dI) vwCl [(sk, .inl (sk1, 22424, .inr (.inl gs))), (cop, .inl (ckop, 3000, .inl cgop)), (ca, .inl (cka, 3000, .inl cga)), (cb, .inl (ckb, 3000, .inl cgb)), (cnext, .inl (cknext, 3000, .inl cgnext)), (cneeded, .inl (ckneeded, 3000, .inl cgneeded)), (abefore, .inl (akbefore, 400, .inl agbefore)), (afirstSlot, .inl (akfirstSlot, 400, .inl agfirstSlot)), (abuilds, .inl (akbuilds, 400, .inl agbuilds)), (gki, .inr (4, [.ref kw, .ref kf, .int kz])), (kw, .inl (k1, 20, .inr (.inl kgw))), (kf, .inl (k2, 20, .inl kgf)), (sh, .inl (sh1, 3000, .inl gsh)), (mce, .inr (1, [.ref ek, .ref ec, .ref ef, .ref gki, .int e_limit, .int e_fresh, .int e_firstFree, .int e_held, .int e_mostHeld, .int e_made, .int e_reused, .int e_freed, .int e_doubled])), (ek, .inl (e1, 4000, .inl gk)), (ec, .inl (e2, 4000, .inl gc)), (ef, .inl (e3, 12000, .inr (.inl gv))), (mp, .inr (9, [.ref gco, .ref gar, .ref gki, .ref gfu])), (gar, .inr (0, [.ref akind, .ref anext, .ref abefore, .ref aleave, .ref afirstSlot, .ref abuilds, .int az])), (akind, .inl (akkind, 400, .inl agkind)), (anext, .inl (aknext, 400, .inl agnext)), (h0, .inr (5, [.ref mp, .ref gco, .ref mce, .int mcn, .ref sk, .int tp, .int ba, .ref kb, .ref kk, .ref ks, .int on, .ref sh, .int sn, .int mat, .int alw, .int st, .int mo, .int 2, .int sp_27, .long re])), (gco, .inr (2, [.ref cop, .ref ca, .ref cb, .ref cplace, .ref cnext, .ref cneeded, .int cz, .int ct])), (cplace, .inl (ckplace, 3000, .inl cgplace))] H := hP
    have hD : va_D A [(sk, .inl (sk1, 22424, .inr (.inl gs))), (cop, .inl (ckop, 3000, .inl cgop)), (ca, .inl (cka, 3000, .inl cga)), (cb, .inl (ckb, 3000, .inl cgb)), (cnext, .inl (cknext, 3000, .inl cgnext)), (cneeded, .inl (ckneeded, 3000, .inl cgneeded)), (abefore, .inl (akbefore, 400, .inl agbefore)), (afirstSlot, .inl (akfirstSlot, 400, .inl agfirstSlot)), (abuilds, .inl (akbuilds, 400, .inl agbuilds)), (gki, .inr (4, [.ref kw, .ref kf, .int kz])), (kw, .inl (k1, 20, .inr (.inl kgw))), (kf, .inl (k2, 20, .inl kgf)), (sh, .inl (sh1, 3000, .inl gsh)), (mce, .inr (1, [.ref ek, .ref ec, .ref ef, .ref gki, .int e_limit, .int e_fresh, .int e_firstFree, .int e_held, .int e_mostHeld, .int e_made, .int e_reused, .int e_freed, .int e_doubled])), (ek, .inl (e1, 4000, .inl gk)), (ec, .inl (e2, 4000, .inl gc)), (ef, .inl (e3, 12000, .inr (.inl gv))), (mp, .inr (9, [.ref gco, .ref gar, .ref gki, .ref gfu])), (gar, .inr (0, [.ref akind, .ref anext, .ref abefore, .ref aleave, .ref afirstSlot, .ref abuilds, .int az])), (akind, .inl (akkind, 400, .inl agkind)), (anext, .inl (aknext, 400, .inl agnext)), (h0, .inr (5, [.ref mp, .ref gco, .ref mce, .int mcn, .ref sk, .int tp, .int ba, .ref kb, .ref kk, .ref ks, .int on, .ref sh, .int sn, .int mat, .int alw, .int st, .int mo, .int 2, .int sp_27, .long re])), (gco, .inr (2, [.ref cop, .ref ca, .ref cb, .ref cplace, .ref cnext, .ref cneeded, .int cz, .int ct])), (cplace, .inl (ckplace, 3000, .inl cgplace))] := hD
    have hK : va_K (dC, dI) vwCl [(sk1, .long), (ckop, .int), (cka, .int), (ckb, .int), (cknext, .int), (ckneeded, .int), (akbefore, .int), (akfirstSlot, .int), (akbuilds, .int), (k1, .long), (k2, .int), (sh1, .int), (e1, .int), (e2, .int), (e3, .long), (akkind, .int), (aknext, .int), (ckplace, .int)] s := hK
    have hq_28 := hw
    have h92 : Int32.toInt 2 = 2 := by decide
    have hP9 := hP.sub (ws' := [(h0, .inr (5, [.ref mp, .ref gco, .ref mce, .int mcn, .ref sk, .int tp, .int ba, .ref kb, .ref kk, .ref ks, .int on, .ref sh, .int sn, .int mat, .int alw, .int st, .int mo, .int 2, .int sp_27, .long re])), (sk, .inl (sk1, 22424, .inr (.inl gs))), (gco, .inr (2, [.ref cop, .ref ca, .ref cb, .ref cplace, .ref cnext, .ref cneeded, .int cz, .int ct])), (cop, .inl (ckop, 3000, .inl cgop)), (ca, .inl (cka, 3000, .inl cga)), (cb, .inl (ckb, 3000, .inl cgb)), (cplace, .inl (ckplace, 3000, .inl cgplace)), (cnext, .inl (cknext, 3000, .inl cgnext)), (cneeded, .inl (ckneeded, 3000, .inl cgneeded)), (mp, .inr (9, [.ref gco, .ref gar, .ref gki, .ref gfu])), (gar, .inr (0, [.ref akind, .ref anext, .ref abefore, .ref aleave, .ref afirstSlot, .ref abuilds, .int az])), (akind, .inl (akkind, 400, .inl agkind)), (anext, .inl (aknext, 400, .inl agnext)), (abefore, .inl (akbefore, 400, .inl agbefore)), (afirstSlot, .inl (akfirstSlot, 400, .inl agfirstSlot)), (abuilds, .inl (akbuilds, 400, .inl agbuilds)), (mce, .inr (1, [.ref ek, .ref ec, .ref ef, .ref gki, .int e_limit, .int e_fresh, .int e_firstFree, .int e_held, .int e_mostHeld, .int e_made, .int e_reused, .int e_freed, .int e_doubled])), (ek, .inl (e1, 4000, .inl gk)), (ec, .inl (e2, 4000, .inl gc)), (ef, .inl (e3, 12000, .inr (.inl gv))), (gki, .inr (4, [.ref kw, .ref kf, .int kz])), (kw, .inl (k1, 20, .inr (.inl kgw))), (kf, .inl (k2, 20, .inl kgf)), (sh, .inl (sh1, 3000, .inl gsh))]) [21, 0, 22, 1, 2, 3, 23, 4, 5, 17, 18, 19, 20, 6, 7, 8, 13, 14, 15, 16, 9, 10, 11, 12] rfl
    have hD9 := hD.sub (ws' := [(h0, .inr (5, [.ref mp, .ref gco, .ref mce, .int mcn, .ref sk, .int tp, .int ba, .ref kb, .ref kk, .ref ks, .int on, .ref sh, .int sn, .int mat, .int alw, .int st, .int mo, .int 2, .int sp_27, .long re])), (sk, .inl (sk1, 22424, .inr (.inl gs))), (gco, .inr (2, [.ref cop, .ref ca, .ref cb, .ref cplace, .ref cnext, .ref cneeded, .int cz, .int ct])), (cop, .inl (ckop, 3000, .inl cgop)), (ca, .inl (cka, 3000, .inl cga)), (cb, .inl (ckb, 3000, .inl cgb)), (cplace, .inl (ckplace, 3000, .inl cgplace)), (cnext, .inl (cknext, 3000, .inl cgnext)), (cneeded, .inl (ckneeded, 3000, .inl cgneeded)), (mp, .inr (9, [.ref gco, .ref gar, .ref gki, .ref gfu])), (gar, .inr (0, [.ref akind, .ref anext, .ref abefore, .ref aleave, .ref afirstSlot, .ref abuilds, .int az])), (akind, .inl (akkind, 400, .inl agkind)), (anext, .inl (aknext, 400, .inl agnext)), (abefore, .inl (akbefore, 400, .inl agbefore)), (afirstSlot, .inl (akfirstSlot, 400, .inl agfirstSlot)), (abuilds, .inl (akbuilds, 400, .inl agbuilds)), (mce, .inr (1, [.ref ek, .ref ec, .ref ef, .ref gki, .int e_limit, .int e_fresh, .int e_firstFree, .int e_held, .int e_mostHeld, .int e_made, .int e_reused, .int e_freed, .int e_doubled])), (ek, .inl (e1, 4000, .inl gk)), (ec, .inl (e2, 4000, .inl gc)), (ef, .inl (e3, 12000, .inr (.inl gv))), (gki, .inr (4, [.ref kw, .ref kf, .int kz])), (kw, .inl (k1, 20, .inr (.inl kgw))), (kf, .inl (k2, 20, .inl kgf)), (sh, .inl (sh1, 3000, .inl gsh))]) [21, 0, 22, 1, 2, 3, 23, 4, 5, 17, 18, 19, 20, 6, 7, 8, 13, 14, 15, 16, 9, 10, 11, 12] (by decide) rfl
    have hK9 := hK.sub (tys' := [(sk1, .long), (ckop, .int), (cka, .int), (ckb, .int), (ckplace, .int), (cknext, .int), (ckneeded, .int), (akkind, .int), (aknext, .int), (akbefore, .int), (akfirstSlot, .int), (akbuilds, .int), (e1, .int), (e2, .int), (e3, .long), (k1, .long), (k2, .int), (sh1, .int)]) [0, 1, 2, 3, 17, 4, 5, 15, 16, 6, 7, 8, 12, 13, 14, 9, 10, 11] rfl
    exact W.vret hx hb hr (fun t ht hW => ⟨⟨(2, sp_27, mat, gs, sn, gsh), rfl, ⟨by omega, by omega, (Or.inl (by omega)), ⟨_, _, (by rw [← hv9]; exact cMt_kd hq_6), rfl, Or.inl ⟨by omega, by rw [← ex_4, ← hq_9]; omega⟩⟩, hq_28⟩, by rw [ht]; exact hP9, va_K.moved hW.alike hK9, hD9⟩, hS.F ht⟩) hS.2.2 dX5_match_57

end
section
theorem zT_4h {S : Nat → Nat → Int32} {nd en a kf : Nat → Int32} {fz kz : Int32} {G : Nat → Nat → Int} {L : List Nat} {p : Nat → Bool} {cb ck : Nat → Int32} {on ba tp st : Int32} {r : Nat} (hw : zWk S nd en fz G L) (e1 : S 1 = a) (e9 : S 9 = kf) (h : zV S nd G L p cb ck on ba tp st r) (ho : Int32.toNatClampNeg (S 0 r) = 4) : zfk kz kf (a r) = 0 := by
  subst e1 e9
  obtain ⟨f, po, z, -⟩ := zV_row hw h.1 ho
  simp only [zop] at z
  unfold zfk
  rw [if_neg (by omega)]
theorem zks_up {ks ks2 : Nat → Int32} {on on2 sn : Int32} (h : ∀ i : Nat, (i : Int) < on.toInt → 0 ≤ (ks i).toInt) (e : ks2 = upd ks (Int32.toNatClampNeg on) sn) (h0 : 0 ≤ sn.toInt) (h1 : 0 ≤ on.toInt) (h2 : on2.toInt = on.toInt + 1) : ∀ i : Nat, (i : Int) < on2.toInt → 0 ≤ (ks2 i).toInt := fun i hi => by
  have hn := zn_nat h1
  rw [e]
  by_cases g : i = Int32.toNatClampNeg on
  · rw [g, zu_s]; exact h0
  · rw [zu_n g]; exact h i (by omega)
theorem zvk_0 {kz : Int32} {kf : Nat → Int32} {v : Int64} (h : zhs v = 0) : zvk kz kf v ∧ zhs v ≠ 2 := ⟨⟨fun g => absurd (h.symm.trans g) (by decide), fun g => absurd h g⟩, fun g => absurd (h.symm.trans g) (by decide)⟩
theorem zvk_1 {kz k : Int32} {kf : Nat → Int32} {v : Int64} (h : zhs v = 1) (hk : v.toInt32 = k) (h0 : zfk kz kf k = 0) : zvk kz kf v ∧ zhs v ≠ 2 := ⟨⟨fun g => absurd (h.symm.trans g) (by decide), fun _ _ => by rw [hk]; exact h0⟩, fun g => absurd (h.symm.trans g) (by decide)⟩

end
section
theorem wi_1129 : Cond.code yX5_toldBits cX5_toldBits 2 (some .int) ∈ zw := zw_in (List.mem_of_getElem? (i := 1129) (by decide +kernel)) (by decide +kernel)
theorem wi_1126 : Cond.methodLink RX5 106 yX5_toldBits ∈ zw := zw_in (List.mem_of_getElem? (i := 1126) (by decide +kernel)) (by decide +kernel)
theorem wi_1128 : Cond.instanceMethod yX5_toldBits ∈ zw := zw_in (List.mem_of_getElem? (i := 1128) (by decide +kernel)) (by decide +kernel)
theorem wi_43 : Cond.selects RX5 yX5_toldBits yX5_toldBits ∈ zw := zw_in (List.mem_of_getElem? (i := 43) (by decide +kernel)) (by decide +kernel)
theorem wi_1174 : Cond.code yX5_number cX5_number 2 none ∈ zw := zw_in (List.mem_of_getElem? (i := 1174) (by decide +kernel)) (by decide +kernel)
theorem wi_1171 : Cond.methodLink RX5 120 yX5_number ∈ zw := zw_in (List.mem_of_getElem? (i := 1171) (by decide +kernel)) (by decide +kernel)
theorem wi_1173 : Cond.instanceMethod yX5_number ∈ zw := zw_in (List.mem_of_getElem? (i := 1173) (by decide +kernel)) (by decide +kernel)
theorem wi_48 : Cond.selects RX5 yX5_number yX5_number ∈ zw := zw_in (List.mem_of_getElem? (i := 48) (by decide +kernel)) (by decide +kernel)
theorem wi_1180 : Cond.code yX5_useName cX5_useName 5 none ∈ zw := zw_in (List.mem_of_getElem? (i := 1180) (by decide +kernel)) (by decide +kernel)
theorem wi_1177 : Cond.methodLink RX5 123 yX5_useName ∈ zw := zw_in (List.mem_of_getElem? (i := 1177) (by decide +kernel)) (by decide +kernel)
theorem wi_1179 : Cond.instanceMethod yX5_useName ∈ zw := zw_in (List.mem_of_getElem? (i := 1179) (by decide +kernel)) (by decide +kernel)
theorem wi_49 : Cond.selects RX5 yX5_useName yX5_useName ∈ zw := zw_in (List.mem_of_getElem? (i := 49) (by decide +kernel)) (by decide +kernel)
theorem wi_1188 : Cond.code yX5_kindAlone cX5_kindAlone 2 none ∈ zw := zw_in (List.mem_of_getElem? (i := 1188) (by decide +kernel)) (by decide +kernel)
theorem wi_1185 : Cond.methodLink RX5 126 yX5_kindAlone ∈ zw := zw_in (List.mem_of_getElem? (i := 1185) (by decide +kernel)) (by decide +kernel)
theorem wi_1187 : Cond.instanceMethod yX5_kindAlone ∈ zw := zw_in (List.mem_of_getElem? (i := 1187) (by decide +kernel)) (by decide +kernel)
theorem wi_50 : Cond.selects RX5 yX5_kindAlone yX5_kindAlone ∈ zw := zw_in (List.mem_of_getElem? (i := 50) (by decide +kernel)) (by decide +kernel)
theorem wi_1196 : Cond.code yX5_build cX5_build 5 none ∈ zw := zw_in (List.mem_of_getElem? (i := 1196) (by decide +kernel)) (by decide +kernel)
theorem wi_1193 : Cond.methodLink RX5 129 yX5_build ∈ zw := zw_in (List.mem_of_getElem? (i := 1193) (by decide +kernel)) (by decide +kernel)
theorem wi_1195 : Cond.instanceMethod yX5_build ∈ zw := zw_in (List.mem_of_getElem? (i := 1195) (by decide +kernel)) (by decide +kernel)
theorem wi_51 : Cond.selects RX5 yX5_build yX5_build ∈ zw := zw_in (List.mem_of_getElem? (i := 51) (by decide +kernel)) (by decide +kernel)
theorem wi_1218 : Cond.code yX5_callAlone cX5_callAlone 2 none ∈ zw := zw_in (List.mem_of_getElem? (i := 1218) (by decide +kernel)) (by decide +kernel)
theorem wi_1215 : Cond.methodLink RX5 132 yX5_callAlone ∈ zw := zw_in (List.mem_of_getElem? (i := 1215) (by decide +kernel)) (by decide +kernel)
theorem wi_1217 : Cond.instanceMethod yX5_callAlone ∈ zw := zw_in (List.mem_of_getElem? (i := 1217) (by decide +kernel)) (by decide +kernel)
theorem wi_53 : Cond.selects RX5 yX5_callAlone yX5_callAlone ∈ zw := zw_in (List.mem_of_getElem? (i := 53) (by decide +kernel)) (by decide +kernel)
theorem wi_1226 : Cond.code yX5_bind cX5_bind 3 none ∈ zw := zw_in (List.mem_of_getElem? (i := 1226) (by decide +kernel)) (by decide +kernel)
theorem wi_1223 : Cond.methodLink RX5 138 yX5_bind ∈ zw := zw_in (List.mem_of_getElem? (i := 1223) (by decide +kernel)) (by decide +kernel)
theorem wi_1225 : Cond.instanceMethod yX5_bind ∈ zw := zw_in (List.mem_of_getElem? (i := 1225) (by decide +kernel)) (by decide +kernel)
theorem wi_55 : Cond.selects RX5 yX5_bind yX5_bind ∈ zw := zw_in (List.mem_of_getElem? (i := 55) (by decide +kernel)) (by decide +kernel)
theorem wi_1234 : Cond.code yX5_choose cX5_choose 6 none ∈ zw := zw_in (List.mem_of_getElem? (i := 1234) (by decide +kernel)) (by decide +kernel)
theorem wi_1231 : Cond.methodLink RX5 141 yX5_choose ∈ zw := zw_in (List.mem_of_getElem? (i := 1231) (by decide +kernel)) (by decide +kernel)
theorem wi_1233 : Cond.instanceMethod yX5_choose ∈ zw := zw_in (List.mem_of_getElem? (i := 1233) (by decide +kernel)) (by decide +kernel)
theorem wi_57 : Cond.selects RX5 yX5_choose yX5_choose ∈ zw := zw_in (List.mem_of_getElem? (i := 57) (by decide +kernel)) (by decide +kernel)
theorem wi_1245 : Cond.code yX5_match cX5_match 9 none ∈ zw := zw_in (List.mem_of_getElem? (i := 1245) (by decide +kernel)) (by decide +kernel)
theorem wi_1242 : Cond.methodLink RX5 147 yX5_match ∈ zw := zw_in (List.mem_of_getElem? (i := 1242) (by decide +kernel)) (by decide +kernel)
theorem wi_1244 : Cond.instanceMethod yX5_match ∈ zw := zw_in (List.mem_of_getElem? (i := 1244) (by decide +kernel)) (by decide +kernel)
theorem wi_59 : Cond.selects RX5 yX5_match yX5_match ∈ zw := zw_in (List.mem_of_getElem? (i := 59) (by decide +kernel)) (by decide +kernel)
theorem wi_1275 : Cond.code yX5_leaveArm cX5_leaveArm 2 none ∈ zw := zw_in (List.mem_of_getElem? (i := 1275) (by decide +kernel)) (by decide +kernel)
theorem wi_1272 : Cond.methodLink RX5 150 yX5_leaveArm ∈ zw := zw_in (List.mem_of_getElem? (i := 1272) (by decide +kernel)) (by decide +kernel)
theorem wi_1274 : Cond.instanceMethod yX5_leaveArm ∈ zw := zw_in (List.mem_of_getElem? (i := 1274) (by decide +kernel)) (by decide +kernel)
theorem wi_64 : Cond.selects RX5 yX5_leaveArm yX5_leaveArm ∈ zw := zw_in (List.mem_of_getElem? (i := 64) (by decide +kernel)) (by decide +kernel)
theorem wi_1279 : Cond.code yX5_closeCall cX5_closeCall 3 none ∈ zw := zw_in (List.mem_of_getElem? (i := 1279) (by decide +kernel)) (by decide +kernel)
theorem wi_1276 : Cond.methodLink RX5 153 yX5_closeCall ∈ zw := zw_in (List.mem_of_getElem? (i := 1276) (by decide +kernel)) (by decide +kernel)
theorem wi_1278 : Cond.instanceMethod yX5_closeCall ∈ zw := zw_in (List.mem_of_getElem? (i := 1278) (by decide +kernel)) (by decide +kernel)
theorem wi_65 : Cond.selects RX5 yX5_closeCall yX5_closeCall ∈ zw := zw_in (List.mem_of_getElem? (i := 65) (by decide +kernel)) (by decide +kernel)
theorem wi_1283 : Cond.code yX5_sign cX5_sign 6 none ∈ zw := zw_in (List.mem_of_getElem? (i := 1283) (by decide +kernel)) (by decide +kernel)
theorem wi_1280 : Cond.methodLink RX5 156 yX5_sign ∈ zw := zw_in (List.mem_of_getElem? (i := 1280) (by decide +kernel)) (by decide +kernel)
theorem wi_1282 : Cond.instanceMethod yX5_sign ∈ zw := zw_in (List.mem_of_getElem? (i := 1282) (by decide +kernel)) (by decide +kernel)
theorem wi_66 : Cond.selects RX5 yX5_sign yX5_sign ∈ zw := zw_in (List.mem_of_getElem? (i := 66) (by decide +kernel)) (by decide +kernel)
theorem dX5_turn_0 : decode cX5_turn 0 = .ok (.aload_n 0, 1) := by decide +kernel
theorem dX5_turn_1 : decode cX5_turn 1 = .ok (.aload_n 0, 1) := by decide +kernel
theorem dX5_turn_2 : decode cX5_turn 2 = .ok (.getfield 77, 3) := by decide +kernel
theorem dX5_turn_5 : decode cX5_turn 5 = .ok (.getfield 95, 3) := by decide +kernel
theorem dX5_turn_8 : decode cX5_turn 8 = .ok (.iload_n 1, 1) := by decide +kernel
theorem dX5_turn_9 : decode cX5_turn 9 = .ok (.iaload, 1) := by decide +kernel
theorem dX5_turn_10 : decode cX5_turn 10 = .ok (.putfield 45, 3) := by decide +kernel
theorem dX5_turn_13 : decode cX5_turn 13 = .ok (.aload_n 0, 1) := by decide +kernel
theorem dX5_turn_14 : decode cX5_turn 14 = .ok (.getfield 77, 3) := by decide +kernel
theorem dX5_turn_17 : decode cX5_turn 17 = .ok (.getfield 100, 3) := by decide +kernel
theorem dX5_turn_20 : decode cX5_turn 20 = .ok (.iload_n 1, 1) := by decide +kernel
theorem dX5_turn_21 : decode cX5_turn 21 = .ok (.iaload, 1) := by decide +kernel
theorem dX5_turn_22 : decode cX5_turn 22 = .ok (.tableswitch 229 0 17 #[86, 117, 126, 134, 142, 150, 158, 166, 229, 229, 229, 229, 174, 182, 190, 206, 214, 222], 86) := by decide +kernel
theorem dX5_turn_108 : decode cX5_turn 108 = .ok (.aload_n 0, 1) := by decide +kernel
theorem dX5_turn_109 : decode cX5_turn 109 = .ok (.aload_n 0, 1) := by decide +kernel
theorem dX5_turn_110 : decode cX5_turn 110 = .ok (.aload_n 0, 1) := by decide +kernel
theorem dX5_turn_111 : decode cX5_turn 111 = .ok (.getfield 77, 3) := by decide +kernel
theorem dX5_turn_114 : decode cX5_turn 114 = .ok (.getfield 103, 3) := by decide +kernel
theorem dX5_turn_117 : decode cX5_turn 117 = .ok (.iload_n 1, 1) := by decide +kernel
theorem dX5_turn_118 : decode cX5_turn 118 = .ok (.iaload, 1) := by decide +kernel
theorem dX5_turn_119 : decode cX5_turn 119 = .ok (.invokevirtual 106, 3) := by decide +kernel
theorem dX5_turn_122 : decode cX5_turn 122 = .ok (.aload_n 0, 1) := by decide +kernel
theorem dX5_turn_123 : decode cX5_turn 123 = .ok (.getfield 77, 3) := by decide +kernel
theorem dX5_turn_126 : decode cX5_turn 126 = .ok (.iload_n 1, 1) := by decide +kernel
theorem dX5_turn_127 : decode cX5_turn 127 = .ok (.invokevirtual 110, 3) := by decide +kernel
theorem dX5_turn_130 : decode cX5_turn 130 = .ok (.iconst (-1), 1) := by decide +kernel
theorem dX5_turn_131 : decode cX5_turn 131 = .ok (.ixor, 1) := by decide +kernel
theorem dX5_turn_132 : decode cX5_turn 132 = .ok (.iand, 1) := by decide +kernel
theorem dX5_turn_133 : decode cX5_turn 133 = .ok (.invokevirtual 113, 3) := by decide +kernel
theorem dX5_turn_136 : decode cX5_turn 136 = .ok (.goto 120, 3) := by decide +kernel
theorem dX5_turn_139 : decode cX5_turn 139 = .ok (.aload_n 0, 1) := by decide +kernel
theorem dX5_turn_140 : decode cX5_turn 140 = .ok (.iload_n 1, 1) := by decide +kernel
theorem dX5_turn_141 : decode cX5_turn 141 = .ok (.invokevirtual 116, 3) := by decide +kernel
theorem dX5_turn_144 : decode cX5_turn 144 = .ok (.pop, 1) := by decide +kernel
theorem dX5_turn_145 : decode cX5_turn 145 = .ok (.goto 111, 3) := by decide +kernel
theorem dX5_turn_148 : decode cX5_turn 148 = .ok (.aload_n 0, 1) := by decide +kernel
theorem dX5_turn_149 : decode cX5_turn 149 = .ok (.iload_n 1, 1) := by decide +kernel
theorem dX5_turn_150 : decode cX5_turn 150 = .ok (.invokevirtual 120, 3) := by decide +kernel
theorem dX5_turn_153 : decode cX5_turn 153 = .ok (.goto 103, 3) := by decide +kernel
theorem dX5_turn_156 : decode cX5_turn 156 = .ok (.aload_n 0, 1) := by decide +kernel
theorem dX5_turn_157 : decode cX5_turn 157 = .ok (.iload_n 1, 1) := by decide +kernel
theorem dX5_turn_158 : decode cX5_turn 158 = .ok (.invokevirtual 123, 3) := by decide +kernel
theorem dX5_turn_161 : decode cX5_turn 161 = .ok (.goto 95, 3) := by decide +kernel
theorem dX5_turn_164 : decode cX5_turn 164 = .ok (.aload_n 0, 1) := by decide +kernel
theorem dX5_turn_165 : decode cX5_turn 165 = .ok (.iload_n 1, 1) := by decide +kernel
theorem dX5_turn_166 : decode cX5_turn 166 = .ok (.invokevirtual 126, 3) := by decide +kernel
theorem dX5_turn_169 : decode cX5_turn 169 = .ok (.goto 87, 3) := by decide +kernel
theorem dX5_turn_172 : decode cX5_turn 172 = .ok (.aload_n 0, 1) := by decide +kernel
theorem dX5_turn_173 : decode cX5_turn 173 = .ok (.iload_n 1, 1) := by decide +kernel
theorem dX5_turn_174 : decode cX5_turn 174 = .ok (.invokevirtual 129, 3) := by decide +kernel
theorem dX5_turn_177 : decode cX5_turn 177 = .ok (.goto 79, 3) := by decide +kernel
theorem dX5_turn_180 : decode cX5_turn 180 = .ok (.aload_n 0, 1) := by decide +kernel
theorem dX5_turn_181 : decode cX5_turn 181 = .ok (.iload_n 1, 1) := by decide +kernel
theorem dX5_turn_182 : decode cX5_turn 182 = .ok (.invokevirtual 132, 3) := by decide +kernel
theorem dX5_turn_185 : decode cX5_turn 185 = .ok (.goto 71, 3) := by decide +kernel
theorem dX5_turn_188 : decode cX5_turn 188 = .ok (.aload_n 0, 1) := by decide +kernel
theorem dX5_turn_189 : decode cX5_turn 189 = .ok (.iload_n 1, 1) := by decide +kernel
theorem dX5_turn_190 : decode cX5_turn 190 = .ok (.invokevirtual 135, 3) := by decide +kernel
theorem dX5_turn_193 : decode cX5_turn 193 = .ok (.goto 63, 3) := by decide +kernel
theorem dX5_turn_196 : decode cX5_turn 196 = .ok (.aload_n 0, 1) := by decide +kernel
theorem dX5_turn_197 : decode cX5_turn 197 = .ok (.iload_n 1, 1) := by decide +kernel
theorem dX5_turn_198 : decode cX5_turn 198 = .ok (.invokevirtual 138, 3) := by decide +kernel
theorem dX5_turn_201 : decode cX5_turn 201 = .ok (.goto 55, 3) := by decide +kernel
theorem dX5_turn_204 : decode cX5_turn 204 = .ok (.aload_n 0, 1) := by decide +kernel
theorem dX5_turn_205 : decode cX5_turn 205 = .ok (.iload_n 1, 1) := by decide +kernel
theorem dX5_turn_206 : decode cX5_turn 206 = .ok (.invokevirtual 141, 3) := by decide +kernel
theorem dX5_turn_209 : decode cX5_turn 209 = .ok (.goto 47, 3) := by decide +kernel
theorem dX5_turn_212 : decode cX5_turn 212 = .ok (.aload_n 0, 1) := by decide +kernel
theorem dX5_turn_213 : decode cX5_turn 213 = .ok (.aload_n 0, 1) := by decide +kernel
theorem dX5_turn_214 : decode cX5_turn 214 = .ok (.getfield 77, 3) := by decide +kernel
theorem dX5_turn_217 : decode cX5_turn 217 = .ok (.getfield 103, 3) := by decide +kernel
theorem dX5_turn_220 : decode cX5_turn 220 = .ok (.iload_n 1, 1) := by decide +kernel
theorem dX5_turn_221 : decode cX5_turn 221 = .ok (.iaload, 1) := by decide +kernel
theorem dX5_turn_222 : decode cX5_turn 222 = .ok (.invokevirtual 144, 3) := by decide +kernel
theorem dX5_turn_225 : decode cX5_turn 225 = .ok (.goto 31, 3) := by decide +kernel
theorem dX5_turn_228 : decode cX5_turn 228 = .ok (.aload_n 0, 1) := by decide +kernel
theorem dX5_turn_229 : decode cX5_turn 229 = .ok (.iload_n 1, 1) := by decide +kernel
theorem dX5_turn_230 : decode cX5_turn 230 = .ok (.invokevirtual 147, 3) := by decide +kernel
theorem dX5_turn_233 : decode cX5_turn 233 = .ok (.goto 23, 3) := by decide +kernel
theorem dX5_turn_236 : decode cX5_turn 236 = .ok (.aload_n 0, 1) := by decide +kernel
theorem dX5_turn_237 : decode cX5_turn 237 = .ok (.iload_n 1, 1) := by decide +kernel
theorem dX5_turn_238 : decode cX5_turn 238 = .ok (.invokevirtual 150, 3) := by decide +kernel
theorem dX5_turn_241 : decode cX5_turn 241 = .ok (.goto 15, 3) := by decide +kernel
theorem dX5_turn_244 : decode cX5_turn 244 = .ok (.aload_n 0, 1) := by decide +kernel
theorem dX5_turn_245 : decode cX5_turn 245 = .ok (.invokevirtual 153, 3) := by decide +kernel
theorem dX5_turn_248 : decode cX5_turn 248 = .ok (.goto 8, 3) := by decide +kernel
theorem dX5_turn_251 : decode cX5_turn 251 = .ok (.aload_n 0, 1) := by decide +kernel
theorem dX5_turn_252 : decode cX5_turn 252 = .ok (.iload_n 1, 1) := by decide +kernel
theorem dX5_turn_253 : decode cX5_turn 253 = .ok (.invokevirtual 156, 3) := by decide +kernel
theorem dX5_turn_256 : decode cX5_turn 256 = .ok (.return_, 1) := by decide +kernel

end
