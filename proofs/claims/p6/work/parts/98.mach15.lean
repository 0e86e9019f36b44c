/-! one turn, its ways that fork -/
theorem zT_13h {S : Nat → Nat → Int32} {nd en a nx : Nat → Int32} {fz : Int32} {G : Nat → Nat → Int} {L : List Nat} {p : Nat → Bool} {cb ck : Nat → Int32} {on ba tp st ro : Int32} (hw : zWk S nd en fz G L) (e1 : S 1 = a) (e3 : S 3 = nx) (h11 : (S 11 0).toInt ≤ 3000) (hr : 0 ≤ ro.toInt) (h : zV S nd G L p cb ck on ba tp st (Int32.toNatClampNeg ro)) (ho : Int32.toNatClampNeg (S 0 (Int32.toNatClampNeg ro)) = 13) : 1 ≤ tp.toInt ∧ (-1 ≤ (a (Int32.toNatClampNeg ro)).toInt ∧ (a (Int32.toNatClampNeg ro)).toInt < 3000) ∧ ∀ k, k < 24 → zbit (zbe nx nd ro) k = true ∨ zbit (zbe nx nd (a (Int32.toNatClampNeg ro))) k = true → p (Int32.toNatClampNeg ba + k) = true := by
  subst e1
  subst e3
  obtain ⟨w1, w2, w3, w4, w5, w6, w7⟩ := hw.1 _ h.1
  have h6 := h.2.2.2.2.2.1
  have h5 := h.2.2.2.2.1
  obtain ⟨f, po, z, hq, -, -, -, hb⟩ := zV_row hw h.1 ho
  simp only [zop] at z
  obtain ⟨z1, z2, z3, z4⟩ := z
  refine ⟨by omega, ?_, fun k hk hk2 => h.2.2.2.2.2.2.2.2.1 k (by omega) ?_⟩
  · rcases z4 with t | ⟨t1, t2, -⟩
    · omega
    · have := (hw.1 _ (hq _ t2)).1
      have := zn_nat t1
      omega
  · rw [hb k (by omega)]
    show (zbit (zbh S nd (Int32.toNatClampNeg ro)) k || zbit (zbe (S 3) nd (S 1 (Int32.toNatClampNeg ro))) k) = true
    rw [zbh_bf hr]
    rcases hk2 with g | g
    · rw [g]; rfl
    · rw [g, Bool.or_true]
theorem zT_13a {S : Nat → Nat → Int32} {nd en a nx : Nat → Int32} {fz : Int32} {G : Nat → Nat → Int} {L : List Nat} {p p2 : Nat → Bool} {cb ck : Nat → Int32} {on ba tp st tp2 mat ro mask : Int32} (hw : zWk S nd en fz G L) (e1 : S 1 = a) (e3 : S 3 = nx) (hr : 0 ≤ ro.toInt) (h : zV S nd G L p cb ck on ba tp st (Int32.toNatClampNeg ro)) (ho : Int32.toNatClampNeg (S 0 (Int32.toNatClampNeg ro)) = 13) (ht : tp2.toInt = tp.toInt - 1) (hm : ∀ k, k < 32 → zbit mask k = true → zbit (zbe nx nd (a (Int32.toNatClampNeg ro))) k = true ∧ zbit (zbe nx nd ro) k = false) (hp : ∀ j : Nat, p j = true → (∀ k, k < 24 → zbit mask k = true → j ≠ Int32.toNatClampNeg ba + k) → p2 j = true) (hmt : mat = nx (Int32.toNatClampNeg ro)) : 0 ≤ mat.toInt ∧ zV S nd G L p2 cb ck on ba tp2 st (Int32.toNatClampNeg mat) := by
  subst e1
  subst e3
  subst hmt
  obtain ⟨s, c1, c2, c3, c4, c5⟩ := zV_nx hw h.1 (by rw [ho]; decide)
  obtain ⟨f, po, z, hq, -, -, -, hb⟩ := zV_row hw h.1 ho
  simp only [zop] at z
  obtain ⟨z1, z2, z3, z4⟩ := z
  have hbe : zbe (S 3) nd ro = nd s := by rw [← zbh_bf hr]; exact c5
  refine zGo ⟨s, c1, zV_br hw h c2 c4 (by omega) (by omega) (fun k hk hk2 => ?_) (fun k hk hk2 => ?_) hp⟩
  · rw [hb k hk]
    show (zbit (zbh S nd (Int32.toNatClampNeg ro)) k || _) = true
    rw [c5, hk2]; rfl
  · have u := hm k (by omega) hk2
    rw [hbe] at u
    refine ⟨?_, u.2⟩
    rw [hb k (by omega)]
    show (_ || zbit (zbe (S 3) nd (S 1 (Int32.toNatClampNeg ro))) k) = true
    rw [u.1, Bool.or_true]
theorem zT_tg {S : Nat → Nat → Int32} {nd en : Nat → Int32} {fz : Int32} {G : Nat → Nat → Int} {L : List Nat} {p : Nat → Bool} {cb ck : Nat → Int32} {on ba tp st : Int32} {r : Nat} {po : List Nat} {hh : Int} (hw : zWk S nd en fz G L) (h : zV S nd G L p cb ck on ba tp st r) (hq : ∀ q ∈ r :: po, q ∈ L) (hne : (S 1 r).toInt ≠ -1) (t : ztg S G r po hh) : ∃ s : Nat, (S 3 (Int32.toNatClampNeg (S 1 r))).toInt = (s : Int) ∧ s ∈ L ∧ G s 0 = hh ∧ G s 4 = G r 4 ∧ zbe (S 3) nd (S 1 r) = nd s := by
  obtain ⟨w1, w2, w3, w4, w5, w6, w7⟩ := hw.1 _ h.1
  obtain ⟨t1, t2, t3, t4, t5⟩ := t.resolve_left hne
  obtain ⟨s, c1, c2, c3, c4, c5⟩ := zV_tg hw t1 (hq _ t2) (by omega)
  exact ⟨s, c1, c2, by omega, by omega, c5⟩
theorem zT_13b {S : Nat → Nat → Int32} {nd en a nx : Nat → Int32} {fz : Int32} {G : Nat → Nat → Int} {L : List Nat} {p p2 : Nat → Bool} {cb ck : Nat → Int32} {on ba tp st tp2 mat ro mask : Int32} (hw : zWk S nd en fz G L) (e1 : S 1 = a) (e3 : S 3 = nx) (hr : 0 ≤ ro.toInt) (h : zV S nd G L p cb ck on ba tp st (Int32.toNatClampNeg ro)) (ho : Int32.toNatClampNeg (S 0 (Int32.toNatClampNeg ro)) = 13) (ht : tp2.toInt = tp.toInt - 1) (hm : ∀ k, k < 32 → zbit mask k = true → zbit (zbe nx nd ro) k = true ∧ zbit (zbe nx nd (a (Int32.toNatClampNeg ro))) k = false) (hp : ∀ j : Nat, p j = true → (∀ k, k < 24 → zbit mask k = true → j ≠ Int32.toNatClampNeg ba + k) → p2 j = true) (hmt : (a (Int32.toNatClampNeg ro)).toInt = -1 ∧ mat.toInt = -1 ∨ (a (Int32.toNatClampNeg ro)).toInt ≠ -1 ∧ mat = nx (Int32.toNatClampNeg (a (Int32.toNatClampNeg ro)))) : mat.toInt = -1 ∨ 0 ≤ mat.toInt ∧ zV S nd G L p2 cb ck on ba tp2 st (Int32.toNatClampNeg mat) := by
  subst e1
  subst e3
  rcases hmt with u | ⟨u1, u2⟩
  · exact Or.inl u.2
  right
  subst u2
  obtain ⟨f, po, z, hq, -, -, -, hb⟩ := zV_row hw h.1 ho
  simp only [zop] at z
  obtain ⟨z1, z2, z3, z4⟩ := z
  obtain ⟨s, c1, c2, c3, c4, c5⟩ := zT_tg hw h hq u1 z4
  refine zGo ⟨s, c1, zV_br hw h c2 c4 (by omega) (by omega) (fun k hk hk2 => ?_) (fun k hk hk2 => ?_) hp⟩
  · rw [hb k hk]
    show (_ || zbit (zbe (S 3) nd (S 1 (Int32.toNatClampNeg ro))) k) = true
    rw [c5, hk2, Bool.or_true]
  · have u := hm k (by omega) hk2
    rw [c5] at u
    refine ⟨?_, u.2⟩
    rw [hb k (by omega)]
    show (zbit (zbh S nd (Int32.toNatClampNeg ro)) k || _) = true
    rw [zbh_bf hr, u.1]; rfl
theorem zT_14h {S : Nat → Nat → Int32} {nd en a : Nat → Int32} {fz : Int32} {G : Nat → Nat → Int} {L : List Nat} {p : Nat → Bool} {cb ck : Nat → Int32} {on ba tp st : Int32} {r n : Nat} (hw : zWk S nd en fz G L) (e1 : S 1 = a) (h11 : (S 11 0).toInt ≤ 3000) (h : zV S nd G L p cb ck on ba tp st r) (ho : Int32.toNatClampNeg (S 0 r) = n) (hn : n = 14 ∨ n = 16) : -1 ≤ (a r).toInt ∧ (a r).toInt < 3000 := by
  subst e1
  obtain ⟨f, po, z, hq, -, -, -, -⟩ := zV_row hw h.1 ho
  have t : ztg S G r po (G r 0) := by rcases hn with g | g <;> (rw [g] at z; simp only [zop] at z; exact z)
  rcases t with t | ⟨t1, t2, -⟩
  · omega
  · have := (hw.1 _ (hq _ t2)).1
    have := zn_nat t1
    omega
theorem zT_14 {S : Nat → Nat → Int32} {nd en a nx : Nat → Int32} {fz : Int32} {G : Nat → Nat → Int} {L : List Nat} {p : Nat → Bool} {cb ck : Nat → Int32} {on ba tp st mat : Int32} {r n : Nat} (hw : zWk S nd en fz G L) (e1 : S 1 = a) (e3 : S 3 = nx) (h : zV S nd G L p cb ck on ba tp st r) (ho : Int32.toNatClampNeg (S 0 r) = n) (hn : n = 14 ∨ n = 16) (hmt : (a r).toInt = -1 ∧ mat.toInt = -1 ∨ (a r).toInt ≠ -1 ∧ mat = nx (Int32.toNatClampNeg (a r))) : mat.toInt = -1 ∨ 0 ≤ mat.toInt ∧ zV S nd G L p cb ck on ba tp st (Int32.toNatClampNeg mat) := by
  subst e1
  subst e3
  rcases hmt with u | ⟨u1, u2⟩
  · exact Or.inl u.2
  right
  subst u2
  obtain ⟨f, po, z, hq, -, -, -, hb⟩ := zV_row hw h.1 ho
  have t : ztg S G r po (G r 0) := by rcases hn with g | g <;> (rw [g] at z; simp only [zop] at z; exact z)
  obtain ⟨s, c1, c2, c3, c4, c5⟩ := zT_tg hw h hq u1 t
  refine zGo ⟨s, c1, zV_br (mask := 0) hw h c2 c4 (by omega) (by omega) (fun k hk hk2 => ?_) (fun k hk hk2 => ?_) (fun j hj _ => hj)⟩
  · rw [hb k hk]
    rcases hn with g | g <;> (rw [g]; show zbit (zbe (S 3) nd (S 1 r)) k = true; rw [c5]; exact hk2)
  · rw [zbit_z (by omega)] at hk2; exact Bool.noConfusion hk2
theorem zT_15h {S : Nat → Nat → Int32} {nd en a b nx ak an bf fs kf : Nat → Int32} {fz kz : Int32} {G : Nat → Nat → Int} {L : List Nat} {p : Nat → Bool} {cb ck : Nat → Int32} {on ba tp st : Int32} {r : Nat} (hw : zWk S nd en fz G L) (e1 : S 1 = a) (e2 : S 2 = b) (e3 : S 3 = nx) (e4 : S 4 = ak) (e5 : S 5 = an) (e6 : S 6 = bf) (e8 : S 8 = fs) (e9 : S 9 = kf) (e14 : S 14 0 = kz) (h11 : (S 11 0).toInt ≤ 3000) (h13 : (S 13 0).toInt ≤ 400) (h : zV S nd G L p cb ck on ba tp st r) (ho : Int32.toNatClampNeg (S 0 r) = 15) : ((0 ≤ (a r).toInt ∧ (a r).toInt < 24) ∧ (a r).toInt < G r 2 ∧ p (Int32.toNatClampNeg ba + Int32.toNatClampNeg (a r)) = true ∧ ∀ k, k < 24 → zbit (nd r) k = true → p (Int32.toNatClampNeg ba + k) = true) ∧ ∃ gA : List Nat, gA.length ≤ 8 ∧ zli an (b r) gA ∧ (∀ ma ∈ gA, ma < 400 ∧ (0 ≤ (bf ma).toInt ∧ (bf ma).toInt < 3000) ∧ (fs ma).toInt = G r 2 ∧ G r 2 + zfk kz kf (ak ma) ≤ 24 ∧ ((ak ma).toInt = -2 ∨ 0 ≤ (ak ma).toInt)) ∧ ∀ ma ∈ gA, ∃ s : Nat, (nx (Int32.toNatClampNeg (bf ma))).toInt = (s : Int) ∧ s ∈ L ∧ G s 0 = G r 0 ∧ G s 4 = G r 4 ∧ zbe nx nd (bf ma) = nd s := by
  subst e1 e2 e3 e4 e5 e6 e8 e9 e14
  obtain ⟨q1, q2, q3, q4, -⟩ := zV_mr hw h ho
  obtain ⟨w1, w2, w3, w4, w5, w6, w7⟩ := hw.1 r h.1
  obtain ⟨f, po, z, hq, zf, -, zn, hb⟩ := zV_row hw h.1 ho
  simp only [zop] at z
  obtain ⟨z1, z2, AL, z3, z4, z5⟩ := z
  have za := zn_nat q1
  refine ⟨⟨⟨q1, by omega⟩, q2, h.2.2.2.2.2.2.2.2.1 _ (by omega) q4, fun k hk hk2 => h.2.2.2.2.2.2.2.2.1 k (by omega) hk2⟩, AL, z3, z4, fun m hm => ?_, fun m hm => ?_⟩
  · obtain ⟨m1, m2, m3, m4, m5, m6, m7, m8, m9, m10⟩ := z5 m hm
    have := (hw.1 _ (hq _ m7)).1
    have hn6 := zn_nat m6
    refine ⟨by omega, ⟨m6, by omega⟩, m4, by rw [← zfl_k rfl rfl]; omega, ?_⟩
    rcases m3 with u | u
    · exact Or.inl u
    · exact Or.inr u.1
  · obtain ⟨m1, m2, m3, m4, m5, m6, m7, m8, m9, m10⟩ := z5 m hm
    obtain ⟨s, c1, c2, c3, c4, c5⟩ := zV_tg hw m6 (hq _ m7) (by omega)
    exact ⟨s, c1, c2, by omega, by omega, c5⟩
theorem zT_15 {S : Nat → Nat → Int32} {nd en a b nx ak an bf fs kf : Nat → Int32} {fz kz : Int32} {G : Nat → Nat → Int} {L : List Nat} {p p2 : Nat → Bool} {cb ck : Nat → Int32} {on ba tp st mask mat : Int32} {r ma : Nat} {gA : List Nat} (hw : zWk S nd en fz G L) (e1 : S 1 = a) (e2 : S 2 = b) (e3 : S 3 = nx) (e4 : S 4 = ak) (e5 : S 5 = an) (e6 : S 6 = bf) (e8 : S 8 = fs) (e9 : S 9 = kf) (e14 : S 14 0 = kz) (h : zV S nd G L p cb ck on ba tp st r) (ho : Int32.toNatClampNeg (S 0 r) = 15) (hA : gA.length ≤ 8) (hli : zli an (b r) gA) (hfs : (fs ma).toInt = G r 2) (hs : ∃ s : Nat, (nx (Int32.toNatClampNeg (bf ma))).toInt = (s : Int) ∧ s ∈ L ∧ G s 0 = G r 0 ∧ G s 4 = G r 4 ∧ zbe nx nd (bf ma) = nd s) (hmA : ma ∈ gA) (hmt : mat = nx (Int32.toNatClampNeg (bf ma))) (hm : ∀ k, k < 32 → zbit mask k = true → zbit (nd r) k = true ∧ zbit (zbe nx nd (bf ma)) k = false) (hp : ∀ j : Nat, p j = true → j ≠ Int32.toNatClampNeg ba + Int32.toNatClampNeg (a r) ∨ zbit (zbe nx nd (bf ma)) (Int32.toNatClampNeg (a r)) = true → (∀ k, k < 24 → zbit mask k = true → j ≠ Int32.toNatClampNeg ba + k) → p2 j = true) (hf : ∀ i : Nat, (i : Int) < zfk kz kf (ak ma) → zbit (zbe nx nd (bf ma)) (Int32.toNatClampNeg (fs ma) + i) = true → p2 (Int32.toNatClampNeg ba + Int32.toNatClampNeg (fs ma) + i) = true) : 0 ≤ mat.toInt ∧ zV S nd G L p2 cb ck on ba tp st (Int32.toNatClampNeg mat) := by
  subst e1 e2 e3 e4 e5 e6 e8 e9 e14 hmt
  obtain ⟨s, c1, c2, c3, c4, c5⟩ := hs
  rw [c5] at hm hp hf
  exact zGo ⟨s, c1, zV_mt hw h ho hA hli hmA hfs c2 c3 c4 c5 (fun k hk => hm k (by omega)) hp (fun i hi => hf i (by rw [← zfl_k rfl rfl]; exact hi))⟩
theorem zT_0h {S : Nat → Nat → Int32} {nd en a ff : Nat → Int32} {fz : Int32} {G : Nat → Nat → Int} {L : List Nat} {p : Nat → Bool} {cb ck : Nat → Int32} {on ba tp st : Int32} {r : Nat} (hw : zWk S nd en fz G L) (e1 : S 1 = a) (e10 : S 10 = ff) (h : zV0 S nd G L p cb ck on ba tp st r) : (0 ≤ (a r).toInt ∧ (a r).toInt < fz.toInt) ∧ (0 ≤ (ff (5 * Int32.toNatClampNeg (a r))).toInt ∧ (ff (5 * Int32.toNatClampNeg (a r))).toInt ≤ 6) ∧ ∀ k : Nat, (k : Int) < (ff (5 * Int32.toNatClampNeg (a r))).toInt → p (Int32.toNatClampNeg ba + k) = true := by
  subst e1 e10
  obtain ⟨f, po, z, hq, zf, zl, zn, hb⟩ := zV_row hw h.1 h.2.1
  simp only [zop] at z
  obtain ⟨z1, z2, z3, z4, z5, z6⟩ := z
  have hn := zn_nat (x := S 1 r) (by omega)
  have t := hw.2.2.2.2.2.1 f zl
  have e : Int32.toNatClampNeg (S 1 r) = f := by omega
  rw [e]
  refine ⟨by omega, ⟨t.1, t.2.1⟩, fun k hk => h.2.2.2.2.2.2.2.2.2.1 k ?_⟩
  rw [zf]; exact hk
theorem zT_0 {S : Nat → Nat → Int32} {nd en nx : Nat → Int32} {fz : Int32} {G : Nat → Nat → Int} {L : List Nat} {p p2 : Nat → Bool} {cb ck : Nat → Int32} {on ba tp st mask mat ro : Int32} (hw : zWk S nd en fz G L) (e3 : S 3 = nx) (hr : 0 ≤ ro.toInt) (h : zV0 S nd G L p cb ck on ba tp st (Int32.toNatClampNeg ro)) (hm : ∀ k, k < 32 → zbit mask k = true → zbit (zbe nx nd ro) k = false) (hp : ∀ j : Nat, p j = true → (∀ k, k < 24 → zbit mask k = true → j ≠ Int32.toNatClampNeg ba + k) → p2 j = true) (hmt : mat = nx (Int32.toNatClampNeg ro)) : 0 ≤ mat.toInt ∧ zV S nd G L p2 cb ck on ba tp st (Int32.toNatClampNeg mat) := by
  subst e3 hmt
  exact zGo (zV_en hw h (fun k hk g => by rw [zbh_bf hr]; exact hm k (by omega) g) hp)
theorem zT_6h {S : Nat → Nat → Int32} {nd en a ff : Nat → Int32} {fz : Int32} {G : Nat → Nat → Int} {L : List Nat} {p : Nat → Bool} {cb ck : Nat → Int32} {on ba tp st : Int32} {r : Nat} (hw : zWk S nd en fz G L) (e1 : S 1 = a) (e10 : S 10 = ff) (h : zV S nd G L p cb ck on ba tp st r) (ho : Int32.toNatClampNeg (S 0 r) = 6 ∨ Int32.toNatClampNeg (S 0 r) = 7) : (0 ≤ (a r).toInt ∧ (a r).toInt < fz.toInt) ∧ ∃ td nmz : Int, (ff (5 * Int32.toNatClampNeg (a r))).toInt = td ∧ (ff (5 * Int32.toNatClampNeg (a r) + 1)).toInt = nmz ∧ 0 ≤ td ∧ td ≤ tp.toInt ∧ 0 ≤ nmz ∧ nmz ≤ 24 ∧ td = (S 2 r).toInt := by
  subst e1 e10
  obtain ⟨w1, w2, w3, w4, w5, w6, w7⟩ := hw.1 r h.1
  have h6 := h.2.2.2.2.2.1
  have h5 := h.2.2.2.2.1
  obtain ⟨c1, c2, c3⟩ := hw.2.2.2.2.2.2 r h.1 ho
  have hf2 := zn_nat c1
  obtain ⟨t1, t2, t3, t4⟩ := hw.2.2.2.2.2.1 (Int32.toNatClampNeg (S 1 r)) (by omega)
  have hb : (S 2 r).toInt ≤ G r 0 := by
    rcases ho with g | g
    · obtain ⟨f, po, z, -⟩ := zV_row hw h.1 g
      simp only [zop] at z
      exact z.2.1
    · obtain ⟨f, po, z, -⟩ := zV_row hw h.1 g
      simp only [zop] at z
      exact z.2.1
  have e : (S 10 (5 * Int32.toNatClampNeg (S 1 r))).toInt = (S 2 r).toInt := by rw [c3]
  exact ⟨⟨c1, c2⟩, _, _, rfl, rfl, t1, by omega, by omega, by omega, e⟩
theorem zT_6 {S : Nat → Nat → Int32} {nd en a nx ff : Nat → Int32} {fz : Int32} {G : Nat → Nat → Int} {L : List Nat} {p : Nat → Bool} {cb ck cb2 ck2 : Nat → Int32} {on ba tp st st2 on2 ba2 tp2 mat : Int32} {r : Nat} {td nmz : Int} (hw : zWk S nd en fz G L) (e1 : S 1 = a) (e3 : S 3 = nx) (e10 : S 10 = ff) (h : zV S nd G L p cb ck on ba tp st r) (ho : Int32.toNatClampNeg (S 0 r) = 6 ∨ Int32.toNatClampNeg (S 0 r) = 7) (hs : st2.toInt = st.toInt + 1 ∨ Int32.toNatClampNeg (S 0 r) = 7 ∧ st2.toInt = st.toInt) (hs2 : st2.toInt ≤ 20000) (htd : td = (S 2 r).toInt) (hnm : (ff (5 * Int32.toNatClampNeg (a r) + 1)).toInt = nmz) (hc : on.toInt < 100 ∧ on2.toInt = on.toInt + 1 ∧ ba2.toInt = tp.toInt - td ∧ tp2.toInt = ba2.toInt + nmz) (ecb : cb2 = upd cb (Int32.toNatClampNeg on) ba2) (eck : ck2 = upd ck (Int32.toNatClampNeg on) (nx r)) (hm : mat = en (Int32.toNatClampNeg (a r))) : 0 ≤ mat.toInt ∧ zV0 S nd G L p cb2 ck2 on2 ba2 tp2 st2 (Int32.toNatClampNeg mat) := by
  subst e1 e3 e10 hm
  have hst : st.toInt ≤ st2.toInt := by omega
  have h6 := h.2.2.2.2.2.2.1
  have hv := zV_go (p2 := p) (tp2 := tp) (st2 := st2) hw h h.1 rfl (by omega) (by omega) hst hs2 h.2.2.2.2.2.2.2.2.1 h.2.2.2.2.2.2.2.2.2.1 (fun _ _ g => g)
  exact zV_call hw hv ho (hs.elim (fun g => Or.inr (by omega)) (fun g => Or.inl g.1)) hc.1 (by omega) (by omega) hc.2.1 ecb eck
theorem zT_17h {S : Nat → Nat → Int32} {nd en : Nat → Int32} {fz : Int32} {G : Nat → Nat → Int} {L : List Nat} {p : Nat → Bool} {cb ck : Nat → Int32} {on ba tp st : Int32} {r : Nat} (hw : zWk S nd en fz G L) (h : zV S nd G L p cb ck on ba tp st r) (ho : Int32.toNatClampNeg (S 0 r) = 17) : 1 ≤ tp.toInt ∧ ba.toInt < tp.toInt ∧ p (Int32.toNatClampNeg tp - 1) = true ∧ ba.toInt ≤ tp.toInt - 1 := by
  obtain ⟨w1, w2, w3, w4, w5, w6, w7⟩ := hw.1 r h.1
  have h6 := h.2.2.2.2.2.1
  have h5 := h.2.2.2.2.1
  have hba := zn_nat h5
  have htn := zn_nat (x := tp) (by omega)
  obtain ⟨f, po, z, -⟩ := zV_row hw h.1 ho
  simp only [zop] at z
  refine ⟨by omega, by omega, ?_, by omega⟩
  have := h.2.2.2.2.2.2.2.2.2.1 ((G r 0).toNat - 1) (by omega)
  rw [show Int32.toNatClampNeg ba + (zNm S G r).toNat + ((G r 0).toNat - 1) = Int32.toNatClampNeg tp - 1 by omega] at this
  exact this
theorem zT_17 {S : Nat → Nat → Int32} {nd en : Nat → Int32} {fz : Int32} {G : Nat → Nat → Int} {L : List Nat} {p : Nat → Bool} {cb ck : Nat → Int32} {on ba tp st on2 ba2 tp2 mat : Int32} {r : Nat} (hw : zWk S nd en fz G L) (h : zV S nd G L p cb ck on ba tp st r) (ho : Int32.toNatClampNeg (S 0 r) = 17) (h1 : 1 < on.toInt) (hon2 : on2.toInt = on.toInt - 1) (ht : tp2.toInt = ba.toInt + 1) (hm : mat = ck (Int32.toNatClampNeg on2)) (hb : ba2 = cb (Int32.toNatClampNeg on2 - 1)) : 0 ≤ mat.toInt ∧ zV S nd G L (zpA (zpR p (Int32.toNatClampNeg tp - 1)) (Int32.toNatClampNeg ba)) cb ck on2 ba2 tp2 st (Int32.toNatClampNeg mat) := by
  subst hm
  have q := zT_17h hw h ho
  have hba := zn_nat h.2.2.2.2.1
  have htn := zn_nat (x := tp) (by omega)
  exact zGo (zV_ret hw h hon2 (by omega) hb ht (fun j hj g => zpA_i ((zpR_n (by omega)).trans g)) zpA_s)
/-- a run's value: its cells are counted -/
def zRes (kz : Int32) (kf gk gc : Nat → Int32) (gv : Nat → Int64) (fresh ff held dbl : Int32) (re : Int64) : Prop :=
  ∃ (lv : Nat → Bool) (FL : List Nat), zCS (zwd kz kf gk) gc gv fresh ff held dbl lv (fun c => zr re c) FL [] (-1) ∧ (∀ c, lv c = true → ∀ k, k < zwd kz kf gk c → zvk kz kf (gv (3 * c + k))) ∧ zvk kz kf re
theorem zMD_re {n : Nat} {kz : Int32} {kf gk gc : Nat → Int32} {gv : Nat → Int64} {fresh ff held dbl : Int32} {st : Nat → Int64} {p : Nat → Bool} {sh : Nat → Int32} {sn : Int32} {j : Nat} {re : Int64} (h : zMD n kz kf gk gc gv fresh ff held dbl st p sh sn) (hj : p j = true) (e : re = st j) : zRes kz kf gk gc gv fresh ff held dbl re := by
  obtain ⟨lv, FL, a, b, c, -⟩ := h
  subst e
  refine ⟨lv, FL, zCS_mono a (fun _ => zr_0 _ _) (fun y => ?_), b, (c j hj).2⟩
  have := zRS_rm (n := n) (st := st) (c j hj).1 hj y
  have := zRS_0 (n := n) (st := st) (p := zpR p j) (c := y)
  show zr (st j) y ≤ zRS n st p y + 0
  omega
/-- a plain run's value -/
def zRep (kz : Int32) (kf gk : Nat → Int32) (gv : Nat → Int64) (fresh : Int32) (re : Int64) : Prop :=
  zgq fresh kz kf re ∧ (∀ c : Nat, (c : Int) < fresh.toInt → ∀ k, k < zwd kz kf gk c → zgq fresh kz kf (gv (3 * c + k))) ∧ fresh.toInt ≤ 4000
