/-! one turn, its ways that fork -/
theorem zT_13h {S : Nat → Nat → Int32} {nd en a nx : Nat → Int32} {fz : Int32} {G : Nat → Nat → Int} {L : List Nat} {p : Nat → Bool} {cb ck : Nat → Int32} {on ba tp st ro : Int32} (hw : zWk S nd en fz G L) (e1 : S 1 = a) (e3 : S 3 = nx) (h11 : (S 11 0).toInt ≤ 3000) (hr : 0 ≤ ro.toInt) (h : zV S nd G L p cb ck on ba tp st (Int32.toNatClampNeg ro)) (ho : Int32.toNatClampNeg (S 0 (Int32.toNatClampNeg ro)) = 13) : 1 ≤ tp.toInt ∧ (-1 ≤ (a (Int32.toNatClampNeg ro)).toInt ∧ (a (Int32.toNatClampNeg ro)).toInt < 3000) ∧ ∀ k, k < 24 → zbit (zbe nx nd ro) k = true ∨ zbit (zbe nx nd (a (Int32.toNatClampNeg ro))) k = true → p (Int32.toNatClampNeg ba + k) = true := by
  subst e1
  subst e3
  obtain ⟨w1, w2, w3, w4, w5, w6, w7⟩ := hw.1 _ h.1
  have h6 := h.2.2.2.2.2.1
  have h5 := h.2.2.2.2.1
  obtain ⟨f, po, z, hq, -, -, -, hb⟩ := zV_row hw h.1 ho
  simp only [zop] at z
  obtain ⟨z1, z2, z3, z4⟩ := z
  refine ⟨by omega, ?_, fun k hk hk2 => h.2.2.2.2.2.2.2.2.1 k (by omega) ?_⟩
  · rcases z4 with t | ⟨t1, t2, -⟩
    · omega
    · have := (hw.1 _ (hq _ t2)).1
      have := zn_nat t1
      omega
  · rw [hb k (by omega)]
    show (zbit (zbh S nd (Int32.toNatClampNeg ro)) k || zbit (zbe (S 3) nd (S 1 (Int32.toNatClampNeg ro))) k) = true
    rw [zbh_bf hr]
    rcases hk2 with g | g
    · rw [g]; rfl
    · rw [g, Bool.or_true]
theorem zT_13a {S : Nat → Nat → Int32} {nd en a nx : Nat → Int32} {fz : Int32} {G : Nat → Nat → Int} {L : List Nat} {p p2 : Nat → Bool} {cb ck : Nat → Int32} {on ba tp st tp2 mat ro mask : Int32} (hw : zWk S nd en fz G L) (e1 : S 1 = a) (e3 : S 3 = nx) (hr : 0 ≤ ro.toInt) (h : zV S nd G L p cb ck on ba tp st (Int32.toNatClampNeg ro)) (ho : Int32.toNatClampNeg (S 0 (Int32.toNatClampNeg ro)) = 13) (ht : tp2.toInt = tp.toInt - 1) (hm : ∀ k, k < 32 → zbit mask k = true → zbit (zbe nx nd (a (Int32.toNatClampNeg ro))) k = true ∧ zbit (zbe nx nd ro) k = false) (hp : ∀ j : Nat, p j = true → (∀ k, k < 24 → zbit mask k = true → j ≠ Int32.toNatClampNeg ba + k) → p2 j = true) (hmt : mat = nx (Int32.toNatClampNeg ro)) : 0 ≤ mat.toInt ∧ zV S nd G L p2 cb ck on ba tp2 st (Int32.toNatClampNeg mat) := by
  subst e1
  subst e3
  subst hmt
  obtain ⟨s, c1, c2, c3, c4, c5⟩ := zV_nx hw h.1 (by rw [ho]; decide)
  obtain ⟨f, po, z, hq, -, -, -, hb⟩ := zV_row hw h.1 ho
  simp only [zop] at z
  obtain ⟨z1, z2, z3, z4⟩ := z
  have hbe : zbe (S 3) nd ro = nd s := by rw [← zbh_bf hr]; exact c5
  refine zGo ⟨s, c1, zV_br hw h c2 c4 (by omega) (by omega) (fun k hk hk2 => ?_) (fun k hk hk2 => ?_) hp⟩
  · rw [hb k hk]
    show (zbit (zbh S nd (Int32.toNatClampNeg ro)) k || _) = true
    rw [c5, hk2]; rfl
  · have u := hm k (by omega) hk2
    rw [hbe] at u
    refine ⟨?_, u.2⟩
    rw [hb k (by omega)]
    show (_ || zbit (zbe (S 3) nd (S 1 (Int32.toNatClampNeg ro))) k) = true
    rw [u.1, Bool.or_true]
theorem zT_tg {S : Nat → Nat → Int32} {nd en : Nat → Int32} {fz : Int32} {G : Nat → Nat → Int} {L : List Nat} {p : Nat → Bool} {cb ck : Nat → Int32} {on ba tp st : Int32} {r : Nat} {po : List Nat} {hh : Int} (hw : zWk S nd en fz G L) (h : zV S nd G L p cb ck on ba tp st r) (hq : ∀ q ∈ r :: po, q ∈ L) (hne : (S 1 r).toInt ≠ -1) (t : ztg S G r po hh) : ∃ s : Nat, (S 3 (Int32.toNatClampNeg (S 1 r))).toInt = (s : Int) ∧ s ∈ L ∧ G s 0 = hh ∧ G s 4 = G r 4 ∧ zbe (S 3) nd (S 1 r) = nd s := by
  obtain ⟨w1, w2, w3, w4, w5, w6, w7⟩ := hw.1 _ h.1
  obtain ⟨t1, t2, t3, t4, t5⟩ := t.resolve_left hne
  obtain ⟨s, c1, c2, c3, c4, c5⟩ := zV_tg hw t1 (hq _ t2) (by omega)
  exact ⟨s, c1, c2, by omega, by omega, c5⟩
theorem zT_13b {S : Nat → Nat → Int32} {nd en a nx : Nat → Int32} {fz : Int32} {G : Nat → Nat → Int} {L : List Nat} {p p2 : Nat → Bool} {cb ck : Nat → Int32} {on ba tp st tp2 mat ro mask : Int32} (hw : zWk S nd en fz G L) (e1 : S 1 = a) (e3 : S 3 = nx) (hr : 0 ≤ ro.toInt) (h : zV S nd G L p cb ck on ba tp st (Int32.toNatClampNeg ro)) (ho : Int32.toNatClampNeg (S 0 (Int32.toNatClampNeg ro)) = 13) (ht : tp2.toInt = tp.toInt - 1) (hm : ∀ k, k < 32 → zbit mask k = true → zbit (zbe nx nd ro) k = true ∧ zbit (zbe nx nd (a (Int32.toNatClampNeg ro))) k = false) (hp : ∀ j : Nat, p j = true → (∀ k, k < 24 → zbit mask k = true → j ≠ Int32.toNatClampNeg ba + k) → p2 j = true) (hmt : (a (Int32.toNatClampNeg ro)).toInt = -1 ∧ mat.toInt = -1 ∨ (a (Int32.toNatClampNeg ro)).toInt ≠ -1 ∧ mat = nx (Int32.toNatClampNeg (a (Int32.toNatClampNeg ro)))) : mat.toInt = -1 ∨ 0 ≤ mat.toInt ∧ zV S nd G L p2 cb ck on ba tp2 st (Int32.toNatClampNeg mat) := by
  subst e1
  subst e3
  rcases hmt with u | ⟨u1, u2⟩
  · exact Or.inl u.2
  right
  subst u2
  obtain ⟨f, po, z, hq, -, -, -, hb⟩ := zV_row hw h.1 ho
  simp only [zop] at z
  obtain ⟨z1, z2, z3, z4⟩ := z
  obtain ⟨s, c1, c2, c3, c4, c5⟩ := zT_tg hw h hq u1 z4
  refine zGo ⟨s, c1, zV_br hw h c2 c4 (by omega) (by omega) (fun k hk hk2 => ?_) (fun k hk hk2 => ?_) hp⟩
  · rw [hb k hk]
    show (_ || zbit (zbe (S 3) nd (S 1 (Int32.toNatClampNeg ro))) k) = true
    rw [c5, hk2, Bool.or_true]
  · have u := hm k (by omega) hk2
    rw [c5] at u
    refine ⟨?_, u.2⟩
    rw [hb k (by omega)]
    show (zbit (zbh S nd (Int32.toNatClampNeg ro)) k || _) = true
    rw [zbh_bf hr, u.1]; rfl
theorem zT_14h {S : Nat → Nat → Int32} {nd en a : Nat → Int32} {fz : Int32} {G : Nat → Nat → Int} {L : List Nat} {p : Nat → Bool} {cb ck : Nat → Int32} {on ba tp st : Int32} {r n : Nat} (hw : zWk S nd en fz G L) (e1 : S 1 = a) (h11 : (S 11 0).toInt ≤ 3000) (h : zV S nd G L p cb ck on ba tp st r) (ho : Int32.toNatClampNeg (S 0 r) = n) (hn : n = 14 ∨ n = 16) : -1 ≤ (a r).toInt ∧ (a r).toInt < 3000 := by
  subst e1
  obtain ⟨f, po, z, hq, -, -, -, -⟩ := zV_row hw h.1 ho
  have t : ztg S G r po (G r 0) := by rcases hn with g | g <;> (rw [g] at z; simp only [zop] at z; exact z)
  rcases t with t | ⟨t1, t2, -⟩
  · omega
  · have := (hw.1 _ (hq _ t2)).1
    have := zn_nat t1
    omega
theorem zT_14 {S : Nat → Nat → Int32} {nd en a nx : Nat → Int32} {fz : Int32} {G : Nat → Nat → Int} {L : List Nat} {p : Nat → Bool} {cb ck : Nat → Int32} {on ba tp st mat : Int32} {r n : Nat} (hw : zWk S nd en fz G L) (e1 : S 1 = a) (e3 : S 3 = nx) (h : zV S nd G L p cb ck on ba tp st r) (ho : Int32.toNatClampNeg (S 0 r) = n) (hn : n = 14 ∨ n = 16) (hmt : (a r).toInt = -1 ∧ mat.toInt = -1 ∨ (a r).toInt ≠ -1 ∧ mat = nx (Int32.toNatClampNeg (a r))) : mat.toInt = -1 ∨ 0 ≤ mat.toInt ∧ zV S nd G L p cb ck on ba tp st (Int32.toNatClampNeg mat) := by
  subst e1
  subst e3
  rcases hmt with u | ⟨u1, u2⟩
  · exact Or.inl u.2
  right
  subst u2
  obtain ⟨f, po, z, hq, -, -, -, hb⟩ := zV_row hw h.1 ho
  have t : ztg S G r po (G r 0) := by rcases hn with g | g <;> (rw [g] at z; simp only [zop] at z; exact z)
  obtain ⟨s, c1, c2, c3, c4, c5⟩ := zT_tg hw h hq u1 t
  refine zGo ⟨s, c1, zV_br (mask := 0) hw h c2 c4 (by omega) (by omega) (fun k hk hk2 => ?_) (fun k hk hk2 => ?_) (fun j hj _ => hj)⟩
  · rw [hb k hk]
    rcases hn with g | g <;> (rw [g]; show zbit (zbe (S 3) nd (S 1 r)) k = true; rw [c5]; exact hk2)
  · rw [zbit_z (by omega)] at hk2; exact Bool.noConfusion hk2
theorem zT_15h {S : Nat → Nat → Int32} {nd en a b nx ak an bf fs kf : Nat → Int32} {fz kz : Int32} {G : Nat → Nat → Int} {L : List Nat} {p : Nat → Bool} {cb ck : Nat → Int32} {on ba tp st : Int32} {r : Nat} (hw : zWk S nd en fz G L) (e1 : S 1 = a) (e2 : S 2 = b) (e3 : S 3 = nx) (e4 : S 4 = ak) (e5 : S 5 = an) (e6 : S 6 = bf) (e8 : S 8 = fs) (e9 : S 9 = kf) (e14 : S 14 0 = kz) (h11 : (S 11 0).toInt ≤ 3000) (h13 : (S 13 0).toInt ≤ 400) (h : zV S nd G L p cb ck on ba tp st r) (ho : Int32.toNatClampNeg (S 0 r) = 15) : ((0 ≤ (a r).toInt ∧ (a r).toInt < 24) ∧ (a r).toInt < G r 2 ∧ p (Int32.toNatClampNeg ba + Int32.toNatClampNeg (a r)) = true ∧ ∀ k, k < 24 → zbit (nd r) k = true → p (Int32.toNatClampNeg ba + k) = true) ∧ ∃ gA : List Nat, gA.length ≤ 8 ∧ zli an (b r) gA ∧ (∀ ma ∈ gA, ma < 400 ∧ (0 ≤ (bf ma).toInt ∧ (bf ma).toInt < 3000) ∧ (fs ma).toInt = G r 2 ∧ G r 2 + zfk kz kf (ak ma) ≤ 24 ∧ ((ak ma).toInt = -2 ∨ 0 ≤ (ak ma).toInt)) ∧ ∀ ma ∈ gA, ∃ s : Nat, (nx (Int32.toNatClampNeg (bf ma))).toInt = (s : Int) ∧ s ∈ L ∧ G s 0 = G r 0 ∧ G s 4 = G r 4 ∧ zbe nx nd (bf ma) = nd s := by
  subst e1 e2 e3 e4 e5 e6 e8 e9 e14
  obtain ⟨q1, q2, q3, q4, -⟩ := zV_mr hw h ho
  obtain ⟨w1, w2, w3, w4, w5, w6, w7⟩ := hw.1 r h.1
  obtain ⟨f, po, z, hq, zf, -, zn, hb⟩ := zV_row hw h.1 ho
  simp only [zop] at z
  obtain ⟨z1, z2, AL, z3, z4, z5⟩ := z
  have za := zn_nat q1
  refine ⟨⟨⟨q1, by omega⟩, q2, h.2.2.2.2.2.2.2.2.1 _ (by omega) q4, fun k hk hk2 => h.2.2.2.2.2.2.2.2.1 k (by omega) hk2⟩, AL, z3, z4, fun m hm => ?_, fun m hm => ?_⟩
  · obtain ⟨m1, m2, m3, m4, m5, m6, m7, m8, m9, m10⟩ := z5 m hm
    have := (hw.1 _ (hq _ m7)).1
    have hn6 := zn_nat m6
    refine ⟨by omega, ⟨m6, by omega⟩, m4, by rw [← zfl_k rfl rfl]; omega, ?_⟩
    rcases m3 with u | u
    · exact Or.inl u
    · exact Or.inr u.1
  · obtain ⟨m1, m2, m3, m4, m5, m6, m7, m8, m9, m10⟩ := z5 m hm
    obtain ⟨s, c1, c2, c3, c4, c5⟩ := zV_tg hw m6 (hq _ m7) (by omega)
    exact ⟨s, c1, c2, by omega, by omega, c5⟩
theorem zT_15 {S : Nat → Nat → Int32} {nd en a b nx ak an bf fs kf : Nat → Int32} {fz kz : Int32} {G : Nat → Nat → Int} {L : List Nat} {p p2 : Nat → Bool} {cb ck : Nat → Int32} {on ba tp st mask mat : Int32} {r ma : Nat} {gA : List Nat} (hw : zWk S nd en fz G L) (e1 : S 1 = a) (e2 : S 2 = b) (e3 : S 3 = nx) (e4 : S 4 = ak) (e5 : S 5 = an) (e6 : S 6 = bf) (e8 : S 8 = fs) (e9 : S 9 = kf) (e14 : S 14 0 = kz) (h : zV S nd G L p cb ck on ba tp st r) (ho : Int32.toNatClampNeg (S 0 r) = 15) (hA : gA.length ≤ 8) (hli : zli an (b r) gA) (hfs : (fs ma).toInt = G r 2) (hs : ∃ s : Nat, (nx (Int32.toNatClampNeg (bf ma))).toInt = (s : Int) ∧ s ∈ L ∧ G s 0 = G r 0 ∧ G s 4 = G r 4 ∧ zbe nx nd (bf ma) = nd s) (hmA : ma ∈ gA) (hmt : mat = nx (Int32.toNatClampNeg (bf ma))) (hm : ∀ k, k < 32 → zbit mask k = true → zbit (nd r) k = true ∧ zbit (zbe nx nd (bf ma)) k = false) (hp : ∀ j : Nat, p j = true → j ≠ Int32.toNatClampNeg ba + Int32.toNatClampNeg (a r) ∨ zbit (zbe nx nd (bf ma)) (Int32.toNatClampNeg (a r)) = true → (∀ k, k < 24 → zbit mask k = true → j ≠ Int32.toNatClampNeg ba + k) → p2 j = true) (hf : ∀ i : Nat, (i : Int) < zfk kz kf (ak ma) → zbit (zbe nx nd (bf ma)) (Int32.toNatClampNeg (fs ma) + i) = true → p2 (Int32.toNatClampNeg ba + Int32.toNatClampNeg (fs ma) + i) = true) : 0 ≤ mat.toInt ∧ zV S nd G L p2 cb ck on ba tp st (Int32.toNatClampNeg mat) := by
  subst e1 e2 e3 e4 e5 e6 e8 e9 e14 hmt
  obtain ⟨s, c1, c2, c3, c4, c5⟩ := hs
  rw [c5] at hm hp hf
  exact zGo ⟨s, c1, zV_mt hw h ho hA hli hmA hfs c2 c3 c4 c5 (fun k hk => hm k (by omega)) hp (fun i hi => hf i (by rw [← zfl_k rfl rfl]; exact hi))⟩
theorem zT_0h {S : Nat → Nat → Int32} {nd en a ff : Nat → Int32} {fz : Int32} {G : Nat → Nat → Int} {L : List Nat} {p : Nat → Bool} {cb ck : Nat → Int32} {on ba tp st : Int32} {r : Nat} (hw : zWk S nd en fz G L) (e1 : S 1 = a) (e10 : S 10 = ff) (h : zV0 S nd G L p cb ck on ba tp st r) : (0 ≤ (a r).toInt ∧ (a r).toInt < fz.toInt) ∧ (0 ≤ (ff (5 * Int32.toNatClampNeg (a r))).toInt ∧ (ff (5 * Int32.toNatClampNeg (a r))).toInt ≤ 6) ∧ ∀ k : Nat, (k : Int) < (ff (5 * Int32.toNatClampNeg (a r))).toInt → p (Int32.toNatClampNeg ba + k) = true := by
  subst e1 e10
  obtain ⟨f, po, z, hq, zf, zl, zn, hb⟩ := zV_row hw h.1 h.2.1
  simp only [zop] at z
  obtain ⟨z1, z2, z3, z4, z5, z6⟩ := z
  have hn := zn_nat (x := S 1 r) (by omega)
  have t := hw.2.2.2.2.2.1 f zl
  have e : Int32.toNatClampNeg (S 1 r) = f := by omega
  rw [e]
  refine ⟨by omega, ⟨t.1, t.2.1⟩, fun k hk => h.2.2.2.2.2.2.2.2.2.1 k ?_⟩
  rw [zf]; exact hk
theorem zT_0 {S : Nat → Nat → Int32} {nd en nx : Nat → Int32} {fz : Int32} {G : Nat → Nat → Int} {L : List Nat} {p p2 : Nat → Bool} {cb ck : Nat → Int32} {on ba tp st mask mat ro : Int32} (hw : zWk S nd en fz G L) (e3 : S 3 = nx) (hr : 0 ≤ ro.toInt) (h : zV0 S nd G L p cb ck on ba tp st (Int32.toNatClampNeg ro)) (hm : ∀ k, k < 32 → zbit mask k = true → zbit (zbe nx nd ro) k = false) (hp : ∀ j : Nat, p j = true → (∀ k, k < 24 → zbit mask k = true → j ≠ Int32.toNatClampNeg ba + k) → p2 j = true) (hmt : mat = nx (Int32.toNatClampNeg ro)) : 0 ≤ mat.toInt ∧ zV S nd G L p2 cb ck on ba tp st (Int32.toNatClampNeg mat) := by
  subst e3 hmt
  exact zGo (zV_en hw h (fun k hk g => by rw [zbh_bf hr]; exact hm k (by omega) g) hp)
theorem zT_6h {S : Nat → Nat → Int32} {nd en a ff : Nat → Int32} {fz : Int32} {G : Nat → Nat → Int} {L : List Nat} {p : Nat → Bool} {cb ck : Nat → Int32} {on ba tp st : Int32} {r : Nat} (hw : zWk S nd en fz G L) (e1 : S 1 = a) (e10 : S 10 = ff) (h : zV S nd G L p cb ck on ba tp st r) (ho : Int32.toNatClampNeg (S 0 r) = 6 ∨ Int32.toNatClampNeg (S 0 r) = 7) : (0 ≤ (a r).toInt ∧ (a r).toInt < fz.toInt) ∧ ∃ td nmz : Int, (ff (5 * Int32.toNatClampNeg (a r))).toInt = td ∧ (ff (5 * Int32.toNatClampNeg (a r) + 1)).toInt = nmz ∧ 0 ≤ td ∧ td ≤ tp.toInt ∧ 0 ≤ nmz ∧ nmz ≤ 24 ∧ td = (S 2 r).toInt := by
  subst e1 e10
  obtain ⟨w1, w2, w3, w4, w5, w6, w7⟩ := hw.1 r h.1
  have h6 := h.2.2.2.2.2.1
  have h5 := h.2.2.2.2.1
  obtain ⟨c1, c2, c3⟩ := hw.2.2.2.2.2.2 r h.1 ho
  have hf2 := zn_nat c1
  obtain ⟨t1, t2, t3, t4⟩ := hw.2.2.2.2.2.1 (Int32.toNatClampNeg (S 1 r)) (by omega)
  have hb : (S 2 r).toInt ≤ G r 0 := by
    rcases ho with g | g
    · obtain ⟨f, po, z, -⟩ := zV_row hw h.1 g
      simp only [zop] at z
      exact z.2.1
    · obtain ⟨f, po, z, -⟩ := zV_row hw h.1 g
      simp only [zop] at z
      exact z.2.1
  have e : (S 10 (5 * Int32.toNatClampNeg (S 1 r))).toInt = (S 2 r).toInt := by rw [c3]
  exact ⟨⟨c1, c2⟩, _, _, rfl, rfl, t1, by omega, by omega, by omega, e⟩
theorem zT_6 {S : Nat → Nat → Int32} {nd en a nx ff : Nat → Int32} {fz : Int32} {G : Nat → Nat → Int} {L : List Nat} {p : Nat → Bool} {cb ck cb2 ck2 : Nat → Int32} {on ba tp st st2 on2 ba2 tp2 mat : Int32} {r : Nat} {td nmz : Int} (hw : zWk S nd en fz G L) (e1 : S 1 = a) (e3 : S 3 = nx) (e10 : S 10 = ff) (h : zV S nd G L p cb ck on ba tp st r) (ho : Int32.toNatClampNeg (S 0 r) = 6 ∨ Int32.toNatClampNeg (S 0 r) = 7) (hs : st2.toInt = st.toInt + 1 ∨ Int32.toNatClampNeg (S 0 r) = 7 ∧ st2.toInt = st.toInt) (hs2 : st2.toInt ≤ 20000) (htd : td = (S 2 r).toInt) (hnm : (ff (5 * Int32.toNatClampNeg (a r) + 1)).toInt = nmz) (hc : on.toInt < 100 ∧ on2.toInt = on.toInt + 1 ∧ ba2.toInt = tp.toInt - td ∧ tp2.toInt = ba2.toInt + nmz) (ecb : cb2 = upd cb (Int32.toNatClampNeg on) ba2) (eck : ck2 = upd ck (Int32.toNatClampNeg on) (nx r)) (hm : mat = en (Int32.toNatClampNeg (a r))) : 0 ≤ mat.toInt ∧ zV0 S nd G L p cb2 ck2 on2 ba2 tp2 st2 (Int32.toNatClampNeg mat) := by
  subst e1 e3 e10 hm
  have hst : st.toInt ≤ st2.toInt := by omega
  have h6 := h.2.2.2.2.2.2.1
  have hv := zV_go (p2 := p) (tp2 := tp) (st2 := st2) hw h h.1 rfl (by omega) (by omega) hst hs2 h.2.2.2.2.2.2.2.2.1 h.2.2.2.2.2.2.2.2.2.1 (fun _ _ g => g)
  exact zV_call hw hv ho (hs.elim (fun g => Or.inr (by omega)) (fun g => Or.inl g.1)) hc.1 (by omega) (by omega) hc.2.1 ecb eck
theorem zT_17h {S : Nat → Nat → Int32} {nd en : Nat → Int32} {fz : Int32} {G : Nat → Nat → Int} {L : List Nat} {p : Nat → Bool} {cb ck : Nat → Int32} {on ba tp st : Int32} {r : Nat} (hw : zWk S nd en fz G L) (h : zV S nd G L p cb ck on ba tp st r) (ho : Int32.toNatClampNeg (S 0 r) = 17) : 1 ≤ tp.toInt ∧ ba.toInt < tp.toInt ∧ p (Int32.toNatClampNeg tp - 1) = true ∧ ba.toInt ≤ tp.toInt - 1 := by
  obtain ⟨w1, w2, w3, w4, w5, w6, w7⟩ := hw.1 r h.1
  have h6 := h.2.2.2.2.2.1
  have h5 := h.2.2.2.2.1
  have hba := zn_nat h5
  have htn := zn_nat (x := tp) (by omega)
  obtain ⟨f, po, z, -⟩ := zV_row hw h.1 ho
  simp only [zop] at z
  refine ⟨by omega, by omega, ?_, by omega⟩
  have := h.2.2.2.2.2.2.2.2.2.1 ((G r 0).toNat - 1) (by omega)
  rw [show Int32.toNatClampNeg ba + (zNm S G r).toNat + ((G r 0).toNat - 1) = Int32.toNatClampNeg tp - 1 by omega] at this
  exact this
theorem zT_17 {S : Nat → Nat → Int32} {nd en : Nat → Int32} {fz : Int32} {G : Nat → Nat → Int} {L : List Nat} {p : Nat → Bool} {cb ck : Nat → Int32} {on ba tp st on2 ba2 tp2 mat : Int32} {r : Nat} (hw : zWk S nd en fz G L) (h : zV S nd G L p cb ck on ba tp st r) (ho : Int32.toNatClampNeg (S 0 r) = 17) (h1 : 1 < on.toInt) (hon2 : on2.toInt = on.toInt - 1) (ht : tp2.toInt = ba.toInt + 1) (hm : mat = ck (Int32.toNatClampNeg on2)) (hb : ba2 = cb (Int32.toNatClampNeg on2 - 1)) : 0 ≤ mat.toInt ∧ zV S nd G L (zpA (zpR p (Int32.toNatClampNeg tp - 1)) (Int32.toNatClampNeg ba)) cb ck on2 ba2 tp2 st (Int32.toNatClampNeg mat) := by
  subst hm
  have q := zT_17h hw h ho
  have hba := zn_nat h.2.2.2.2.1
  have htn := zn_nat (x := tp) (by omega)
  exact zGo (zV_ret hw h hon2 (by omega) hb ht (fun j hj g => zpA_i ((zpR_n (by omega)).trans g)) zpA_s)
/-- a run's value: its cells are counted -/
def zRes (kz : Int32) (kf gk gc : Nat → Int32) (gv : Nat → Int64) (fresh ff held dbl : Int32) (re : Int64) : Prop :=
  ∃ (lv : Nat → Bool) (FL : List Nat), zCS (zwd kz kf gk) gc gv fresh ff held dbl lv (fun c => zr re c) FL [] (-1) ∧ (∀ c, lv c = true → ∀ k, k < zwd kz kf gk c → zvk kz kf (gv (3 * c + k))) ∧ zvk kz kf re
theorem zMD_re {n : Nat} {kz : Int32} {kf gk gc : Nat → Int32} {gv : Nat → Int64} {fresh ff held dbl : Int32} {st : Nat → Int64} {p : Nat → Bool} {sh : Nat → Int32} {sn : Int32} {j : Nat} {re : Int64} (h : zMD n kz kf gk gc gv fresh ff held dbl st p sh sn) (hj : p j = true) (e : re = st j) : zRes kz kf gk gc gv fresh ff held dbl re := by
  obtain ⟨lv, FL, a, b, c, -⟩ := h
  subst e
  refine ⟨lv, FL, zCS_mono a (fun _ => zr_0 _ _) (fun y => ?_), b, (c j hj).2⟩
  have := zRS_rm (n := n) (st := st) (c j hj).1 hj y
  have := zRS_0 (n := n) (st := st) (p := zpR p j) (c := y)
  show zr (st j) y ≤ zRS n st p y + 0
  omega
/-- a plain run's value -/
def zRep (kz : Int32) (kf gk : Nat → Int32) (gv : Nat → Int64) (fresh : Int32) (re : Int64) : Prop :=
  zgq fresh kz kf re ∧ (∀ c : Nat, (c : Int) < fresh.toInt → ∀ k, k < zwd kz kf gk c → zgq fresh kz kf (gv (3 * c + k))) ∧ fresh.toInt ≤ 4000
/-! one turn of the plain machine, as the class's methods say it -/
def cRn (S : Nat → Nat → Int32) (nx : Nat → Int32) (H : Int32 → Int64 → Prop) (az : Int) (z : Nat) (kz : Int32) (kf : Nat → Int32) (F : sp_F) (al : Nat) (s0 : pm_S) (gs : Nat → Int64) (kb kk gk : Nat → Int32) (gv : Nat → Int64) (on ba tp st fr x : Int32) (i : Int) : Prop := st.toInt ≤ (al : Int) ∧ ∃ s, pm_re F al s0 s ∧ cSm S nx H az z kz kf gs kb kk gk gv on ba tp st fr x i s
def cEn (F : sp_F) (al : Nat) (s0 : pm_S) (mh : Int32) : Prop := ∃ (h : Nat) (p : Int), mh.toInt = (h : Int) ∧ pm_ou F al s0 (h, p)
def cOu (S : Nat → Nat → Int32) (nx : Nat → Int32) (H : Int32 → Int64 → Prop) (az : Int) (z : Nat) (kz : Int32) (kf : Nat → Int32) (F : sp_F) (al : Nat) (s0 : pm_S) (gs : Nat → Int64) (kb kk gk : Nat → Int32) (gv : Nat → Int64) (on ba tp st fr x : Int32) (i : Int) (mh : Int32) : Prop := mh.toInt ≠ 0 ∧ cEn F al s0 mh ∨ mh.toInt = 0 ∧ cRn S nx H az z kz kf F al s0 gs kb kk gk gv on ba tp st fr x i
def cEq (S : Nat → Nat → Int32) (op a b ak an ab af : Nat → Int32) : Prop := S 0 = op ∧ S 1 = a ∧ S 2 = b ∧ S 4 = ak ∧ S 5 = an ∧ S 6 = ab ∧ S 8 = af
theorem pm_ou_t {F : sp_F} {al : Nat} {s s2 : pm_S} {e : Nat × Int} (h : pm_re F al s s2) (h2 : pm_ou F al s2 e) : pm_ou F al s e := by
  obtain ⟨n, h⟩ := h
  obtain ⟨k, h2⟩ := h2
  refine ⟨n + k, ?_⟩
  revert s
  induction n with
  | zero => intro s h; cases h; rw [Nat.zero_add]; exact h2
  | succ n ih =>
    intro s h
    rw [show n + 1 + k = (n + k) + 1 from by omega]
    unfold pm_it at h ⊢
    cases g : pm_st F al s with
    | ok a => rw [g] at h; exact ih h
    | error e2 => rw [g] at h; cases h
theorem pm_re_t {F : sp_F} {al : Nat} {s s2 s3 : pm_S} (h : pm_re F al s s2) (h2 : pm_re F al s2 s3) : pm_re F al s s3 := by
  obtain ⟨n, h⟩ := h
  obtain ⟨k, h2⟩ := h2
  refine ⟨n + k, ?_⟩
  revert s
  induction n with
  | zero => intro s h; cases h; rw [Nat.zero_add]; exact h2
  | succ n ih =>
    intro s h
    rw [show n + 1 + k = (n + k) + 1 from by omega]
    unfold pm_it at h ⊢
    cases g : pm_st F al s with
    | ok a => rw [g] at h; exact ih h
    | error e2 => rw [g] at h; cases h
section
variable {S : Nat → Nat → Int32} {nx op a b ak an ab af : Nat → Int32} {H : Int32 → Int64 → Prop} {az : Int} {z : Nat} {kz : Int32} {kf en ff : Nat → Int32} {F : sp_F} {al : Nat} {s0 : pm_S} {gs gs2 : Nat → Int64} {kb kk kb2 kk2 gk gk2 : Nat → Int32} {gv gv2 : Nat → Int64} {on ba tp st fr on2 ba2 tp2 st2 fr2 ro x2 mh mh2 alw mat1 : Int32} {i : Int}
theorem cEn_of {s : pm_S} {h : Nat} {p : Int} (g : pm_re F al s0 s) (g2 : pm_ou F al s (h, p)) (e : mh2.toInt = (h : Int)) (h0 : h ≠ 0) : cOu S nx H az z kz kf F al s0 gs2 kb2 kk2 gk2 gv2 on2 ba2 tp2 st2 fr2 x2 i mh2 := Or.inl ⟨by omega, h, p, e, pm_ou_t g g2⟩
theorem ct_ro {f : Nat → Int32} (h0 : 0 ≤ ro.toInt) : ro.toInt = ((Int32.toNatClampNeg ro : Nat) : Int) := (zn_nat h0).symm
theorem ct_si (E : cEq S op a b ak an ab af) (h : cRn S nx H az z kz kf F al s0 gs kb kk gk gv on ba tp st fr ro i) (h0 : 0 ≤ ro.toInt) (ho : (op (Int32.toNatClampNeg ro)).toInt = 0 ∧ x2 = nx (Int32.toNatClampNeg ro) ∨ ((op (Int32.toNatClampNeg ro)).toInt = 14 ∨ (op (Int32.toNatClampNeg ro)).toInt = 16) ∧ ((a (Int32.toNatClampNeg ro)).toInt = -1 ∧ x2.toInt = -1 ∨ (a (Int32.toNatClampNeg ro)).toInt ≠ -1 ∧ x2 = nx (Int32.toNatClampNeg (a (Int32.toNatClampNeg ro))))) (hmh : mh.toInt = 0) : cOu S nx H az z kz kf F al s0 gs kb kk gk gv on ba tp st fr x2 (i + 1) mh := by
  obtain ⟨rfl, rfl, rfl, rfl, rfl, rfl, rfl⟩ := E
  obtain ⟨h1, s, h2, h3⟩ := h
  refine Or.inr ⟨hmh, h1, s, h2, cs_si h3 (zn_nat h0).symm ?_ ?_ ?_⟩
  · rcases ho with ho | ho
    · exact Or.inl ho.1
    · exact Or.inr ho.1
  · intro g
    rcases ho with ho | ho
    · exact ho.2
    · omega
  · intro g g2
    rcases ho with ho | ho
    · omega
    · rcases ho.2 with u | u
      · omega
      · exact u.2
theorem ct_1 {r : Int32} (E : cEq S op a b ak an ab af) (h : cRn S nx H az z kz kf F al s0 gs kb kk gk gv on ba tp st fr ro i) (h0 : 0 ≤ ro.toInt) (ho : (op (Int32.toNatClampNeg ro)).toInt = 1) (ha : alw.toInt = (al : Int)) (hmh : mh.toInt = 0) (hf : r.toInt = 1 ∧ st2.toInt = st.toInt + 1 ∧ st2.toInt ≤ alw.toInt ∧ mh2.toInt = mh.toInt ∨ r.toInt = 0 ∧ mh2.toInt = 5 ∧ alw.toInt ≤ st.toInt) (e : x2 = nx (Int32.toNatClampNeg ro)) : cOu S nx H az z kz kf F al s0 gs kb kk gk gv on ba tp st2 fr x2 (i + 1) mh2 := by
  obtain ⟨rfl, rfl, rfl, rfl, rfl, rfl, rfl⟩ := E
  obtain ⟨h1, s, h2, h3⟩ := h
  subst e
  rcases hf with ⟨-, f1, f2, f3⟩ | ⟨-, f1, f2⟩
  · obtain ⟨s2, g1, g2⟩ := cs_1 (F := F) (al := al) h3 (zn_nat h0).symm ho (by omega) f1
    exact Or.inr ⟨by omega, by omega, s2, pm_re_s h2 g1, g2⟩
  · exact cEn_of h2 (pm_ou_s pm_re_r (cs_cut h3 (zn_nat h0).symm (Or.inl ho) (by omega))) f1 (by decide)
theorem ct_2 (E : cEq S op a b ak an ab af) (h : cRn S nx H az z kz kf F al s0 gs kb kk gk gv on ba tp st fr ro i) (h0 : 0 ≤ ro.toInt) (ho : (op (Int32.toNatClampNeg ro)).toInt = 2) (ha : alw.toInt = (al : Int)) (hmh : mh.toInt = 0) (hf : mh2.toInt = 5 ∧ alw.toInt ≤ st.toInt ∨ mh2.toInt = mh.toInt ∧ st2.toInt = st.toInt + 1 ∧ st2.toInt ≤ alw.toInt ∧ tp2.toInt = tp.toInt + 1) (hf2 : mh2.toInt = 5 ∨ ∃ v : Int64, gs2 = vp_updL gs (Int32.toNatClampNeg tp) v ∧ zhs v = 0 ∧ v.toInt32 = a (Int32.toNatClampNeg ro)) (e : x2 = nx (Int32.toNatClampNeg ro)) : cOu S nx H az z kz kf F al s0 gs2 kb kk gk gv on ba tp2 st2 fr x2 (i + 1) mh2 := by
  obtain ⟨rfl, rfl, rfl, rfl, rfl, rfl, rfl⟩ := E
  obtain ⟨h1, s, h2, h3⟩ := h
  subst e
  rcases hf with ⟨f1, f2⟩ | ⟨f1, f2, f3, f4⟩
  · exact cEn_of h2 (pm_ou_s pm_re_r (cs_cut h3 (zn_nat h0).symm (Or.inr (Or.inl ho)) (by omega))) f1 (by decide)
  · obtain ⟨v, v1, v2, v3⟩ := hf2.resolve_left (by omega)
    rw [pv0_eq v2 v3] at v1
    obtain ⟨s2, g1, g2⟩ := cs_2 (F := F) (al := al) h3 (zn_nat h0).symm ho (by omega) f2 f4 v1
    exact Or.inr ⟨by omega, by omega, s2, pm_re_s h2 g1, g2⟩
theorem ct_4 (E : cEq S op a b ak an ab af) (h : cRn S nx H az z kz kf F al s0 gs kb kk gk gv on ba tp st fr ro i) (h0 : 0 ≤ ro.toInt) (ho : (op (Int32.toNatClampNeg ro)).toInt = 4) (ha : alw.toInt = (al : Int)) (hmh : mh.toInt = 0) (hf : mh2.toInt = 5 ∧ alw.toInt ≤ st.toInt ∨ mh2.toInt = mh.toInt ∧ st2.toInt = st.toInt + 1 ∧ st2.toInt ≤ alw.toInt ∧ tp2.toInt = tp.toInt + 1) (hf2 : mh2.toInt = 5 ∨ ∃ v : Int64, gs2 = vp_updL gs (Int32.toNatClampNeg tp) v ∧ zhs v = 1 ∧ v.toInt32 = a (Int32.toNatClampNeg ro)) (e : x2 = nx (Int32.toNatClampNeg ro)) : cOu S nx H az z kz kf F al s0 gs2 kb kk gk gv on ba tp2 st2 fr x2 (i + 1) mh2 := by
  obtain ⟨rfl, rfl, rfl, rfl, rfl, rfl, rfl⟩ := E
  obtain ⟨h1, s, h2, h3⟩ := h
  subst e
  rcases hf with ⟨f1, f2⟩ | ⟨f1, f2, f3, f4⟩
  · exact cEn_of h2 (pm_ou_s pm_re_r (cs_cut h3 (zn_nat h0).symm (Or.inr (Or.inr (Or.inr (Or.inl ho)))) (by omega))) f1 (by decide)
  · obtain ⟨v, v1, v2, v3⟩ := hf2.resolve_left (by omega)
    rw [pv1_eq v2 v3] at v1
    obtain ⟨s2, g1, g2⟩ := cs_4 (F := F) (al := al) h3 (zn_nat h0).symm ho (by omega) f2 f4 v1
    exact Or.inr ⟨by omega, by omega, s2, pm_re_t h2 g1, g2⟩
theorem ct_3 (E : cEq S op a b ak an ab af) (h : cRn S nx H az z kz kf F al s0 gs kb kk gk gv on ba tp st fr ro i) (h0 : 0 ≤ ro.toInt) (ho : (op (Int32.toNatClampNeg ro)).toInt = 3) (ha : alw.toInt = (al : Int)) (hmh : mh.toInt = 0) (hf : mh2.toInt = 5 ∧ alw.toInt ≤ st.toInt ∨ mh2.toInt = mh.toInt ∧ st2.toInt = st.toInt + 1 ∧ st2.toInt ≤ alw.toInt ∧ tp2.toInt = tp.toInt + 1) (hf2 : mh2.toInt = 5 ∨ gs2 = vp_updL gs (Int32.toNatClampNeg tp) (gs (Int32.toNatClampNeg ba + Int32.toNatClampNeg (a (Int32.toNatClampNeg ro))))) (e : x2 = nx (Int32.toNatClampNeg ro)) : cOu S nx H az z kz kf F al s0 gs2 kb kk gk gv on ba tp2 st2 fr x2 (i + 1) mh2 := by
  obtain ⟨rfl, rfl, rfl, rfl, rfl, rfl, rfl⟩ := E
  obtain ⟨h1, s, h2, h3⟩ := h
  subst e
  rcases hf with ⟨f1, f2⟩ | ⟨f1, f2, f3, f4⟩
  · exact cEn_of h2 (pm_ou_s pm_re_r (cs_cut h3 (zn_nat h0).symm (Or.inr (Or.inr (Or.inl ho))) (by omega))) f1 (by decide)
  · obtain ⟨s2, g1, g2⟩ := cs_3 (F := F) (al := al) h3 (zn_nat h0).symm ho (by omega) f2 f4 (hf2.resolve_left (by omega))
    exact Or.inr ⟨by omega, by omega, s2, pm_re_s h2 g1, g2⟩
theorem ct_5 {wz : Int} {lim : Int32} (hz : kz.toInt = (z : Int)) (h3f : ∀ k, zfk kz kf k ≤ 3) (hl : lim.toInt = 4000) (E : cEq S op a b ak an ab af) (h : cRn S nx H az z kz kf F al s0 gs kb kk gk gv on ba tp st fr ro i) (h0 : 0 ≤ ro.toInt) (ho : (op (Int32.toNatClampNeg ro)).toInt = 5) (hmh : mh.toInt = 0) (hw : zfk kz kf (a (Int32.toNatClampNeg ro)) = wz) (hf0 : 0 ≤ fr.toInt) (hb : mh2.toInt = 3 ∨ mh2.toInt = mh.toInt ∧ tp2.toInt = tp.toInt - wz + 1) (hf : mh2.toInt = 3 ∧ lim.toInt ≤ fr.toInt ∨ mh2.toInt = mh.toInt ∧ fr.toInt < 4000 ∧ fr2.toInt = fr.toInt + 1 ∧ gk2 = upd gk (Int32.toNatClampNeg fr) (a (Int32.toNatClampNeg ro)) ∧ zfw gv gv2 (Int32.toNatClampNeg fr) gs (Int32.toNatClampNeg tp - wz.toNat) wz.toNat ∧ ∃ v : Int64, gs2 = vp_updL gs (Int32.toNatClampNeg tp - wz.toNat) v ∧ zhs v = 2 ∧ v.toInt32 = fr) (e : x2 = nx (Int32.toNatClampNeg ro)) : cOu S nx H az z kz kf F al s0 gs2 kb kk gk2 gv2 on ba tp2 st fr2 x2 (i + 1) mh2 := by
  obtain ⟨rfl, rfl, rfl, rfl, rfl, rfl, rfl⟩ := E
  obtain ⟨h1, s, h2, h3⟩ := h
  subst e
  have key := cs_5 (F := F) (al := al) (fr2 := fr2) (tp2 := tp2) (gs2 := gs2) (gk2 := gk2) (gv2 := gv2) hz h3f h3 (zn_nat h0).symm ho hw
  rcases hf with ⟨f1, f2⟩ | ⟨f1, f2, f3, f4, f5, v, v1, v2, v3⟩
  · obtain ⟨p, g⟩ := key.1 (by omega)
    exact cEn_of h2 g f1 (by decide)
  · rw [pv2_eq v2 v3] at v1
    obtain ⟨s2, g1, g2⟩ := key.2 f2 f3 (hb.resolve_left (by omega)).2 v1 f4 (fun k hk => f5.1 k (by omega)) (fun j hj => f5.2 j (by omega))
    exact Or.inr ⟨by omega, h1, s2, pm_re_t h2 g1, g2⟩
theorem ct_7 {td nmz : Int} {P9 : Prop} (hp : cPx S nx H az z kf en ff F) (E : cEq S op a b ak an ab af) (h : cRn S nx H az z kz kf F al s0 gs kb kk gk gv on ba tp st fr ro i) (h0 : 0 ≤ ro.toInt) (ho : (op (Int32.toNatClampNeg ro)).toInt = 7) (hmh : mh.toInt = 0) (htd : (ff (5 * Int32.toNatClampNeg (a (Int32.toNatClampNeg ro)))).toInt = td) (hnm : (ff (5 * Int32.toNatClampNeg (a (Int32.toNatClampNeg ro)) + 1)).toInt = nmz) (hq : td = (b (Int32.toNatClampNeg ro)).toInt) (hf : mh2.toInt = 4 ∧ 100 ≤ on.toInt ∨ (mh2.toInt = mh.toInt ∧ on.toInt < 100 ∧ on2.toInt = on.toInt + 1 ∧ ba2.toInt = tp.toInt - td ∧ tp2.toInt = ba2.toInt + nmz) ∧ kb2 = upd kb (Int32.toNatClampNeg on) ba2 ∧ kk2 = upd kk (Int32.toNatClampNeg on) (nx (Int32.toNatClampNeg ro)) ∧ P9 ∧ x2 = en (Int32.toNatClampNeg (a (Int32.toNatClampNeg ro)))) : cOu S nx H az z kz kf F al s0 gs kb2 kk2 gk gv on2 ba2 tp2 st fr x2 (i + 1) mh2 := by
  obtain ⟨rfl, rfl, rfl, rfl, rfl, rfl, rfl⟩ := E
  obtain ⟨h1, s, h2, h3⟩ := h
  have key := cs_7 (F := F) (al := al) (on2 := on2) (ba2 := ba2) (tp2 := tp2) (kb2 := kb2) (kk2 := kk2) (x2 := x2) hp h3 (zn_nat h0).symm ho (by rw [← hq, htd])
  rcases hf with ⟨f1, f2⟩ | ⟨⟨f1, f2, f3, f4, f5⟩, f6, f7, -, f8⟩
  · obtain ⟨p, g⟩ := key.1 f2
    exact cEn_of h2 g f1 (by decide)
  · obtain ⟨s2, g1, g2⟩ := key.2 f2 f3 (by rw [htd]; exact f4) (by rw [hnm]; exact f5) f6 f7 f8
    exact Or.inr ⟨by omega, h1, s2, pm_re_t h2 g1, g2⟩
theorem ct_6 {td nmz : Int} {P9 : Prop} (hp : cPx S nx H az z kf en ff F) (E : cEq S op a b ak an ab af) (h : cRn S nx H az z kz kf F al s0 gs kb kk gk gv on ba tp st fr ro i) (h0 : 0 ≤ ro.toInt) (ho : (op (Int32.toNatClampNeg ro)).toInt = 6) (ha : alw.toInt = (al : Int)) (hmh : mh.toInt = 0) (htd : (ff (5 * Int32.toNatClampNeg (a (Int32.toNatClampNeg ro)))).toInt = td) (hnm : (ff (5 * Int32.toNatClampNeg (a (Int32.toNatClampNeg ro)) + 1)).toInt = nmz) (hq : td = (b (Int32.toNatClampNeg ro)).toInt) (hf : mh2.toInt = 5 ∧ alw.toInt ≤ st.toInt ∨ st2.toInt = st.toInt + 1 ∧ st2.toInt ≤ alw.toInt ∧ (mh2.toInt = 4 ∧ 100 ≤ on.toInt ∨ (mh2.toInt = mh.toInt ∧ on.toInt < 100 ∧ on2.toInt = on.toInt + 1 ∧ ba2.toInt = tp.toInt - td ∧ tp2.toInt = ba2.toInt + nmz) ∧ kb2 = upd kb (Int32.toNatClampNeg on) ba2 ∧ kk2 = upd kk (Int32.toNatClampNeg on) (nx (Int32.toNatClampNeg ro)) ∧ P9 ∧ x2 = en (Int32.toNatClampNeg (a (Int32.toNatClampNeg ro))))) : cOu S nx H az z kz kf F al s0 gs kb2 kk2 gk gv on2 ba2 tp2 st2 fr x2 (i + 1) mh2 := by
  obtain ⟨rfl, rfl, rfl, rfl, rfl, rfl, rfl⟩ := E
  obtain ⟨h1, s, h2, h3⟩ := h
  rcases hf with ⟨f1, f2⟩ | ⟨e1, e2, hf⟩
  · exact cEn_of h2 (pm_ou_s pm_re_r (cs_cut h3 (zn_nat h0).symm (Or.inr (Or.inr (Or.inr (Or.inr ho)))) (by omega))) f1 (by decide)
  · have key := cs_6 (F := F) (al := al) (st2 := st2) (on2 := on2) (ba2 := ba2) (tp2 := tp2) (kb2 := kb2) (kk2 := kk2) (x2 := x2) hp h3 (zn_nat h0).symm ho (by omega) (by rw [← hq, htd])
    rcases hf with ⟨f1, f2⟩ | ⟨⟨f1, f2, f3, f4, f5⟩, f6, f7, -, f8⟩
    · obtain ⟨p, g⟩ := key.1 f2
      exact cEn_of h2 g f1 (by decide)
    · obtain ⟨s2, g1, g2⟩ := key.2 f2 e1 f3 (by rw [htd]; exact f4) (by rw [hnm]; exact f5) f6 f7 f8
      exact Or.inr ⟨by omega, by omega, s2, pm_re_t h2 g1, g2⟩
theorem ct_8 (E : cEq S op a b ak an ab af) (h : cRn S nx H az z kz kf F al s0 gs kb kk gk gv on ba tp st fr ro i) (h0 : 0 ≤ ro.toInt) (ho : 8 ≤ (op (Int32.toNatClampNeg ro)).toInt ∧ (op (Int32.toNatClampNeg ro)).toInt ≤ 11) (hmh : mh.toInt = 0) (hf : mh2.toInt = 2 ∧ ¬ (zhs (gs (Int32.toNatClampNeg tp - 2)) = 0 ∧ zhs (gs (Int32.toNatClampNeg tp - 1)) = 0) ∨ mh2.toInt = mh.toInt ∧ tp2.toInt = tp.toInt - 1 ∧ (zhs (gs (Int32.toNatClampNeg tp - 2)) = 0 ∧ zhs (gs (Int32.toNatClampNeg tp - 1)) = 0) ∧ ∃ v : Int64, gs2 = vp_updL gs (Int32.toNatClampNeg tp - 2) v ∧ zhs v = 0 ∧ v.toInt32 = crk (op (Int32.toNatClampNeg ro)).toInt (gs (Int32.toNatClampNeg tp - 2)).toInt32 (gs (Int32.toNatClampNeg tp - 1)).toInt32) (e : x2 = nx (Int32.toNatClampNeg ro)) : cOu S nx H az z kz kf F al s0 gs2 kb kk gk gv on ba tp2 st fr x2 (i + 1) mh2 := by
  obtain ⟨rfl, rfl, rfl, rfl, rfl, rfl, rfl⟩ := E
  obtain ⟨h1, s, h2, h3⟩ := h
  subst e
  have key := cs_8 (F := F) (al := al) (tp2 := tp2) (gs2 := gs2) h3 (zn_nat h0).symm ho
  rcases hf with ⟨f1, f2⟩ | ⟨f1, f2, f3, v, v1, v2, v3⟩
  · obtain ⟨p, g⟩ := key.1 f2
    exact cEn_of h2 g f1 (by decide)
  · rw [pv0_eq v2 v3] at v1
    obtain ⟨s2, g1, g2⟩ := key.2 f3 f2 v1
    exact Or.inr ⟨by omega, h1, s2, pm_re_t h2 g1, g2⟩
theorem ct_12 (E : cEq S op a b ak an ab af) (h : cRn S nx H az z kz kf F al s0 gs kb kk gk gv on ba tp st fr ro i) (h0 : 0 ≤ ro.toInt) (ho : (op (Int32.toNatClampNeg ro)).toInt = 12) (hmh : mh.toInt = 0) (e1 : tp2.toInt = tp.toInt - 1) (e2 : gs2 = vp_updL gs (Int32.toNatClampNeg ba + Int32.toNatClampNeg (a (Int32.toNatClampNeg ro))) (gs (Int32.toNatClampNeg tp - 1))) (e : x2 = nx (Int32.toNatClampNeg ro)) : cOu S nx H az z kz kf F al s0 gs2 kb kk gk gv on ba tp2 st fr x2 (i + 1) mh := by
  obtain ⟨rfl, rfl, rfl, rfl, rfl, rfl, rfl⟩ := E
  obtain ⟨h1, s, h2, h3⟩ := h
  subst e
  obtain ⟨s2, g1, g2⟩ := cs_12 (F := F) (al := al) h3 (zn_nat h0).symm ho e1 e2
  exact Or.inr ⟨hmh, h1, s2, pm_re_t h2 g1, g2⟩
theorem ct_13 (E : cEq S op a b ak an ab af) (h : cRn S nx H az z kz kf F al s0 gs kb kk gk gv on ba tp st fr ro i) (h0 : 0 ≤ ro.toInt) (ho : (op (Int32.toNatClampNeg ro)).toInt = 13) (hmh : mh.toInt = 0) (hb : mh2.toInt = 2 ∨ mh2.toInt = mh.toInt ∧ tp2.toInt = tp.toInt - 1) (hf : mh2.toInt = 2 ∧ ¬ zhs (gs (Int32.toNatClampNeg tp - 1)) = 0 ∨ mh2.toInt = mh.toInt ∧ zhs (gs (Int32.toNatClampNeg tp - 1)) = 0 ∧ ((gs (Int32.toNatClampNeg tp - 1)).toInt32 ≠ 0 → x2 = mat1) ∧ ((gs (Int32.toNatClampNeg tp - 1)).toInt32 = 0 → (a (Int32.toNatClampNeg ro)).toInt = -1 ∧ x2.toInt = -1 ∨ (a (Int32.toNatClampNeg ro)).toInt ≠ -1 ∧ x2 = nx (Int32.toNatClampNeg (a (Int32.toNatClampNeg ro))))) (e : mat1 = nx (Int32.toNatClampNeg ro)) : cOu S nx H az z kz kf F al s0 gs kb kk gk gv on ba tp2 st fr x2 (i + 1) mh2 := by
  obtain ⟨rfl, rfl, rfl, rfl, rfl, rfl, rfl⟩ := E
  obtain ⟨h1, s, h2, h3⟩ := h
  subst e
  have key := cs_13 (F := F) (al := al) (tp2 := tp2) (x2 := x2) h3 (zn_nat h0).symm ho
  rcases hf with ⟨f1, f2⟩ | ⟨f1, f2, f3, f4⟩
  · obtain ⟨p, g⟩ := key.1 f2
    exact cEn_of h2 g f1 (by decide)
  · obtain ⟨s2, g1, g2⟩ := key.2 f2 (hb.resolve_left (by omega)).2 f3 (fun u u2 => by
      rcases f4 u with w | w
      · omega
      · exact w.2)
    exact Or.inr ⟨by omega, h1, s2, pm_re_t h2 g1, g2⟩
theorem ct_15 (hz : kz.toInt = (z : Int)) (E : cEq S op a b ak an ab af) (h : cRn S nx H az z kz kf F al s0 gs kb kk gk gv on ba tp st fr ro i) (h0 : 0 ≤ ro.toInt) (ho : (op (Int32.toNatClampNeg ro)).toInt = 15) (hmh : mh.toInt = 0) (hq : zgq fr kz kf (gs (Int32.toNatClampNeg ba + Int32.toNatClampNeg (a (Int32.toNatClampNeg ro))))) (hf : cMt ak an ab af nx kz kf gk gv gs gs2 (gs (Int32.toNatClampNeg ba + Int32.toNatClampNeg (a (Int32.toNatClampNeg ro)))) ba (b (Int32.toNatClampNeg ro)) mh mh2 x2) : cOu S nx H az z kz kf F al s0 gs2 kb kk gk gv on ba tp st fr x2 (i + 1) mh2 := by
  obtain ⟨rfl, rfl, rfl, rfl, rfl, rfl, rfl⟩ := E
  obtain ⟨h1, s, h2, h3⟩ := h
  obtain ⟨kd, am, k1, k2, hf⟩ := hf
  have key := cs_15 (F := F) (al := al) (x2 := x2) (gs2 := gs2) hz h3 (zn_nat h0).symm ho rfl k1 (fun g => ⟨hq.1.1 g, hq.2 g⟩) hq.1.2 k2
  rcases hf with ⟨f1, f2⟩ | ⟨f1, f2, f3, f4, f5⟩
  · obtain ⟨p, g⟩ := key.1 f2
    exact cEn_of h2 g f1 (by decide)
  · obtain ⟨s2, g1, g2⟩ := key.2 f2 (fun _ => f3) f4 (fun u => ⟨fun k hk => (f5 u).1 k (by omega), fun j hj => (f5 u).2 j (fun k hk => hj k (by omega))⟩)
    exact Or.inr ⟨by omega, h1, s2, pm_re_t h2 g1, g2⟩
theorem ct_17 {re2 : Int64} (E : cEq S op a b ak an ab af) (h : cRn S nx H az z kz kf F al s0 gs kb kk gk gv on ba tp st fr ro i) (h0 : 0 ≤ ro.toInt) (ho : (op (Int32.toNatClampNeg ro)).toInt = 17) (hmh : mh.toInt = 0) (hf : on.toInt ≤ 1 ∧ mh2.toInt = 1 ∧ re2 = gs (Int32.toNatClampNeg tp - 1) ∨ 1 < on.toInt ∧ mh2.toInt = mh.toInt ∧ on2.toInt = on.toInt - 1 ∧ tp2.toInt = ba.toInt + 1 ∧ gs2 = vp_updL gs (Int32.toNatClampNeg ba) (gs (Int32.toNatClampNeg tp - 1)) ∧ x2 = kk (Int32.toNatClampNeg on2) ∧ ba2 = kb (Int32.toNatClampNeg on2 - 1)) : cOu S nx H az z kz kf F al s0 gs2 kb kk gk gv on2 ba2 tp2 st fr x2 (i + 1) mh2 := by
  obtain ⟨rfl, rfl, rfl, rfl, rfl, rfl, rfl⟩ := E
  obtain ⟨h1, s, h2, h3⟩ := h
  have key := cs_17 (F := F) (al := al) (on2 := on2) (ba2 := ba2) (tp2 := tp2) (x2 := x2) (gs2 := gs2) h3 (zn_nat h0).symm ho
  rcases hf with ⟨f1, f2, f3⟩ | ⟨f1, f2, f3, f4, f5, f6, f7⟩
  · exact cEn_of h2 (key.1 f1) f2 (by decide)
  · have en : Int32.toNatClampNeg on2 = Int32.toNatClampNeg on - 1 := by have := zn_nat (x := on2) (by omega); have := zn_nat (x := on) (by omega); omega
    rw [en] at f6 f7
    rw [show Int32.toNatClampNeg on - 1 - 1 = Int32.toNatClampNeg on - 2 from by omega] at f7
    obtain ⟨s2, g1, g2⟩ := key.2 f1 f3 f4 f5 f6 f7
    exact Or.inr ⟨by omega, h1, s2, pm_re_t h2 g1, g2⟩
theorem cKo_x {bd nm : Nat} {K : List (Nat × Tm)} {x : Int32} {m : Nat} (hk : ∀ u ∈ K, cOk z kf bd nm u) (h : cKo S nx H az K x m) : 0 ≤ x.toInt := by
  have hs : ∀ {n : Nat} {y : Int32}, cSi S nx n x y → x = y ∨ 0 ≤ x.toInt := fun {n y} g => by
    cases n with
    | zero => exact Or.inl g
    | succ n => obtain ⟨r, e, -⟩ := g; exact Or.inr (by omega)
  cases K with
  | nil =>
    obtain ⟨n, y, r, g1, g2, -⟩ := h
    rcases hs g1 with e | e
    · rw [e]; omega
    · exact e
  | cons u K2 =>
    obtain ⟨j, t⟩ := u
    obtain ⟨n, y, zz, w, m2, g1, g2, -⟩ := h
    rcases hs g1 with e | e
    · have ok := hk (j, t) List.mem_cons_self
      rw [e]
      rcases g2 with ⟨-, ⟨X, b1, b2⟩, -⟩ | ⟨-, b1⟩
      · obtain ⟨s1, ⟨c0, w1, w2⟩, w3⟩ := ok
        obtain ⟨r2, e1, -⟩ := cI_inv t s1 w1 w2 w3 b1 b2
        omega
      · obtain ⟨r2, e1, -⟩ := cD_inv (c := 0) t ok b1
        omega
    · exact e
theorem cRn_x (h : cRn S nx H az z kz kf F al s0 gs kb kk gk gv on ba tp st fr ro i) : 0 ≤ ro.toInt ∧ i ≤ 4 * (al : Int) + 2 := by
  obtain ⟨h1, s, h2, b, nm, K, Vs, e, bd, fs, m1, m2, tn, sn, cn, ck, cf, ⟨n1, n2, n3, n4, n5⟩, ⟨ht, hb, hk, hh⟩, hK, hF, hs, hc, hm⟩ := h
  exact ⟨cKo_x hk hK, by omega⟩
/-- the first call -/
theorem ct_0 {f : Nat} {a1 a2 a3 a4 : Int32} (hp : cPx S nx H az z kf en ff F) (hf : f < F.1) (hg : ∀ k : Nat, (k : Int) < (ff (5 * f)).toInt → gs k = pv0 (if k = 0 then a1 else if k = 1 then a2 else if k = 2 then a3 else if k = 3 then a4 else 0)) (e2 : st.toInt = 0) (e4 : on2.toInt = 1) (e5 : ba2.toInt = 0) (e6 : tp2.toInt = (ff (5 * f + 1)).toInt) (e7 : (kb2 0).toInt = 0) (e8 : fr.toInt = 0) (e9 : x2 = en f) (hmh : mh.toInt = 0) : cOu S nx H az z kz kf F al (pm_s0 F f a1 a2 a3 a4) gs kb2 kk2 gk gv on2 ba2 tp2 st fr x2 0 mh := Or.inr ⟨hmh, by omega, _, pm_re_r, cs_0 hp hf hg e2 e4 e5 e6 e7 e8 e9⟩
end
theorem zti_q {l l2 : Nat → Int64} {v : Int64} {q : Nat → Int32} {n n2 t : Nat} (h : ∀ k, k < n → l k = pv0 (q k)) (e : l2 = vp_updL l t v) (et : t = n) (ev : zhs v = 0) (ev2 : v.toInt32 = q n) (en : n2 = n + 1) : ∀ k, k < n2 → l2 k = pv0 (q k) := fun k hk => by
  subst en et
  rw [e]
  by_cases u : k = t
  · rw [u, cul_s]; exact pv0_eq ev ev2
  · rw [cul_n u]; exact h k (by omega)
theorem cPx_of {S : Nat → Nat → Int32} {nx : Nat → Int32} {cz az kz fz : Int32} {kw : Nat → Int64} {kf en ff : Nat → Int32} {fw : Nat → Int64} {s : sp_S} {F : sp_F} (h : cZZ S nx cz az kz fz kw kf en ff fw s F) (hw : wfF s F) (hs : syF F) (hf : 0 ≤ fz.toInt) : cPx S nx (cHf fw fz) az.toInt (Int32.toNatClampNeg kz) kf en ff F := by
  obtain ⟨c1, c2, c3, c4, c5, c6, c7, c8⟩ := h
  have nf := zn_nat hf
  refine ⟨fun x w g => ?_, fun f hf2 => ?_⟩
  · obtain ⟨g1, g2, g3⟩ := g
    have nx2 := zn_nat g2
    have g1 : sp_fi fw w (Int32.toNatClampNeg fz) = if x.toInt = -1 then Int32.toNatClampNeg fz else Int32.toNatClampNeg x := g1
    rw [if_neg (by omega)] at g1
    exact ⟨g2, by rw [c5, c4]; exact g1, by omega⟩
  · obtain ⟨X, q, x1, x2, x3, x4, x5, x6, x7, x8⟩ := c7 f (by omega)
    obtain ⟨c, ⟨w1, w2⟩, w3⟩ := hw f hf2
    obtain ⟨d0, d1, -⟩ := c8 f (by omega)
    rw [c1, c3] at w3
    exact ⟨X, q, c, ⟨x1, x2, x3.1, x4, x6⟩, w1, by rw [d0]; exact w1, hs f hf2, w3, by omega, by omega⟩
theorem gO_some {o : Option (sp_S × sp_F)} (h : ¬ o = none) : ∃ (s : sp_S) (F : sp_F), o = some (s, F) := by
  cases o with
  | none => exact absurd rfl h
  | some q => exact ⟨q.1, q.2, rfl⟩
