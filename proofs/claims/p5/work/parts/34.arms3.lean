section
def zjn (al : Nat → Int32) (ct : Int32) (a na : Nat → Int32) (L : List Nat) : Prop := ∀ r, na r = if r ∈ L.map (fun m => Int32.toNatClampNeg (al m)) then ct else a r
def zjl (nx al : Nat → Int32) (ct : Int32) (a la : Nat → Int32) (AL : List Nat) (am i : Int32) : Prop := ∃ D R, AL = D ++ R ∧ zli nx am R ∧ (D.length : Int) = i.toInt ∧ zjn al ct a la D
theorem zjl_0 {nx al a : Nat → Int32} {ct x i : Int32} {AL : List Nat} (h : zli nx x AL) (hi : i.toInt = 0) : zjl nx al ct a a AL x i := ⟨[], AL, rfl, h, by rw [hi]; rfl, fun r => by rw [if_neg (fun g => (nomatch g))]⟩
theorem zjl_in {nx al a la : Nat → Int32} {ct am i : Int32} {AL : List Nat} (h : zjl nx al ct a la AL am i) (hne : am.toInt ≠ -1) : 0 ≤ am.toInt ∧ Int32.toNatClampNeg am ∈ AL := by
  obtain ⟨D, R, e, hl, -, -⟩ := h
  cases R with
  | nil => exact (hne hl).elim
  | cons y R =>
    have h1 : am.toInt = (y : Int) := hl.1
    have := zn_nat (x := am) (by omega)
    refine ⟨by omega, ?_⟩
    rw [e, show Int32.toNatClampNeg am = y by omega]
    exact List.mem_append.mpr (Or.inr List.mem_cons_self)
theorem zjl_next {nx al a la la2 : Nat → Int32} {ct am am2 i i2 v : Int32} {AL : List Nat} (h : zjl nx al ct a la AL am i) (hne : am.toInt ≠ -1) (e : la2 = upd la (Int32.toNatClampNeg v) ct) (ev : v = al (Int32.toNatClampNeg am)) (en : am2 = nx (Int32.toNatClampNeg am)) (hi : i2.toInt = i.toInt + 1) : zjl nx al ct a la2 AL am2 i2 := by
  obtain ⟨D, R, eA, hl, hD, hj⟩ := h
  cases R with
  | nil => exact (hne hl).elim
  | cons y R =>
    have h1 : am.toInt = (y : Int) := hl.1
    have := zn_nat (x := am) (by omega)
    have ey : Int32.toNatClampNeg am = y := by omega
    refine ⟨D ++ [y], R, by rw [eA]; simp, by rw [en, ey]; exact hl.2, by rw [List.length_append]; show ((D.length + 1 : Nat) : Int) = _; omega, fun r => ?_⟩
    rw [e, ev, ey, List.map_append, show List.map (fun m => Int32.toNatClampNeg (al m)) [y] = [Int32.toNatClampNeg (al y)] from rfl]
    by_cases g : r = Int32.toNatClampNeg (al y)
    · rw [g, zu_s, if_pos (List.mem_append.mpr (Or.inr List.mem_cons_self))]
    · rw [zu_n g, hj r]
      by_cases u : r ∈ D.map (fun m => Int32.toNatClampNeg (al m))
      · rw [if_pos u, if_pos (List.mem_append.mpr (Or.inl u))]
      · rw [if_neg u, if_neg (fun w => (List.mem_append.mp w).elim u (fun w => g (List.mem_singleton.mp w)))]
theorem zjl_end {nx al a la : Nat → Int32} {ct am i : Int32} {AL : List Nat} (h : zjl nx al ct a la AL am i) (hl : AL.length ≤ 8) (hx : am.toInt = -1 ∨ 8 ≤ i.toInt) : zjn al ct a la AL := by
  obtain ⟨D, R, eA, hr, hD, hj⟩ := h
  cases R with
  | nil => rw [eA, List.append_nil]; exact hj
  | cons y R =>
    have h1 : am.toInt = (y : Int) := hr.1
    rw [eA, List.length_append] at hl
    have : (y :: R).length = R.length + 1 := rfl
    omega
theorem zst_1 {op a b nx a' ak an ab al af kf ff : Nat → Int32} {cz ct az kz : Int32} : ∀ k, k ≠ 1 → zst op a' b nx ak an ab al af kf ff cz ct az kz k = zst op a b nx ak an ab al af kf ff cz ct az kz k
  | 0, _ => rfl
  | 1, h => absurd rfl h
  | 2, _ => rfl
  | 3, _ => rfl
  | 4, _ => rfl
  | 5, _ => rfl
  | 6, _ => rfl
  | 7, _ => rfl
  | 8, _ => rfl
  | 9, _ => rfl
  | 10, _ => rfl
  | 11, _ => rfl
  | 12, _ => rfl
  | 13, _ => rfl
  | 14, _ => rfl
  | _ + 15, _ => rfl
theorem zst_2 {op a b nx b' ak an ab al af kf ff : Nat → Int32} {cz ct az kz : Int32} : ∀ k, k ≠ 2 → zst op a b' nx ak an ab al af kf ff cz ct az kz k = zst op a b nx ak an ab al af kf ff cz ct az kz k
  | 0, _ => rfl
  | 1, _ => rfl
  | 2, h => absurd rfl h
  | 3, _ => rfl
  | 4, _ => rfl
  | 5, _ => rfl
  | 6, _ => rfl
  | 7, _ => rfl
  | 8, _ => rfl
  | 9, _ => rfl
  | 10, _ => rfl
  | 11, _ => rfl
  | 12, _ => rfl
  | 13, _ => rfl
  | 14, _ => rfl
  | _ + 15, _ => rfl
theorem zst_7 {op a b nx al' ak an ab al af kf ff : Nat → Int32} {cz ct az kz : Int32} : ∀ k, k ≠ 7 → zst op a b nx ak an ab al' af kf ff cz ct az kz k = zst op a b nx ak an ab al af kf ff cz ct az kz k
  | 0, _ => rfl
  | 1, _ => rfl
  | 2, _ => rfl
  | 3, _ => rfl
  | 4, _ => rfl
  | 5, _ => rfl
  | 6, _ => rfl
  | 7, h => absurd rfl h
  | 8, _ => rfl
  | 9, _ => rfl
  | 10, _ => rfl
  | 11, _ => rfl
  | 12, _ => rfl
  | 13, _ => rfl
  | 14, _ => rfl
  | _ + 15, _ => rfl
/-- an if: its choice, its ways -/
theorem zx_ifs {S0 S1 S2 S3 S4 S5 S6 S7 : Nat → Nat → Int32} {G0 G1 G3 G6 : Nat → Nat → Int} {f : Nat} {h c : Int} {XA X2 X3 : List Nat} {v5 v7 : Int32} (h0 : zS0 S0) (hh : 0 ≤ h) (hc : 0 ≤ c)
    (k1 : zE S0 S1 G0 G1 f h c XA [] (h + 1) c) (a2 : zap S1 S2 13 (-1)) (m2 : c ≤ (S2 10 (5 * f + 1)).toInt)
    (q3 : zE S2 S3 (zgu G1 (Int32.toNatClampNeg (S1 11 0)) (h + 1) h c c (f : Int)) G3 f h c X2 [] (h + 1) c) (a4 : zap S3 S4 14 (-1)) (m4 : c ≤ (S4 10 (5 * f + 1)).toInt)
    (e5 : ∀ k, k ≠ 1 → S5 k = S4 k) (e51 : S5 1 = upd (S4 1) (Int32.toNatClampNeg (S1 11 0)) v5) (ev5 : v5 = S3 11 0)
    (q6 : zE S5 S6 (zgu G3 (Int32.toNatClampNeg (S3 11 0)) (h + 1) h c c (f : Int)) G6 f h c X3 [] (h + 1) c) (n6 : X3 ≠ [])
    (e7 : ∀ k, k ≠ 1 → S7 k = S6 k) (e71 : S7 1 = upd (S6 1) (Int32.toNatClampNeg (S3 11 0)) v7) (ev7 : v7 = S6 12 0) : ∃ G X, X ≠ [] ∧ zE S0 S7 G0 G f h c X [] (h + 1) c := by
  obtain ⟨r0, r1, r2, r3, r4⟩ := zgu_s (G := G1) (t := Int32.toNatClampNeg (S1 11 0)) (a := h + 1) (b := h) (c := c) (d := c) (e := (f : Int))
  have k2 : zE S0 S2 G0 (zgu G1 (Int32.toNatClampNeg (S1 11 0)) (h + 1) h c c (f : Int)) f h c (XA ++ [Int32.toNatClampNeg (S1 11 0)]) [] h c := zx_op 13 h0 k1 a2 rfl (Int.le_refl _) (by omega) hh hc hc m2 (fun G' t s0 s1 s2 s3 e1 _ => by simp only [zop]; rw [s0, s1, s2, s3]; exact ⟨by omega, by omega, Int.le_refl _, Or.inl (by rw [e1]; decide)⟩)
  have hz1 := zE_end h0 k1
  have hz2 := zE_end h0 k2
  have k3 := zE_tr h0 k2 q3
  have hz3 := zE_end h0 k3
  obtain ⟨j0, j1, j2, j3, j4⟩ := zgu_s (G := G3) (t := Int32.toNatClampNeg (S3 11 0)) (a := h + 1) (b := h) (c := c) (d := c) (e := (f : Int))
  have k4 : zE S0 S4 G0 (zgu G3 (Int32.toNatClampNeg (S3 11 0)) (h + 1) h c c (f : Int)) f h c ((XA ++ [Int32.toNatClampNeg (S1 11 0)] ++ X2) ++ [Int32.toNatClampNeg (S3 11 0)]) [] h c := zx_op 14 h0 k3 a4 rfl (Int.le_refl _) (by omega) hh hc hc m4 (fun G' t s0 s1 s2 s3 e1 _ => by simp only [zop]; exact Or.inl (by rw [e1]; decide))
  have n1 := zn_nat (x := S1 11 0) (by have := hz1.1; have := hz1.2.1; omega)
  have n3 := zn_nat (x := S3 11 0) (by have := hz3.1; have := hz3.2.1; omega)
  have l2 := a2.1
  have l3 := q3.1.1
  generalize hr : Int32.toNatClampNeg (S1 11 0) = r at *
  generalize hj : Int32.toNatClampNeg (S3 11 0) = j at *
  have fr := q3.1.2.2.2.1 r (by omega)
  have hrj : r ≠ j := by omega
  have o2 : Int32.toNatClampNeg (S2 0 r) = 13 := by rw [a2.2.2.1, ← hr, zu_s]; rfl
  have o4 : S4 0 r = S3 0 r := by rw [a4.2.2.1, hj, zu_n hrj]
  have hv5 : v5.toInt = (j : Int) := by rw [ev5]; omega
  have k5 := zx_lead (j := j) (P := XA) (Q := X2 ++ [j]) k4 (by simp) e5 e51 hv5 (by simp) (Or.inl ⟨by rw [o4, fr.1]; exact o2, by rw [j1, zgu_n hrj, fr.2.2.2 0 (by decide), r0]; omega⟩) (by rw [j3, zgu_n hrj, fr.2.2.2 2 (by decide), r2]; exact Int.le_refl _)
  have k6 := zE_tr h0 k5 q6
  have l4 := a4.1
  have l5 : S5 11 0 = S4 11 0 := by rw [e5 11 (by decide)]
  have fj := q6.1.2.2.2.1 j (by rw [l5]; omega)
  have o5 : Int32.toNatClampNeg (S5 0 j) = 14 := by rw [e5 0 (by decide), a4.2.2.1, hj, zu_s]; rfl
  have n6' := zn_nat q6.2.2.2.1
  have ht : zla (Int32.toNatClampNeg (S5 12 0)) X3 = Int32.toNatClampNeg (S6 12 0) := by have := q6.2.2.2.2.1; rw [List.append_nil] at this; exact this
  have hin := zla_mem n6 (Int32.toNatClampNeg (S5 12 0))
  have hls := zco_last (Int32.toNatClampNeg (S5 12 0)) n6 q6.2.2.2.2.2.2.2.2.2
  rw [ht] at hin hls
  have k7 := zx_lead (j := Int32.toNatClampNeg (S6 12 0)) (r := j) (P := XA ++ [r] ++ X2) (Q := X3) k6 (by simp) e7 e71 (by rw [ev7]; omega) (List.mem_cons_of_mem _ hin) (Or.inr ⟨by rw [fj.1]; exact o5, by rw [hls.1, fj.2.2.2 0 (by decide), j0]⟩) (by rw [hls.2, fj.2.2.2 2 (by decide), j2]; exact Int.le_refl _)
  exact ⟨_, _, by simp, k7⟩
/-- the arms that a match has so far -/
theorem zM_b {S0 S : Nat → Nat → Int32} {G0 G : Nat → Nat → Int} {f : Nat} {h c : Int} {m n : Nat} {fo : Int32} (hM : zM S0 S G0 G f h c m fo n) : (-1 ≤ (S 2 m).toInt ∧ (S 2 m).toInt < (S 13 0).toInt ∨ (S 2 m).toInt = -1) ∧ (fo.toInt = -1 ∨ 0 ≤ fo.toInt ∧ fo.toInt < (S 13 0).toInt) ∧ (fo.toInt = -1 → n = 0) ∧ (0 ≤ fo.toInt → 1 ≤ n) ∧ ∃ AL : List Nat, AL.length = n ∧ zli (S 5) (S 2 m) AL ∧ ∀ a ∈ AL, (a : Int) < (S 13 0).toInt ∧ 0 ≤ (S 7 a).toInt := by
  rcases hM with ⟨h1, h2, s, k, k15, k2, ka, kb⟩ | ⟨h1, s, Y, t, AL, cx, k, k2, k16, kt, k5, k6, k7, k8, k9, ka, kb, kc, kd, ke, kf, kg⟩
  · exact ⟨Or.inr k2, Or.inl h1, fun _ => h2, fun g => by omega, [], h2.symm, k2, fun _ g => (nomatch g)⟩
  · have hfo : Int32.toNatClampNeg fo ∈ AL := by rw [← ke]; exact zla_mem ka 0
    have u := (kf _ hfo).1.1
    have := zn_nat h1
    refine ⟨Or.inl ?_, Or.inr ⟨h1, by omega⟩, fun g => by omega, fun _ => ?_, AL, kb, kd, fun a ha => ⟨(kf a ha).1.1, (kg a ha).1⟩⟩
    · cases AL with
      | nil => exact (ka rfl).elim
      | cons y l =>
        have e : (S 2 m).toInt = (y : Int) := kd.1
        have := (kf y List.mem_cons_self).1.1
        omega
    · cases AL with
      | nil => exact (ka rfl).elim
      | cons y l =>
        have : (y :: l).length = l.length + 1 := rfl
        omega
/-- arm A of match m, written out of the rows that arm() leaves -/
theorem zR_mk {op a b nx ak an ab al af kf ff b5 ak5 an5 ab5 al5 af5 kf5 ff5 : Nat → Int32} {cz ct az kz az5 kz5 fo sl kd : Int32} {f m : Nat} {c : Int} (haz : 0 ≤ az.toInt) (hb0 : fo.toInt = -1 → b5 = upd b m az) (hb1 : 0 ≤ fo.toInt → b5 = b) (haz5 : az5.toInt = az.toInt + 1) (hak : ak5 = upd ak (Int32.toNatClampNeg az) kd) (han0 : fo.toInt = -1 → an5 = upd an (Int32.toNatClampNeg az) (-1)) (han1 : 0 ≤ fo.toInt → fo.toInt < az.toInt ∧ an5 = upd (upd an (Int32.toNatClampNeg az) (-1)) (Int32.toNatClampNeg fo) az) (hfo : fo.toInt = -1 ∨ 0 ≤ fo.toInt) (hab : ab5 = upd (upd ab (Int32.toNatClampNeg az) (-1)) (Int32.toNatClampNeg az) ct) (hal : al5 = upd al (Int32.toNatClampNeg az) (-1)) (haf : af5 = upd af (Int32.toNatClampNeg az) sl) (hsl : sl.toInt = c) (hkd : kd.toInt = -2 ∨ 0 ≤ kd.toInt ∧ kd.toInt < kz5.toInt ∧ (kf5 (Int32.toNatClampNeg kd)).toInt ≠ -1) (hkz : kz.toInt ≤ kz5.toInt) (hkf : ∀ k : Nat, (k : Int) < kz.toInt → (kf k).toInt ≠ -1 → kf5 k = kf k) (hff : zff ff ff5) (hnm : c + zfl (zst op a b5 nx ak5 an5 ab5 al5 af5 kf5 ff5 cz ct az5 kz5) kd ≤ (ff5 (5 * f + 1)).toInt) : zR (zst op a b nx ak an ab al af kf ff cz ct az kz) (zst op a b5 nx ak5 an5 ab5 al5 af5 kf5 ff5 cz ct az5 kz5) f c m fo (Int32.toNatClampNeg az) := by
  have hn := zn_nat haz
  refine ⟨rfl, rfl, rfl, rfl, rfl, fun g => ⟨?_, fun r hr => ?_⟩, hb1, hn, haz5, fun q hq => ⟨?_, fun g => ?_, ?_, ?_, ?_⟩, fun g => ?_, ?_, ?_, ?_, ?_, hkz, hkf, hff, ?_⟩
  · show (b5 m).toInt = _; rw [hb0 g, zu_s]; exact hn.symm
  · show b5 r = b r; rw [hb0 g, zu_n hr]
  · have hq : (q : Int) < az.toInt := hq
    show ak5 q = ak q; rw [hak, zu_n (by omega)]
  · have hq : (q : Int) < az.toInt := hq
    show an5 q = an q
    rcases hfo with u | u
    · rw [han0 u, zu_n (by omega)]
    · rcases g with g | g
      · omega
      · rw [(han1 u).2, zu_n g, zu_n (by omega)]
  · have hq : (q : Int) < az.toInt := hq
    show ab5 q = ab q; rw [hab, zu_uu, zu_n (by omega)]
  · have hq : (q : Int) < az.toInt := hq
    show al5 q = al q; rw [hal, zu_n (by omega)]
  · have hq : (q : Int) < az.toInt := hq
    show af5 q = af q; rw [haf, zu_n (by omega)]
  · show (an5 (Int32.toNatClampNeg fo)).toInt = _; rw [(han1 g).2, zu_s]; exact hn.symm
  · show (an5 (Int32.toNatClampNeg az)).toInt = -1
    rcases hfo with u | u
    · rw [han0 u, zu_s]; decide
    · have := zn_nat u
      have := (han1 u).1
      rw [(han1 u).2, zu_n (by omega), zu_s]; decide
  · show ab5 (Int32.toNatClampNeg az) = ct; rw [hab, zu_s]
  · show (af5 (Int32.toNatClampNeg az)).toInt = c; rw [haf, zu_s]; exact hsl
  · show zkd _ (ak5 (Int32.toNatClampNeg az)); rw [hak, zu_s]; exact hkd
  · show c + zfl _ (ak5 (Int32.toNatClampNeg az)) ≤ _
    have e : ak5 (Int32.toNatClampNeg az) = kd := by rw [hak, zu_s]
    rw [e]; exact hnm

set_option maxHeartbeats 4000000 in
set_option maxRecDepth 100000 in
theorem c_X7_joinArms_x (l : Launch) (dC : Nat → ClassId) (dI : Nat → Nat → Nat) (aK aV : Nat → Nat) (h0 : Nat) (ptok : Nat) (pnee : Nat) (pnam : Nat) (pbui : Nat) (pdra : Nat) (ar : Int32) (fu : Int32) (fn : Int32) (fp : Int32) (gco : Nat) (gar : Nat) (gki : Nat) (gfu : Nat) (cop : Nat) (ca : Nat) (cb : Nat) (cplace : Nat) (cnext : Nat) (cneeded : Nat) (ckop : ClassId) (cka : ClassId) (ckb : ClassId) (ckplace : ClassId) (cknext : ClassId) (ckneeded : ClassId) (cz : Int32) (ct : Int32) (cgop : Nat → Int32) (cga : Nat → Int32) (cgb : Nat → Int32) (cgplace : Nat → Int32) (cgnext : Nat → Int32) (cgneeded : Nat → Int32) (akind : Nat) (anext : Nat) (abefore : Nat) (aleave : Nat) (afirstSlot : Nat) (abuilds : Nat) (akkind : ClassId) (aknext : ClassId) (akbefore : ClassId) (akleave : ClassId) (akfirstSlot : ClassId) (akbuilds : ClassId) (az : Int32) (agkind : Nat → Int32) (agnext : Nat → Int32) (agbefore : Nat → Int32) (agleave : Nat → Int32) (agfirstSlot : Nat → Int32) (agbuilds : Nat → Int32) (ma : Int32) (gAL : List Nat) (sz : Nat) (hc0 : 0 ≤ cz.toInt) (hc1 : cz.toInt ≤ 3000) (hc2 : -1 ≤ ct.toInt) (hc3 : ct.toInt < 3000) (hcn : zx 3000 cgnext) (hma0 : 0 ≤ ma.toInt) (hma1 : ma.toInt < 3000) (hch : zli agnext (cgb (Int32.toNatClampNeg ma)) gAL) (hlen : gAL.length ≤ 8) (hall : ∀ a ∈ gAL, (a : Int) < 400 ∧ 0 ≤ (agleave a).toInt ∧ (agleave a).toInt < 3000) : Met l yX7_joinArms (Cond.code yX7_joinArms cX7_joinArms 4 none :: zw) ({ frames := 8, cells := 0, slots := 0, locals := 200 }) (va_Pc [.ref h0, .int ma] (zP dC dI aK aV sz [(ckop, .int), (cka, .int), (ckb, .int), (ckplace, .int), (cknext, .int), (ckneeded, .int), (akkind, .int), (aknext, .int), (akbefore, .int), (akleave, .int), (akfirstSlot, .int), (akbuilds, .int)] [(h0, .inr (7, [.ref ptok, .ref pnee, .ref pnam, .int ar, .ref pbui, .ref pdra, .int fu, .int fn, .int fp])), (pdra, .inr (9, [.ref gco, .ref gar, .ref gki, .ref gfu])), (gco, .inr (2, [.ref cop, .ref ca, .ref cb, .ref cplace, .ref cnext, .ref cneeded, .int cz, .int ct])), (cop, .inl (ckop, 3000, .inl cgop)), (ca, .inl (cka, 3000, .inl cga)), (cb, .inl (ckb, 3000, .inl cgb)), (cplace, .inl (ckplace, 3000, .inl cgplace)), (cnext, .inl (cknext, 3000, .inl cgnext)), (cneeded, .inl (ckneeded, 3000, .inl cgneeded)), (gar, .inr (0, [.ref akind, .ref anext, .ref abefore, .ref aleave, .ref afirstSlot, .ref abuilds, .int az])), (akind, .inl (akkind, 400, .inl agkind)), (anext, .inl (aknext, 400, .inl agnext)), (abefore, .inl (akbefore, 400, .inl agbefore)), (aleave, .inl (akleave, 400, .inl agleave)), (afirstSlot, .inl (akfirstSlot, 400, .inl agfirstSlot)), (abuilds, .inl (akbuilds, 400, .inl agbuilds))])) (va_Qv (fun u : (Nat → Int32) => match u with | na => (zjn agleave ct cga na gAL)) (fun u => match u with | na => zQ dC dI (va_A [(h0, .inr (7, [.ref ptok, .ref pnee, .ref pnam, .int ar, .ref pbui, .ref pdra, .int fu, .int fn, .int fp])), (pdra, .inr (9, [.ref gco, .ref gar, .ref gki, .ref gfu])), (gco, .inr (2, [.ref cop, .ref ca, .ref cb, .ref cplace, .ref cnext, .ref cneeded, .int cz, .int ct])), (cop, .inl (ckop, 3000, .inl cgop)), (ca, .inl (cka, 3000, .inl cga)), (cb, .inl (ckb, 3000, .inl cgb)), (cplace, .inl (ckplace, 3000, .inl cgplace)), (cnext, .inl (cknext, 3000, .inl cgnext)), (cneeded, .inl (ckneeded, 3000, .inl cgneeded)), (gar, .inr (0, [.ref akind, .ref anext, .ref abefore, .ref aleave, .ref afirstSlot, .ref abuilds, .int az])), (akind, .inl (akkind, 400, .inl agkind)), (anext, .inl (aknext, 400, .inl agnext)), (abefore, .inl (akbefore, 400, .inl agbefore)), (aleave, .inl (akleave, 400, .inl agleave)), (afirstSlot, .inl (akfirstSlot, 400, .inl agfirstSlot)), (abuilds, .inl (akbuilds, 400, .inl agbuilds))] sz) [(ckop, .int), (cka, .int), (ckb, .int), (ckplace, .int), (cknext, .int), (ckneeded, .int), (akkind, .int), (aknext, .int), (akbefore, .int), (akleave, .int), (akfirstSlot, .int), (akbuilds, .int)] [(h0, .inr (7, [.ref ptok, .ref pnee, .ref pnam, .int ar, .ref pbui, .ref pdra, .int fu, .int fn, .int fp])), (pdra, .inr (9, [.ref gco, .ref gar, .ref gki, .ref gfu])), (gco, .inr (2, [.ref cop, .ref ca, .ref cb, .ref cplace, .ref cnext, .ref cneeded, .int cz, .int ct])), (cop, .inl (ckop, 3000, .inl cgop)), (ca, .inl (cka, 3000, .inl na)), (cb, .inl (ckb, 3000, .inl cgb)), (cplace, .inl (ckplace, 3000, .inl cgplace)), (cnext, .inl (cknext, 3000, .inl cgnext)), (cneeded, .inl (ckneeded, 3000, .inl cgneeded)), (gar, .inr (0, [.ref akind, .ref anext, .ref abefore, .ref aleave, .ref afirstSlot, .ref abuilds, .int az])), (akind, .inl (akkind, 400, .inl agkind)), (anext, .inl (aknext, 400, .inl agnext)), (abefore, .inl (akbefore, 400, .inl agbefore)), (aleave, .inl (akleave, 400, .inl agleave)), (afirstSlot, .inl (akfirstSlot, 400, .inl agfirstSlot)), (abuilds, .inl (akbuilds, 400, .inl agbuilds))]) (va_A [(h0, .inr (7, [.ref ptok, .ref pnee, .ref pnam, .int ar, .ref pbui, .ref pdra, .int fu, .int fn, .int fp])), (pdra, .inr (9, [.ref gco, .ref gar, .ref gki, .ref gfu])), (gco, .inr (2, [.ref cop, .ref ca, .ref cb, .ref cplace, .ref cnext, .ref cneeded, .int cz, .int ct])), (cop, .inl (ckop, 3000, .inl cgop)), (ca, .inl (cka, 3000, .inl cga)), (cb, .inl (ckb, 3000, .inl cgb)), (cplace, .inl (ckplace, 3000, .inl cgplace)), (cnext, .inl (cknext, 3000, .inl cgnext)), (cneeded, .inl (ckneeded, 3000, .inl cgneeded)), (gar, .inr (0, [.ref akind, .ref anext, .ref abefore, .ref aleave, .ref afirstSlot, .ref abuilds, .int az])), (akind, .inl (akkind, 400, .inl agkind)), (anext, .inl (aknext, 400, .inl agnext)), (abefore, .inl (akbefore, 400, .inl agbefore)), (aleave, .inl (akleave, 400, .inl agleave)), (afirstSlot, .inl (akfirstSlot, 400, .inl agfirstSlot)), (abuilds, .inl (akbuilds, 400, .inl agbuilds))] sz)) 0 0 (va_A [(h0, .inr (7, [.ref ptok, .ref pnee, .ref pnam, .int ar, .ref pbui, .ref pdra, .int fu, .int fn, .int fp])), (pdra, .inr (9, [.ref gco, .ref gar, .ref gki, .ref gfu])), (gco, .inr (2, [.ref cop, .ref ca, .ref cb, .ref cplace, .ref cnext, .ref cneeded, .int cz, .int ct])), (cop, .inl (ckop, 3000, .inl cgop)), (ca, .inl (cka, 3000, .inl cga)), (cb, .inl (ckb, 3000, .inl cgb)), (cplace, .inl (ckplace, 3000, .inl cgplace)), (cnext, .inl (cknext, 3000, .inl cgnext)), (cneeded, .inl (ckneeded, 3000, .inl cgneeded)), (gar, .inr (0, [.ref akind, .ref anext, .ref abefore, .ref aleave, .ref afirstSlot, .ref abuilds, .int az])), (akind, .inl (akkind, 400, .inl agkind)), (anext, .inl (aknext, 400, .inl agnext)), (abefore, .inl (akbefore, 400, .inl agbefore)), (aleave, .inl (akleave, 400, .inl agleave)), (afirstSlot, .inl (akfirstSlot, 400, .inl agfirstSlot)), (abuilds, .inl (akbuilds, 400, .inl agbuilds))] sz) := by
  refine Met.ofW (cc := cX7_joinArms) (maxL := 4) (ret := none) (by decide) rfl ?_
  intro p e s m args below meth c s₁ B hml hv
  obtain ⟨rfl, hsz, hP, hK, hD0, hN, hT⟩ := hv
  have hx := B.exec
  have hb := B.bytes
  have hr := B.returns
  have hts := atoms_spec (ws := Cond.code yX7_joinArms cX7_joinArms 4 none :: zw) B.pre
  have hA : ∀ w ∈ zw, w.before _ s = true := fun w h => hts w (List.mem_cons_of_mem _ h)
  have hown : s.vm.findClass RX7 = some m.cls := findClass_of_methodNamed B.named
  have hlocks := B.notSynchronized
  subst hsz
  have hD := hD0.self (sz := s.heap.size)
  generalize hAe : va_A [(h0, .inr (7, [.ref ptok, .ref pnee, .ref pnam, .int ar, .ref pbui, .ref pdra, .int fu, .int fn, .int fp])), (pdra, .inr (9, [.ref gco, .ref gar, .ref gki, .ref gfu])), (gco, .inr (2, [.ref cop, .ref ca, .ref cb, .ref cplace, .ref cnext, .ref cneeded, .int cz, .int ct])), (cop, .inl (ckop, 3000, .inl cgop)), (ca, .inl (cka, 3000, .inl cga)), (cb, .inl (ckb, 3000, .inl cgb)), (cplace, .inl (ckplace, 3000, .inl cgplace)), (cnext, .inl (cknext, 3000, .inl cgnext)), (cneeded, .inl (ckneeded, 3000, .inl cgneeded)), (gar, .inr (0, [.ref akind, .ref anext, .ref abefore, .ref aleave, .ref afirstSlot, .ref abuilds, .int az])), (akind, .inl (akkind, 400, .inl agkind)), (anext, .inl (aknext, 400, .inl agnext)), (abefore, .inl (akbefore, 400, .inl agbefore)), (aleave, .inl (akleave, 400, .inl agleave)), (afirstSlot, .inl (akfirstSlot, 400, .inl agfirstSlot)), (abuilds, .inl (akbuilds, 400, .inl agbuilds))] s.heap.size = A at hD hT ⊢
  have hAA : ∀ q : Nat, s.heap.size ≤ q → A q := fun q h => by rw [← hAe]; exact Or.inr h
  have hS : va_S A s.heap s.heap [] := va_S.rf
  have hl := lv_entry ([.ref h0, .int ma]) (n := 4) (Nat.le_of_ble_eq_true rfl)
  rw [lg_entry_eq]
  generalize (lg_sl ([.ref h0, .int ma]) ++ List.replicate (4 - (lg_sl ([.ref h0, .int ma])).length) Slot.unset).toArray = ls at hl ⊢
  have hl : lv_has ls 4 [(0, .ref h0), (1, .int ma)] := hl
  refine lv_aload_n hx hb dX7_joinArms_0 rfl (lv_at hl 0 rfl) ?_
  refine va_get (D := (dC, dI)) (ci := 7) (v := .ref pdra) (C := RX7) (T := TX7) (N := 9) hx hb hA zin_X7 hown hK hP 0 rfl rfl 5 (by decide) (hA _ wi_392) (fun _ h9 => h9) rfl dX7_joinArms_1 ?_
  refine va_get (D := (dC, dI)) (ci := 9) (v := .ref gco) (C := RX9) (T := TX9) (N := 4) hx hb hA zin_X9 hown hK hP 1 rfl rfl 0 (by decide) (hA _ wi_311) (fun _ h9 => h9) rfl dX7_joinArms_4 ?_
  refine va_get (D := (dC, dI)) (ci := 2) (v := .ref cb) (C := RX2) (T := TX2) (N := 8) hx hb hA zin_X2 hown hK hP 2 rfl rfl 2 (by decide) (hA _ wi_186) (fun _ h9 => h9) rfl dX7_joinArms_7 ?_
  refine lv_iload_n hx hb dX7_joinArms_10 rfl (lv_at hl 1 rfl) ?_
  refine va_iald hx hb hK hP 5 2 rfl rfl (vp_in_iff.mpr ⟨by omega, by omega⟩) dX7_joinArms_11 ?_
  refine lv_topi (fun x_1 ex_1 => ?_)
  refine lv_istore_n (lv' := [(2, .int x_1), (0, .ref h0), (1, .int ma)]) hx hb dX7_joinArms_12 rfl hl (by decide) rfl (fun ls hl => ?_)
  refine lv_iconst (v := 0) hx hb dX7_joinArms_13 (by decide) ?_
  have hjx_2 : zjl agnext agleave ct cga cga gAL x_1 0 := zjl_0 (by rw [ex_1]; exact hch) (by decide)
  refine lv_istore_n (lv' := [(3, .int 0), (2, .int x_1), (0, .ref h0), (1, .int ma)]) hx hb dX7_joinArms_14 rfl hl (by decide) rfl (fun ls hl => ?_)
  have loop_15 : ∀ (n9 : Nat) (am : Int32) (i : Int32) (la_ : Nat → Int32) (H : Heap) (locs : List Loc) (ls : Array Slot), (8 - i.toInt + 1).toNat ≤ n9 → zjl agnext agleave ct cga la_ gAL am i → 0 ≤ i.toInt → i.toInt ≤ 8 → va_P (dC, dI) vwCl [(h0, .inr (7, [.ref ptok, .ref pnee, .ref pnam, .int ar, .ref pbui, .ref pdra, .int fu, .int fn, .int fp])), (pdra, .inr (9, [.ref gco, .ref gar, .ref gki, .ref gfu])), (gco, .inr (2, [.ref cop, .ref ca, .ref cb, .ref cplace, .ref cnext, .ref cneeded, .int cz, .int ct])), (cop, .inl (ckop, 3000, .inl cgop)), (ca, .inl (cka, 3000, .inl la_)), (cb, .inl (ckb, 3000, .inl cgb)), (cplace, .inl (ckplace, 3000, .inl cgplace)), (cnext, .inl (cknext, 3000, .inl cgnext)), (cneeded, .inl (ckneeded, 3000, .inl cgneeded)), (gar, .inr (0, [.ref akind, .ref anext, .ref abefore, .ref aleave, .ref afirstSlot, .ref abuilds, .int az])), (akind, .inl (akkind, 400, .inl agkind)), (anext, .inl (aknext, 400, .inl agnext)), (abefore, .inl (akbefore, 400, .inl agbefore)), (aleave, .inl (akleave, 400, .inl agleave)), (afirstSlot, .inl (akfirstSlot, 400, .inl agfirstSlot)), (abuilds, .inl (akbuilds, 400, .inl agbuilds))] H → va_D A [(h0, .inr (7, [.ref ptok, .ref pnee, .ref pnam, .int ar, .ref pbui, .ref pdra, .int fu, .int fn, .int fp])), (pdra, .inr (9, [.ref gco, .ref gar, .ref gki, .ref gfu])), (gco, .inr (2, [.ref cop, .ref ca, .ref cb, .ref cplace, .ref cnext, .ref cneeded, .int cz, .int ct])), (cop, .inl (ckop, 3000, .inl cgop)), (ca, .inl (cka, 3000, .inl la_)), (cb, .inl (ckb, 3000, .inl cgb)), (cplace, .inl (ckplace, 3000, .inl cgplace)), (cnext, .inl (cknext, 3000, .inl cgnext)), (cneeded, .inl (ckneeded, 3000, .inl cgneeded)), (gar, .inr (0, [.ref akind, .ref anext, .ref abefore, .ref aleave, .ref afirstSlot, .ref abuilds, .int az])), (akind, .inl (akkind, 400, .inl agkind)), (anext, .inl (aknext, 400, .inl agnext)), (abefore, .inl (akbefore, 400, .inl agbefore)), (aleave, .inl (akleave, 400, .inl agleave)), (afirstSlot, .inl (akfirstSlot, 400, .inl agfirstSlot)), (abuilds, .inl (akbuilds, 400, .inl agbuilds))] → va_S A s.heap H locs → lv_has ls 4 [(3, .int i), (2, .int am), (0, .ref h0), (1, .int ma)] → W p l e (headSpec (Cond.code yX7_joinArms cX7_joinArms 4 none :: zw) ({ frames := 8, cells := 0, slots := 0, locals := 200 })).room s m #[.ref h0, .int ma] below meth c H locs 0 0 (MQ below (va_Qv (fun u : (Nat → Int32) => match u with | na => (zjn agleave ct cga na gAL)) (fun u => match u with | na => zQ dC dI A [(ckop, .int), (cka, .int), (ckb, .int), (ckplace, .int), (cknext, .int), (ckneeded, .int), (akkind, .int), (aknext, .int), (akbefore, .int), (akleave, .int), (akfirstSlot, .int), (akbuilds, .int)] [(h0, .inr (7, [.ref ptok, .ref pnee, .ref pnam, .int ar, .ref pbui, .ref pdra, .int fu, .int fn, .int fp])), (pdra, .inr (9, [.ref gco, .ref gar, .ref gki, .ref gfu])), (gco, .inr (2, [.ref cop, .ref ca, .ref cb, .ref cplace, .ref cnext, .ref cneeded, .int cz, .int ct])), (cop, .inl (ckop, 3000, .inl cgop)), (ca, .inl (cka, 3000, .inl na)), (cb, .inl (ckb, 3000, .inl cgb)), (cplace, .inl (ckplace, 3000, .inl cgplace)), (cnext, .inl (cknext, 3000, .inl cgnext)), (cneeded, .inl (ckneeded, 3000, .inl cgneeded)), (gar, .inr (0, [.ref akind, .ref anext, .ref abefore, .ref aleave, .ref afirstSlot, .ref abuilds, .int az])), (akind, .inl (akkind, 400, .inl agkind)), (anext, .inl (aknext, 400, .inl agnext)), (abefore, .inl (akbefore, 400, .inl agbefore)), (aleave, .inl (akleave, 400, .inl agleave)), (afirstSlot, .inl (akfirstSlot, 400, .inl agfirstSlot)), (abuilds, .inl (akbuilds, 400, .inl agbuilds))]) A) #[.ref h0, .int ma] s 0 0 A) (F0 m 15 ls []) := by
    intro n9
    induction n9 with
    | zero => intro am i la_ H locs ls hm hjl hi0 hi1; exfalso; omega
    | succ n9 ih =>
      intro am i la_ H locs ls hm hjl hi0 hi1 hP hD hS hl
      refine lv_iload_n hx hb dX7_joinArms_15 rfl (lv_at hl 0 rfl) ?_
      refine lv_bipush (v := 8) hx hb dX7_joinArms_16 (by decide) ?_
      refine lv_icmp_ge (tgt := 78) hx hb dX7_joinArms_18 (by decide) (fun c_3 => ?_) (fun c_3 => ?_)
      · have ic_3 : 8 ≤ i.toInt := zi_le c_3
        have hP9 := hP.sub (ws' := [(h0, .inr (7, [.ref ptok, .ref pnee, .ref pnam, .int ar, .ref pbui, .ref pdra, .int fu, .int fn, .int fp])), (pdra, .inr (9, [.ref gco, .ref gar, .ref gki, .ref gfu])), (gco, .inr (2, [.ref cop, .ref ca, .ref cb, .ref cplace, .ref cnext, .ref cneeded, .int cz, .int ct])), (cop, .inl (ckop, 3000, .inl cgop)), (ca, .inl (cka, 3000, .inl la_)), (cb, .inl (ckb, 3000, .inl cgb)), (cplace, .inl (ckplace, 3000, .inl cgplace)), (cnext, .inl (cknext, 3000, .inl cgnext)), (cneeded, .inl (ckneeded, 3000, .inl cgneeded)), (gar, .inr (0, [.ref akind, .ref anext, .ref abefore, .ref aleave, .ref afirstSlot, .ref abuilds, .int az])), (akind, .inl (akkind, 400, .inl agkind)), (anext, .inl (aknext, 400, .inl agnext)), (abefore, .inl (akbefore, 400, .inl agbefore)), (aleave, .inl (akleave, 400, .inl agleave)), (afirstSlot, .inl (akfirstSlot, 400, .inl agfirstSlot)), (abuilds, .inl (akbuilds, 400, .inl agbuilds))]) [0, 1, 2, 3, 4, 5, 6, 7, 8, 9, 10, 11, 12, 13, 14, 15] rfl
        have hD9 := hD.sub (ws' := [(h0, .inr (7, [.ref ptok, .ref pnee, .ref pnam, .int ar, .ref pbui, .ref pdra, .int fu, .int fn, .int fp])), (pdra, .inr (9, [.ref gco, .ref gar, .ref gki, .ref gfu])), (gco, .inr (2, [.ref cop, .ref ca, .ref cb, .ref cplace, .ref cnext, .ref cneeded, .int cz, .int ct])), (cop, .inl (ckop, 3000, .inl cgop)), (ca, .inl (cka, 3000, .inl la_)), (cb, .inl (ckb, 3000, .inl cgb)), (cplace, .inl (ckplace, 3000, .inl cgplace)), (cnext, .inl (cknext, 3000, .inl cgnext)), (cneeded, .inl (ckneeded, 3000, .inl cgneeded)), (gar, .inr (0, [.ref akind, .ref anext, .ref abefore, .ref aleave, .ref afirstSlot, .ref abuilds, .int az])), (akind, .inl (akkind, 400, .inl agkind)), (anext, .inl (aknext, 400, .inl agnext)), (abefore, .inl (akbefore, 400, .inl agbefore)), (aleave, .inl (akleave, 400, .inl agleave)), (afirstSlot, .inl (akfirstSlot, 400, .inl agfirstSlot)), (abuilds, .inl (akbuilds, 400, .inl agbuilds))]) [0, 1, 2, 3, 4, 5, 6, 7, 8, 9, 10, 11, 12, 13, 14, 15] (by decide) rfl
        have hK9 := hK.sub (tys' := [(ckop, .int), (cka, .int), (ckb, .int), (ckplace, .int), (cknext, .int), (ckneeded, .int), (akkind, .int), (aknext, .int), (akbefore, .int), (akleave, .int), (akfirstSlot, .int), (akbuilds, .int)]) [0, 1, 2, 3, 4, 5, 6, 7, 8, 9, 10, 11] rfl
        exact W.vret hx hb hr (fun t ht hW => ⟨⟨(la_), rfl, zjl_end hjl hlen (by omega), by rw [ht]; exact hP9, va_K.moved hW.alike hK9, hD9⟩, hS.F ht⟩) hS.2.2 dX7_joinArms_78
      · have ic_3 : i.toInt < 8 := zi_nle c_3
        refine lv_iload_n hx hb dX7_joinArms_21 rfl (lv_at hl 1 rfl) ?_
        refine lv_iconst (v := (-1)) hx hb dX7_joinArms_22 (by decide) ?_
        refine lv_icmp_eq (tgt := 78) hx hb dX7_joinArms_23 (by decide) (fun c_4 => ?_) (fun c_4 => ?_)
        · have ic_4 : am.toInt = (-1) := zi_eq c_4
          have hP9 := hP.sub (ws' := [(h0, .inr (7, [.ref ptok, .ref pnee, .ref pnam, .int ar, .ref pbui, .ref pdra, .int fu, .int fn, .int fp])), (pdra, .inr (9, [.ref gco, .ref gar, .ref gki, .ref gfu])), (gco, .inr (2, [.ref cop, .ref ca, .ref cb, .ref cplace, .ref cnext, .ref cneeded, .int cz, .int ct])), (cop, .inl (ckop, 3000, .inl cgop)), (ca, .inl (cka, 3000, .inl la_)), (cb, .inl (ckb, 3000, .inl cgb)), (cplace, .inl (ckplace, 3000, .inl cgplace)), (cnext, .inl (cknext, 3000, .inl cgnext)), (cneeded, .inl (ckneeded, 3000, .inl cgneeded)), (gar, .inr (0, [.ref akind, .ref anext, .ref abefore, .ref aleave, .ref afirstSlot, .ref abuilds, .int az])), (akind, .inl (akkind, 400, .inl agkind)), (anext, .inl (aknext, 400, .inl agnext)), (abefore, .inl (akbefore, 400, .inl agbefore)), (aleave, .inl (akleave, 400, .inl agleave)), (afirstSlot, .inl (akfirstSlot, 400, .inl agfirstSlot)), (abuilds, .inl (akbuilds, 400, .inl agbuilds))]) [0, 1, 2, 3, 4, 5, 6, 7, 8, 9, 10, 11, 12, 13, 14, 15] rfl
          have hD9 := hD.sub (ws' := [(h0, .inr (7, [.ref ptok, .ref pnee, .ref pnam, .int ar, .ref pbui, .ref pdra, .int fu, .int fn, .int fp])), (pdra, .inr (9, [.ref gco, .ref gar, .ref gki, .ref gfu])), (gco, .inr (2, [.ref cop, .ref ca, .ref cb, .ref cplace, .ref cnext, .ref cneeded, .int cz, .int ct])), (cop, .inl (ckop, 3000, .inl cgop)), (ca, .inl (cka, 3000, .inl la_)), (cb, .inl (ckb, 3000, .inl cgb)), (cplace, .inl (ckplace, 3000, .inl cgplace)), (cnext, .inl (cknext, 3000, .inl cgnext)), (cneeded, .inl (ckneeded, 3000, .inl cgneeded)), (gar, .inr (0, [.ref akind, .ref anext, .ref abefore, .ref aleave, .ref afirstSlot, .ref abuilds, .int az])), (akind, .inl (akkind, 400, .inl agkind)), (anext, .inl (aknext, 400, .inl agnext)), (abefore, .inl (akbefore, 400, .inl agbefore)), (aleave, .inl (akleave, 400, .inl agleave)), (afirstSlot, .inl (akfirstSlot, 400, .inl agfirstSlot)), (abuilds, .inl (akbuilds, 400, .inl agbuilds))]) [0, 1, 2, 3, 4, 5, 6, 7, 8, 9, 10, 11, 12, 13, 14, 15] (by decide) rfl
          have hK9 := hK.sub (tys' := [(ckop, .int), (cka, .int), (ckb, .int), (ckplace, .int), (cknext, .int), (ckneeded, .int), (akkind, .int), (aknext, .int), (akbefore, .int), (akleave, .int), (akfirstSlot, .int), (akbuilds, .int)]) [0, 1, 2, 3, 4, 5, 6, 7, 8, 9, 10, 11] rfl
          exact W.vret hx hb hr (fun t ht hW => ⟨⟨(la_), rfl, zjl_end hjl hlen (by omega), by rw [ht]; exact hP9, va_K.moved hW.alike hK9, hD9⟩, hS.F ht⟩) hS.2.2 dX7_joinArms_78
        · have ic_4 : am.toInt ≠ (-1) := zi_ne c_4
          have hj9 := zjl_in hjl (by omega)
          have hj8 := zn_nat hj9.1
          have hj7 := hall _ hj9.2
          refine lv_aload_n hx hb dX7_joinArms_26 rfl (lv_at hl 2 rfl) ?_
          refine va_get (D := (dC, dI)) (ci := 7) (v := .ref pdra) (C := RX7) (T := TX7) (N := 9) hx hb hA zin_X7 hown hK hP 0 rfl rfl 5 (by decide) (hA _ wi_392) (fun _ h9 => h9) rfl dX7_joinArms_27 ?_
          refine va_get (D := (dC, dI)) (ci := 9) (v := .ref gco) (C := RX9) (T := TX9) (N := 4) hx hb hA zin_X9 hown hK hP 1 rfl rfl 0 (by decide) (hA _ wi_311) (fun _ h9 => h9) rfl dX7_joinArms_30 ?_
          refine va_get (D := (dC, dI)) (ci := 2) (v := .ref ca) (C := RX2) (T := TX2) (N := 8) hx hb hA zin_X2 hown hK hP 2 rfl rfl 1 (by decide) (hA _ wi_183) (fun _ h9 => h9) rfl dX7_joinArms_33 ?_
          refine lv_aload_n hx hb dX7_joinArms_36 rfl (lv_at hl 2 rfl) ?_
          refine va_get (D := (dC, dI)) (ci := 7) (v := .ref pdra) (C := RX7) (T := TX7) (N := 9) hx hb hA zin_X7 hown hK hP 0 rfl rfl 5 (by decide) (hA _ wi_392) (fun _ h9 => h9) rfl dX7_joinArms_37 ?_
          refine va_get (D := (dC, dI)) (ci := 9) (v := .ref gar) (C := RX9) (T := TX9) (N := 4) hx hb hA zin_X9 hown hK hP 1 rfl rfl 1 (by decide) (hA _ wi_314) (fun _ h9 => h9) rfl dX7_joinArms_40 ?_
          refine va_get (D := (dC, dI)) (ci := 0) (v := .ref aleave) (C := RX0) (T := TX0) (N := 7) hx hb hA zin_X0 hown hK hP 9 rfl rfl 3 (by decide) (hA _ wi_240) (fun _ h9 => h9) rfl dX7_joinArms_43 ?_
          refine lv_iload_n hx hb dX7_joinArms_46 rfl (lv_at hl 1 rfl) ?_
          refine va_iald hx hb hK hP 13 9 rfl rfl (vp_in_iff.mpr ⟨by omega, by omega⟩) dX7_joinArms_47 ?_
          refine lv_topi (fun x_5 ex_5 => ?_)
          have ix_5 : 0 ≤ x_5.toInt ∧ x_5.toInt < 3000 := by rw [ex_5]; exact hj7.2
          refine lv_aload_n hx hb dX7_joinArms_48 rfl (lv_at hl 2 rfl) ?_
          refine va_get (D := (dC, dI)) (ci := 7) (v := .ref pdra) (C := RX7) (T := TX7) (N := 9) hx hb hA zin_X7 hown hK hP 0 rfl rfl 5 (by decide) (hA _ wi_392) (fun _ h9 => h9) rfl dX7_joinArms_49 ?_
          refine va_get (D := (dC, dI)) (ci := 9) (v := .ref gco) (C := RX9) (T := TX9) (N := 4) hx hb hA zin_X9 hown hK hP 1 rfl rfl 0 (by decide) (hA _ wi_311) (fun _ h9 => h9) rfl dX7_joinArms_52 ?_
          refine va_get (D := (dC, dI)) (ci := 2) (v := .int ct) (C := RX2) (T := TX2) (N := 8) hx hb hA zin_X2 hown hK hP 2 rfl rfl 7 (by decide) (hA _ wi_201) (fun _ h9 => h9) rfl dX7_joinArms_55 ?_
          refine va_iast hx hb hK hP hD hS 4 1 rfl rfl (vp_in_iff.mpr ⟨by omega, by omega⟩) dX7_joinArms_58 (fun H locs hP hD hS => ?_)
          obtain ⟨f_6, ef_6⟩ : ∃ gz9 : Nat → Int32, gz9 = upd la_ (Int32.toNatClampNeg x_5) ct := ⟨_, rfl⟩
          rw [← ef_6] at hP hD
          have hP : va_P (dC, dI) vwCl [(h0, .inr (7, [.ref ptok, .ref pnee, .ref pnam, .int ar, .ref pbui, .ref pdra, .int fu, .int fn, .int fp])), (pdra, .inr (9, [.ref gco, .ref gar, .ref gki, .ref gfu])), (gco, .inr (2, [.ref cop, .ref ca, .ref cb, .ref cplace, .ref cnext, .ref cneeded, .int cz, .int ct])), (cop, .inl (ckop, 3000, .inl cgop)), (ca, .inl (cka, 3000, .inl f_6)), (cb, .inl (ckb, 3000, .inl cgb)), (cplace, .inl (ckplace, 3000, .inl cgplace)), (cnext, .inl (cknext, 3000, .inl cgnext)), (cneeded, .inl (ckneeded, 3000, .inl cgneeded)), (gar, .inr (0, [.ref akind, .ref anext, .ref abefore, .ref aleave, .ref afirstSlot, .ref abuilds, .int az])), (akind, .inl (akkind, 400, .inl agkind)), (anext, .inl (aknext, 400, .inl agnext)), (abefore, .inl (akbefore, 400, .inl agbefore)), (aleave, .inl (akleave, 400, .inl agleave)), (afirstSlot, .inl (akfirstSlot, 400, .inl agfirstSlot)), (abuilds, .inl (akbuilds, 400, .inl agbuilds))] H := hP
          have hD : va_D A [(h0, .inr (7, [.ref ptok, .ref pnee, .ref pnam, .int ar, .ref pbui, .ref pdra, .int fu, .int fn, .int fp])), (pdra, .inr (9, [.ref gco, .ref gar, .ref gki, .ref gfu])), (gco, .inr (2, [.ref cop, .ref ca, .ref cb, .ref cplace, .ref cnext, .ref cneeded, .int cz, .int ct])), (cop, .inl (ckop, 3000, .inl cgop)), (ca, .inl (cka, 3000, .inl f_6)), (cb, .inl (ckb, 3000, .inl cgb)), (cplace, .inl (ckplace, 3000, .inl cgplace)), (cnext, .inl (cknext, 3000, .inl cgnext)), (cneeded, .inl (ckneeded, 3000, .inl cgneeded)), (gar, .inr (0, [.ref akind, .ref anext, .ref abefore, .ref aleave, .ref afirstSlot, .ref abuilds, .int az])), (akind, .inl (akkind, 400, .inl agkind)), (anext, .inl (aknext, 400, .inl agnext)), (abefore, .inl (akbefore, 400, .inl agbefore)), (aleave, .inl (akleave, 400, .inl agleave)), (afirstSlot, .inl (akfirstSlot, 400, .inl agfirstSlot)), (abuilds, .inl (akbuilds, 400, .inl agbuilds))] := hD
          refine lv_aload_n hx hb dX7_joinArms_59 rfl (lv_at hl 2 rfl) ?_
          refine va_get (D := (dC, dI)) (ci := 7) (v := .ref pdra) (C := RX7) (T := TX7) (N := 9) hx hb hA zin_X7 hown hK hP 0 rfl rfl 5 (by decide) (hA _ wi_392) (fun _ h9 => h9) rfl dX7_joinArms_60 ?_
          refine va_get (D := (dC, dI)) (ci := 9) (v := .ref gar) (C := RX9) (T := TX9) (N := 4) hx hb hA zin_X9 hown hK hP 1 rfl rfl 1 (by decide) (hA _ wi_314) (fun _ h9 => h9) rfl dX7_joinArms_63 ?_
          refine va_get (D := (dC, dI)) (ci := 0) (v := .ref anext) (C := RX0) (T := TX0) (N := 7) hx hb hA zin_X0 hown hK hP 9 rfl rfl 1 (by decide) (hA _ wi_233) (fun _ h9 => h9) rfl dX7_joinArms_66 ?_
          refine lv_iload_n hx hb dX7_joinArms_69 rfl (lv_at hl 1 rfl) ?_
          refine va_iald hx hb hK hP 11 7 rfl rfl (vp_in_iff.mpr ⟨by omega, by omega⟩) dX7_joinArms_70 ?_
          refine lv_topi (fun x_7 ex_7 => ?_)
          refine lv_istore_n (lv' := [(2, .int x_7), (3, .int i), (0, .ref h0), (1, .int ma)]) hx hb dX7_joinArms_71 rfl hl (by decide) rfl (fun ls hl => ?_)
          obtain ⟨x_8, ex_8⟩ : ∃ y : Int32, y = i + Int32.ofInt 1 := ⟨_, rfl⟩
          refine lv_iinc (v := x_8) (lv' := [(3, .int x_8), (2, .int x_7), (0, .ref h0), (1, .int ma)]) hx hb dX7_joinArms_72 hl (k := 1) rfl (by rw [ex_8]) (by decide) rfl (fun ls hl => ?_)
          have ix_8 : x_8.toInt = i.toInt + 1 := by rw [ex_8]; exact zi_addc (by decide) (by omega) (by omega)
          have hjx_9 : zjl agnext agleave ct cga f_6 gAL x_7 x_8 := zjl_next hjl (by omega) ef_6 ex_5 ex_7 (by omega)
          refine lv_goto (tgt := 15) hx hb dX7_joinArms_75 (by decide) ?_
          exact ih x_7 x_8 f_6 _ _ _ (by omega) hjx_9 (by omega) (by omega) (hP.sub [0, 1, 2, 3, 4, 5, 6, 7, 8, 9, 10, 11, 12, 13, 14, 15] rfl) (hD.sub [0, 1, 2, 3, 4, 5, 6, 7, 8, 9, 10, 11, 12, 13, 14, 15] (by decide) rfl) hS (lv_sub hl [0, 1, 2, 3] rfl)
  exact loop_15 _ x_1 0 cga _ _ _ (Nat.le_refl _) hjx_2 (by have h9_0 : Int32.toInt 0 = 0 := (by decide); omega) (by have h9_0 : Int32.toInt 0 = 0 := (by decide); omega) (hP.sub [0, 1, 2, 3, 4, 5, 6, 7, 8, 9, 10, 11, 12, 13, 14, 15] rfl) (hD.sub [0, 1, 2, 3, 4, 5, 6, 7, 8, 9, 10, 11, 12, 13, 14, 15] (by decide) rfl) hS (lv_sub hl [0, 1, 2, 3] rfl)

end
section
/-! a function's facts, while its text is read -/
/-- function f's facts: b builds, m matches more, w names at least -/
def cF (g g2 : Nat → Int32) (f : Nat) (b m w : Int) : Prop := g2 (5 * f + 2) = g (5 * f + 2) + Int32.ofInt b ∧ g2 (5 * f + 3) = g (5 * f + 3) + Int32.ofInt m ∧ (0 ≤ (g (5 * f + 1)).toInt → (g2 (5 * f + 1)).toInt = max (g (5 * f + 1)).toInt w) ∧ ∀ j, j ≠ 5 * f + 1 → j ≠ 5 * f + 2 → j ≠ 5 * f + 3 → g2 j = g j
theorem cF_0 (x : Int32) : x = x + Int32.ofInt 0 := by
  rw [show Int32.ofInt 0 = 0 from by decide, Int32.add_zero]
theorem cF_1 (x : Int32) : x + 1 = x + Int32.ofInt 1 := by rw [show Int32.ofInt 1 = 1 from by decide]
theorem cF_rf {g : Nat → Int32} {f : Nat} : cF g g f 0 0 0 := ⟨cF_0 _, cF_0 _, fun h => by omega, fun _ _ _ _ => rfl⟩
theorem cF_tr {g g2 g3 : Nat → Int32} {f : Nat} {b m w b2 m2 w2 : Int} (p : cF g g2 f b m w) (q : cF g2 g3 f b2 m2 w2) : cF g g3 f (b + b2) (m + m2) (max w w2) := by
  obtain ⟨p1, p2, p3, p4⟩ := p
  obtain ⟨q1, q2, q3, q4⟩ := q
  refine ⟨by rw [q1, p1, Int32.ofInt_add, Int32.add_assoc], by rw [q2, p2, Int32.ofInt_add, Int32.add_assoc], fun h => ?_, fun j h1 h2 h3 => by rw [q4 j h1 h2 h3, p4 j h1 h2 h3]⟩
  have := p3 h
  have := q3 (by omega)
  omega
theorem cF_e {g g2 : Nat → Int32} {f : Nat} {b m w b2 m2 w2 : Int} (p : cF g g2 f b m w) (e1 : b2 = b) (e2 : m2 = m) (e3 : w2 = w) : cF g g2 f b2 m2 w2 := by rw [e1, e2, e3]; exact p
theorem cF_b {g g2 : Nat → Int32} {f w : Nat} (hw : w = 2) (e : g2 = upd g (5 * f + w) (g (5 * f + w) + 1)) : cF g g2 f 1 0 0 := by
  subst hw
  exact ⟨by rw [e, zu_s]; exact cF_1 _, by rw [e, zu_n (by omega)]; exact cF_0 _, fun h => by rw [e, zu_n (by omega)]; omega, fun j h1 h2 h3 => by rw [e, zu_n h2]⟩
theorem cF_m {g g2 : Nat → Int32} {f w : Nat} (hw : w = 3) (e : g2 = upd g (5 * f + w) (g (5 * f + w) + 1)) : cF g g2 f 0 1 0 := by
  subst hw
  exact ⟨by rw [e, zu_n (by omega)]; exact cF_0 _, by rw [e, zu_s]; exact cF_1 _, fun h => by rw [e, zu_n (by omega)]; omega, fun j h1 h2 h3 => by rw [e, zu_n h3]⟩
theorem cF_w0 {g : Nat → Int32} {f : Nat} {x : Int} (h : x ≤ (g (5 * f + 1)).toInt) : cF g g f 0 0 x := ⟨cF_0 _, cF_0 _, fun _ => by omega, fun _ _ _ _ => rfl⟩
theorem cF_w1 {g g2 : Nat → Int32} {f : Nat} {x : Int} {v : Int32} (e : g2 = upd g (5 * f + 1) v) (hv : v.toInt = x) (h : (g (5 * f + 1)).toInt ≤ x) : cF g g2 f 0 0 x :=
  ⟨by rw [e, zu_n (by omega)]; exact cF_0 _, by rw [e, zu_n (by omega)]; exact cF_0 _, fun _ => by rw [e, zu_s]; omega, fun j h1 h2 h3 => by rw [e, zu_n h1]⟩
/-- while names are told -/
def cT (g g2 : Nat → Int32) (f : Nat) (w : Int) : Prop := (0 ≤ (g (5 * f + 1)).toInt → (g2 (5 * f + 1)).toInt = max (g (5 * f + 1)).toInt w) ∧ ∀ j, j ≠ 5 * f → j ≠ 5 * f + 1 → g2 j = g j
theorem cT_0 {g : Nat → Int32} {f : Nat} {w : Int} (h : w ≤ (g (5 * f + 1)).toInt) : cT g g f w := ⟨fun _ => by omega, fun _ _ _ => rfl⟩
theorem cT_s {g g1 g2 g3 : Nat → Int32} {f : Nat} {w w2 : Int} {v : Int32} (h : cT g g1 f w) (p : cF g1 g2 f 0 0 w2) (hw : w ≤ w2) (e : g3 = upd g2 (5 * f + 0) v) : cT g g3 f w2 := by
  obtain ⟨h1, h2⟩ := h
  obtain ⟨p1, p2, p3, p4⟩ := p
  refine ⟨fun g0 => ?_, fun j j1 j2 => ?_⟩
  · have := h1 g0
    rw [e, zu_n (by omega), p3 (by omega)]; omega
  · rw [e, zu_n (by omega)]
    by_cases u : j = 5 * f + 2
    · rw [u, p1, ← cF_0, h2 _ (by omega) (by omega)]
    · by_cases v : j = 5 * f + 3
      · rw [v, p2, ← cF_0, h2 _ (by omega) (by omega)]
      · rw [p4 j j2 u v, h2 j j1 j2]

end
section
/-! what a program is, over a row of tokens: T their sorts, V their words; a place is a token's number -/
/-- an implication that omega does not see -/
def sp_im (a b : Prop) : Prop := a → b
/-- the first below n at which f is w, else n -/
def sp_fi (f : Nat → Int64) (w : Int64) : Nat → Nat
  | 0 => 0
  | n + 1 => if sp_fi f w n < n then sp_fi f w n else if f n = w then n else n + 1
theorem sp_fi_le {f : Nat → Int64} {w : Int64} : ∀ n : Nat, sp_fi f w n ≤ n
  | 0 => Nat.le_refl _
  | n + 1 => by
    have := sp_fi_le (f := f) (w := w) n
    unfold sp_fi
    split
    · omega
    · split <;> omega
theorem sp_fi_at {f : Nat → Int64} {w : Int64} : ∀ n : Nat, sp_fi f w n < n → f (sp_fi f w n) = w
  | 0, h => absurd h (Nat.not_lt_zero _)
  | n + 1, h => by
    unfold sp_fi at h ⊢
    split
    · rename_i g; exact sp_fi_at n g
    · rename_i g
      rw [if_neg g] at h
      split
      · assumption
      · rename_i g2; rw [if_neg g2] at h; omega
theorem sp_fi_ne {f : Nat → Int64} {w : Int64} : ∀ (n j : Nat), j < sp_fi f w n → f j ≠ w
  | 0, j, h => absurd h (Nat.not_lt_zero _)
  | n + 1, j, h => by
    have hl := sp_fi_le (f := f) (w := w) n
    unfold sp_fi at h
    split at h
    · exact sp_fi_ne n j h
    · rename_i g
      have e : sp_fi f w n = n := by omega
      split at h
      · exact sp_fi_ne n j (by omega)
      · rename_i g2
        by_cases u : j = n
        · rw [u]; exact g2
        · exact sp_fi_ne n j (by omega)
theorem sp_fi_eq {f : Nat → Int64} {w : Int64} {n k : Nat} (hk : k ≤ n) (h1 : ∀ j, j < k → f j ≠ w) (h2 : k = n ∨ f k = w) : sp_fi f w n = k := by
  have hl := sp_fi_le (f := f) (w := w) n
  rcases Nat.lt_trichotomy (sp_fi f w n) k with h | h | h
  · exact absurd (sp_fi_at n (by omega)) (h1 _ h)
  · exact h
  · rcases h2 with rfl | h2
    · omega
    · exact absurd h2 (sp_fi_ne n k h)
theorem sp_fi_none {f : Nat → Int64} {w : Int64} {n : Nat} (h1 : ∀ j, j < n → f j ≠ w) : sp_fi f w n = n := sp_fi_eq (Nat.le_refl _) h1 (Or.inl rfl)
/-- the token, the kinds (how many, words, fields), the calls -/
abbrev sp_S := Nat × Nat × (Nat → Int64) × (Nat → Int32) × List (Int64 × Int × Int)
def sp_to (s : sp_S) (a : Nat) : sp_S := (a, s.2)
def sp_ca (s : sp_S) (w : Int64) (n p : Int) : sp_S := (s.1, s.2.1, s.2.2.1, s.2.2.2.1, s.2.2.2.2 ++ [(w, n, p)])
/-- the kind at hand: its number -/
def sp_ki (V : Nat → Int64) (s : sp_S) : Option (Nat × sp_S) :=
  if sp_fi s.2.2.1 (V s.1) s.2.1 < s.2.1 then some (sp_fi s.2.2.1 (V s.1) s.2.1, s)
  else if 20 ≤ s.2.1 then none
  else some (s.2.1, (s.1, s.2.1 + 1, vp_updL s.2.2.1 s.2.1 (V s.1), upd s.2.2.2.1 s.2.1 (-1), s.2.2.2.2))
/-- a kind told to its end with n fields -/
def sp_te (k : Nat) (n : Int) (s : sp_S) : Option sp_S :=
  if (s.2.2.2.1 k).toInt = -1 then some (s.1, s.2.1, s.2.2.1, upd s.2.2.2.1 k (Int32.ofInt n), s.2.2.2.2)
  else if (s.2.2.2.1 k).toInt = n then some s else none
/-- a program's text as a tree; rows of arguments, of arms are nil and cons -/
abbrev Tm := Lean.RArray (Option (Nat × Int × Int × Nat × Nat × Int64))
abbrev Tm.nil : Tm := Lean.RArray.leaf none
abbrev Tm.num (p v : Int) : Tm := Lean.RArray.leaf (some (0, p, v, 0, 0, 0))
abbrev Tm.use (p : Int) (s : Nat) : Tm := Lean.RArray.leaf (some (1, p, 0, s, 0, 0))
abbrev Tm.call (p : Int) (w : Int64) (a : Tm) : Tm := Lean.RArray.branch 0 (Lean.RArray.leaf (some (0, p, 0, 0, 0, w))) a
abbrev Tm.made (p : Int) (k : Nat) (a : Tm) : Tm := Lean.RArray.branch 0 (Lean.RArray.leaf (some (1, p, 0, k, 0, 0))) a
abbrev Tm.mat (p : Int) (s : Nat) (a : Tm) : Tm := Lean.RArray.branch 0 (Lean.RArray.leaf (some (2, p, 0, s, 0, 0))) a
abbrev Tm.arm (p k : Int) (h m : Nat) (a : Tm) : Tm := Lean.RArray.branch 0 (Lean.RArray.leaf (some (3, p, k, h, m, 0))) a
abbrev Tm.bin (p o : Int) (a b : Tm) : Tm := Lean.RArray.branch 1 (Lean.RArray.leaf (some (0, p, o, 0, 0, 0))) (Lean.RArray.branch 0 a b)
abbrev Tm.tlet (p : Int) (s : Nat) (a b : Tm) : Tm := Lean.RArray.branch 1 (Lean.RArray.leaf (some (1, p, 0, s, 0, 0))) (Lean.RArray.branch 0 a b)
abbrev Tm.ite (p : Int) (a b c : Tm) : Tm := Lean.RArray.branch 2 (Lean.RArray.leaf (some (0, p, 0, 0, 0, 0))) (Lean.RArray.branch 0 a (Lean.RArray.branch 0 b c))
abbrev Tm.cons (a b : Tm) : Tm := Lean.RArray.branch 3 a b
/-- one more behind a row -/
def tm_sn : Tm → Tm → Tm
  | .branch (_ + 3) a b, t => Tm.cons a (tm_sn b t)
  | _, t => Tm.cons t Tm.nil
def tm_ln : Tm → Nat
  | .branch (_ + 3) _ b => tm_ln b + 1
  | _ => 0
theorem tm_ln_sn (t : Tm) : ∀ a : Tm, tm_ln (tm_sn a t) = tm_ln a + 1
  | .branch (_ + 3) a b => by
    show tm_ln (tm_sn b t) + 1 = tm_ln b + 1 + 1
    rw [tm_ln_sn t b]
  | .leaf (some (0, _, _, _, _, _)) => rfl
  | .leaf (some (_ + 1, _, _, _, _, _)) => rfl
  | .branch 0 (.leaf (some (0, _, _, _, _, _))) _ => rfl
  | .branch 0 (.leaf (some (1, _, _, _, _, _))) _ => rfl
  | .branch 1 (.leaf (some (0, _, _, _, _, _))) (.branch _ _ _) => rfl
  | .branch 1 (.leaf (some (_ + 1, _, _, _, _, _))) (.branch _ _ _) => rfl
  | .branch 2 (.leaf (some (_, _, _, _, _, _))) (.branch _ _ (.branch _ _ _)) => rfl
  | .branch 0 (.leaf (some (2, _, _, _, _, _))) _ => rfl
  | .branch 0 (.leaf (some (_ + 3, _, _, _, _, _))) _ => rfl
  | .leaf none => rfl
  | .branch 0 (.leaf none) _ => rfl
  | .branch 0 (.branch _ _ _) _ => rfl
  | .branch 1 (.leaf none) _ => rfl
  | .branch 1 (.branch _ _ _) _ => rfl
  | .branch 1 (.leaf (some (0, _, _, _, _, _))) (.leaf _) => rfl
  | .branch 1 (.leaf (some (_ + 1, _, _, _, _, _))) (.leaf _) => rfl
  | .branch 2 (.leaf none) _ => rfl
  | .branch 2 (.branch _ _ _) _ => rfl
  | .branch 2 (.leaf (some (_, _, _, _, _, _))) (.leaf _) => rfl
  | .branch 2 (.leaf (some (_, _, _, _, _, _))) (.branch _ _ (.leaf _)) => rfl
/-- where a name stands among the names around -/
def sp_ix : List Int64 → Int64 → Nat
  | [], _ => 0
  | a :: l, w => if a = w then 0 else sp_ix l w + 1
theorem sp_ix_eq : ∀ {L : List Int64} {w : Int64} {j : Nat}, L[j]? = some w → (∀ i, i < j → L[i]? ≠ some w) → sp_ix L w = j
  | [], w, j, h, _ => by simp at h
  | a :: l, w, 0, h, _ => by
    have e : a = w := by simpa using h
    unfold sp_ix; rw [if_pos e]
  | a :: l, w, j + 1, h, hn => by
    have e : ¬ a = w := fun e => hn 0 (by omega) (by simp [e])
    unfold sp_ix; rw [if_neg e, sp_ix_eq (L := l) (j := j) (by simpa using h) (fun i hi => by have := hn (i + 1) (by omega); simpa using this)]
/-- a pattern's names, from its bracket or comma on -/
def sp_pn (T : Nat → Int32) (V : Nat → Int64) : Nat → List Int64 → Nat → Option (List Int64 × Nat)
  | 0, _, _ => none
  | n + 1, N, a =>
    if (T (a + 1)).toInt = 258 ∧ V (a + 1) ∉ N ∧ N.length < 24 then
      if (T (a + 2)).toInt = 44 then sp_pn T V n (N ++ [V (a + 1)]) (a + 2)
      else if (T (a + 2)).toInt = 41 then some (N ++ [V (a + 1)], a + 3) else none
    else none
/-- a pattern, from its kind on -/
def sp_pa (T : Nat → Int32) (V : Nat → Int64) (N : List Int64) (k : Nat) (s : sp_S) : Option (List Int64 × sp_S) :=
  if (T (s.1 + 1)).toInt = 40 then (sp_pn T V 3 N (s.1 + 1)).bind fun q => (sp_te k ((q.1.length : Int) - N.length) (sp_to s q.2)).bind fun s2 => some (q.1, s2)
  else (sp_te k 0 (sp_to s (s.1 + 1))).bind fun s2 => some (N, s2)
/-- arguments, from the bracket or comma on; c so far -/
def sp_ar (T : Nat → Int32) (E : List Int64 → sp_S → Option (Tm × sp_S)) (most : Nat) (N : List Int64) : Nat → Tm → sp_S → Option (Tm × sp_S)
  | 0, _, _ => none
  | n + 1, c, s =>
    if tm_ln c < most then (E N (sp_to s (s.1 + 1))).bind fun q =>
      if (T q.2.1).toInt = 44 then sp_ar T E most N n (tm_sn c q.1) q.2
      else if (T q.2.1).toInt = 41 then some (tm_sn c q.1, sp_to q.2 (q.2.1 + 1)) else none
    else none
def sp_at (T P : Nat → Int32) (V : Nat → Int64) (E : List Int64 → sp_S → Option (Tm × sp_S)) (N : List Int64) (s : sp_S) : Option (Tm × sp_S) :=
  if (T s.1).toInt = 260 then some (Tm.num (P s.1).toInt (Int64.toInt32 (V s.1)).toInt, sp_to s (s.1 + 1))
  else if (T s.1).toInt = 258 then
    if (T (s.1 + 1)).toInt = 40 then (sp_ar T E 2000 N 2001 Tm.nil (sp_to s (s.1 + 1))).bind fun q => some (Tm.call (P s.1).toInt (V s.1) q.1, sp_ca q.2 (V s.1) (tm_ln q.1 : Int) (P s.1).toInt)
    else if V s.1 ∈ N then some (Tm.use (P s.1).toInt (sp_ix N (V s.1)), sp_to s (s.1 + 1)) else some (Tm.call (P s.1).toInt (V s.1) Tm.nil, sp_ca (sp_to s (s.1 + 1)) (V s.1) 0 (P s.1).toInt)
  else if (T s.1).toInt = 259 then (sp_ki V s).bind fun q =>
    if (T (s.1 + 1)).toInt = 40 then (sp_ar T E 3 N 2001 Tm.nil (sp_to q.2 (s.1 + 1))).bind fun q2 => (sp_te q.1 (tm_ln q2.1 : Int) q2.2).bind fun s3 => some (Tm.made (P s.1).toInt q.1 q2.1, s3)
    else (sp_te q.1 0 (sp_to q.2 (s.1 + 1))).bind fun s3 => some (Tm.made (P s.1).toInt q.1 Tm.nil, s3)
  else if (T s.1).toInt = 40 then (E N (sp_to s (s.1 + 1))).bind fun q => if (T q.2.1).toInt = 41 then some (q.1, sp_to q.2 (q.2.1 + 1)) else none
  else none
def sp_prL (T P : Nat → Int32) (V : Nat → Int64) (E : List Int64 → sp_S → Option (Tm × sp_S)) (N : List Int64) : Nat → Tm × sp_S → Option (Tm × sp_S)
  | 0, _ => none
  | n + 1, s => if (T s.2.1).toInt = 42 then (sp_at T P V E N (sp_to s.2 (s.2.1 + 1))).bind fun q => sp_prL T P V E N n (Tm.bin (P s.2.1).toInt 42 s.1 q.1, q.2) else some s
def sp_pt (T P : Nat → Int32) (V : Nat → Int64) (E : List Int64 → sp_S → Option (Tm × sp_S)) (N : List Int64) (s : sp_S) : Option (Tm × sp_S) := (sp_at T P V E N s).bind (sp_prL T P V E N 2001)
def sp_smL (T P : Nat → Int32) (V : Nat → Int64) (E : List Int64 → sp_S → Option (Tm × sp_S)) (N : List Int64) : Nat → Tm × sp_S → Option (Tm × sp_S)
  | 0, _ => none
  | n + 1, s => if (T s.2.1).toInt = 43 ∨ (T s.2.1).toInt = 45 then (sp_pt T P V E N (sp_to s.2 (s.2.1 + 1))).bind fun q => sp_smL T P V E N n (Tm.bin (P s.2.1).toInt (T s.2.1).toInt s.1 q.1, q.2) else some s
def sp_sm (T P : Nat → Int32) (V : Nat → Int64) (E : List Int64 → sp_S → Option (Tm × sp_S)) (N : List Int64) (s : sp_S) : Option (Tm × sp_S) := (sp_pt T P V E N s).bind (sp_smL T P V E N 2001)
def sp_cm (T P : Nat → Int32) (V : Nat → Int64) (E : List Int64 → sp_S → Option (Tm × sp_S)) (N : List Int64) (s : sp_S) : Option (Tm × sp_S) :=
  (sp_sm T P V E N s).bind fun s1 => if (T s1.2.1).toInt = 60 then (sp_sm T P V E N (sp_to s1.2 (s1.2.1 + 1))).bind fun q => some (Tm.bin (P s1.2.1).toInt 60 s1.1 q.1, q.2) else some s1
def sp_le (T P : Nat → Int32) (V : Nat → Int64) (E : List Int64 → sp_S → Option (Tm × sp_S)) (N : List Int64) (s : sp_S) : Option (Tm × sp_S) :=
  if (T (s.1 + 1)).toInt = 258 ∧ V (s.1 + 1) ∉ N ∧ N.length < 24 then
    if (T (s.1 + 2)).toInt = 61 then (E N (sp_to s (s.1 + 3))).bind fun s1 => if (T s1.2.1).toInt = 263 then (E (N ++ [V (s.1 + 1)]) (sp_to s1.2 (s1.2.1 + 1))).bind fun s2 => some (Tm.tlet (P s.1).toInt N.length s1.1 s2.1, s2.2) else none
    else none
  else none
def sp_if (T P : Nat → Int32) (E : List Int64 → sp_S → Option (Tm × sp_S)) (N : List Int64) (s : sp_S) : Option (Tm × sp_S) :=
  (E N (sp_to s (s.1 + 1))).bind fun s1 => if (T s1.2.1).toInt = 265 then (E N (sp_to s1.2 (s1.2.1 + 1))).bind fun s2 => if (T s2.2.1).toInt = 266 then (E N (sp_to s2.2 (s2.2.1 + 1))).bind fun s3 => some (Tm.ite (P s.1).toInt s1.1 s2.1 s3.1, s3.2) else none else none
/-- what is behind an arm's names -/
def sp_ab (T : Nat → Int32) (E : List Int64 → sp_S → Option (Tm × sp_S)) (N : List Int64) (s : sp_S) : Option (Tm × sp_S) := if (T s.1).toInt = 261 then E N (sp_to s (s.1 + 1)) else none
/-- one arm; -2 for all kinds -/
def sp_am (T P : Nat → Int32) (V : Nat → Int64) (E : List Int64 → sp_S → Option (Tm × sp_S)) (L : List Int64) (Q : List Nat) (s : sp_S) : Option (Int × Tm × sp_S) :=
  if (T s.1).toInt = 95 then (sp_ab T E L (sp_to s (s.1 + 1))).bind fun s2 => some (-2, Tm.arm (P s.1).toInt (-1) L.length 0 s2.1, s2.2)
  else if (T s.1).toInt = 259 then (sp_ki V s).bind fun q => if q.1 ∈ Q then none else (sp_pa T V L q.1 q.2).bind fun p => (sp_ab T E p.1 p.2).bind fun s2 => some ((q.1 : Int), Tm.arm (P s.1).toInt (q.1 : Int) L.length (p.1.length - L.length) s2.1, s2.2)
  else none
/-- n arms at most, from the first token of one on -/
def sp_as (T P : Nat → Int32) (V : Nat → Int64) (E : List Int64 → sp_S → Option (Tm × sp_S)) (N : List Int64) : Nat → List Nat → Tm → sp_S → Option (Tm × sp_S)
  | 0, _, _, _ => none
  | n + 1, seen, c, s => (sp_am T P V E N seen s).bind fun r =>
    if r.1 = -2 then (if (T r.2.2.1).toInt = 125 then some (tm_sn c r.2.1, sp_to r.2.2 (r.2.2.1 + 1)) else none)
    else if (T r.2.2.1).toInt = 124 then sp_as T P V E N n (r.1.toNat :: seen) (tm_sn c r.2.1) (sp_to r.2.2 (r.2.2.1 + 1))
    else if (T r.2.2.1).toInt = 125 then some (tm_sn c r.2.1, sp_to r.2.2 (r.2.2.1 + 1)) else none
def sp_ma (T P : Nat → Int32) (V : Nat → Int64) (E : List Int64 → sp_S → Option (Tm × sp_S)) (N : List Int64) (s : sp_S) : Option (Tm × sp_S) :=
  if (T (s.1 + 1)).toInt = 258 ∧ V (s.1 + 1) ∈ N then if (T (s.1 + 2)).toInt = 123 then (sp_as T P V E N 8 [] Tm.nil (sp_to s (s.1 + 3))).bind fun q => some (Tm.mat (P s.1).toInt (sp_ix N (V (s.1 + 1))) q.1, q.2) else none else none
def sp_e (T P : Nat → Int32) (V : Nat → Int64) (E : List Int64 → sp_S → Option (Tm × sp_S)) (N : List Int64) (s : sp_S) : Option (Tm × sp_S) :=
  if (T s.1).toInt = 262 then sp_le T P V E N s else if (T s.1).toInt = 264 then sp_if T P E N s else if (T s.1).toInt = 267 then sp_ma T P V E N s else sp_cm T P V E N s
/-- an expression, f deep at most -/
def sp_E (T P : Nat → Int32) (V : Nat → Int64) : Nat → List Int64 → sp_S → Option (Tm × sp_S)
  | 0, _, _ => none
  | f + 1, N, s => sp_e T P V (sp_E T P V f) N s
def sp_tn (T : Nat → Int32) (V : Nat → Int64) : Nat → List Int64 → Nat → Option (List Int64 × Nat)
  | n, N, a => if (T a).toInt = 258 then
      match n with
      | 0 => none
      | n + 1 => if V a ∉ N then sp_tn T V n (N ++ [V a]) (a + 1) else none
    else some (N, a)
/-- the functions: how many, words, names told, trees -/
abbrev sp_F := Nat × (Nat → Int64) × (Nat → Int) × (Nat → Tm)
def sp_df (T P : Nat → Int32) (V : Nat → Int64) (s : sp_S) (F : sp_F) : Option (sp_S × sp_F) :=
  if (T s.1).toInt = 268 ∧ F.1 < 30 then
    if (T (s.1 + 1)).toInt = 258 ∧ sp_fi F.2.1 (V (s.1 + 1)) F.1 = F.1 then (sp_tn T V 6 [] (s.1 + 2)).bind fun q =>
      if (T q.2).toInt = 61 then (sp_E T P V 30 q.1 (sp_to s (q.2 + 1))).bind fun s2 =>
        if (T s2.2.1).toInt = 59 then some (sp_to s2.2 (s2.2.1 + 1), (F.1 + 1, vp_updL F.2.1 F.1 (V (s.1 + 1)), (fun k => if k = F.1 then (q.1.length : Int) else F.2.2.1 k), fun k => if k = F.1 then s2.1 else F.2.2.2 k)) else none
      else none
    else none
  else none
def sp_ds (T P : Nat → Int32) (V : Nat → Int64) : Nat → sp_S → sp_F → Option (sp_S × sp_F)
  | 0, _, _ => none
  | n + 1, s, F => (sp_df T P V s F).bind fun r => if (T r.1.1).toInt = 256 then some r else sp_ds T P V n r.1 r.2
/-- a program: its kinds, its functions -/
def sp_pg (T P : Nat → Int32) (V : Nat → Int64) (s : sp_S) (F : sp_F) : Option (sp_S × sp_F) :=
  (sp_ds T P V 31 s F).bind fun r => if ∀ c ∈ r.1.2.2.2.2, sp_fi r.2.2.1 c.1 r.2.1 < r.2.1 ∧ r.2.2.2.1 (sp_fi r.2.2.1 c.1 r.2.1) = c.2.1 then some r else none
/-! at which place a text that is no program falls: as the functions above, a number where those have none -/
def pf_b {α : Type} (o : Option α) (x : Int) (f : α → Int) : Int := o.elim x f
theorem pf_b_n {α : Type} {o : Option α} {x : Int} {f : α → Int} (h : o = none) : pf_b o x f = x := by rw [h]; rfl
theorem pf_b_s {α : Type} {o : Option α} {a : α} {x : Int} {f : α → Int} (h : o = some a) : pf_b o x f = f a := by rw [h]; rfl
def pf_pn (T P : Nat → Int32) (V : Nat → Int64) : Nat → List Int64 → Nat → Int
  | 0, _, a => (P (a + 1)).toInt
  | n + 1, N, a =>
    if (T (a + 1)).toInt = 258 ∧ V (a + 1) ∉ N ∧ N.length < 24 then
      if (T (a + 2)).toInt = 44 then pf_pn T P V n (N ++ [V (a + 1)]) (a + 2) else (P (a + 2)).toInt
    else (P (a + 1)).toInt
def pf_pa (T P : Nat → Int32) (V : Nat → Int64) (N : List Int64) (a : Nat) : Int :=
  if (T (a + 1)).toInt = 40 then pf_b (sp_pn T V 3 N (a + 1)) (pf_pn T P V 3 N (a + 1)) (fun _ => (P a).toInt) else (P a).toInt
def pf_ar (T P : Nat → Int32) (E : List Int64 → sp_S → Option (Tm × sp_S)) (X : List Int64 → sp_S → Int) (most : Nat) (N : List Int64) : Nat → Tm → sp_S → Int
  | 0, _, s => (P (s.1 + 1)).toInt
  | n + 1, c, s =>
    if tm_ln c < most then pf_b (E N (sp_to s (s.1 + 1))) (X N (sp_to s (s.1 + 1))) fun q =>
      if (T q.2.1).toInt = 44 then pf_ar T P E X most N n (tm_sn c q.1) q.2 else (P q.2.1).toInt
    else (P (s.1 + 1)).toInt
def pf_at (T P : Nat → Int32) (V : Nat → Int64) (E : List Int64 → sp_S → Option (Tm × sp_S)) (X : List Int64 → sp_S → Int) (N : List Int64) (s : sp_S) : Int :=
  if (T s.1).toInt = 258 then pf_ar T P E X 2000 N 2001 Tm.nil (sp_to s (s.1 + 1))
  else if (T s.1).toInt = 259 then pf_b (sp_ki V s) (P s.1).toInt fun q =>
    if (T (s.1 + 1)).toInt = 40 then pf_b (sp_ar T E 3 N 2001 Tm.nil (sp_to q.2 (s.1 + 1))) (pf_ar T P E X 3 N 2001 Tm.nil (sp_to q.2 (s.1 + 1))) (fun _ => (P s.1).toInt) else (P s.1).toInt
  else if (T s.1).toInt = 40 then pf_b (E N (sp_to s (s.1 + 1))) (X N (sp_to s (s.1 + 1))) (fun q => (P q.2.1).toInt)
  else (P s.1).toInt
def pf_prL (T P : Nat → Int32) (V : Nat → Int64) (E : List Int64 → sp_S → Option (Tm × sp_S)) (X : List Int64 → sp_S → Int) (N : List Int64) : Nat → Tm × sp_S → Int
  | 0, _ => 0
  | n + 1, s => pf_b (sp_at T P V E N (sp_to s.2 (s.2.1 + 1))) (pf_at T P V E X N (sp_to s.2 (s.2.1 + 1))) fun q => pf_prL T P V E X N n (Tm.bin (P s.2.1).toInt 42 s.1 q.1, q.2)
def pf_pt (T P : Nat → Int32) (V : Nat → Int64) (E : List Int64 → sp_S → Option (Tm × sp_S)) (X : List Int64 → sp_S → Int) (N : List Int64) (s : sp_S) : Int := pf_b (sp_at T P V E N s) (pf_at T P V E X N s) (pf_prL T P V E X N 2001)
def pf_smL (T P : Nat → Int32) (V : Nat → Int64) (E : List Int64 → sp_S → Option (Tm × sp_S)) (X : List Int64 → sp_S → Int) (N : List Int64) : Nat → Tm × sp_S → Int
  | 0, _ => 0
  | n + 1, s => pf_b (sp_pt T P V E N (sp_to s.2 (s.2.1 + 1))) (pf_pt T P V E X N (sp_to s.2 (s.2.1 + 1))) fun q => pf_smL T P V E X N n (Tm.bin (P s.2.1).toInt (T s.2.1).toInt s.1 q.1, q.2)
def pf_sm (T P : Nat → Int32) (V : Nat → Int64) (E : List Int64 → sp_S → Option (Tm × sp_S)) (X : List Int64 → sp_S → Int) (N : List Int64) (s : sp_S) : Int := pf_b (sp_pt T P V E N s) (pf_pt T P V E X N s) (pf_smL T P V E X N 2001)
def pf_cm (T P : Nat → Int32) (V : Nat → Int64) (E : List Int64 → sp_S → Option (Tm × sp_S)) (X : List Int64 → sp_S → Int) (N : List Int64) (s : sp_S) : Int :=
  pf_b (sp_sm T P V E N s) (pf_sm T P V E X N s) fun s1 => pf_sm T P V E X N (sp_to s1.2 (s1.2.1 + 1))
def pf_le (T P : Nat → Int32) (V : Nat → Int64) (E : List Int64 → sp_S → Option (Tm × sp_S)) (X : List Int64 → sp_S → Int) (N : List Int64) (s : sp_S) : Int :=
  if (T (s.1 + 1)).toInt = 258 ∧ V (s.1 + 1) ∉ N ∧ N.length < 24 then
    if (T (s.1 + 2)).toInt = 61 then pf_b (E N (sp_to s (s.1 + 3))) (X N (sp_to s (s.1 + 3))) fun s1 => if (T s1.2.1).toInt = 263 then X (N ++ [V (s.1 + 1)]) (sp_to s1.2 (s1.2.1 + 1)) else (P s1.2.1).toInt
    else (P (s.1 + 2)).toInt
  else (P (s.1 + 1)).toInt
def pf_if (T P : Nat → Int32) (E : List Int64 → sp_S → Option (Tm × sp_S)) (X : List Int64 → sp_S → Int) (N : List Int64) (s : sp_S) : Int :=
  pf_b (E N (sp_to s (s.1 + 1))) (X N (sp_to s (s.1 + 1))) fun s1 => if (T s1.2.1).toInt = 265 then pf_b (E N (sp_to s1.2 (s1.2.1 + 1))) (X N (sp_to s1.2 (s1.2.1 + 1))) fun s2 => if (T s2.2.1).toInt = 266 then X N (sp_to s2.2 (s2.2.1 + 1)) else (P s2.2.1).toInt
    else (P s1.2.1).toInt
def pf_ab (T P : Nat → Int32) (X : List Int64 → sp_S → Int) (N : List Int64) (s : sp_S) : Int := if (T s.1).toInt = 261 then X N (sp_to s (s.1 + 1)) else (P s.1).toInt
def pf_am (T P : Nat → Int32) (V : Nat → Int64) (X : List Int64 → sp_S → Int) (L : List Int64) (Q : List Nat) (s : sp_S) : Int :=
  if (T s.1).toInt = 95 then pf_ab T P X L (sp_to s (s.1 + 1))
  else if (T s.1).toInt = 259 then pf_b (sp_ki V s) (P s.1).toInt fun q => if q.1 ∈ Q then (P s.1).toInt else pf_b (sp_pa T V L q.1 q.2) (pf_pa T P V L s.1) fun p => pf_ab T P X p.1 p.2
  else (P s.1).toInt
def pf_as (T P : Nat → Int32) (V : Nat → Int64) (E : List Int64 → sp_S → Option (Tm × sp_S)) (X : List Int64 → sp_S → Int) (N : List Int64) : Nat → List Nat → Tm → sp_S → Int
  | 0, _, _, s => (P s.1).toInt
  | n + 1, seen, c, s => pf_b (sp_am T P V E N seen s) (pf_am T P V X N seen s) fun r =>
    if r.1 = -2 then (P r.2.2.1).toInt
    else if (T r.2.2.1).toInt = 124 then pf_as T P V E X N n (r.1.toNat :: seen) (tm_sn c r.2.1) (sp_to r.2.2 (r.2.2.1 + 1)) else (P r.2.2.1).toInt
def pf_ma (T P : Nat → Int32) (V : Nat → Int64) (E : List Int64 → sp_S → Option (Tm × sp_S)) (X : List Int64 → sp_S → Int) (N : List Int64) (s : sp_S) : Int :=
  if (T (s.1 + 1)).toInt = 258 ∧ V (s.1 + 1) ∈ N then if (T (s.1 + 2)).toInt = 123 then pf_as T P V E X N 8 [] Tm.nil (sp_to s (s.1 + 3)) else (P (s.1 + 2)).toInt else (P (s.1 + 1)).toInt
def pf_e (T P : Nat → Int32) (V : Nat → Int64) (E : List Int64 → sp_S → Option (Tm × sp_S)) (X : List Int64 → sp_S → Int) (N : List Int64) (s : sp_S) : Int :=
  if (T s.1).toInt = 262 then pf_le T P V E X N s else if (T s.1).toInt = 264 then pf_if T P E X N s else if (T s.1).toInt = 267 then pf_ma T P V E X N s else pf_cm T P V E X N s
def pf_E (T P : Nat → Int32) (V : Nat → Int64) : Nat → List Int64 → sp_S → Int
  | 0, _, s => (P s.1).toInt
  | f + 1, N, s => pf_e T P V (sp_E T P V f) (pf_E T P V f) N s
def pf_tn (P : Nat → Int32) (V : Nat → Int64) : Nat → List Int64 → Nat → Int
  | 0, _, a => (P a).toInt
  | n + 1, N, a => if V a ∉ N then pf_tn P V n (N ++ [V a]) (a + 1) else (P a).toInt
def pf_df (T P : Nat → Int32) (V : Nat → Int64) (s : sp_S) (F : sp_F) : Int :=
  if (T s.1).toInt = 268 ∧ F.1 < 30 then
    if (T (s.1 + 1)).toInt = 258 ∧ sp_fi F.2.1 (V (s.1 + 1)) F.1 = F.1 then pf_b (sp_tn T V 6 [] (s.1 + 2)) (pf_tn P V 6 [] (s.1 + 2)) fun q =>
      if (T q.2).toInt = 61 then pf_b (sp_E T P V 30 q.1 (sp_to s (q.2 + 1))) (pf_E T P V 30 q.1 (sp_to s (q.2 + 1))) fun s2 => (P s2.2.1).toInt
      else (P q.2).toInt
    else (P (s.1 + 1)).toInt
  else (P s.1).toInt
def pf_ds (T P : Nat → Int32) (V : Nat → Int64) : Nat → sp_S → sp_F → Int
  | 0, s, _ => (P s.1).toInt
  | n + 1, s, F => pf_b (sp_df T P V s F) (pf_df T P V s F) fun r => pf_ds T P V n r.1 r.2
/-- a call that is wrong -/
def pf_bad (F : sp_F) (c : Int64 × Int × Int) : Prop := ¬ (sp_fi F.2.1 c.1 F.1 < F.1 ∧ F.2.2.1 (sp_fi F.2.1 c.1 F.1) = c.2.1)
/-- p is the place at which it falls -/
def pf_pg (T P : Nat → Int32) (V : Nat → Int64) (s : sp_S) (F : sp_F) (p : Int) : Prop := (sp_ds T P V 31 s F = none ∧ p = pf_ds T P V 31 s F) ∨ ∃ r, sp_ds T P V 31 s F = some r ∧ (∃ c ∈ r.1.2.2.2.2, pf_bad r.2 c ∧ p = c.2.2) ∧ ∀ c ∈ r.1.2.2.2.2, pf_bad r.2 c → p ≤ c.2.2
theorem pf_pg_1 {T P : Nat → Int32} {V : Nat → Int64} {s : sp_S} {F : sp_F} {p q : Int} (h : pf_pg T P V s F p) (h2 : pf_pg T P V s F q) : p = q := by
  rcases h with ⟨e, k⟩ | ⟨r, e, ⟨c, c1, c2, c3⟩, k⟩
  · rcases h2 with ⟨-, k2⟩ | ⟨r2, e2, -⟩
    · rw [k, k2]
    · rw [e] at e2; cases e2
  · rcases h2 with ⟨e2, -⟩ | ⟨r2, e2, ⟨d, d1, d2, d3⟩, k2⟩
    · rw [e] at e2; cases e2
    · rw [e] at e2
      cases e2
      have := k d d1 d2
      have := k2 c c1 c2
      omega
theorem lc_rf {x : Int64} : (lg_cmp x x).toInt = 0 := by rw [(lg_cmp_eq x x).mpr rfl]; rfl
theorem lc_eq {x y : Int64} (h : (lg_cmp x y).toInt = 0) : x = y := (lg_cmp_eq x y).mp (Int32.toInt_inj.mp h)
theorem sp_no1 {f : Nat → Int64} {w : Int64} {i x : Int32} (h : ∀ j : Nat, (j : Int) < i.toInt → f j ≠ w) (h0 : 0 ≤ i.toInt) (hx : x.toInt = i.toInt + 1) (hn : f (Int32.toNatClampNeg i) ≠ w) : ∀ j : Nat, (j : Int) < x.toInt → f j ≠ w := fun j hj => by
  have := zn_nat h0
  by_cases u : j = Int32.toNatClampNeg i
  · rw [u]; exact hn
  · exact h j (by omega)
/-- what a search says -/
def sp_fd (f : Nat → Int64) (w : Int64) (z r : Int32) : Prop := sp_fi f w (Int32.toNatClampNeg z) = if r.toInt = -1 then Int32.toNatClampNeg z else Int32.toNatClampNeg r
theorem sp_fd_n {f : Nat → Int64} {w : Int64} {z r : Int32} (h0 : 0 ≤ z.toInt) (hr : r.toInt = -1) (h : ∀ j : Nat, (j : Int) < z.toInt → f j ≠ w) : sp_fd f w z r := by
  have := zn_nat h0
  unfold sp_fd
  rw [if_pos hr]
  exact sp_fi_none (fun j hj => h j (by omega))
theorem sp_fd_y {f : Nat → Int64} {w : Int64} {z r : Int32} (h0 : 0 ≤ r.toInt) (h1 : r.toInt < z.toInt) (hf : f (Int32.toNatClampNeg r) = w) (h : ∀ j : Nat, (j : Int) < r.toInt → f j ≠ w) : sp_fd f w z r := by
  have := zn_nat h0
  have := zn_nat (x := z) (by omega)
  unfold sp_fd
  rw [if_neg (by omega)]
  exact sp_fi_eq (by omega) (fun j hj => h j (by omega)) (Or.inr hf)
/-- the names around, in their row -/
def sp_nl (gn : Nat → Int64) (ar : Int32) (L : List Int64) : Prop := (L.length : Int) = ar.toInt ∧ ∀ k : Nat, k < L.length → L[k]? = some (gn k)
theorem sp_nl_mem {gn : Nat → Int64} {ar : Int32} {L : List Int64} (h : sp_nl gn ar L) {w : Int64} : w ∈ L ↔ ∃ k : Nat, (k : Int) < ar.toInt ∧ gn k = w := by
  constructor
  · intro g
    obtain ⟨k, hk, e⟩ := List.mem_iff_getElem.mp g
    refine ⟨k, by have := h.1; omega, ?_⟩
    have := h.2 k hk
    rw [List.getElem?_eq_getElem hk, e] at this
    exact (Option.some.inj this).symm
  · rintro ⟨k, hk, e⟩
    have hk2 : k < L.length := by have := h.1; omega
    have := h.2 k hk2
    rw [e] at this
    exact List.mem_of_getElem? this
theorem sp_nl_ap {gn gn2 : Nat → Int64} {ar ar2 : Int32} {L : List Int64} {w : Int64} (h : sp_nl gn ar L) (e : gn2 = vp_updL gn (Int32.toNatClampNeg ar) w) (ha : ar2.toInt = ar.toInt + 1) : sp_nl gn2 ar2 (L ++ [w]) := by
  have h0 := h.1
  have hn := zn_nat (x := ar) (by omega)
  refine ⟨by rw [List.length_append]; show ((L.length + 1 : Nat) : Int) = _; omega, fun k hk => ?_⟩
  rw [List.length_append] at hk
  have hk : k < L.length + 1 := hk
  by_cases u : k = L.length
  · have e2 : Int32.toNatClampNeg ar = L.length := by omega
    rw [u, e, e2]
    simp [vp_updL]
  · have e2 : k ≠ Int32.toNatClampNeg ar := by omega
    rw [List.getElem?_append_left (by omega), h.2 k (by omega), e]
    simp [vp_updL, e2]
theorem sp_nl_dn {gn : Nat → Int64} {ar ar2 : Int32} {L M : List Int64} (h : sp_nl gn ar (L ++ M)) (ha : (L.length : Int) = ar2.toInt) : sp_nl gn ar2 L := ⟨ha, fun k hk => by
  have := h.2 k (by rw [List.length_append]; omega)
  rw [List.getElem?_append_left hk] at this
  exact this⟩
/-- is it a name around? -/
def sp_in (r : Int32) (w : Int64) (L : List Int64) : Prop := (r.toInt = -1 → w ∉ L) ∧ (r.toInt ≠ -1 → w ∈ L ∧ r.toInt = (sp_ix L w : Int))
theorem sp_in_n {gn : Nat → Int64} {ar r : Int32} {L : List Int64} {w : Int64} (h : sp_nl gn ar L) (hr : r.toInt = -1) (hno : ∀ j : Nat, (j : Int) < ar.toInt → gn j ≠ w) : sp_in r w L := ⟨fun _ g => by
  obtain ⟨k, hk, e⟩ := (sp_nl_mem h).mp g
  exact hno k hk e, fun g => absurd hr g⟩
theorem sp_in_y {gn : Nat → Int64} {ar r : Int32} {L : List Int64} {w : Int64} (h : sp_nl gn ar L) (h0 : 0 ≤ r.toInt) (h1 : r.toInt < ar.toInt) (e : gn (Int32.toNatClampNeg r) = w) (hno : ∀ j : Nat, (j : Int) < r.toInt → gn j ≠ w) : sp_in r w L := ⟨fun g => by omega, fun _ => ⟨(sp_nl_mem h).mpr ⟨_, by have := zn_nat h0; omega, e⟩, by
  have hn := zn_nat h0
  have hl := h.1
  rw [sp_ix_eq (j := Int32.toNatClampNeg r) (by rw [h.2 _ (by omega), e]) (fun i hi q => hno i (by omega) (by rw [h.2 i (by omega)] at q; exact Option.some.inj q))]; exact hn.symm⟩⟩
/-- a name may be told here -/
def sp_nn (so : Int32) (wd : Int64) (ar : Int32) (L : List Int64) : Prop := so.toInt = 258 ∧ wd ∉ L ∧ ar.toInt < 24
/-- the word at hand -/
def sp_wd (gw : Nat → Int64) (pa : Int32) (wd : Int64) : Prop := wd = gw (Int32.toNatClampNeg pa)
def sp_bg (so : Int32) : Prop := so.toInt = 262 ∨ so.toInt = 264 ∨ so.toInt = 267 ∨ so.toInt = 260 ∨ so.toInt = 258 ∨ so.toInt = 259 ∨ so.toInt = 40
/-- the kind at hand -/
def sp_kh (wd : Int64) (kz : Int32) (kw : Nat → Int64) (kf : Nat → Int32) (o : Option (Int32 × Int32 × (Nat → Int64) × (Nat → Int32))) : Prop := ∀ (V : Nat → Int64) (a : Nat) (C : List (Int64 × Int × Int)), V a = wd → sp_ki V (a, Int32.toNatClampNeg kz, kw, kf, C) = o.map (fun q => (Int32.toNatClampNeg q.1, (a, Int32.toNatClampNeg q.2.1, q.2.2.1, q.2.2.2, C)))
theorem sp_kh_y {wd : Int64} {kz r : Int32} {kw : Nat → Int64} {kf : Nat → Int32} (h : sp_fd kw wd kz r) (h0 : 0 ≤ r.toInt) (h1 : r.toInt < kz.toInt) : sp_kh wd kz kw kf (some (r, kz, kw, kf)) := fun V a C e => by
  have := zn_nat h0
  have := zn_nat (x := kz) (by omega)
  unfold sp_fd at h
  rw [if_neg (by omega)] at h
  unfold sp_ki
  simp only [e, h]
  rw [if_pos (by omega)]; rfl
theorem sp_kh_a {wd : Int64} {kz r q kz2 : Int32} {kw kw2 : Nat → Int64} {kf kf2 : Nat → Int32} (h : sp_fd kw wd kz q) (hq : q.toInt = -1) (h0 : 0 ≤ kz.toInt) (h20 : kz.toInt < 20) (er : r.toInt = kz.toInt) (ez : kz2.toInt = kz.toInt + 1) (ew : kw2 = vp_updL kw (Int32.toNatClampNeg kz) wd) (ef : kf2 = upd kf (Int32.toNatClampNeg kz) (-1)) : sp_kh wd kz kw kf (some (r, kz2, kw2, kf2)) := fun V a C e => by
  have := zn_nat h0
  have := zn_nat (x := kz2) (by omega)
  have e1 : Int32.toNatClampNeg kz2 = Int32.toNatClampNeg kz + 1 := by omega
  have e2 : r = kz := Int32.toInt_inj.mp er
  unfold sp_fd at h
  rw [if_pos hq] at h
  unfold sp_ki
  simp only [e, h]
  rw [if_neg (by omega), if_neg (by omega), ← ew, ← ef, ← e1, e2]; rfl
theorem sp_kh_x {wd : Int64} {kz q : Int32} {kw : Nat → Int64} {kf : Nat → Int32} (h : sp_fd kw wd kz q) (hq : q.toInt = -1) (h20 : 20 ≤ kz.toInt) : sp_kh wd kz kw kf none := fun V a C e => by
  have := zn_nat (x := kz) (by omega)
  unfold sp_fd at h
  rw [if_pos hq] at h
  unfold sp_ki
  simp only [e, h]
  rw [if_neg (by omega), if_pos (by omega)]; rfl
/-- a kind told to its end -/
def sp_td (ki fi : Int32) (kf : Nat → Int32) (o : Option (Nat → Int32)) : Prop := ∀ (a z : Nat) (kw : Nat → Int64) (C : List (Int64 × Int × Int)), sp_te (Int32.toNatClampNeg ki) fi.toInt (a, z, kw, kf, C) = o.map (fun q => (a, z, kw, q, C))
theorem sp_td_1 {ki fi : Int32} {kf kf2 : Nat → Int32} (h : (kf (Int32.toNatClampNeg ki)).toInt = -1) (e : kf2 = upd kf (Int32.toNatClampNeg ki) fi) : sp_td ki fi kf (some kf2) := fun a z kw C => by
  unfold sp_te
  rw [if_pos h, Int32.ofInt_toInt, ← e]; rfl
theorem sp_td_2 {ki fi : Int32} {kf : Nat → Int32} (h : (kf (Int32.toNatClampNeg ki)).toInt ≠ -1) (e : (kf (Int32.toNatClampNeg ki)).toInt = fi.toInt) : sp_td ki fi kf (some kf) := fun a z kw C => by
  unfold sp_te
  rw [if_neg h, if_pos e]; rfl
theorem sp_td_x {ki fi : Int32} {kf : Nat → Int32} (h : (kf (Int32.toNatClampNeg ki)).toInt ≠ -1) (e : (kf (Int32.toNatClampNeg ki)).toInt ≠ fi.toInt) : sp_td ki fi kf none := fun a z kw C => by
  unfold sp_te
  rw [if_neg h, if_neg e]; rfl

set_option maxHeartbeats 4000000 in
set_option maxRecDepth 100000 in
theorem c_X4_find_s (l : Launch) (dC : Nat → ClassId) (dI : Nat → Nat → Nat) (aK aV : Nat → Nat) (h0 : Nat) (kw : Nat) (kf : Nat) (k1 : ClassId) (k2 : ClassId) (z : Int32) (gw : Nat → Int64) (gf : Nat → Int32) (nm : Int64) (sz : Nat) (hz0 : 0 ≤ z.toInt) (hz1 : z.toInt ≤ 20) : Met l yX4_find (Cond.code yX4_find cX4_find 4 (some .int) :: zw) ({ frames := 8, cells := 0, slots := 0, locals := 200 }) (va_Pc [.ref h0, .long nm] (zP dC dI aK aV sz [(k1, .long), (k2, .int)] [(h0, .inr (4, [.ref kw, .ref kf, .int z])), (kw, .inl (k1, 20, .inr (.inl gw))), (kf, .inl (k2, 20, .inl gf))])) (va_Qi (fun (r : Int32) (u : Unit) => (-1 ≤ r.toInt) ∧ (r.toInt < z.toInt) ∧ (sp_fd gw nm z r)) (fun u => zQ dC dI (va_A [(h0, .inr (4, [.ref kw, .ref kf, .int z])), (kw, .inl (k1, 20, .inr (.inl gw))), (kf, .inl (k2, 20, .inl gf))] sz) [(k1, .long), (k2, .int)] [(h0, .inr (4, [.ref kw, .ref kf, .int z])), (kw, .inl (k1, 20, .inr (.inl gw))), (kf, .inl (k2, 20, .inl gf))]) (va_A [(h0, .inr (4, [.ref kw, .ref kf, .int z])), (kw, .inl (k1, 20, .inr (.inl gw))), (kf, .inl (k2, 20, .inl gf))] sz)) 0 0 (va_A [(h0, .inr (4, [.ref kw, .ref kf, .int z])), (kw, .inl (k1, 20, .inr (.inl gw))), (kf, .inl (k2, 20, .inl gf))] sz) := by
  refine Met.ofW (cc := cX4_find) (maxL := 4) (ret := (some .int)) (by decide) rfl ?_
  intro p e s m args below meth c s₁ B hml hv
  obtain ⟨rfl, hsz, hP, hK, hD0, hN, hT⟩ := hv
  have hx := B.exec
  have hb := B.bytes
  have hr := B.returns
  have hts := atoms_spec (ws := Cond.code yX4_find cX4_find 4 (some .int) :: zw) B.pre
  have hA : ∀ w ∈ zw, w.before _ s = true := fun w h => hts w (List.mem_cons_of_mem _ h)
  have hown : s.vm.findClass RX4 = some m.cls := findClass_of_methodNamed B.named
  have hlocks := B.notSynchronized
  subst hsz
  have hD := hD0.self (sz := s.heap.size)
  generalize hAe : va_A [(h0, .inr (4, [.ref kw, .ref kf, .int z])), (kw, .inl (k1, 20, .inr (.inl gw))), (kf, .inl (k2, 20, .inl gf))] s.heap.size = A at hD hT ⊢
  have hAA : ∀ q : Nat, s.heap.size ≤ q → A q := fun q h => by rw [← hAe]; exact Or.inr h
  have hS : va_S A s.heap s.heap [] := va_S.rf
  have hl := lv_entry ([.ref h0, .long nm]) (n := 4) (Nat.le_of_ble_eq_true rfl)
  rw [lg_entry_eq]
  generalize (lg_sl ([.ref h0, .long nm]) ++ List.replicate (4 - (lg_sl ([.ref h0, .long nm])).length) Slot.unset).toArray = ls at hl ⊢
  have hl : lv_has ls 4 [(0, .ref h0), (1, .long nm)] := hl
  refine lv_iconst (v := 0) hx hb dX4_find_0 (by decide) ?_
  refine lv_istore_n (lv' := [(3, .int 0), (0, .ref h0), (1, .long nm)]) hx hb dX4_find_1 rfl hl (by decide) rfl (fun ls hl => ?_)
  have loop_2 : ∀ (n9 : Nat) (i : Int32) (H : Heap) (locs : List Loc) (ls : Array Slot), (z.toInt - i.toInt + 1).toNat ≤ n9 → 0 ≤ i.toInt → i.toInt ≤ z.toInt → (∀ j : Nat, (j : Int) < Int32.toInt i → gw j ≠ nm) → va_P (dC, dI) vwCl [(h0, .inr (4, [.ref kw, .ref kf, .int z])), (kw, .inl (k1, 20, .inr (.inl gw))), (kf, .inl (k2, 20, .inl gf))] H → va_D A [(h0, .inr (4, [.ref kw, .ref kf, .int z])), (kw, .inl (k1, 20, .inr (.inl gw))), (kf, .inl (k2, 20, .inl gf))] → va_S A s.heap H locs → lv_has ls 4 [(3, .int i), (0, .ref h0), (1, .long nm)] → W p l e (headSpec (Cond.code yX4_find cX4_find 4 (some .int) :: zw) ({ frames := 8, cells := 0, slots := 0, locals := 200 })).room s m #[.ref h0, .long nm] below meth c H locs 0 0 (MQ below (va_Qi (fun (r : Int32) (u : Unit) => (-1 ≤ r.toInt) ∧ (r.toInt < z.toInt) ∧ (sp_fd gw nm z r)) (fun u => zQ dC dI A [(k1, .long), (k2, .int)] [(h0, .inr (4, [.ref kw, .ref kf, .int z])), (kw, .inl (k1, 20, .inr (.inl gw))), (kf, .inl (k2, 20, .inl gf))]) A) #[.ref h0, .long nm] s 0 0 A) (F0 m 2 ls []) := by
    intro n9
    induction n9 with
    | zero => intro i H locs ls hm hi0 hi1 hno; exfalso; omega
    | succ n9 ih =>
      intro i H locs ls hm hi0 hi1 hno hP hD hS hl
      refine lv_iload_n hx hb dX4_find_2 rfl (lv_at hl 0 rfl) ?_
      refine lv_aload_n hx hb dX4_find_3 rfl (lv_at hl 1 rfl) ?_
      refine va_get (D := (dC, dI)) (ci := 4) (v := .int z) (C := RX4) (T := TX4) (N := 3) hx hb hA zin_X4 hown hK hP 0 rfl rfl 2 (by decide) (hA _ wi_273) (fun _ h9 => h9) rfl dX4_find_4 ?_
      refine lv_icmp_ge (tgt := 29) hx hb dX4_find_7 (by decide) (fun c_1 => ?_) (fun c_1 => ?_)
      · have ic_1 : z.toInt ≤ i.toInt := zi_le c_1
        refine lv_iconst (v := (-1)) hx hb dX4_find_29 (by decide) ?_
        have hlit : Int32.toInt (-1) = (-1) := by decide
        have hP9 := hP.sub (ws' := [(h0, .inr (4, [.ref kw, .ref kf, .int z])), (kw, .inl (k1, 20, .inr (.inl gw))), (kf, .inl (k2, 20, .inl gf))]) [0, 1, 2] rfl
        have hD9 := hD.sub (ws' := [(h0, .inr (4, [.ref kw, .ref kf, .int z])), (kw, .inl (k1, 20, .inr (.inl gw))), (kf, .inl (k2, 20, .inl gf))]) [0, 1, 2] (by decide) rfl
        have hK9 := hK.sub (tys' := [(k1, .long), (k2, .int)]) [0, 1] rfl
        exact W.iret (v := (-1)) hx hb hr (fun t ht hW => ⟨⟨(-1), (), rfl, ⟨by omega, by omega, sp_fd_n hz0 (by decide) (fun j hj => hno j (by omega))⟩, by rw [ht]; exact hP9, va_K.moved hW.alike hK9, hD9⟩, hS.F ht⟩) hS.2.2 dX4_find_30
      · have ic_1 : i.toInt < z.toInt := zi_nle c_1
        refine lv_aload_n hx hb dX4_find_10 rfl (lv_at hl 1 rfl) ?_
        refine va_get (D := (dC, dI)) (ci := 4) (v := .ref kw) (C := RX4) (T := TX4) (N := 3) hx hb hA zin_X4 hown hK hP 0 rfl rfl 0 (by decide) (hA _ wi_270) (fun _ h9 => h9) rfl dX4_find_11 ?_
        refine lv_iload_n hx hb dX4_find_14 rfl (lv_at hl 0 rfl) ?_
        refine va_lald hx hb hK hP 1 0 rfl rfl (vp_in_iff.mpr ⟨by omega, by omega⟩) dX4_find_15 ?_
        refine lv_topl (fun x_2 ex_2 => ?_)
        refine lv_lload_n hx hb dX4_find_16 rfl (lv_at hl 2 rfl) ?_
        refine W.lcmp hx hb dX4_find_17 ?_
        refine lv_topi (fun x_3 ex_3 => ?_)
        refine lv_if_ne (tgt := 23) hx hb dX4_find_18 (by decide) (fun c_4 => ?_) (fun c_4 => ?_)
        · have ic_4 : x_3.toInt ≠ 0 := zi_ne c_4
          obtain ⟨x_5, ex_5⟩ : ∃ y : Int32, y = i + Int32.ofInt 1 := ⟨_, rfl⟩
          refine lv_iinc (v := x_5) (lv' := [(3, .int x_5), (0, .ref h0), (1, .long nm)]) hx hb dX4_find_23 hl (k := 0) rfl (by rw [ex_5]) (by decide) rfl (fun ls hl => ?_)
          have ix_5 : x_5.toInt = i.toInt + 1 := by rw [ex_5]; exact zi_addc (by decide) (by omega) (by omega)
          refine lv_goto (tgt := 2) hx hb dX4_find_26 (by decide) ?_
          have hno_6 : ∀ j : Nat, (j : Int) < Int32.toInt x_5 → gw j ≠ nm := sp_no1 hno hi0 (by omega) (fun e9 => absurd (show x_3.toInt = 0 by rw [ex_3, ex_2, e9]; exact lc_rf) (by omega))
          exact ih x_5 _ _ _ (by omega) (by omega) (by omega) hno_6 (hP.sub [0, 1, 2] rfl) (hD.sub [0, 1, 2] (by decide) rfl) hS (lv_sub hl [0, 1, 2] rfl)
        · have ic_4 : x_3.toInt = 0 := zi_eq c_4
          refine lv_iload_n hx hb dX4_find_21 rfl (lv_at hl 0 rfl) ?_
          have hP9 := hP.sub (ws' := [(h0, .inr (4, [.ref kw, .ref kf, .int z])), (kw, .inl (k1, 20, .inr (.inl gw))), (kf, .inl (k2, 20, .inl gf))]) [0, 1, 2] rfl
          have hD9 := hD.sub (ws' := [(h0, .inr (4, [.ref kw, .ref kf, .int z])), (kw, .inl (k1, 20, .inr (.inl gw))), (kf, .inl (k2, 20, .inl gf))]) [0, 1, 2] (by decide) rfl
          have hK9 := hK.sub (tys' := [(k1, .long), (k2, .int)]) [0, 1] rfl
          exact W.iret (v := i) hx hb hr (fun t ht hW => ⟨⟨i, (), rfl, ⟨by omega, by omega, sp_fd_y (by omega) (by omega) ((congrArg _ rfl).trans (ex_2.symm.trans (lc_eq (by rw [← ex_3]; omega)))) hno⟩, by rw [ht]; exact hP9, va_K.moved hW.alike hK9, hD9⟩, hS.F ht⟩) hS.2.2 dX4_find_22
  have hno_7 : ∀ j : Nat, (j : Int) < Int32.toInt 0 → gw j ≠ nm := fun j hj => by exfalso; have h9 : Int32.toInt 0 = 0 := (by decide); omega
  exact loop_2 _ 0 _ _ _ (Nat.le_refl _) (by have h9_0 : Int32.toInt 0 = 0 := (by decide); omega) (by have h9_0 : Int32.toInt 0 = 0 := (by decide); omega) hno_7 (hP.sub [0, 1, 2] rfl) (hD.sub [0, 1, 2] (by decide) rfl) hS (lv_sub hl [0, 1, 2] rfl)
set_option maxHeartbeats 4000000 in
set_option maxRecDepth 100000 in
theorem c_X3_find_s (l : Launch) (dC : Nat → ClassId) (dI : Nat → Nat → Nat) (aK aV : Nat → Nat) (h0 : Nat) (fw : Nat) (fe : Nat) (ff : Nat) (f1 : ClassId) (f2 : ClassId) (f3 : ClassId) (z : Int32) (gw : Nat → Int64) (ge : Nat → Int32) (gf : Nat → Int32) (nm : Int64) (sz : Nat) (hz0 : 0 ≤ z.toInt) (hz1 : z.toInt ≤ 30) : Met l yX3_find (Cond.code yX3_find cX3_find 4 (some .int) :: zw) ({ frames := 8, cells := 0, slots := 0, locals := 200 }) (va_Pc [.ref h0, .long nm] (zP dC dI aK aV sz [(f1, .long), (f2, .int), (f3, .int)] [(h0, .inr (3, [.ref fw, .ref fe, .ref ff, .int z])), (fw, .inl (f1, 30, .inr (.inl gw))), (fe, .inl (f2, 30, .inl ge)), (ff, .inl (f3, 150, .inl gf))])) (va_Qi (fun (r : Int32) (u : Unit) => (-1 ≤ r.toInt) ∧ (r.toInt < z.toInt) ∧ (sp_fd gw nm z r)) (fun u => zQ dC dI (va_A [(h0, .inr (3, [.ref fw, .ref fe, .ref ff, .int z])), (fw, .inl (f1, 30, .inr (.inl gw))), (fe, .inl (f2, 30, .inl ge)), (ff, .inl (f3, 150, .inl gf))] sz) [(f1, .long), (f2, .int), (f3, .int)] [(h0, .inr (3, [.ref fw, .ref fe, .ref ff, .int z])), (fw, .inl (f1, 30, .inr (.inl gw))), (fe, .inl (f2, 30, .inl ge)), (ff, .inl (f3, 150, .inl gf))]) (va_A [(h0, .inr (3, [.ref fw, .ref fe, .ref ff, .int z])), (fw, .inl (f1, 30, .inr (.inl gw))), (fe, .inl (f2, 30, .inl ge)), (ff, .inl (f3, 150, .inl gf))] sz)) 0 0 (va_A [(h0, .inr (3, [.ref fw, .ref fe, .ref ff, .int z])), (fw, .inl (f1, 30, .inr (.inl gw))), (fe, .inl (f2, 30, .inl ge)), (ff, .inl (f3, 150, .inl gf))] sz) := by
  refine Met.ofW (cc := cX3_find) (maxL := 4) (ret := (some .int)) (by decide) rfl ?_
  intro p e s m args below meth c s₁ B hml hv
  obtain ⟨rfl, hsz, hP, hK, hD0, hN, hT⟩ := hv
  have hx := B.exec
  have hb := B.bytes
  have hr := B.returns
  have hts := atoms_spec (ws := Cond.code yX3_find cX3_find 4 (some .int) :: zw) B.pre
  have hA : ∀ w ∈ zw, w.before _ s = true := fun w h => hts w (List.mem_cons_of_mem _ h)
  have hown : s.vm.findClass RX3 = some m.cls := findClass_of_methodNamed B.named
  have hlocks := B.notSynchronized
  subst hsz
  have hD := hD0.self (sz := s.heap.size)
  generalize hAe : va_A [(h0, .inr (3, [.ref fw, .ref fe, .ref ff, .int z])), (fw, .inl (f1, 30, .inr (.inl gw))), (fe, .inl (f2, 30, .inl ge)), (ff, .inl (f3, 150, .inl gf))] s.heap.size = A at hD hT ⊢
  have hAA : ∀ q : Nat, s.heap.size ≤ q → A q := fun q h => by rw [← hAe]; exact Or.inr h
  have hS : va_S A s.heap s.heap [] := va_S.rf
  have hl := lv_entry ([.ref h0, .long nm]) (n := 4) (Nat.le_of_ble_eq_true rfl)
  rw [lg_entry_eq]
  generalize (lg_sl ([.ref h0, .long nm]) ++ List.replicate (4 - (lg_sl ([.ref h0, .long nm])).length) Slot.unset).toArray = ls at hl ⊢
  have hl : lv_has ls 4 [(0, .ref h0), (1, .long nm)] := hl
  refine lv_iconst (v := 0) hx hb dX3_find_0 (by decide) ?_
  refine lv_istore_n (lv' := [(3, .int 0), (0, .ref h0), (1, .long nm)]) hx hb dX3_find_1 rfl hl (by decide) rfl (fun ls hl => ?_)
  have loop_2 : ∀ (n9 : Nat) (i : Int32) (H : Heap) (locs : List Loc) (ls : Array Slot), (z.toInt - i.toInt + 1).toNat ≤ n9 → 0 ≤ i.toInt → i.toInt ≤ z.toInt → (∀ j : Nat, (j : Int) < Int32.toInt i → gw j ≠ nm) → va_P (dC, dI) vwCl [(h0, .inr (3, [.ref fw, .ref fe, .ref ff, .int z])), (fw, .inl (f1, 30, .inr (.inl gw))), (fe, .inl (f2, 30, .inl ge)), (ff, .inl (f3, 150, .inl gf))] H → va_D A [(h0, .inr (3, [.ref fw, .ref fe, .ref ff, .int z])), (fw, .inl (f1, 30, .inr (.inl gw))), (fe, .inl (f2, 30, .inl ge)), (ff, .inl (f3, 150, .inl gf))] → va_S A s.heap H locs → lv_has ls 4 [(3, .int i), (0, .ref h0), (1, .long nm)] → W p l e (headSpec (Cond.code yX3_find cX3_find 4 (some .int) :: zw) ({ frames := 8, cells := 0, slots := 0, locals := 200 })).room s m #[.ref h0, .long nm] below meth c H locs 0 0 (MQ below (va_Qi (fun (r : Int32) (u : Unit) => (-1 ≤ r.toInt) ∧ (r.toInt < z.toInt) ∧ (sp_fd gw nm z r)) (fun u => zQ dC dI A [(f1, .long), (f2, .int), (f3, .int)] [(h0, .inr (3, [.ref fw, .ref fe, .ref ff, .int z])), (fw, .inl (f1, 30, .inr (.inl gw))), (fe, .inl (f2, 30, .inl ge)), (ff, .inl (f3, 150, .inl gf))]) A) #[.ref h0, .long nm] s 0 0 A) (F0 m 2 ls []) := by
    intro n9
    induction n9 with
    | zero => intro i H locs ls hm hi0 hi1 hno; exfalso; omega
    | succ n9 ih =>
      intro i H locs ls hm hi0 hi1 hno hP hD hS hl
      refine lv_iload_n hx hb dX3_find_2 rfl (lv_at hl 0 rfl) ?_
      refine lv_aload_n hx hb dX3_find_3 rfl (lv_at hl 1 rfl) ?_
      refine va_get (D := (dC, dI)) (ci := 3) (v := .int z) (C := RX3) (T := TX3) (N := 4) hx hb hA zin_X3 hown hK hP 0 rfl rfl 3 (by decide) (hA _ wi_295) (fun _ h9 => h9) rfl dX3_find_4 ?_
      refine lv_icmp_ge (tgt := 29) hx hb dX3_find_7 (by decide) (fun c_1 => ?_) (fun c_1 => ?_)
      · have ic_1 : z.toInt ≤ i.toInt := zi_le c_1
        refine lv_iconst (v := (-1)) hx hb dX3_find_29 (by decide) ?_
        have hlit : Int32.toInt (-1) = (-1) := by decide
        have hP9 := hP.sub (ws' := [(h0, .inr (3, [.ref fw, .ref fe, .ref ff, .int z])), (fw, .inl (f1, 30, .inr (.inl gw))), (fe, .inl (f2, 30, .inl ge)), (ff, .inl (f3, 150, .inl gf))]) [0, 1, 2, 3] rfl
        have hD9 := hD.sub (ws' := [(h0, .inr (3, [.ref fw, .ref fe, .ref ff, .int z])), (fw, .inl (f1, 30, .inr (.inl gw))), (fe, .inl (f2, 30, .inl ge)), (ff, .inl (f3, 150, .inl gf))]) [0, 1, 2, 3] (by decide) rfl
        have hK9 := hK.sub (tys' := [(f1, .long), (f2, .int), (f3, .int)]) [0, 1, 2] rfl
        exact W.iret (v := (-1)) hx hb hr (fun t ht hW => ⟨⟨(-1), (), rfl, ⟨by omega, by omega, sp_fd_n hz0 (by decide) (fun j hj => hno j (by omega))⟩, by rw [ht]; exact hP9, va_K.moved hW.alike hK9, hD9⟩, hS.F ht⟩) hS.2.2 dX3_find_30
      · have ic_1 : i.toInt < z.toInt := zi_nle c_1
        refine lv_aload_n hx hb dX3_find_10 rfl (lv_at hl 1 rfl) ?_
        refine va_get (D := (dC, dI)) (ci := 3) (v := .ref fw) (C := RX3) (T := TX3) (N := 4) hx hb hA zin_X3 hown hK hP 0 rfl rfl 0 (by decide) (hA _ wi_290) (fun _ h9 => h9) rfl dX3_find_11 ?_
        refine lv_iload_n hx hb dX3_find_14 rfl (lv_at hl 0 rfl) ?_
        refine va_lald hx hb hK hP 1 0 rfl rfl (vp_in_iff.mpr ⟨by omega, by omega⟩) dX3_find_15 ?_
        refine lv_topl (fun x_2 ex_2 => ?_)
        refine lv_lload_n hx hb dX3_find_16 rfl (lv_at hl 2 rfl) ?_
        refine W.lcmp hx hb dX3_find_17 ?_
        refine lv_topi (fun x_3 ex_3 => ?_)
        refine lv_if_ne (tgt := 23) hx hb dX3_find_18 (by decide) (fun c_4 => ?_) (fun c_4 => ?_)
        · have ic_4 : x_3.toInt ≠ 0 := zi_ne c_4
          obtain ⟨x_5, ex_5⟩ : ∃ y : Int32, y = i + Int32.ofInt 1 := ⟨_, rfl⟩
          refine lv_iinc (v := x_5) (lv' := [(3, .int x_5), (0, .ref h0), (1, .long nm)]) hx hb dX3_find_23 hl (k := 0) rfl (by rw [ex_5]) (by decide) rfl (fun ls hl => ?_)
          have ix_5 : x_5.toInt = i.toInt + 1 := by rw [ex_5]; exact zi_addc (by decide) (by omega) (by omega)
          refine lv_goto (tgt := 2) hx hb dX3_find_26 (by decide) ?_
          have hno_6 : ∀ j : Nat, (j : Int) < Int32.toInt x_5 → gw j ≠ nm := sp_no1 hno hi0 (by omega) (fun e9 => absurd (show x_3.toInt = 0 by rw [ex_3, ex_2, e9]; exact lc_rf) (by omega))
          exact ih x_5 _ _ _ (by omega) (by omega) (by omega) hno_6 (hP.sub [0, 1, 2, 3] rfl) (hD.sub [0, 1, 2, 3] (by decide) rfl) hS (lv_sub hl [0, 1, 2] rfl)
        · have ic_4 : x_3.toInt = 0 := zi_eq c_4
          refine lv_iload_n hx hb dX3_find_21 rfl (lv_at hl 0 rfl) ?_
          have hP9 := hP.sub (ws' := [(h0, .inr (3, [.ref fw, .ref fe, .ref ff, .int z])), (fw, .inl (f1, 30, .inr (.inl gw))), (fe, .inl (f2, 30, .inl ge)), (ff, .inl (f3, 150, .inl gf))]) [0, 1, 2, 3] rfl
          have hD9 := hD.sub (ws' := [(h0, .inr (3, [.ref fw, .ref fe, .ref ff, .int z])), (fw, .inl (f1, 30, .inr (.inl gw))), (fe, .inl (f2, 30, .inl ge)), (ff, .inl (f3, 150, .inl gf))]) [0, 1, 2, 3] (by decide) rfl
          have hK9 := hK.sub (tys' := [(f1, .long), (f2, .int), (f3, .int)]) [0, 1, 2] rfl
          exact W.iret (v := i) hx hb hr (fun t ht hW => ⟨⟨i, (), rfl, ⟨by omega, by omega, sp_fd_y (by omega) (by omega) ((congrArg _ rfl).trans (ex_2.symm.trans (lc_eq (by rw [← ex_3]; omega)))) hno⟩, by rw [ht]; exact hP9, va_K.moved hW.alike hK9, hD9⟩, hS.F ht⟩) hS.2.2 dX3_find_22
  have hno_7 : ∀ j : Nat, (j : Int) < Int32.toInt 0 → gw j ≠ nm := fun j hj => by exfalso; have h9 : Int32.toInt 0 = 0 := (by decide); omega
  exact loop_2 _ 0 _ _ _ (Nat.le_refl _) (by have h9_0 : Int32.toInt 0 = 0 := (by decide); omega) (by have h9_0 : Int32.toInt 0 = 0 := (by decide); omega) hno_7 (hP.sub [0, 1, 2, 3] rfl) (hD.sub [0, 1, 2, 3] (by decide) rfl) hS (lv_sub hl [0, 1, 2] rfl)
set_option maxHeartbeats 4000000 in
set_option maxRecDepth 100000 in
theorem c_X7_slotOf_s (l : Launch) (dC : Nat → ClassId) (dI : Nat → Nat → Nat) (aK aV : Nat → Nat) (h0 : Nat) (ptok : Nat) (pnee : Nat) (pnam : Nat) (pbui : Nat) (pdra : Nat) (ar : Int32) (fu : Int32) (fn : Int32) (fp : Int32) (nk : ClassId) (gn : Nat → Int64) (nm : Int64) (gN : List Int64) (sz : Nat) (hn0 : 0 ≤ ar.toInt) (hn1 : ar.toInt ≤ 24) (hnl : sp_nl gn ar gN) : Met l yX7_slotOf (Cond.code yX7_slotOf cX7_slotOf 4 (some .int) :: zw) ({ frames := 8, cells := 0, slots := 0, locals := 200 }) (va_Pc [.ref h0, .long nm] (zP dC dI aK aV sz [(nk, .long)] [(h0, .inr (7, [.ref ptok, .ref pnee, .ref pnam, .int ar, .ref pbui, .ref pdra, .int fu, .int fn, .int fp])), (pnam, .inl (nk, 24, .inr (.inl gn)))])) (va_Qi (fun (r : Int32) (u : Unit) => (-1 ≤ r.toInt) ∧ (r.toInt < ar.toInt) ∧ (sp_in r nm gN)) (fun u => zQ dC dI (va_A [(h0, .inr (7, [.ref ptok, .ref pnee, .ref pnam, .int ar, .ref pbui, .ref pdra, .int fu, .int fn, .int fp])), (pnam, .inl (nk, 24, .inr (.inl gn)))] sz) [(nk, .long)] [(h0, .inr (7, [.ref ptok, .ref pnee, .ref pnam, .int ar, .ref pbui, .ref pdra, .int fu, .int fn, .int fp])), (pnam, .inl (nk, 24, .inr (.inl gn)))]) (va_A [(h0, .inr (7, [.ref ptok, .ref pnee, .ref pnam, .int ar, .ref pbui, .ref pdra, .int fu, .int fn, .int fp])), (pnam, .inl (nk, 24, .inr (.inl gn)))] sz)) 0 0 (va_A [(h0, .inr (7, [.ref ptok, .ref pnee, .ref pnam, .int ar, .ref pbui, .ref pdra, .int fu, .int fn, .int fp])), (pnam, .inl (nk, 24, .inr (.inl gn)))] sz) := by
  refine Met.ofW (cc := cX7_slotOf) (maxL := 4) (ret := (some .int)) (by decide) rfl ?_
  intro p e s m args below meth c s₁ B hml hv
  obtain ⟨rfl, hsz, hP, hK, hD0, hN, hT⟩ := hv
  have hx := B.exec
  have hb := B.bytes
  have hr := B.returns
  have hts := atoms_spec (ws := Cond.code yX7_slotOf cX7_slotOf 4 (some .int) :: zw) B.pre
  have hA : ∀ w ∈ zw, w.before _ s = true := fun w h => hts w (List.mem_cons_of_mem _ h)
  have hown : s.vm.findClass RX7 = some m.cls := findClass_of_methodNamed B.named
  have hlocks := B.notSynchronized
  subst hsz
  have hD := hD0.self (sz := s.heap.size)
  generalize hAe : va_A [(h0, .inr (7, [.ref ptok, .ref pnee, .ref pnam, .int ar, .ref pbui, .ref pdra, .int fu, .int fn, .int fp])), (pnam, .inl (nk, 24, .inr (.inl gn)))] s.heap.size = A at hD hT ⊢
  have hAA : ∀ q : Nat, s.heap.size ≤ q → A q := fun q h => by rw [← hAe]; exact Or.inr h
  have hS : va_S A s.heap s.heap [] := va_S.rf
  have hl := lv_entry ([.ref h0, .long nm]) (n := 4) (Nat.le_of_ble_eq_true rfl)
  rw [lg_entry_eq]
  generalize (lg_sl ([.ref h0, .long nm]) ++ List.replicate (4 - (lg_sl ([.ref h0, .long nm])).length) Slot.unset).toArray = ls at hl ⊢
  have hl : lv_has ls 4 [(0, .ref h0), (1, .long nm)] := hl
  refine lv_iconst (v := 0) hx hb dX7_slotOf_0 (by decide) ?_
  refine lv_istore_n (lv' := [(3, .int 0), (0, .ref h0), (1, .long nm)]) hx hb dX7_slotOf_1 rfl hl (by decide) rfl (fun ls hl => ?_)
  have loop_2 : ∀ (n9 : Nat) (i : Int32) (H : Heap) (locs : List Loc) (ls : Array Slot), (ar.toInt - i.toInt + 1).toNat ≤ n9 → 0 ≤ i.toInt → i.toInt ≤ ar.toInt → (∀ j : Nat, (j : Int) < Int32.toInt i → gn j ≠ nm) → va_P (dC, dI) vwCl [(h0, .inr (7, [.ref ptok, .ref pnee, .ref pnam, .int ar, .ref pbui, .ref pdra, .int fu, .int fn, .int fp])), (pnam, .inl (nk, 24, .inr (.inl gn)))] H → va_D A [(h0, .inr (7, [.ref ptok, .ref pnee, .ref pnam, .int ar, .ref pbui, .ref pdra, .int fu, .int fn, .int fp])), (pnam, .inl (nk, 24, .inr (.inl gn)))] → va_S A s.heap H locs → lv_has ls 4 [(3, .int i), (0, .ref h0), (1, .long nm)] → W p l e (headSpec (Cond.code yX7_slotOf cX7_slotOf 4 (some .int) :: zw) ({ frames := 8, cells := 0, slots := 0, locals := 200 })).room s m #[.ref h0, .long nm] below meth c H locs 0 0 (MQ below (va_Qi (fun (r : Int32) (u : Unit) => (-1 ≤ r.toInt) ∧ (r.toInt < ar.toInt) ∧ (sp_in r nm gN)) (fun u => zQ dC dI A [(nk, .long)] [(h0, .inr (7, [.ref ptok, .ref pnee, .ref pnam, .int ar, .ref pbui, .ref pdra, .int fu, .int fn, .int fp])), (pnam, .inl (nk, 24, .inr (.inl gn)))]) A) #[.ref h0, .long nm] s 0 0 A) (F0 m 2 ls []) := by
    intro n9
    induction n9 with
    | zero => intro i H locs ls hm hi0 hi1 hno; exfalso; omega
    | succ n9 ih =>
      intro i H locs ls hm hi0 hi1 hno hP hD hS hl
      refine lv_iload_n hx hb dX7_slotOf_2 rfl (lv_at hl 0 rfl) ?_
      refine lv_aload_n hx hb dX7_slotOf_3 rfl (lv_at hl 1 rfl) ?_
      refine va_get (D := (dC, dI)) (ci := 7) (v := .int ar) (C := RX7) (T := TX7) (N := 9) hx hb hA zin_X7 hown hK hP 0 rfl rfl 3 (by decide) (hA _ wi_390) (fun _ h9 => h9) rfl dX7_slotOf_4 ?_
      refine lv_icmp_ge (tgt := 29) hx hb dX7_slotOf_7 (by decide) (fun c_1 => ?_) (fun c_1 => ?_)
      · have ic_1 : ar.toInt ≤ i.toInt := zi_le c_1
        refine lv_iconst (v := (-1)) hx hb dX7_slotOf_29 (by decide) ?_
        have hlit : Int32.toInt (-1) = (-1) := by decide
        have hP9 := hP.sub (ws' := [(h0, .inr (7, [.ref ptok, .ref pnee, .ref pnam, .int ar, .ref pbui, .ref pdra, .int fu, .int fn, .int fp])), (pnam, .inl (nk, 24, .inr (.inl gn)))]) [0, 1] rfl
        have hD9 := hD.sub (ws' := [(h0, .inr (7, [.ref ptok, .ref pnee, .ref pnam, .int ar, .ref pbui, .ref pdra, .int fu, .int fn, .int fp])), (pnam, .inl (nk, 24, .inr (.inl gn)))]) [0, 1] (by decide) rfl
        have hK9 := hK.sub (tys' := [(nk, .long)]) [0] rfl
        exact W.iret (v := (-1)) hx hb hr (fun t ht hW => ⟨⟨(-1), (), rfl, ⟨by omega, by omega, sp_in_n hnl (by decide) (fun j hj => hno j (by omega))⟩, by rw [ht]; exact hP9, va_K.moved hW.alike hK9, hD9⟩, hS.F ht⟩) hS.2.2 dX7_slotOf_30
      · have ic_1 : i.toInt < ar.toInt := zi_nle c_1
        refine lv_aload_n hx hb dX7_slotOf_10 rfl (lv_at hl 1 rfl) ?_
        refine va_get (D := (dC, dI)) (ci := 7) (v := .ref pnam) (C := RX7) (T := TX7) (N := 9) hx hb hA zin_X7 hown hK hP 0 rfl rfl 2 (by decide) (hA _ wi_389) (fun _ h9 => h9) rfl dX7_slotOf_11 ?_
        refine lv_iload_n hx hb dX7_slotOf_14 rfl (lv_at hl 0 rfl) ?_
        refine va_lald hx hb hK hP 1 0 rfl rfl (vp_in_iff.mpr ⟨by omega, by omega⟩) dX7_slotOf_15 ?_
        refine lv_topl (fun x_2 ex_2 => ?_)
        refine lv_lload_n hx hb dX7_slotOf_16 rfl (lv_at hl 2 rfl) ?_
        refine W.lcmp hx hb dX7_slotOf_17 ?_
        refine lv_topi (fun x_3 ex_3 => ?_)
        refine lv_if_ne (tgt := 23) hx hb dX7_slotOf_18 (by decide) (fun c_4 => ?_) (fun c_4 => ?_)
        · have ic_4 : x_3.toInt ≠ 0 := zi_ne c_4
          obtain ⟨x_5, ex_5⟩ : ∃ y : Int32, y = i + Int32.ofInt 1 := ⟨_, rfl⟩
          refine lv_iinc (v := x_5) (lv' := [(3, .int x_5), (0, .ref h0), (1, .long nm)]) hx hb dX7_slotOf_23 hl (k := 0) rfl (by rw [ex_5]) (by decide) rfl (fun ls hl => ?_)
          have ix_5 : x_5.toInt = i.toInt + 1 := by rw [ex_5]; exact zi_addc (by decide) (by omega) (by omega)
          refine lv_goto (tgt := 2) hx hb dX7_slotOf_26 (by decide) ?_
          have hno_6 : ∀ j : Nat, (j : Int) < Int32.toInt x_5 → gn j ≠ nm := sp_no1 hno hi0 (by omega) (fun e9 => absurd (show x_3.toInt = 0 by rw [ex_3, ex_2, e9]; exact lc_rf) (by omega))
          exact ih x_5 _ _ _ (by omega) (by omega) (by omega) hno_6 (hP.sub [0, 1] rfl) (hD.sub [0, 1] (by decide) rfl) hS (lv_sub hl [0, 1, 2] rfl)
        · have ic_4 : x_3.toInt = 0 := zi_eq c_4
          refine lv_iload_n hx hb dX7_slotOf_21 rfl (lv_at hl 0 rfl) ?_
          have hP9 := hP.sub (ws' := [(h0, .inr (7, [.ref ptok, .ref pnee, .ref pnam, .int ar, .ref pbui, .ref pdra, .int fu, .int fn, .int fp])), (pnam, .inl (nk, 24, .inr (.inl gn)))]) [0, 1] rfl
          have hD9 := hD.sub (ws' := [(h0, .inr (7, [.ref ptok, .ref pnee, .ref pnam, .int ar, .ref pbui, .ref pdra, .int fu, .int fn, .int fp])), (pnam, .inl (nk, 24, .inr (.inl gn)))]) [0, 1] (by decide) rfl
          have hK9 := hK.sub (tys' := [(nk, .long)]) [0] rfl
          exact W.iret (v := i) hx hb hr (fun t ht hW => ⟨⟨i, (), rfl, ⟨by omega, by omega, sp_in_y hnl (by omega) (by omega) (ex_2.symm.trans (lc_eq (by rw [← ex_3]; omega))) hno⟩, by rw [ht]; exact hP9, va_K.moved hW.alike hK9, hD9⟩, hS.F ht⟩) hS.2.2 dX7_slotOf_22
  have hno_7 : ∀ j : Nat, (j : Int) < Int32.toInt 0 → gn j ≠ nm := fun j hj => by exfalso; have h9 : Int32.toInt 0 = 0 := (by decide); omega
  exact loop_2 _ 0 _ _ _ (Nat.le_refl _) (by have h9_0 : Int32.toInt 0 = 0 := (by decide); omega) (by have h9_0 : Int32.toInt 0 = 0 := (by decide); omega) hno_7 (hP.sub [0, 1] rfl) (hD.sub [0, 1] (by decide) rfl) hS (lv_sub hl [0, 1, 2] rfl)
set_option maxHeartbeats 4000000 in
set_option maxRecDepth 100000 in
theorem c_X7_newName_s (l : Launch) (dC : Nat → ClassId) (dI : Nat → Nat → Nat) (aK aV : Nat → Nat) (h0 : Nat) (ptok : Nat) (pnee : Nat) (pnam : Nat) (pbui : Nat) (pdra : Nat) (ar : Int32) (fu : Int32) (fn : Int32) (fp : Int32) (ts : Nat) (tp : Nat) (tw : Nat) (t1 : ClassId) (t2 : ClassId) (t3 : ClassId) (z : Int32) (pa : Int32) (so : Int32) (pl : Int32) (wd : Int64) (gs : Nat → Int32) (gp : Nat → Int32) (gw : Nat → Int64) (gco : Nat) (gar : Nat) (gki : Nat) (gfu : Nat) (kw : Nat) (kf : Nat) (k1 : ClassId) (k2 : ClassId) (kz : Int32) (kgw : Nat → Int64) (kgf : Nat → Int32) (nk : ClassId) (gn : Nat → Int64) (gN : List Int64) (sz : Nat) (hlt : l.stackTraces = false) (hz0 : 0 ≤ z.toInt) (hz1 : z.toInt ≤ 2000) (ha0 : -1 ≤ pa.toInt) (ha1 : pa.toInt ≤ z.toInt) (hgz : gs (Int32.toNatClampNeg z) = 256) (hk0 : 0 ≤ kz.toInt) (hk1 : kz.toInt ≤ 20) (hkf : zx 4 kgf) (hn0 : 0 ≤ ar.toInt) (hn1 : ar.toInt ≤ 24) (hnl : sp_nl gn ar gN) : vy_Met l yX7_newName (Cond.code yX7_newName cX7_newName 1 none :: zw) ({ frames := 16, cells := 1, slots := 6, locals := 600 }) (va_Pc [.ref h0] (zP dC dI aK aV sz [(t1, .int), (t2, .int), (t3, .long), (k1, .long), (k2, .int), (nk, .long)] [(h0, .inr (7, [.ref ptok, .ref pnee, .ref pnam, .int ar, .ref pbui, .ref pdra, .int fu, .int fn, .int fp])), (ptok, .inr (10, [.ref ts, .ref tp, .ref tw, .int z, .int pa, .int so, .int pl, .long wd])), (ts, .inl (t1, 2001, .inl gs)), (tp, .inl (t2, 2001, .inl gp)), (tw, .inl (t3, 2001, .inr (.inl gw))), (pdra, .inr (9, [.ref gco, .ref gar, .ref gki, .ref gfu])), (gki, .inr (4, [.ref kw, .ref kf, .int kz])), (kw, .inl (k1, 20, .inr (.inl kgw))), (kf, .inl (k2, 20, .inl kgf)), (pnam, .inl (nk, 24, .inr (.inl gn)))])) (va_Qv (fun u : Unit => (ar.toInt < 24) ∧ (so.toInt = 258) ∧ (sp_nn so wd ar gN)) (fun u => zQ dC dI (va_A [(h0, .inr (7, [.ref ptok, .ref pnee, .ref pnam, .int ar, .ref pbui, .ref pdra, .int fu, .int fn, .int fp])), (ptok, .inr (10, [.ref ts, .ref tp, .ref tw, .int z, .int pa, .int so, .int pl, .long wd])), (ts, .inl (t1, 2001, .inl gs)), (tp, .inl (t2, 2001, .inl gp)), (tw, .inl (t3, 2001, .inr (.inl gw))), (pdra, .inr (9, [.ref gco, .ref gar, .ref gki, .ref gfu])), (gki, .inr (4, [.ref kw, .ref kf, .int kz])), (kw, .inl (k1, 20, .inr (.inl kgw))), (kf, .inl (k2, 20, .inl kgf)), (pnam, .inl (nk, 24, .inr (.inl gn)))] sz) [(t1, .int), (t2, .int), (t3, .long), (k1, .long), (k2, .int), (nk, .long)] [(h0, .inr (7, [.ref ptok, .ref pnee, .ref pnam, .int ar, .ref pbui, .ref pdra, .int fu, .int fn, .int fp])), (ptok, .inr (10, [.ref ts, .ref tp, .ref tw, .int z, .int pa, .int so, .int pl, .long wd])), (ts, .inl (t1, 2001, .inl gs)), (tp, .inl (t2, 2001, .inl gp)), (tw, .inl (t3, 2001, .inr (.inl gw))), (pdra, .inr (9, [.ref gco, .ref gar, .ref gki, .ref gfu])), (gki, .inr (4, [.ref kw, .ref kf, .int kz])), (kw, .inl (k1, 20, .inr (.inl kgw))), (kf, .inl (k2, 20, .inl kgf)), (pnam, .inl (nk, 24, .inr (.inl gn)))]) (va_A [(h0, .inr (7, [.ref ptok, .ref pnee, .ref pnam, .int ar, .ref pbui, .ref pdra, .int fu, .int fn, .int fp])), (ptok, .inr (10, [.ref ts, .ref tp, .ref tw, .int z, .int pa, .int so, .int pl, .long wd])), (ts, .inl (t1, 2001, .inl gs)), (tp, .inl (t2, 2001, .inl gp)), (tw, .inl (t3, 2001, .inr (.inl gw))), (pdra, .inr (9, [.ref gco, .ref gar, .ref gki, .ref gfu])), (gki, .inr (4, [.ref kw, .ref kf, .int kz])), (kw, .inl (k1, 20, .inr (.inl kgw))), (kf, .inl (k2, 20, .inl kgf)), (pnam, .inl (nk, 24, .inr (.inl gn)))] sz)) (vx_X (fun u : Int32 × Int32 => match u with | (fn2, fp2) => (fp2.toInt = pl.toInt) ∧ (¬ sp_nn so wd ar gN)) (fun E u t => E = "java/lang/IllegalStateException" ∧ (match u with | (fn2, fp2) => zQ dC dI (va_A [(h0, .inr (7, [.ref ptok, .ref pnee, .ref pnam, .int ar, .ref pbui, .ref pdra, .int fu, .int fn, .int fp])), (ptok, .inr (10, [.ref ts, .ref tp, .ref tw, .int z, .int pa, .int so, .int pl, .long wd])), (ts, .inl (t1, 2001, .inl gs)), (tp, .inl (t2, 2001, .inl gp)), (tw, .inl (t3, 2001, .inr (.inl gw))), (pdra, .inr (9, [.ref gco, .ref gar, .ref gki, .ref gfu])), (gki, .inr (4, [.ref kw, .ref kf, .int kz])), (kw, .inl (k1, 20, .inr (.inl kgw))), (kf, .inl (k2, 20, .inl kgf)), (pnam, .inl (nk, 24, .inr (.inl gn)))] sz) [(t1, .int), (t2, .int), (t3, .long), (k1, .long), (k2, .int), (nk, .long)] [(h0, .inr (7, [.ref ptok, .ref pnee, .ref pnam, .int ar, .ref pbui, .ref pdra, .int fu, .int fn2, .int fp2])), (ptok, .inr (10, [.ref ts, .ref tp, .ref tw, .int z, .int pa, .int so, .int pl, .long wd])), (ts, .inl (t1, 2001, .inl gs)), (tp, .inl (t2, 2001, .inl gp)), (tw, .inl (t3, 2001, .inr (.inl gw))), (pdra, .inr (9, [.ref gco, .ref gar, .ref gki, .ref gfu])), (gki, .inr (4, [.ref kw, .ref kf, .int kz])), (kw, .inl (k1, 20, .inr (.inl kgw))), (kf, .inl (k2, 20, .inl kgf)), (pnam, .inl (nk, 24, .inr (.inl gn)))] t)) (va_A [(h0, .inr (7, [.ref ptok, .ref pnee, .ref pnam, .int ar, .ref pbui, .ref pdra, .int fu, .int fn, .int fp])), (ptok, .inr (10, [.ref ts, .ref tp, .ref tw, .int z, .int pa, .int so, .int pl, .long wd])), (ts, .inl (t1, 2001, .inl gs)), (tp, .inl (t2, 2001, .inl gp)), (tw, .inl (t3, 2001, .inr (.inl gw))), (pdra, .inr (9, [.ref gco, .ref gar, .ref gki, .ref gfu])), (gki, .inr (4, [.ref kw, .ref kf, .int kz])), (kw, .inl (k1, 20, .inr (.inl kgw))), (kf, .inl (k2, 20, .inl kgf)), (pnam, .inl (nk, 24, .inr (.inl gn)))] sz)) 0 0 1 6 (va_A [(h0, .inr (7, [.ref ptok, .ref pnee, .ref pnam, .int ar, .ref pbui, .ref pdra, .int fu, .int fn, .int fp])), (ptok, .inr (10, [.ref ts, .ref tp, .ref tw, .int z, .int pa, .int so, .int pl, .long wd])), (ts, .inl (t1, 2001, .inl gs)), (tp, .inl (t2, 2001, .inl gp)), (tw, .inl (t3, 2001, .inr (.inl gw))), (pdra, .inr (9, [.ref gco, .ref gar, .ref gki, .ref gfu])), (gki, .inr (4, [.ref kw, .ref kf, .int kz])), (kw, .inl (k1, 20, .inr (.inl kgw))), (kf, .inl (k2, 20, .inl kgf)), (pnam, .inl (nk, 24, .inr (.inl gn)))] sz) := by
  refine vy_ofW (cc := cX7_newName) (maxL := 1) (ret := none) (by decide) rfl ?_
  intro p e s m args below meth c s₁ B hml hnh hv
  obtain ⟨rfl, hsz, hP, hK, hD0, hN, hT⟩ := hv
  have hx := B.exec
  have hb := B.bytes
  have hr := B.returns
  have hts := atoms_spec (ws := Cond.code yX7_newName cX7_newName 1 none :: zw) B.pre
  have hA : ∀ w ∈ zw, w.before _ s = true := fun w h => hts w (List.mem_cons_of_mem _ h)
  have hown : s.vm.findClass RX7 = some m.cls := findClass_of_methodNamed B.named
  have hlocks := B.notSynchronized
  subst hsz
  have hD := hD0.self (sz := s.heap.size)
  generalize hAe : va_A [(h0, .inr (7, [.ref ptok, .ref pnee, .ref pnam, .int ar, .ref pbui, .ref pdra, .int fu, .int fn, .int fp])), (ptok, .inr (10, [.ref ts, .ref tp, .ref tw, .int z, .int pa, .int so, .int pl, .long wd])), (ts, .inl (t1, 2001, .inl gs)), (tp, .inl (t2, 2001, .inl gp)), (tw, .inl (t3, 2001, .inr (.inl gw))), (pdra, .inr (9, [.ref gco, .ref gar, .ref gki, .ref gfu])), (gki, .inr (4, [.ref kw, .ref kf, .int kz])), (kw, .inl (k1, 20, .inr (.inl kgw))), (kf, .inl (k2, 20, .inl kgf)), (pnam, .inl (nk, 24, .inr (.inl gn)))] s.heap.size = A at hD hT ⊢
  have hAA : ∀ q : Nat, s.heap.size ≤ q → A q := fun q h => by rw [← hAe]; exact Or.inr h
  have hS : va_S A s.heap s.heap [] := va_S.rf
  have hl := lv_entry ([.ref h0]) (n := 1) (Nat.le_of_ble_eq_true rfl)
  rw [lg_entry_eq]
  generalize (lg_sl ([.ref h0]) ++ List.replicate (1 - (lg_sl ([.ref h0])).length) Slot.unset).toArray = ls at hl ⊢
  have hl : lv_has ls 1 [(0, .ref h0)] := hl
  refine lv_aload_n hx hb dX7_newName_0 rfl (lv_at hl 0 rfl) ?_
  refine va_get (D := (dC, dI)) (ci := 7) (v := .ref ptok) (C := RX7) (T := TX7) (N := 9) hx hb hA zin_X7 hown hK hP 0 rfl rfl 0 (by decide) (hA _ wi_387) (fun _ h9 => h9) rfl dX7_newName_1 ?_
  refine va_get (D := (dC, dI)) (ci := 10) (v := .int so) (C := RX10) (T := TX10) (N := 8) hx hb hA zin_X10 hown hK hP 1 rfl rfl 5 (by decide) (hA _ wi_353) (fun _ h9 => h9) rfl dX7_newName_4 ?_
  refine lv_sipush (v := 258) hx hb dX7_newName_7 (by decide) ?_
  refine lv_icmp_eq (tgt := 17) hx hb dX7_newName_10 (by decide) (fun c_1 => ?_) (fun c_1 => ?_)
  · have ic_1 : so.toInt = 258 := zi_eq c_1
    refine lv_aload_n hx hb dX7_newName_17 rfl (lv_at hl 0 rfl) ?_
    refine lv_aload_n hx hb dX7_newName_18 rfl (lv_at hl 0 rfl) ?_
    refine va_get (D := (dC, dI)) (ci := 7) (v := .ref ptok) (C := RX7) (T := TX7) (N := 9) hx hb hA zin_X7 hown hK hP 0 rfl rfl 0 (by decide) (hA _ wi_387) (fun _ h9 => h9) rfl dX7_newName_19 ?_
    refine va_get (D := (dC, dI)) (ci := 10) (v := .long wd) (C := RX10) (T := TX10) (N := 8) hx hb hA zin_X10 hown hK hP 1 rfl rfl 7 (by decide) (hA _ wi_357) (fun _ h9 => h9) rfl dX7_newName_22 ?_
    have hPc := hP.sub (ws' := [(h0, .inr (7, [.ref ptok, .ref pnee, .ref pnam, .int ar, .ref pbui, .ref pdra, .int fu, .int fn, .int fp])), (pnam, .inl (nk, 24, .inr (.inl gn)))]) [0, 9] rfl
    have hDc := hD.sub (ws' := [(h0, .inr (7, [.ref ptok, .ref pnee, .ref pnam, .int ar, .ref pbui, .ref pdra, .int fu, .int fn, .int fp])), (pnam, .inl (nk, 24, .inr (.inl gn)))]) [0, 9] (by decide) rfl
    have hKc := hK.sub (tys' := [(nk, .long)]) [5] rfl
    have hFc := va_free (wc := [(h0, .inr (7, [.ref ptok, .ref pnee, .ref pnam, .int ar, .ref pbui, .ref pdra, .int fu, .int fn, .int fp])), (pnam, .inl (nk, 24, .inr (.inl gn)))]) hD hS hAA [0, 9] rfl
    refine va_calli (va_runV (As := [.long wd]) (rest := []) ⟨hx, hb, hml, hown, hA⟩ (c_X7_slotOf_s l dC dI aK aV h0 ptok pnee pnam pbui pdra ar fu fn fp nk gn wd gN s.heap.size (by omega) (by omega) hnl) (cwV 1 hA (zw_V wi_898 wi_900 wi_11 wi_136 (zw_good wi_901)) rfl rfl rfl (by decide +kernel) ⟨(Nat.le_of_ble_eq_true rfl), (Nat.le_of_ble_eq_true rfl)⟩) ⟨zP_blind, va_recv hKc hPc (ci := 7) (q0 := 0) rfl rfl, zz_pre hKc hPc hDc hN hT hS hFc⟩ rfl rfl hl.1 rfl (lv_room (Nat.le_of_ble_eq_true rfl)) dX7_newName_25 ⟨(Nat.le_of_ble_eq_true rfl), (Nat.le_of_ble_eq_true rfl)⟩) hS (fun q _ h => hFc q h) hFc (fun r_2 u t H1 locs ht hvm hw hB hz1 hk1 hS => ?_)
    obtain ⟨hP1, hK1, hD1⟩ := hB
    rw [ht] at hP1
    have hK1 := va_K.moved hvm.symm hK1
    obtain ⟨hP, hD⟩ := va_join (wr := [(ptok, .inr (10, [.ref ts, .ref tp, .ref tw, .int z, .int pa, .int so, .int pl, .long wd])), (ts, .inl (t1, 2001, .inl gs)), (tp, .inl (t2, 2001, .inl gp)), (tw, .inl (t3, 2001, .inr (.inl gw))), (pdra, .inr (9, [.ref gco, .ref gar, .ref gki, .ref gfu])), (gki, .inr (4, [.ref kw, .ref kf, .int kz])), (kw, .inl (k1, 20, .inr (.inl kgw))), (kf, .inl (k2, 20, .inl kgf))]) (w1 := [(h0, .inr (7, [.ref ptok, .ref pnee, .ref pnam, .int ar, .ref pbui, .ref pdra, .int fu, .int fn, .int fp])), (pnam, .inl (nk, 24, .inr (.inl gn)))]) hP hD [0, 9] [1, 2, 3, 4, 5, 6, 7, 8] rfl rfl (by decide) (by decide) hk1 hFc hP1 hD1
    have hK := (hK.sub (tys' := [(t1, .int), (t2, .int), (t3, .long), (k1, .long), (k2, .int)]) [0, 1, 2, 3, 4] rfl).app hK1
    generalize H1 = H at hP hS ⊢
    have hP : va_P (dC, dI) vwCl [(ptok, .inr (10, [.ref ts, .ref tp, .ref tw, .int z, .int pa, .int so, .int pl, .long wd])), (ts, .inl (t1, 2001, .inl gs)), (tp, .inl (t2, 2001, .inl gp)), (tw, .inl (t3, 2001, .inr (.inl gw))), (pdra, .inr (9, [.ref gco, .ref gar, .ref gki, .ref gfu])), (gki, .inr (4, [.ref kw, .ref kf, .int kz])), (kw, .inl (k1, 20, .inr (.inl kgw))), (kf, .inl (k2, 20, .inl kgf)), (h0, .inr (7, [.ref ptok, .ref pnee, .ref pnam, .int ar, .ref pbui, .ref pdra, .int fu, .int fn, .int fp])), (pnam, .inl (nk, 24, .inr (.inl gn)))] H := hP
    have hD : va_D A [(ptok, .inr (10, [.ref ts, .ref tp, .ref tw, .int z, .int pa, .int so, .int pl, .long wd])), (ts, .inl (t1, 2001, .inl gs)), (tp, .inl (t2, 2001, .inl gp)), (tw, .inl (t3, 2001, .inr (.inl gw))), (pdra, .inr (9, [.ref gco, .ref gar, .ref gki, .ref gfu])), (gki, .inr (4, [.ref kw, .ref kf, .int kz])), (kw, .inl (k1, 20, .inr (.inl kgw))), (kf, .inl (k2, 20, .inl kgf)), (h0, .inr (7, [.ref ptok, .ref pnee, .ref pnam, .int ar, .ref pbui, .ref pdra, .int fu, .int fn, .int fp])), (pnam, .inl (nk, 24, .inr (.inl gn)))] := hD
    have hK : va_K (dC, dI) vwCl [(t1, .int), (t2, .int), (t3, .long), (k1, .long), (k2, .int), (nk, .long)] s := hK
    have hw_r_2 := hw
    try dsimp only at hw_r_2
    obtain ⟨hq_3, hq_4, hq_5⟩ := hw
    refine lv_iconst (v := (-1)) hx hb dX7_newName_28 (by decide) ?_
    refine lv_icmp_eq (tgt := 44) hx hb dX7_newName_29 (by decide) (fun c_6 => ?_) (fun c_6 => ?_)
    · have ic_6 : r_2.toInt = (-1) := zi_eq c_6
      refine lv_aload_n hx hb dX7_newName_44 rfl (lv_at hl 0 rfl) ?_
      refine va_get (D := (dC, dI)) (ci := 7) (v := .int ar) (C := RX7) (T := TX7) (N := 9) hx hb hA zin_X7 hown hK hP 8 rfl rfl 3 (by decide) (hA _ wi_390) (fun _ h9 => h9) rfl dX7_newName_45 ?_
      refine lv_bipush (v := 24) hx hb dX7_newName_48 (by decide) ?_
      refine lv_icmp_lt (tgt := 57) hx hb dX7_newName_50 (by decide) (fun c_7 => ?_) (fun c_7 => ?_)
      · have ic_7 : ar.toInt < 24 := zi_lt c_7
        have hP9 := hP.sub (ws' := [(h0, .inr (7, [.ref ptok, .ref pnee, .ref pnam, .int ar, .ref pbui, .ref pdra, .int fu, .int fn, .int fp])), (ptok, .inr (10, [.ref ts, .ref tp, .ref tw, .int z, .int pa, .int so, .int pl, .long wd])), (ts, .inl (t1, 2001, .inl gs)), (tp, .inl (t2, 2001, .inl gp)), (tw, .inl (t3, 2001, .inr (.inl gw))), (pdra, .inr (9, [.ref gco, .ref gar, .ref gki, .ref gfu])), (gki, .inr (4, [.ref kw, .ref kf, .int kz])), (kw, .inl (k1, 20, .inr (.inl kgw))), (kf, .inl (k2, 20, .inl kgf)), (pnam, .inl (nk, 24, .inr (.inl gn)))]) [8, 0, 1, 2, 3, 4, 5, 6, 7, 9] rfl
        have hD9 := hD.sub (ws' := [(h0, .inr (7, [.ref ptok, .ref pnee, .ref pnam, .int ar, .ref pbui, .ref pdra, .int fu, .int fn, .int fp])), (ptok, .inr (10, [.ref ts, .ref tp, .ref tw, .int z, .int pa, .int so, .int pl, .long wd])), (ts, .inl (t1, 2001, .inl gs)), (tp, .inl (t2, 2001, .inl gp)), (tw, .inl (t3, 2001, .inr (.inl gw))), (pdra, .inr (9, [.ref gco, .ref gar, .ref gki, .ref gfu])), (gki, .inr (4, [.ref kw, .ref kf, .int kz])), (kw, .inl (k1, 20, .inr (.inl kgw))), (kf, .inl (k2, 20, .inl kgf)), (pnam, .inl (nk, 24, .inr (.inl gn)))]) [8, 0, 1, 2, 3, 4, 5, 6, 7, 9] (by decide) rfl
        have hK9 := hK.sub (tys' := [(t1, .int), (t2, .int), (t3, .long), (k1, .long), (k2, .int), (nk, .long)]) [0, 1, 2, 3, 4, 5] rfl
        exact vy_mono vy_ret (vx_ret (W.vret hx hb hr (fun t ht hW => ⟨⟨(), rfl, ⟨by omega, by omega, ⟨by omega, hq_5.1 (by omega), by omega⟩⟩, by rw [ht]; exact hP9, va_K.moved hW.alike hK9, hD9⟩, hS.F ht⟩) hS.2.2 dX7_newName_57))
      · have ic_7 : 24 ≤ ar.toInt := zi_nlt c_7
        refine lv_aload_n hx hb dX7_newName_53 rfl (lv_at hl 0 rfl) ?_
        have hPc := hP.sub (ws' := [(h0, .inr (7, [.ref ptok, .ref pnee, .ref pnam, .int ar, .ref pbui, .ref pdra, .int fu, .int fn, .int fp])), (ptok, .inr (10, [.ref ts, .ref tp, .ref tw, .int z, .int pa, .int so, .int pl, .long wd])), (ts, .inl (t1, 2001, .inl gs)), (tp, .inl (t2, 2001, .inl gp)), (tw, .inl (t3, 2001, .inr (.inl gw))), (pdra, .inr (9, [.ref gco, .ref gar, .ref gki, .ref gfu])), (gki, .inr (4, [.ref kw, .ref kf, .int kz])), (kw, .inl (k1, 20, .inr (.inl kgw))), (kf, .inl (k2, 20, .inl kgf))]) [8, 0, 1, 2, 3, 4, 5, 6, 7] rfl
        have hDc := hD.sub (ws' := [(h0, .inr (7, [.ref ptok, .ref pnee, .ref pnam, .int ar, .ref pbui, .ref pdra, .int fu, .int fn, .int fp])), (ptok, .inr (10, [.ref ts, .ref tp, .ref tw, .int z, .int pa, .int so, .int pl, .long wd])), (ts, .inl (t1, 2001, .inl gs)), (tp, .inl (t2, 2001, .inl gp)), (tw, .inl (t3, 2001, .inr (.inl gw))), (pdra, .inr (9, [.ref gco, .ref gar, .ref gki, .ref gfu])), (gki, .inr (4, [.ref kw, .ref kf, .int kz])), (kw, .inl (k1, 20, .inr (.inl kgw))), (kf, .inl (k2, 20, .inl kgf))]) [8, 0, 1, 2, 3, 4, 5, 6, 7] (by decide) rfl
        have hKc := hK.sub (tys' := [(t1, .int), (t2, .int), (t3, .long), (k1, .long), (k2, .int)]) [0, 1, 2, 3, 4] rfl
        have hFc := va_free (wc := [(h0, .inr (7, [.ref ptok, .ref pnee, .ref pnam, .int ar, .ref pbui, .ref pdra, .int fu, .int fn, .int fp])), (ptok, .inr (10, [.ref ts, .ref tp, .ref tw, .int z, .int pa, .int so, .int pl, .long wd])), (ts, .inl (t1, 2001, .inl gs)), (tp, .inl (t2, 2001, .inl gp)), (tw, .inl (t3, 2001, .inr (.inl gw))), (pdra, .inr (9, [.ref gco, .ref gar, .ref gki, .ref gfu])), (gki, .inr (4, [.ref kw, .ref kf, .int kz])), (kw, .inl (k1, 20, .inr (.inl kgw))), (kf, .inl (k2, 20, .inl kgf))]) hD hS hAA [8, 0, 1, 2, 3, 4, 5, 6, 7] rfl
        refine vy_callv (vy_runV (As := []) (rest := []) ⟨hx, hb, hml, hown, hA⟩ (c_X7_failMany l dC dI aK aV h0 ptok pnee pnam pbui pdra ar fu fn fp ts tp tw t1 t2 t3 z pa so pl wd gs gp gw gco gar gki gfu kw kf k1 k2 kz kgw kgf H.size hlt (by omega) (by omega) (by omega) (by omega) hgz (by omega) (by omega) hkf) (cwV 0 hA (zw_V wi_790 wi_792 wi_4 wi_136 (zw_good wi_793)) rfl rfl rfl (by decide +kernel) ⟨(Nat.le_of_ble_eq_true rfl), (Nat.le_of_ble_eq_true rfl)⟩) ⟨zP_blind, va_recv hKc hPc (ci := 7) (q0 := 0) rfl rfl, zz_pre hKc hPc hDc hN hT hS hFc⟩ rfl rfl hl.1 rfl (lv_room (Nat.le_of_ble_eq_true rfl)) dX7_newName_54 ⟨(Nat.le_of_ble_eq_true rfl), (Nat.le_of_ble_eq_true rfl)⟩) hS (fun q _ h => hFc q h) hFc (fun q _ h => hFc q h) (fun E9 ce9 q9 u t H1 locs ht hvm hw hB hz1 hk1 hS hcell hcv hcl => ?_) (fun u t H1 locs ht hvm hw hB hz1 hk1 hS => absurd hw id)
        obtain ⟨x_fn2_9, x_fp2_10⟩ := u
        obtain ⟨rfl, hP1, hK1, hD1⟩ := hB
        rw [ht] at hP1
        have hK1 := va_K.moved hvm.symm hK1
        obtain ⟨hP, hD⟩ := va_join (wr := [(pnam, .inl (nk, 24, .inr (.inl gn)))]) (w1 := [(h0, .inr (7, [.ref ptok, .ref pnee, .ref pnam, .int ar, .ref pbui, .ref pdra, .int fu, .int x_fn2_9, .int x_fp2_10])), (ptok, .inr (10, [.ref ts, .ref tp, .ref tw, .int z, .int pa, .int so, .int pl, .long wd])), (ts, .inl (t1, 2001, .inl gs)), (tp, .inl (t2, 2001, .inl gp)), (tw, .inl (t3, 2001, .inr (.inl gw))), (pdra, .inr (9, [.ref gco, .ref gar, .ref gki, .ref gfu])), (gki, .inr (4, [.ref kw, .ref kf, .int kz])), (kw, .inl (k1, 20, .inr (.inl kgw))), (kf, .inl (k2, 20, .inl kgf))]) hP hD [8, 0, 1, 2, 3, 4, 5, 6, 7] [9] rfl rfl (by decide) (by decide) hk1 hFc hP1 hD1
        have hK := (hK.sub (tys' := [(nk, .long)]) [5] rfl).app hK1
        clear hPc hDc hFc hP1 hD1 hk1 hz1 ht hvm
        generalize H1 = H at hP hS hcell ⊢
        have hP : va_P (dC, dI) vwCl [(pnam, .inl (nk, 24, .inr (.inl gn))), (h0, .inr (7, [.ref ptok, .ref pnee, .ref pnam, .int ar, .ref pbui, .ref pdra, .int fu, .int x_fn2_9, .int x_fp2_10])), (ptok, .inr (10, [.ref ts, .ref tp, .ref tw, .int z, .int pa, .int so, .int pl, .long wd])), (ts, .inl (t1, 2001, .inl gs)), (tp, .inl (t2, 2001, .inl gp)), (tw, .inl (t3, 2001, .inr (.inl gw))), (pdra, .inr (9, [.ref gco, .ref gar, .ref gki, .ref gfu])), (gki, .inr (4, [.ref kw, .ref kf, .int kz])), (kw, .inl (k1, 20, .inr (.inl kgw))), (kf, .inl (k2, 20, .inl kgf))] H := hP
        have hD : va_D A [(pnam, .inl (nk, 24, .inr (.inl gn))), (h0, .inr (7, [.ref ptok, .ref pnee, .ref pnam, .int ar, .ref pbui, .ref pdra, .int fu, .int x_fn2_9, .int x_fp2_10])), (ptok, .inr (10, [.ref ts, .ref tp, .ref tw, .int z, .int pa, .int so, .int pl, .long wd])), (ts, .inl (t1, 2001, .inl gs)), (tp, .inl (t2, 2001, .inl gp)), (tw, .inl (t3, 2001, .inr (.inl gw))), (pdra, .inr (9, [.ref gco, .ref gar, .ref gki, .ref gfu])), (gki, .inr (4, [.ref kw, .ref kf, .int kz])), (kw, .inl (k1, 20, .inr (.inl kgw))), (kf, .inl (k2, 20, .inl kgf))] := hD
        have hK : va_K (dC, dI) vwCl [(nk, .long), (t1, .int), (t2, .int), (t3, .long), (k1, .long), (k2, .int)] s := hK
        have hq_11 := hw
        try dsimp only at hq_11
        refine vx_widen (k := 1) (n := 6) (Nat.le_of_ble_eq_true rfl) (Nat.le_of_ble_eq_true rfl) ?_
        have hP9 := hP.sub (ws' := [(h0, .inr (7, [.ref ptok, .ref pnee, .ref pnam, .int ar, .ref pbui, .ref pdra, .int fu, .int x_fn2_9, .int x_fp2_10])), (ptok, .inr (10, [.ref ts, .ref tp, .ref tw, .int z, .int pa, .int so, .int pl, .long wd])), (ts, .inl (t1, 2001, .inl gs)), (tp, .inl (t2, 2001, .inl gp)), (tw, .inl (t3, 2001, .inr (.inl gw))), (pdra, .inr (9, [.ref gco, .ref gar, .ref gki, .ref gfu])), (gki, .inr (4, [.ref kw, .ref kf, .int kz])), (kw, .inl (k1, 20, .inr (.inl kgw))), (kf, .inl (k2, 20, .inl kgf)), (pnam, .inl (nk, 24, .inr (.inl gn)))]) [1, 2, 3, 4, 5, 6, 7, 8, 9, 0] rfl
        have hD9 := hD.sub (ws' := [(h0, .inr (7, [.ref ptok, .ref pnee, .ref pnam, .int ar, .ref pbui, .ref pdra, .int fu, .int x_fn2_9, .int x_fp2_10])), (ptok, .inr (10, [.ref ts, .ref tp, .ref tw, .int z, .int pa, .int so, .int pl, .long wd])), (ts, .inl (t1, 2001, .inl gs)), (tp, .inl (t2, 2001, .inl gp)), (tw, .inl (t3, 2001, .inr (.inl gw))), (pdra, .inr (9, [.ref gco, .ref gar, .ref gki, .ref gfu])), (gki, .inr (4, [.ref kw, .ref kf, .int kz])), (kw, .inl (k1, 20, .inr (.inl kgw))), (kf, .inl (k2, 20, .inl kgf)), (pnam, .inl (nk, 24, .inr (.inl gn)))]) [1, 2, 3, 4, 5, 6, 7, 8, 9, 0] (by decide) rfl
        have hK9 := hK.sub (tys' := [(t1, .int), (t2, .int), (t3, .long), (k1, .long), (k2, .int), (nk, .long)]) [1, 2, 3, 4, 5, 0] rfl
        exact vy_monoX vy_thr (vx_out (fun x hx => (hnh x hx).elim) hlocks hcell hcv hcl (fun t ht hvm => ⟨(x_fn2_9, x_fp2_10), ⟨by omega, fun h => absurd h.2.2 (by omega)⟩, ⟨rfl, by rw [ht]; exact hP9, va_K.moved hvm hK9, hD9⟩, hS.F ht⟩) hS.2.2 (Nat.le_of_ble_eq_true rfl) (Nat.le_of_ble_eq_true rfl))
    · have ic_6 : r_2.toInt ≠ (-1) := zi_ne c_6
      refine lv_aload_n hx hb dX7_newName_32 rfl (lv_at hl 0 rfl) ?_
      refine lv_iconst (v := 3) hx hb dX7_newName_33 (by decide) ?_
      refine lv_aload_n hx hb dX7_newName_34 rfl (lv_at hl 0 rfl) ?_
      refine va_get (D := (dC, dI)) (ci := 7) (v := .ref ptok) (C := RX7) (T := TX7) (N := 9) hx hb hA zin_X7 hown hK hP 8 rfl rfl 0 (by decide) (hA _ wi_387) (fun _ h9 => h9) rfl dX7_newName_35 ?_
      refine va_get (D := (dC, dI)) (ci := 10) (v := .int pl) (C := RX10) (T := TX10) (N := 8) hx hb hA zin_X10 hown hK hP 0 rfl rfl 6 (by decide) (hA _ wi_355) (fun _ h9 => h9) rfl dX7_newName_38 ?_
      have hPc := hP.sub (ws' := [(h0, .inr (7, [.ref ptok, .ref pnee, .ref pnam, .int ar, .ref pbui, .ref pdra, .int fu, .int fn, .int fp]))]) [8] rfl
      have hDc := hD.sub (ws' := [(h0, .inr (7, [.ref ptok, .ref pnee, .ref pnam, .int ar, .ref pbui, .ref pdra, .int fu, .int fn, .int fp]))]) [8] (by decide) rfl
      have hKc := hK.sub (tys' := []) [] rfl
      have hFc := va_free (wc := [(h0, .inr (7, [.ref ptok, .ref pnee, .ref pnam, .int ar, .ref pbui, .ref pdra, .int fu, .int fn, .int fp]))]) hD hS hAA [8] rfl
      refine vy_callv (vy_runV (As := [.int 3, .int pl]) (rest := []) ⟨hx, hb, hml, hown, hA⟩ (c_X7_fail l dC dI aK aV h0 ptok pnee pnam pbui pdra ar fu fn fp 3 pl H.size hlt) (cwV 2 hA (zw_V wi_806 wi_808 wi_5 wi_136 (zw_good wi_809)) rfl rfl rfl (by decide +kernel) ⟨(Nat.le_of_ble_eq_true rfl), (Nat.le_of_ble_eq_true rfl)⟩) ⟨zP_blind, va_recv hKc hPc (ci := 7) (q0 := 0) rfl rfl, zz_pre hKc hPc hDc hN hT hS hFc⟩ rfl rfl hl.1 rfl (lv_room (Nat.le_of_ble_eq_true rfl)) dX7_newName_41 ⟨(Nat.le_of_ble_eq_true rfl), (Nat.le_of_ble_eq_true rfl)⟩) hS (fun q _ h => hFc q h) hFc (fun q _ h => hFc q h) (fun E9 ce9 q9 u t H1 locs ht hvm hw hB hz1 hk1 hS hcell hcv hcl => ?_) (fun u t H1 locs ht hvm hw hB hz1 hk1 hS => absurd hw id)
      obtain ⟨x_fn2_13, x_fp2_14⟩ := u
      obtain ⟨rfl, hP1, hK1, hD1⟩ := hB
      rw [ht] at hP1
      have hK1 := va_K.moved hvm.symm hK1
      obtain ⟨hP, hD⟩ := va_join (wr := [(ptok, .inr (10, [.ref ts, .ref tp, .ref tw, .int z, .int pa, .int so, .int pl, .long wd])), (ts, .inl (t1, 2001, .inl gs)), (tp, .inl (t2, 2001, .inl gp)), (tw, .inl (t3, 2001, .inr (.inl gw))), (pdra, .inr (9, [.ref gco, .ref gar, .ref gki, .ref gfu])), (gki, .inr (4, [.ref kw, .ref kf, .int kz])), (kw, .inl (k1, 20, .inr (.inl kgw))), (kf, .inl (k2, 20, .inl kgf)), (pnam, .inl (nk, 24, .inr (.inl gn)))]) (w1 := [(h0, .inr (7, [.ref ptok, .ref pnee, .ref pnam, .int ar, .ref pbui, .ref pdra, .int fu, .int x_fn2_13, .int x_fp2_14]))]) hP hD [8] [0, 1, 2, 3, 4, 5, 6, 7, 9] rfl rfl (by decide) (by decide) hk1 hFc hP1 hD1
      have hK := (hK.sub (tys' := [(t1, .int), (t2, .int), (t3, .long), (k1, .long), (k2, .int), (nk, .long)]) [0, 1, 2, 3, 4, 5] rfl).app hK1
      clear hPc hDc hFc hP1 hD1 hk1 hz1 ht hvm
      generalize H1 = H at hP hS hcell ⊢
      have hP : va_P (dC, dI) vwCl [(ptok, .inr (10, [.ref ts, .ref tp, .ref tw, .int z, .int pa, .int so, .int pl, .long wd])), (ts, .inl (t1, 2001, .inl gs)), (tp, .inl (t2, 2001, .inl gp)), (tw, .inl (t3, 2001, .inr (.inl gw))), (pdra, .inr (9, [.ref gco, .ref gar, .ref gki, .ref gfu])), (gki, .inr (4, [.ref kw, .ref kf, .int kz])), (kw, .inl (k1, 20, .inr (.inl kgw))), (kf, .inl (k2, 20, .inl kgf)), (pnam, .inl (nk, 24, .inr (.inl gn))), (h0, .inr (7, [.ref ptok, .ref pnee, .ref pnam, .int ar, .ref pbui, .ref pdra, .int fu, .int x_fn2_13, .int x_fp2_14]))] H := hP
      have hD : va_D A [(ptok, .inr (10, [.ref ts, .ref tp, .ref tw, .int z, .int pa, .int so, .int pl, .long wd])), (ts, .inl (t1, 2001, .inl gs)), (tp, .inl (t2, 2001, .inl gp)), (tw, .inl (t3, 2001, .inr (.inl gw))), (pdra, .inr (9, [.ref gco, .ref gar, .ref gki, .ref gfu])), (gki, .inr (4, [.ref kw, .ref kf, .int kz])), (kw, .inl (k1, 20, .inr (.inl kgw))), (kf, .inl (k2, 20, .inl kgf)), (pnam, .inl (nk, 24, .inr (.inl gn))), (h0, .inr (7, [.ref ptok, .ref pnee, .ref pnam, .int ar, .ref pbui, .ref pdra, .int fu, .int x_fn2_13, .int x_fp2_14]))] := hD
      have hK : va_K (dC, dI) vwCl [(t1, .int), (t2, .int), (t3, .long), (k1, .long), (k2, .int), (nk, .long)] s := hK
      have hq_15 := hw
      try dsimp only at hq_15
      refine vx_widen (k := 1) (n := 6) (Nat.le_of_ble_eq_true rfl) (Nat.le_of_ble_eq_true rfl) ?_
      have hP9 := hP.sub (ws' := [(h0, .inr (7, [.ref ptok, .ref pnee, .ref pnam, .int ar, .ref pbui, .ref pdra, .int fu, .int x_fn2_13, .int x_fp2_14])), (ptok, .inr (10, [.ref ts, .ref tp, .ref tw, .int z, .int pa, .int so, .int pl, .long wd])), (ts, .inl (t1, 2001, .inl gs)), (tp, .inl (t2, 2001, .inl gp)), (tw, .inl (t3, 2001, .inr (.inl gw))), (pdra, .inr (9, [.ref gco, .ref gar, .ref gki, .ref gfu])), (gki, .inr (4, [.ref kw, .ref kf, .int kz])), (kw, .inl (k1, 20, .inr (.inl kgw))), (kf, .inl (k2, 20, .inl kgf)), (pnam, .inl (nk, 24, .inr (.inl gn)))]) [9, 0, 1, 2, 3, 4, 5, 6, 7, 8] rfl
      have hD9 := hD.sub (ws' := [(h0, .inr (7, [.ref ptok, .ref pnee, .ref pnam, .int ar, .ref pbui, .ref pdra, .int fu, .int x_fn2_13, .int x_fp2_14])), (ptok, .inr (10, [.ref ts, .ref tp, .ref tw, .int z, .int pa, .int so, .int pl, .long wd])), (ts, .inl (t1, 2001, .inl gs)), (tp, .inl (t2, 2001, .inl gp)), (tw, .inl (t3, 2001, .inr (.inl gw))), (pdra, .inr (9, [.ref gco, .ref gar, .ref gki, .ref gfu])), (gki, .inr (4, [.ref kw, .ref kf, .int kz])), (kw, .inl (k1, 20, .inr (.inl kgw))), (kf, .inl (k2, 20, .inl kgf)), (pnam, .inl (nk, 24, .inr (.inl gn)))]) [9, 0, 1, 2, 3, 4, 5, 6, 7, 8] (by decide) rfl
      have hK9 := hK.sub (tys' := [(t1, .int), (t2, .int), (t3, .long), (k1, .long), (k2, .int), (nk, .long)]) [0, 1, 2, 3, 4, 5] rfl
      exact vy_monoX vy_thr (vx_out (fun x hx => (hnh x hx).elim) hlocks hcell hcv hcl (fun t ht hvm => ⟨(x_fn2_13, x_fp2_14), ⟨by omega, fun h => h.2.1 (hq_5.2 (by omega)).1⟩, ⟨rfl, by rw [ht]; exact hP9, va_K.moved hvm hK9, hD9⟩, hS.F ht⟩) hS.2.2 (Nat.le_of_ble_eq_true rfl) (Nat.le_of_ble_eq_true rfl))
  · have ic_1 : so.toInt ≠ 258 := zi_ne c_1
    refine lv_aload_n hx hb dX7_newName_13 rfl (lv_at hl 0 rfl) ?_
    have hPc := hP.sub (ws' := [(h0, .inr (7, [.ref ptok, .ref pnee, .ref pnam, .int ar, .ref pbui, .ref pdra, .int fu, .int fn, .int fp])), (ptok, .inr (10, [.ref ts, .ref tp, .ref tw, .int z, .int pa, .int so, .int pl, .long wd]))]) [0, 1] rfl
    have hDc := hD.sub (ws' := [(h0, .inr (7, [.ref ptok, .ref pnee, .ref pnam, .int ar, .ref pbui, .ref pdra, .int fu, .int fn, .int fp])), (ptok, .inr (10, [.ref ts, .ref tp, .ref tw, .int z, .int pa, .int so, .int pl, .long wd]))]) [0, 1] (by decide) rfl
    have hKc := hK.sub (tys' := []) [] rfl
    have hFc := va_free (wc := [(h0, .inr (7, [.ref ptok, .ref pnee, .ref pnam, .int ar, .ref pbui, .ref pdra, .int fu, .int fn, .int fp])), (ptok, .inr (10, [.ref ts, .ref tp, .ref tw, .int z, .int pa, .int so, .int pl, .long wd]))]) hD hS hAA [0, 1] rfl
    refine vy_callv (vy_runV (As := []) (rest := []) ⟨hx, hb, hml, hown, hA⟩ (c_X7_failForm l dC dI aK aV h0 ptok pnee pnam pbui pdra ar fu fn fp ts tp tw z pa so pl wd s.heap.size hlt) (cwV 0 hA (zw_V wi_877 wi_879 wi_8 wi_136 (zw_good wi_880)) rfl rfl rfl (by decide +kernel) ⟨(Nat.le_of_ble_eq_true rfl), (Nat.le_of_ble_eq_true rfl)⟩) ⟨zP_blind, va_recv hKc hPc (ci := 7) (q0 := 0) rfl rfl, zz_pre hKc hPc hDc hN hT hS hFc⟩ rfl rfl hl.1 rfl (lv_room (Nat.le_of_ble_eq_true rfl)) dX7_newName_14 ⟨(Nat.le_of_ble_eq_true rfl), (Nat.le_of_ble_eq_true rfl)⟩) hS (fun q _ h => hFc q h) hFc (fun q _ h => hFc q h) (fun E9 ce9 q9 u t H1 locs ht hvm hw hB hz1 hk1 hS hcell hcv hcl => ?_) (fun u t H1 locs ht hvm hw hB hz1 hk1 hS => absurd hw id)
    obtain ⟨x_fn2_17, x_fp2_18⟩ := u
    obtain ⟨rfl, hP1, hK1, hD1⟩ := hB
    rw [ht] at hP1
    have hK1 := va_K.moved hvm.symm hK1
    obtain ⟨hP, hD⟩ := va_join (wr := [(ts, .inl (t1, 2001, .inl gs)), (tp, .inl (t2, 2001, .inl gp)), (tw, .inl (t3, 2001, .inr (.inl gw))), (pdra, .inr (9, [.ref gco, .ref gar, .ref gki, .ref gfu])), (gki, .inr (4, [.ref kw, .ref kf, .int kz])), (kw, .inl (k1, 20, .inr (.inl kgw))), (kf, .inl (k2, 20, .inl kgf)), (pnam, .inl (nk, 24, .inr (.inl gn)))]) (w1 := [(h0, .inr (7, [.ref ptok, .ref pnee, .ref pnam, .int ar, .ref pbui, .ref pdra, .int fu, .int x_fn2_17, .int x_fp2_18])), (ptok, .inr (10, [.ref ts, .ref tp, .ref tw, .int z, .int pa, .int so, .int pl, .long wd]))]) hP hD [0, 1] [2, 3, 4, 5, 6, 7, 8, 9] rfl rfl (by decide) (by decide) hk1 hFc hP1 hD1
    have hK := (hK.sub (tys' := [(t1, .int), (t2, .int), (t3, .long), (k1, .long), (k2, .int), (nk, .long)]) [0, 1, 2, 3, 4, 5] rfl).app hK1
    clear hPc hDc hFc hP1 hD1 hk1 hz1 ht hvm
    generalize H1 = H at hP hS hcell ⊢
    have hP : va_P (dC, dI) vwCl [(ts, .inl (t1, 2001, .inl gs)), (tp, .inl (t2, 2001, .inl gp)), (tw, .inl (t3, 2001, .inr (.inl gw))), (pdra, .inr (9, [.ref gco, .ref gar, .ref gki, .ref gfu])), (gki, .inr (4, [.ref kw, .ref kf, .int kz])), (kw, .inl (k1, 20, .inr (.inl kgw))), (kf, .inl (k2, 20, .inl kgf)), (pnam, .inl (nk, 24, .inr (.inl gn))), (h0, .inr (7, [.ref ptok, .ref pnee, .ref pnam, .int ar, .ref pbui, .ref pdra, .int fu, .int x_fn2_17, .int x_fp2_18])), (ptok, .inr (10, [.ref ts, .ref tp, .ref tw, .int z, .int pa, .int so, .int pl, .long wd]))] H := hP
    have hD : va_D A [(ts, .inl (t1, 2001, .inl gs)), (tp, .inl (t2, 2001, .inl gp)), (tw, .inl (t3, 2001, .inr (.inl gw))), (pdra, .inr (9, [.ref gco, .ref gar, .ref gki, .ref gfu])), (gki, .inr (4, [.ref kw, .ref kf, .int kz])), (kw, .inl (k1, 20, .inr (.inl kgw))), (kf, .inl (k2, 20, .inl kgf)), (pnam, .inl (nk, 24, .inr (.inl gn))), (h0, .inr (7, [.ref ptok, .ref pnee, .ref pnam, .int ar, .ref pbui, .ref pdra, .int fu, .int x_fn2_17, .int x_fp2_18])), (ptok, .inr (10, [.ref ts, .ref tp, .ref tw, .int z, .int pa, .int so, .int pl, .long wd]))] := hD
    have hK : va_K (dC, dI) vwCl [(t1, .int), (t2, .int), (t3, .long), (k1, .long), (k2, .int), (nk, .long)] s := hK
    have hq_19 := hw
    try dsimp only at hq_19
    refine vx_widen (k := 1) (n := 6) (Nat.le_of_ble_eq_true rfl) (Nat.le_of_ble_eq_true rfl) ?_
    have hP9 := hP.sub (ws' := [(h0, .inr (7, [.ref ptok, .ref pnee, .ref pnam, .int ar, .ref pbui, .ref pdra, .int fu, .int x_fn2_17, .int x_fp2_18])), (ptok, .inr (10, [.ref ts, .ref tp, .ref tw, .int z, .int pa, .int so, .int pl, .long wd])), (ts, .inl (t1, 2001, .inl gs)), (tp, .inl (t2, 2001, .inl gp)), (tw, .inl (t3, 2001, .inr (.inl gw))), (pdra, .inr (9, [.ref gco, .ref gar, .ref gki, .ref gfu])), (gki, .inr (4, [.ref kw, .ref kf, .int kz])), (kw, .inl (k1, 20, .inr (.inl kgw))), (kf, .inl (k2, 20, .inl kgf)), (pnam, .inl (nk, 24, .inr (.inl gn)))]) [8, 9, 0, 1, 2, 3, 4, 5, 6, 7] rfl
    have hD9 := hD.sub (ws' := [(h0, .inr (7, [.ref ptok, .ref pnee, .ref pnam, .int ar, .ref pbui, .ref pdra, .int fu, .int x_fn2_17, .int x_fp2_18])), (ptok, .inr (10, [.ref ts, .ref tp, .ref tw, .int z, .int pa, .int so, .int pl, .long wd])), (ts, .inl (t1, 2001, .inl gs)), (tp, .inl (t2, 2001, .inl gp)), (tw, .inl (t3, 2001, .inr (.inl gw))), (pdra, .inr (9, [.ref gco, .ref gar, .ref gki, .ref gfu])), (gki, .inr (4, [.ref kw, .ref kf, .int kz])), (kw, .inl (k1, 20, .inr (.inl kgw))), (kf, .inl (k2, 20, .inl kgf)), (pnam, .inl (nk, 24, .inr (.inl gn)))]) [8, 9, 0, 1, 2, 3, 4, 5, 6, 7] (by decide) rfl
    have hK9 := hK.sub (tys' := [(t1, .int), (t2, .int), (t3, .long), (k1, .long), (k2, .int), (nk, .long)]) [0, 1, 2, 3, 4, 5] rfl
    exact vy_monoX vy_thr (vx_out (fun x hx => (hnh x hx).elim) hlocks hcell hcv hcl (fun t ht hvm => ⟨(x_fn2_17, x_fp2_18), ⟨by omega, fun h => absurd h.1 (by omega)⟩, ⟨rfl, by rw [ht]; exact hP9, va_K.moved hvm hK9, hD9⟩, hS.F ht⟩) hS.2.2 (Nat.le_of_ble_eq_true rfl) (Nat.le_of_ble_eq_true rfl))

end
