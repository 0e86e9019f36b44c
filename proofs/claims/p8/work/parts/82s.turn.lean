/-! one turn of the class, and the plain machine's steps -/
section
variable {S : Nat → Nat → Int32} {nx : Nat → Int32} {H : Int32 → Int64 → Prop} {az : Int} {z : Nat} {kz : Int32} {kf : Nat → Int32} {gs gs2 : Nat → Int64} {kb kk kb2 kk2 gk gk2 : Nat → Int32} {gv gv2 : Nat → Int64} {on ba tp st fr on2 ba2 tp2 st2 fr2 x x2 : Int32} {i : Int} {s : pm_S} {F : sp_F} {al r : Nat}
theorem cs_si (h : cSm S nx H az z kz kf gs kb kk gk gv on ba tp st fr x i s) (hr : x.toInt = (r : Int)) (ho : (S 0 r).toInt = 0 ∨ (S 0 r).toInt = 14 ∨ (S 0 r).toInt = 16) (h0 : (S 0 r).toInt = 0 → x2 = nx r) (h1 : (S 0 r).toInt ≠ 0 → 0 ≤ (S 1 r).toInt → x2 = nx (Int32.toNatClampNeg (S 1 r))) : cSm S nx H az z kz kf gs kb kk gk gv on ba tp st fr x2 (i + 1) s := by
  obtain ⟨b, nm, K, Vs, e, bd, fs, m1, m2, tn, sn, cn, ck, cf, hn, ⟨ht, hb, hk, hh⟩, hK, hF, hs, hc, hm⟩ := h
  obtain ⟨m3, e3, g⟩ := cK_s hr ho hk hK
  refine ⟨b, nm, K, Vs, e, bd, fs, m3, m2, tn, sn, cn, ck, cf, hn, ⟨ht, hb, hk, hh⟩, ?_, hF, hs, hc, by omega⟩
  rcases g with ⟨g1, g2⟩ | ⟨g1, g2, g3⟩
  · rw [h0 g1]; exact g2
  · rw [h1 g1 g2]; exact g3
/-- a STEP more than allowed -/
theorem cs_cut (h : cSm S nx H az z kz kf gs kb kk gk gv on ba tp st fr x i s) (hr : x.toInt = (r : Int)) (ho : (S 0 r).toInt = 1 ∨ (S 0 r).toInt = 2 ∨ (S 0 r).toInt = 3 ∨ (S 0 r).toInt = 4 ∨ (S 0 r).toInt = 6) (ha : st.toInt = (al : Int)) : pm_st F al s = .error (5, (S 3 r).toInt) := by
  obtain ⟨b, nm, K, Vs, e, bd, fs, m1, m2, tn, sn, cn, ck, cf, ⟨n1, n2, n3, n4, n5⟩, ⟨ht, hb, hk, hh⟩, hK, hF, rfl, hc, hm⟩ := h
  obtain ⟨t, K2, zz, rfl, g1, g2, g3⟩ := cK_w hr ho hk hK
  have e1 : sn = al := by omega
  subst e1
  rw [g1]
  exact pm_st_c
theorem cs_1 (h : cSm S nx H az z kz kf gs kb kk gk gv on ba tp st fr x i s) (hr : x.toInt = (r : Int)) (ho : (S 0 r).toInt = 1) (ha : st.toInt < (al : Int)) (e2 : st2.toInt = st.toInt + 1) : ∃ s2, pm_st F al s = .ok s2 ∧ cSm S nx H az z kz kf gs kb kk gk gv on ba tp st2 fr (nx r) (i + 1) s2 := by
  obtain ⟨b, nm, K, Vs, e, bd, fs, m1, m2, tn, sn, cn, ck, cf, ⟨n1, n2, n3, n4, n5⟩, ⟨ht, hb, hk, hh⟩, hK, hF, rfl, hc, hm⟩ := h
  obtain ⟨t, K2, zz, rfl, g1, g2, g3⟩ := cK_w hr (Or.inl ho) hk hK
  obtain ⟨-, K1, w, w3, p1, p2, p3, p4⟩ := g2.resolve_right (fun g => by rcases g with g | g | g | g <;> (have := g.1; omega))
  have e1 : ¬ sn = al := by omega
  refine ⟨(K1 ++ K2 ++ (2, Tm.nil) :: cTs fs, Vs ++ cVs fs, e :: cEs fs, sn + 1, cn, ck, cf), ?_, b, nm, K1 ++ K2, Vs, e, bd, fs, w + m1, m2, tn, sn + 1, cn, ck, cf, ⟨n1, by omega, n3, n4, n5⟩, ⟨ht, hb, fun u hu => ?_, p3 K2 _ hh⟩, p2 K2 m1 g3, hF, rfl, hc, by omega⟩
  · rw [List.append_assoc]
    exact (pm_st_w e1).trans (p1 _ _ _ _ _ _ _)
  · rcases List.mem_append.mp hu with g | g
    · exact p4 u g
    · exact hk u (List.mem_cons_of_mem _ g)
/-- a value more -/
theorem cs_pu {b nm tn sn cn m1 m2 : Nat} {K2 : List (Nat × Tm)} {Vs : List Int64} {e : Nat → Int64} {bd : Nat} {fs : List cFm} {ck : Nat → Int32} {cf : Nat → Int64} {v : Int64} {t : Tm} (hn : tp.toInt = (tn : Int) ∧ st.toInt = (sn : Int) ∧ fr.toInt = (cn : Int) ∧ on.toInt = (fs.length : Int) + 1 ∧ ba.toInt = (b : Int)) (ht : cTop gs b nm Vs e bd tn) (hb : (kb fs.length).toInt = (b : Int)) (hk : ∀ u ∈ (0, t) :: K2, cOk z kf bd nm u) (hh : cHt ((0, t) :: K2) Vs.length) (hK : cKo S nx H az K2 x2 m1) (hF : cFr S nx H az z kf gs kb kk fs b (kk fs.length) m2) (hc : cCe kz kf gk gv cn ck cf) (hm : i + m1 + m2 ≤ 4 * (sn : Int) + 2) (e2 : st2.toInt = st.toInt + 1) (e3 : tp2.toInt = tp.toInt + 1) (e4 : gs2 = vp_updL gs (Int32.toNatClampNeg tp) v) : cSm S nx H az z kz kf gs2 kb kk gk gv on ba tp2 st2 fr x2 (i + 1) (K2 ++ (2, Tm.nil) :: cTs fs, v :: (Vs ++ cVs fs), e :: cEs fs, sn + 1, cn, ck, cf) := by
  obtain ⟨n1, n2, n3, n4, n5⟩ := hn
  have et : Int32.toNatClampNeg tp = tn := by have := zn_nat (x := tp) (by omega); omega
  rw [et] at e4
  have hb2 : b ≤ tn := by have := ht.1; omega
  exact ⟨b, nm, K2, v :: Vs, e, bd, fs, m1, m2, tn + 1, sn + 1, cn, ck, cf, ⟨by omega, by omega, n3, n4, n5⟩, ⟨cTop_pu ht e4, hb, fun u hu => hk u (List.mem_cons_of_mem _ hu), by rw [List.length_cons]; exact hh⟩, hK, cFr_cg (fun j hj => by rw [e4, cul_n (by omega)]) (fun _ _ => ⟨rfl, rfl⟩) hF, rfl, hc, by omega⟩
theorem cs_2 (h : cSm S nx H az z kz kf gs kb kk gk gv on ba tp st fr x i s) (hr : x.toInt = (r : Int)) (ho : (S 0 r).toInt = 2) (ha : st.toInt < (al : Int)) (e2 : st2.toInt = st.toInt + 1) (e3 : tp2.toInt = tp.toInt + 1) (e4 : gs2 = vp_updL gs (Int32.toNatClampNeg tp) (pv0 (S 1 r))) : ∃ s2, pm_st F al s = .ok s2 ∧ cSm S nx H az z kz kf gs2 kb kk gk gv on ba tp2 st2 fr (nx r) (i + 1) s2 := by
  obtain ⟨b, nm, K, Vs, e, bd, fs, m1, m2, tn, sn, cn, ck, cf, hn, ⟨ht, hb, hk, hh⟩, hK, hF, rfl, hc, hm⟩ := h
  obtain ⟨t, K2, zz, rfl, g1, g2, g3⟩ := cK_w hr (Or.inr (Or.inl ho)) hk hK
  obtain ⟨-, q2, p1⟩ : (S 0 r).toInt = 2 ∧ zz = nx r ∧ _ := by
    rcases g2 with g | g | g | g | g
    · have := g.1; omega
    · exact g
    · have := g.1; omega
    · have := g.1; omega
    · have := g.1; omega
  subst q2
  have e1 : ¬ sn = al := by have := hn.2.1; omega
  refine ⟨_, ?_, cs_pu hn ht hb hk hh g3 hF hc hm e2 e3 e4⟩
  exact (pm_st_w e1).trans (p1 _ _ _ _ _ _ _)
theorem cs_3 (h : cSm S nx H az z kz kf gs kb kk gk gv on ba tp st fr x i s) (hr : x.toInt = (r : Int)) (ho : (S 0 r).toInt = 3) (ha : st.toInt < (al : Int)) (e2 : st2.toInt = st.toInt + 1) (e3 : tp2.toInt = tp.toInt + 1) (e4 : gs2 = vp_updL gs (Int32.toNatClampNeg tp) (gs (Int32.toNatClampNeg ba + Int32.toNatClampNeg (S 1 r)))) : ∃ s2, pm_st F al s = .ok s2 ∧ cSm S nx H az z kz kf gs2 kb kk gk gv on ba tp2 st2 fr (nx r) (i + 1) s2 := by
  obtain ⟨b, nm, K, Vs, e, bd, fs, m1, m2, tn, sn, cn, ck, cf, hn, ⟨ht, hb, hk, hh⟩, hK, hF, rfl, hc, hm⟩ := h
  obtain ⟨t, K2, zz, rfl, g1, g2, g3⟩ := cK_w hr (Or.inr (Or.inr (Or.inl ho))) hk hK
  obtain ⟨-, q2, sl, q3, q4, p1⟩ : (S 0 r).toInt = 3 ∧ zz = nx r ∧ _ := by
    rcases g2 with g | g | g | g | g
    · have := g.1; omega
    · have := g.1; omega
    · exact g
    · have := g.1; omega
    · have := g.1; omega
  subst q2
  have e1 : ¬ sn = al := by have := hn.2.1; omega
  have eb : Int32.toNatClampNeg ba = b := by have := hn.2.2.2.2; have := zn_nat (x := ba) (by omega); omega
  have es : Int32.toNatClampNeg (S 1 r) = sl := by have := zn_nat (x := S 1 r) (by omega); omega
  rw [eb, es, ht.2.2.1 sl q4] at e4
  refine ⟨_, ?_, cs_pu hn ht hb hk hh g3 hF hc hm e2 e3 e4⟩
  exact (pm_st_w e1).trans (p1 _ _ _ _ _ _ _)
theorem cs_4 (h : cSm S nx H az z kz kf gs kb kk gk gv on ba tp st fr x i s) (hr : x.toInt = (r : Int)) (ho : (S 0 r).toInt = 4) (ha : st.toInt < (al : Int)) (e2 : st2.toInt = st.toInt + 1) (e3 : tp2.toInt = tp.toInt + 1) (e4 : gs2 = vp_updL gs (Int32.toNatClampNeg tp) (pv1 (S 1 r))) : ∃ s2, pm_re F al s s2 ∧ cSm S nx H az z kz kf gs2 kb kk gk gv on ba tp2 st2 fr (nx r) (i + 1) s2 := by
  obtain ⟨b, nm, K, Vs, e, bd, fs, m1, m2, tn, sn, cn, ck, cf, hn, ⟨ht, hb, hk, hh⟩, hK, hF, rfl, hc, hm⟩ := h
  obtain ⟨t, K2, zz, rfl, g1, g2, g3⟩ := cK_w hr (Or.inr (Or.inr (Or.inr (Or.inl ho)))) hk hK
  obtain ⟨-, q2, t2, p1, p2⟩ : (S 0 r).toInt = 4 ∧ zz = nx r ∧ _ := by
    rcases g2 with g | g | g | g | g
    · have := g.1; omega
    · have := g.1; omega
    · have := g.1; omega
    · exact g
    · have := g.1; omega
  subst q2
  have e1 : ¬ sn = al := by have := hn.2.1; omega
  refine ⟨_, pm_re_s (pm_re_s pm_re_r (s3 := ((1, t2) :: (K2 ++ (2, Tm.nil) :: cTs fs), Vs ++ cVs fs, e :: cEs fs, sn + 1, cn, ck, cf)) ?_) ?_, cs_pu hn ht hb hk hh g3 hF hc hm e2 e3 e4⟩
  · exact (pm_st_w e1).trans (p1 _ _ _ _ _ _ _)
  · exact pm_st_d.trans (p2 _ _ _ _ _ _ _ _)
/-- the program, as both have it -/
def cPx (S : Nat → Nat → Int32) (nx : Nat → Int32) (H : Int32 → Int64 → Prop) (az : Int) (z : Nat) (kf en ff : Nat → Int32) (F : sp_F) : Prop := (∀ x w, H x w → 0 ≤ x.toInt ∧ sp_fi F.2.1 w F.1 = Int32.toNatClampNeg x ∧ Int32.toNatClampNeg x < F.1) ∧ ∀ f, f < F.1 → ∃ (X : List Nat) (q c : Nat), (cI S H 0 az (F.2.2.2 f) false 0 0 0 X ∧ zpa nx (Int32.toNatClampNeg (en f)) X q ∧ 0 ≤ (en f).toInt ∧ (S 0 (Int32.toNatClampNeg (en f))).toInt = 0 ∧ (S 0 q).toInt = 17) ∧ F.2.2.1 f = (c : Int) ∧ (ff (5 * f)).toInt = (c : Int) ∧ sy_x (F.2.2.2 f) ∧ tm_wf z kf (F.2.2.2 f) c ∧ (c : Int) ≤ (ff (5 * f + 1)).toInt ∧ (tm_wi (F.2.2.2 f) : Int) ≤ (ff (5 * f + 1)).toInt
theorem cs_cl {b nm tn sn cn m1 m2 f q : Nat} {K2 : List (Nat × Tm)} {Vs : List Int64} {e : Nat → Int64} {bd : Nat} {fs : List cFm} {ck : Nat → Int32} {cf : Nat → Int64} {en ff : Nat → Int32} (hp : cPx S nx H az z kf en ff F) (hf : f < F.1) (hn : tp.toInt = (tn : Int) ∧ fr.toInt = (cn : Int) ∧ on.toInt = (fs.length : Int) + 1 ∧ ba.toInt = (b : Int)) (ht : cTop gs b nm Vs e bd tn) (hb : (kb fs.length).toInt = (b : Int)) (hk : ∀ u ∈ K2, cOk z kf bd nm u) (hq : q ≤ Vs.length) (hh : cHt K2 (Vs.length - q + 1)) (hK : cKo S nx H az K2 (nx r) m1) (hF : cFr S nx H az z kf gs kb kk fs b (kk fs.length) m2) (hc : cCe kz kf gk gv cn ck cf) (hm : i + 2 + m1 + m2 ≤ 4 * (sn : Int) + 2) (e2 : st2.toInt = (sn : Int)) (e3 : (ff (5 * f)).toInt = (q : Int)) (e4 : on2.toInt = on.toInt + 1) (e5 : ba2.toInt = tp.toInt - (q : Int)) (e6 : tp2.toInt = ba2.toInt + (ff (5 * f + 1)).toInt) (e7 : kb2 = upd kb (Int32.toNatClampNeg on) ba2) (e8 : kk2 = upd kk (Int32.toNatClampNeg on) (nx r)) (e9 : x2 = en f) : F.2.2.1 f = (q : Int) ∧ cSm S nx H az z kz kf gs kb2 kk2 gk gv on2 ba2 tp2 st2 fr x2 i ((0, F.2.2.2 f) :: (2, Tm.nil) :: (K2 ++ (2, Tm.nil) :: cTs fs), (Vs ++ cVs fs).drop q, pm_ae (Vs ++ cVs fs) q :: e :: cEs fs, sn, cn, ck, cf) := by
  obtain ⟨n1, n3, n4, n5⟩ := hn
  obtain ⟨X, y, c, ⟨x1, x3, x4, x5, x6⟩, c1, c2, c3, c4, c5, c6⟩ := hp.2 f hf
  have ec : c = q := by omega
  subst ec
  have eo : Int32.toNatClampNeg on = fs.length + 1 := by have := zn_nat (x := on) (by omega); omega
  rw [eo] at e7 e8
  have hd := cTop_dr ht hq
  obtain ⟨k, k1⟩ : ∃ k : Nat, (ff (5 * f + 1)).toInt = (k : Int) := ⟨(ff (5 * f + 1)).toInt.toNat, by omega⟩
  have hl : c ≤ tn := by have := ht.1; omega
  obtain ⟨y2, y3, y4⟩ := zpx_pa x3
  have hK0 : cKo S nx H az [(0, F.2.2.2 f)] x2 2 := by
    have h1 : cKo S nx H az [(0, F.2.2.2 f)] (nx (Int32.toNatClampNeg (en f))) 1 := cKo_w x1 y3 ⟨0, y2, y, rfl, y4, x6, rfl⟩
    have h2 : cSi S nx 1 x2 (nx (Int32.toNatClampNeg (en f))) := ⟨Int32.toNatClampNeg (en f), by rw [e9]; exact (zn_nat x4).symm, Or.inr ⟨x5, rfl⟩⟩
    exact cKo_si h2 h1
  have hFd : cFr S nx H az z kf gs kb2 kk2 ((b, nm, K2, Vs.drop c, e, bd) :: fs) (tn - c) (kk2 (fs.length + 1)) (m1 + m2) := by
    refine ⟨hd.1, by rw [e7, zu_n (by omega)]; exact hb, hk, by rw [List.length_drop]; exact hh, m1, m2, by rw [e8, zu_s]; exact hK, ?_, rfl⟩
    rw [e8, zu_n (by omega)]
    exact cFr_cg (fun _ _ => rfl) (fun j hj => ⟨by rw [e7, zu_n (by omega)], by rw [zu_n (by omega)]⟩) hF
  refine ⟨c1, tn - c, k, [(0, F.2.2.2 f)], [], pm_ae (Vs ++ cVs fs) c, c, (b, nm, K2, Vs.drop c, e, bd) :: fs, 2, m1 + m2, tn - c + k, sn, cn, ck, cf, ⟨by omega, e2, n3, by rw [List.length_cons]; omega, by omega⟩, ⟨⟨by simp, fun j hj => by simp at hj, fun j hj => ?_, by omega⟩, by rw [List.length_cons, e7, zu_s]; omega, fun u hu => ?_, rfl⟩, hK0, hFd, ?_, hc, by omega⟩
  · rw [hd.2.1 j hj]
    show _ = if j < c then (Vs ++ cVs fs).getD (c - 1 - j) 0 else 0
    rw [if_pos hj, List.getD_eq_getElem?_getD, List.getD_eq_getElem?_getD, List.getElem?_append_left (by omega)]
  · rw [List.mem_singleton.mp hu]
    exact ⟨c3, ⟨c, c4, Nat.le_refl _⟩, by show tm_wi (F.2.2.2 f) ≤ k; omega⟩
  · rw [List.drop_append_of_le_length hq]
    rfl
theorem cs_6 {en ff : Nat → Int32} (hp : cPx S nx H az z kf en ff F) (h : cSm S nx H az z kz kf gs kb kk gk gv on ba tp st fr x i s) (hr : x.toInt = (r : Int)) (ho : (S 0 r).toInt = 6) (ha : st.toInt < (al : Int)) (hq : (S 2 r).toInt = (ff (5 * Int32.toNatClampNeg (S 1 r))).toInt) : (100 ≤ on.toInt → ∃ p, pm_ou F al s (4, p)) ∧ (on.toInt < 100 → st2.toInt = st.toInt + 1 → on2.toInt = on.toInt + 1 → ba2.toInt = tp.toInt - (ff (5 * Int32.toNatClampNeg (S 1 r))).toInt → tp2.toInt = ba2.toInt + (ff (5 * Int32.toNatClampNeg (S 1 r) + 1)).toInt → kb2 = upd kb (Int32.toNatClampNeg on) ba2 → kk2 = upd kk (Int32.toNatClampNeg on) (nx r) → x2 = en (Int32.toNatClampNeg (S 1 r)) → ∃ s2, pm_re F al s s2 ∧ cSm S nx H az z kz kf gs kb2 kk2 gk gv on2 ba2 tp2 st2 fr x2 (i + 1) s2) := by
  obtain ⟨b, nm, K, Vs, e, bd, fs, m1, m2, tn, sn, cn, ck, cf, hn, ⟨ht, hb, hk, hh⟩, hK, hF, rfl, hc, hm⟩ := h
  obtain ⟨t, K2, zz, rfl, g1, g2, g3⟩ := cK_w hr (Or.inr (Or.inr (Or.inr (Or.inr ho)))) hk hK
  obtain ⟨-, q2, q3, t2, wd, p0, p1, p2⟩ : (S 0 r).toInt = 6 ∧ zz = nx r ∧ _ := by
    rcases g2 with g | g | g | g | g
    · have := g.1; omega
    · have := g.1; omega
    · have := g.1; omega
    · have := g.1; omega
    · exact g
  subst q2
  have e1 : ¬ sn = al := by have := hn.2.1; omega
  obtain ⟨f1, f2, f3⟩ := hp.1 _ _ p0
  have s1 : pm_re F al ((0, t) :: K2 ++ (2, Tm.nil) :: cTs fs, Vs ++ cVs fs, e :: cEs fs, sn, cn, ck, cf) ((1, t2) :: (K2 ++ (2, Tm.nil) :: cTs fs), Vs ++ cVs fs, e :: cEs fs, sn + 1, cn, ck, cf) := pm_re_s pm_re_r ((pm_st_w e1).trans (p1 _ _ _ _ _ _ _))
  have hl : (e :: cEs fs).length = fs.length + 1 := by rw [List.length_cons, cEs_ln]
  obtain ⟨n1, n2, n3, n4, n5⟩ := hn
  refine ⟨fun g => ⟨_, pm_ou_s s1 (pm_st_d.trans ((p2 _ _ _ _ _ _ _ _).trans (if_pos (by rw [hl]; omega))))⟩, fun g a1 a2 a3 a4 a5 a6 a7 => ?_⟩
  obtain ⟨c1, c2⟩ := cs_cl (q := 0) (i := i + 1) hp f3 ⟨n1, n3, n4, n5⟩ ht hb (fun u hu => hk u (List.mem_cons_of_mem _ hu)) (Nat.zero_le _) hh g3 hF hc (by omega) (show st2.toInt = ((sn + 1 : Nat) : Int) by omega) (by omega) a2 (by omega) a4 a5 a6 a7
  refine ⟨_, pm_re_s s1 (pm_st_d.trans ((p2 _ _ _ _ _ _ _ _).trans (if_neg (by rw [hl]; omega)))), ?_⟩
  rw [f2, c1]
  exact c2
theorem cs_7 {en ff : Nat → Int32} (hp : cPx S nx H az z kf en ff F) (h : cSm S nx H az z kz kf gs kb kk gk gv on ba tp st fr x i s) (hr : x.toInt = (r : Int)) (ho : (S 0 r).toInt = 7) (hq : (S 2 r).toInt = (ff (5 * Int32.toNatClampNeg (S 1 r))).toInt) : (100 ≤ on.toInt → ∃ p, pm_ou F al s (4, p)) ∧ (on.toInt < 100 → on2.toInt = on.toInt + 1 → ba2.toInt = tp.toInt - (ff (5 * Int32.toNatClampNeg (S 1 r))).toInt → tp2.toInt = ba2.toInt + (ff (5 * Int32.toNatClampNeg (S 1 r) + 1)).toInt → kb2 = upd kb (Int32.toNatClampNeg on) ba2 → kk2 = upd kk (Int32.toNatClampNeg on) (nx r) → x2 = en (Int32.toNatClampNeg (S 1 r)) → ∃ s2, pm_re F al s s2 ∧ cSm S nx H az z kz kf gs kb2 kk2 gk gv on2 ba2 tp2 st fr x2 (i + 1) s2) := by
  obtain ⟨b, nm, K, Vs, e, bd, fs, m1, m2, tn, sn, cn, ck, cf, hn, ⟨ht, hb, hk, hh⟩, hK, hF, rfl, hc, hm⟩ := h
  obtain ⟨t, K2, zz, w, m3, rfl, g1, g2, g3⟩ := cK_d hr (Or.inr (Or.inl ⟨by omega, by omega⟩)) hk hK
  obtain ⟨-, q2, q3, wd, p0, q4, p2⟩ : (S 0 r).toInt = 7 ∧ zz = nx r ∧ w = 3 ∧ _ := by
    rcases g1 with g | g | g | g | g | g
    · exact g
    · have := g.1; omega
    · have := g.1; omega
    · obtain ⟨-, -, -, o, g, -⟩ := g; have := cI_op_r o; omega
    · have := g.1; omega
    · have := g.1; omega
  subst q2
  obtain ⟨f1, f2, f3⟩ := hp.1 _ _ p0
  have hl : (e :: cEs fs).length = fs.length + 1 := by rw [List.length_cons, cEs_ln]
  obtain ⟨n1, n2, n3, n4, n5⟩ := hn
  have hh2 : pm_ar t ≤ Vs.length ∧ cHt K2 (Vs.length - pm_ar t + 1) := hh
  refine ⟨fun g => ⟨_, pm_ou_s pm_re_r (pm_st_d.trans ((p2 _ _ _ _ _ _ _ _).trans (if_pos (by rw [hl]; omega))))⟩, fun g a2 a3 a4 a5 a6 a7 => ?_⟩
  obtain ⟨c1, c2⟩ := cs_cl (q := pm_ar t) (i := i + 1) hp f3 ⟨n1, n3, n4, n5⟩ ht hb (fun u hu => hk u (List.mem_cons_of_mem _ hu)) hh2.1 hh2.2 g2 hF hc (by omega) n2 (by omega) a2 (by omega) a4 a5 a6 a7
  refine ⟨_, pm_re_s pm_re_r (pm_st_d.trans ((p2 _ _ _ _ _ _ _ _).trans (if_neg (by rw [hl]; omega)))), ?_⟩
  rw [f2, c1]
  exact c2
theorem gd_app {Vs W : List Int64} {j : Nat} (h : j < Vs.length) : (Vs ++ W).getD j 0 = Vs.getD j 0 := by rw [List.getD_eq_getElem?_getD, List.getD_eq_getElem?_getD, List.getElem?_append_left h]
theorem cOk_mo {bd bd2 nm : Nat} {u : Nat × Tm} (hb : bd ≤ bd2) (h : cOk z kf bd nm u) : cOk z kf bd2 nm u := by
  obtain ⟨h1, ⟨c, h2, h3⟩, h4⟩ := h
  exact ⟨h1, ⟨c, h2, by omega⟩, h4⟩
/-- a cell is built -/
theorem cs_5 {wz : Int} (hz : kz.toInt = (z : Int)) (h3 : ∀ k, zfk kz kf k ≤ 3) (h : cSm S nx H az z kz kf gs kb kk gk gv on ba tp st fr x i s) (hr : x.toInt = (r : Int)) (ho : (S 0 r).toInt = 5) (hw : zfk kz kf (S 1 r) = wz) : (4000 ≤ fr.toInt → ∃ p, pm_ou F al s (3, p)) ∧ (fr.toInt < 4000 → fr2.toInt = fr.toInt + 1 → tp2.toInt = tp.toInt - wz + 1 → gs2 = vp_updL gs (Int32.toNatClampNeg tp - wz.toNat) (pv2 fr) → gk2 = upd gk (Int32.toNatClampNeg fr) (S 1 r) → (∀ k : Nat, (k : Int) < wz → gv2 (3 * Int32.toNatClampNeg fr + k) = gs (Int32.toNatClampNeg tp - wz.toNat + k)) → (∀ j, j < 3 * Int32.toNatClampNeg fr → gv2 j = gv j) → ∃ s2, pm_re F al s s2 ∧ cSm S nx H az z kz kf gs2 kb kk gk2 gv2 on ba tp2 st fr2 (nx r) (i + 1) s2) := by
  obtain ⟨b, nm, K, Vs, e, bd, fs, m1, m2, tn, sn, cn, ck, cf, ⟨n1, n2, n3, n4, n5⟩, ⟨ht, hb, hk, hh⟩, hK, hF, rfl, hc, hm⟩ := h
  obtain ⟨t, K2, zz, w, m3, rfl, g1, g2, g3⟩ := cK_d hr (Or.inl ho) hk hK
  obtain ⟨-, q2, q3, q, k, q4, q5, q6, q7, q8, p2⟩ : (S 0 r).toInt = 5 ∧ zz = nx r ∧ w = 1 ∧ _ := by
    rcases g1 with g | g | g | g | g | g
    · have := g.1; omega
    · exact g
    · have := g.1; omega
    · obtain ⟨-, -, -, o, g, -⟩ := g; have := cI_op_r o; omega
    · have := g.1; omega
    · have := g.1; omega
  subst q2
  have hh2 : pm_ar t ≤ Vs.length ∧ cHt K2 (Vs.length - pm_ar t + 1) := hh
  rw [q5] at hh2
  have ek : Int32.toNatClampNeg (S 1 r) = k := by have := zn_nat (x := S 1 r) (by omega); omega
  have ew : wz = (q : Int) := by
    rw [← hw]
    unfold zfk
    rw [ek, if_pos ⟨by omega, by omega, by omega⟩]
    exact q8
  have et : Int32.toNatClampNeg tp = tn := by have := zn_nat (x := tp) (by omega); omega
  have ef : Int32.toNatClampNeg fr = cn := by have := zn_nat (x := fr) (by omega); omega
  subst ew
  rw [et, ef, show ((q : Int)).toNat = q from rfl]
  have hd := cTop_dr ht hh2.1
  refine ⟨fun g => ⟨_, pm_ou_s pm_re_r (pm_st_d.trans ((p2 _ _ _ _ _ _ _ _).trans (if_pos (by omega))))⟩, fun g a1 a2 a3 a4 a5 a6 => ?_⟩
  refine ⟨_, pm_re_s pm_re_r (pm_st_d.trans ((p2 _ _ _ _ _ _ _ _).trans (if_neg (by omega)))), ?_⟩
  have hq := ht.1
  refine ⟨b, nm, K2, pv2 fr :: Vs.drop q, e, bd, fs, m3, m2, tn - q + 1, sn, cn + 1, upd ck cn (S 1 r), pm_cf cf (Vs ++ cVs fs) cn q, ⟨by omega, n2, by omega, n4, n5⟩, ⟨cTop_pu hd.1 a3, hb, fun u hu => hk u (List.mem_cons_of_mem _ hu), by rw [List.length_cons, List.length_drop]; exact hh2.2⟩, g2, cFr_cg (fun j hj => by rw [a3, cul_n (by omega)]) (fun _ _ => ⟨rfl, rfl⟩) hF, ?_, ?_, by omega⟩
  · rw [List.drop_append_of_le_length hh2.1, pi_of n3]
    rfl
  · intro j hj
    by_cases u : j = cn
    · subst u
      rw [a4, zu_s, zu_s]
      refine ⟨rfl, fun k2 hk2 => ?_⟩
      rw [hw] at hk2
      rw [a5 k2 hk2, hd.2.1 k2 (by omega)]
      show _ = if 3 * j ≤ 3 * j + k2 ∧ 3 * j + k2 < 3 * j + q then (Vs ++ cVs fs).getD (q - 1 - (3 * j + k2 - 3 * j)) 0 else cf (3 * j + k2)
      rw [if_pos ⟨by omega, by omega⟩, show 3 * j + k2 - 3 * j = k2 from by omega, gd_app (by omega)]
    · rw [a4, zu_n u, zu_n u]
      obtain ⟨c1, c2⟩ := hc j (by omega)
      refine ⟨c1, fun k2 hk2 => ?_⟩
      have := h3 (ck j)
      rw [a6 _ (by omega), c2 k2 hk2]
      show _ = if 3 * cn ≤ 3 * j + k2 ∧ 3 * j + k2 < 3 * cn + q then _ else cf (3 * j + k2)
      rw [if_neg (by omega)]
/-- a sign -/
def crk (o : Int) (x y : Int32) : Int32 := if o = 8 then x + y else if o = 9 then x - y else if o = 10 then x * y else if x.toInt < y.toInt then 1 else 0
theorem crk_op (o : Int) (x y : Int32) : crk (cI_op o) x y = pm_op o x y := by
  unfold crk cI_op pm_op
  by_cases h1 : o = 43
  · simp [h1]
  · by_cases h2 : o = 45
    · simp [h2]
    · by_cases h3 : o = 42
      · simp [h3]
      · simp [h1, h2, h3]
theorem cs_8 (h : cSm S nx H az z kz kf gs kb kk gk gv on ba tp st fr x i s) (hr : x.toInt = (r : Int)) (ho : 8 ≤ (S 0 r).toInt ∧ (S 0 r).toInt ≤ 11) : (¬ (zhs (gs (Int32.toNatClampNeg tp - 2)) = 0 ∧ zhs (gs (Int32.toNatClampNeg tp - 1)) = 0) → ∃ p, pm_ou F al s (2, p)) ∧ (zhs (gs (Int32.toNatClampNeg tp - 2)) = 0 ∧ zhs (gs (Int32.toNatClampNeg tp - 1)) = 0 → tp2.toInt = tp.toInt - 1 → gs2 = vp_updL gs (Int32.toNatClampNeg tp - 2) (pv0 (crk (S 0 r).toInt (gs (Int32.toNatClampNeg tp - 2)).toInt32 (gs (Int32.toNatClampNeg tp - 1)).toInt32)) → ∃ s2, pm_re F al s s2 ∧ cSm S nx H az z kz kf gs2 kb kk gk gv on ba tp2 st fr (nx r) (i + 1) s2) := by
  obtain ⟨b, nm, K, Vs, e, bd, fs, m1, m2, tn, sn, cn, ck, cf, ⟨n1, n2, n3, n4, n5⟩, ⟨ht, hb, hk, hh⟩, hK, hF, rfl, hc, hm⟩ := h
  obtain ⟨t, K2, zz, w, m3, rfl, g1, g2, g3⟩ := cK_d hr (Or.inr (Or.inl ⟨by omega, by omega⟩)) hk hK
  obtain ⟨q2, q3, q5, o, q4, p2⟩ : zz = nx r ∧ w = 1 ∧ _ := by
    rcases g1 with g | g | g | g | g | g
    · have := g.1; omega
    · have := g.1; omega
    · have := g.1; omega
    · exact g
    · have := g.1; omega
    · have := g.1; omega
  subst q2
  have hh2 : pm_ar t ≤ Vs.length ∧ cHt K2 (Vs.length - pm_ar t + 1) := hh
  rw [q5] at hh2
  have et : Int32.toNatClampNeg tp = tn := by have := zn_nat (x := tp) (by omega); omega
  have hd := cTop_dr ht hh2.1
  have hq := ht.1
  have v0 : (Vs ++ cVs fs).getD 0 0 = gs (tn - 1) := by
    rw [gd_app (by omega), show tn - 1 = tn - 2 + 1 from by omega, hd.2.1 1 (by omega)]
  have v1 : (Vs ++ cVs fs).getD 1 0 = gs (tn - 2) := by
    rw [gd_app (by omega)]; exact (hd.2.1 0 (by omega)).symm
  rw [et]
  refine ⟨fun g => ⟨_, pm_ou_s pm_re_r (pm_st_d.trans ((p2 _ _ _ _ _ _ _ _).trans (if_neg (by rw [v0, v1]; exact g))))⟩, fun g a2 a3 => ?_⟩
  refine ⟨_, pm_re_s pm_re_r (pm_st_d.trans ((p2 _ _ _ _ _ _ _ _).trans (if_pos (by rw [v0, v1]; exact g)))), ?_⟩
  rw [q4, crk_op] at a3
  rw [v0, v1, List.drop_append_of_le_length hh2.1]
  exact ⟨b, nm, K2, pv0 (pm_op o (gs (tn - 2)).toInt32 (gs (tn - 1)).toInt32) :: Vs.drop 2, e, bd, fs, m3, m2, tn - 2 + 1, sn, cn, ck, cf, ⟨by omega, n2, n3, n4, n5⟩, ⟨cTop_pu hd.1 a3, hb, fun u hu => hk u (List.mem_cons_of_mem _ hu), by rw [List.length_cons, List.length_drop]; exact hh2.2⟩, g2, cFr_cg (fun j hj => by rw [a3, cul_n (by omega)]) (fun _ _ => ⟨rfl, rfl⟩) hF, rfl, hc, by omega⟩
/-- a let's name -/
theorem cs_12 (h : cSm S nx H az z kz kf gs kb kk gk gv on ba tp st fr x i s) (hr : x.toInt = (r : Int)) (ho : (S 0 r).toInt = 12) (e3 : tp2.toInt = tp.toInt - 1) (e4 : gs2 = vp_updL gs (Int32.toNatClampNeg ba + Int32.toNatClampNeg (S 1 r)) (gs (Int32.toNatClampNeg tp - 1))) : ∃ s2, pm_re F al s s2 ∧ cSm S nx H az z kz kf gs2 kb kk gk gv on ba tp2 st fr (nx r) (i + 1) s2 := by
  obtain ⟨b, nm, K, Vs, e, bd, fs, m1, m2, tn, sn, cn, ck, cf, ⟨n1, n2, n3, n4, n5⟩, ⟨ht, hb, hk, hh⟩, hK, hF, rfl, hc, hm⟩ := h
  obtain ⟨t, K2, zz, w, m3, rfl, g1, g2, g3⟩ := cK_d hr (Or.inr (Or.inl ⟨by omega, by omega⟩)) hk hK
  obtain ⟨-, q3, q5, sl, bb, Z, q6, q7, q8, q9, q10, q11, p2⟩ : (S 0 r).toInt = 12 ∧ w = 1 ∧ _ := by
    rcases g1 with g | g | g | g | g | g
    · have := g.1; omega
    · have := g.1; omega
    · have := g.1; omega
    · obtain ⟨-, -, -, o, g, -⟩ := g; have := cI_op_r o; omega
    · exact g
    · have := g.1; omega
  have hh2 : pm_ar t ≤ Vs.length ∧ cHt K2 (Vs.length - pm_ar t + 1) := hh
  rw [q5] at hh2
  have et : Int32.toNatClampNeg tp = tn := by have := zn_nat (x := tp) (by omega); omega
  have eb : Int32.toNatClampNeg ba = b := by have := zn_nat (x := ba) (by omega); omega
  have es : Int32.toNatClampNeg (S 1 r) = sl := by have := zn_nat (x := S 1 r) (by omega); omega
  rw [et, eb, es] at e4
  have hd := cTop_dr ht hh2.1
  have hq := ht.1
  have v0 : (Vs ++ cVs fs).getD 0 0 = gs (tn - 1) := by
    rw [gd_app (by omega)]; exact (hd.2.1 0 (by omega)).symm
  refine ⟨_, pm_re_s pm_re_r (pm_st_d.trans (p2 _ _ _ _ _ _ _ _)), ?_⟩
  rw [v0, List.drop_append_of_le_length hh2.1]
  refine ⟨b, nm, (0, bb) :: K2, Vs.drop 1, vp_updL e sl (gs (tn - 1)), max bd (sl + 1), fs, m3, m2, tn - 1, sn, cn, ck, cf, ⟨by omega, n2, n3, n4, n5⟩, ⟨cTop_se hd.1 q7 q8 e4, hb, fun u hu => ?_, by rw [List.length_drop]; exact hh2.2⟩, cKo_w q9 q10 g2, cFr_cg (fun j hj => by rw [e4, cul_n (by omega)]) (fun _ _ => ⟨rfl, rfl⟩) hF, rfl, hc, by omega⟩
  rcases List.mem_cons.mp hu with g | g
  · rw [g]; exact q11
  · exact cOk_mo (by omega) (hk u (List.mem_cons_of_mem _ g))
/-- an if's way -/
theorem cs_13 (h : cSm S nx H az z kz kf gs kb kk gk gv on ba tp st fr x i s) (hr : x.toInt = (r : Int)) (ho : (S 0 r).toInt = 13) : (¬ zhs (gs (Int32.toNatClampNeg tp - 1)) = 0 → ∃ p, pm_ou F al s (2, p)) ∧ (zhs (gs (Int32.toNatClampNeg tp - 1)) = 0 → tp2.toInt = tp.toInt - 1 → ((gs (Int32.toNatClampNeg tp - 1)).toInt32 ≠ 0 → x2 = nx r) → ((gs (Int32.toNatClampNeg tp - 1)).toInt32 = 0 → 0 ≤ (S 1 r).toInt → x2 = nx (Int32.toNatClampNeg (S 1 r))) → ∃ s2, pm_re F al s s2 ∧ cSm S nx H az z kz kf gs kb kk gk gv on ba tp2 st fr x2 (i + 1) s2) := by
  obtain ⟨b, nm, K, Vs, e, bd, fs, m1, m2, tn, sn, cn, ck, cf, ⟨n1, n2, n3, n4, n5⟩, ⟨ht, hb, hk, hh⟩, hK, hF, rfl, hc, hm⟩ := h
  obtain ⟨t, K2, zz, w, m3, rfl, g1, g2, g3⟩ := cK_d hr (Or.inr (Or.inl ⟨by omega, by omega⟩)) hk hK
  obtain ⟨-, q3, q5, tb, td, Z, j, U, q6, q7, q8, q9, q10, q11, q12, q13, p2⟩ : (S 0 r).toInt = 13 ∧ w = 2 ∧ _ := by
    rcases g1 with g | g | g | g | g | g
    · have := g.1; omega
    · have := g.1; omega
    · have := g.1; omega
    · obtain ⟨-, -, -, o, g, -⟩ := g; have := cI_op_r o; omega
    · have := g.1; omega
    · exact g
  have hh2 : pm_ar t ≤ Vs.length ∧ cHt K2 (Vs.length - pm_ar t + 1) := hh
  rw [q5] at hh2
  have et : Int32.toNatClampNeg tp = tn := by have := zn_nat (x := tp) (by omega); omega
  have ej : Int32.toNatClampNeg (S 1 r) = j := by have := zn_nat (x := S 1 r) (by omega); omega
  rw [et, ej]
  have hd := cTop_dr ht hh2.1
  have hq := ht.1
  have v0 : (Vs ++ cVs fs).getD 0 0 = gs (tn - 1) := by
    rw [gd_app (by omega)]; exact (hd.2.1 0 (by omega)).symm
  obtain ⟨y1, y2, y3⟩ := zpx_app q11
  obtain ⟨y4, y5, y6⟩ := zpx_app y2
  have ez : zz = nx (zla j U) := zpx_la (by rw [show nx j = y1 from y6.2]; exact y3)
  have hK2 : ∃ m4 : Nat, m4 ≤ m3 + 1 ∧ (x2 = nx r → cKo S nx H az ((0, tb) :: K2) x2 m4) := ⟨m3 + 1, Nat.le_refl _, fun g => by
    rw [g]
    refine cKo_w q7 y5 ?_
    have h1 : cSi S nx 1 y4 zz := ⟨j, y6.1, Or.inl ⟨Or.inl q8, by omega, by rw [ez, show Int32.toNatClampNeg (S 1 j) = zla j U from by have := zn_nat (x := S 1 j) (by omega); omega]; rfl⟩⟩
    rw [Nat.add_comm]
    exact cKo_si h1 g2⟩
  have hK3 : x2 = nx j → cKo S nx H az ((0, td) :: K2) x2 m3 := fun g => by
    rw [g, show nx j = y1 from y6.2]
    exact cKo_w q10 y3 g2
  refine ⟨fun g => ⟨_, pm_ou_s pm_re_r (pm_st_d.trans ((p2 _ _ _ _ _ _ _ _).trans (if_neg (by rw [v0]; exact g))))⟩, fun g a2 a3 a4 => ?_⟩
  refine ⟨_, pm_re_s pm_re_r (pm_st_d.trans ((p2 _ _ _ _ _ _ _ _).trans (if_pos (by rw [v0]; exact g)))), ?_⟩
  rw [v0, List.drop_append_of_le_length hh2.1]
  by_cases u : (gs (tn - 1)).toInt32 = 0
  · rw [if_pos u]
    refine ⟨b, nm, (0, td) :: K2, Vs.drop 1, e, bd, fs, m3, m2, tn - 1, sn, cn, ck, cf, ⟨by omega, n2, n3, n4, n5⟩, ⟨hd.1, hb, fun v hv => ?_, by rw [List.length_drop]; exact hh2.2⟩, hK3 (a4 u (by omega)), hF, rfl, hc, by omega⟩
    rcases List.mem_cons.mp hv with g | g
    · rw [g]; exact q13
    · exact hk v (List.mem_cons_of_mem _ g)
  · rw [if_neg u]
    obtain ⟨m4, k1, k2⟩ := hK2
    refine ⟨b, nm, (0, tb) :: K2, Vs.drop 1, e, bd, fs, m4, m2, tn - 1, sn, cn, ck, cf, ⟨by omega, n2, n3, n4, n5⟩, ⟨hd.1, hb, fun v hv => ?_, by rw [List.length_drop]; exact hh2.2⟩, k2 (a3 u), hF, rfl, hc, by omega⟩
    rcases List.mem_cons.mp hv with g | g
    · rw [g]; exact q12
    · exact hk v (List.mem_cons_of_mem _ g)
/-- a call ends -/
theorem cs_17 (h : cSm S nx H az z kz kf gs kb kk gk gv on ba tp st fr x i s) (hr : x.toInt = (r : Int)) (ho : (S 0 r).toInt = 17) : (on.toInt ≤ 1 → pm_ou F al s (1, -1)) ∧ (1 < on.toInt → on2.toInt = on.toInt - 1 → tp2.toInt = ba.toInt + 1 → gs2 = vp_updL gs (Int32.toNatClampNeg ba) (gs (Int32.toNatClampNeg tp - 1)) → x2 = kk (Int32.toNatClampNeg on - 1) → ba2 = kb (Int32.toNatClampNeg on - 2) → ∃ s2, pm_re F al s s2 ∧ cSm S nx H az z kz kf gs2 kb kk gk gv on2 ba2 tp2 st fr x2 (i + 1) s2) := by
  obtain ⟨b, nm, K, Vs, e, bd, fs, m1, m2, tn, sn, cn, ck, cf, ⟨n1, n2, n3, n4, n5⟩, ⟨ht, hb, hk, hh⟩, hK, hF, rfl, hc, hm⟩ := h
  obtain ⟨rfl, e1⟩ := cK_r hr ho hk hK
  have hl : Vs.length = 1 := hh
  obtain ⟨v, rfl⟩ : ∃ v, Vs = [v] := List.length_eq_one_iff.mp hl
  have et : Int32.toNatClampNeg tp = tn := by have := zn_nat (x := tp) (by omega); omega
  have eb : Int32.toNatClampNeg ba = b := by have := zn_nat (x := ba) (by omega); omega
  have eo : Int32.toNatClampNeg on = fs.length + 1 := by have := zn_nat (x := on) (by omega); omega
  have hv : gs (tn - 1) = v := (cTop_dr (q := 1) ht (by rw [hl]; omega)).2.1 0 (by omega)
  rw [et, eb, eo, hv]
  have s1 : pm_re F al (([] : List (Nat × Tm)) ++ (2, Tm.nil) :: cTs fs, [v] ++ cVs fs, e :: cEs fs, sn, cn, ck, cf) (cTs fs, v :: cVs fs, cEs fs, sn, cn, ck, cf) := pm_re_s pm_re_r pm_st_l
  cases fs with
  | nil => exact ⟨fun _ => pm_ou_s s1 rfl, fun g => by simp at n4; omega⟩
  | cons f1 fs =>
    obtain ⟨b1, nm1, K1, Vs1, e1', bd1⟩ := f1
    obtain ⟨h1, h2, h3, h4, m3, m4, h5, h6, h7⟩ := hF
    rw [List.length_cons] at n4 h5 ⊢
    refine ⟨fun g => by omega, fun g a1 a2 a3 a4 a5 => ⟨_, s1, ?_⟩⟩
    rw [show fs.length + 1 + 1 - 1 = fs.length + 1 from rfl] at a4
    rw [show fs.length + 1 + 1 - 2 = fs.length from by omega] at a5
    subst a4
    exact ⟨b1, nm1, K1, v :: Vs1, e1', bd1, fs, m3, m4, b + 1, sn, cn, ck, cf, ⟨by omega, n2, n3, by omega, by rw [a5]; exact h2⟩, ⟨cTop_pu h1 a3, h2, h3, h4⟩, h5, cFr_cg (fun j hj => by rw [a3, cul_n (by have := h1.1; omega)]) (fun _ _ => ⟨rfl, rfl⟩) h6, rfl, hc, by omega⟩
theorem cI_arm {mo : Bool} : ∀ (a : Tm) {pv : Nat} {ar : Int32} {en : Nat} {X : List Nat}, tm_k a = 2 → cI S H 0 az a mo pv ar en X → ∃ (Y : List Nat) (v : Nat), X = Y ++ [v] ∧ 0 ≤ ar.toInt ∧ (S 4 (Int32.toNatClampNeg ar)).toInt = (if am_k a = -1 then -2 else am_k a) ∧ (S 6 (Int32.toNatClampNeg ar)).toInt = (pv : Int) ∧ (S 8 (Int32.toNatClampNeg ar)).toInt = (am_h a : Int) ∧ (S 0 v).toInt = 16 ∧ (S 1 v).toInt = (en : Int) ∧ cI S H 0 az (am_x a) false 0 0 0 Y
  | .branch 0 (.leaf (some (_ + 3, p, k, h, m, _))) x, pv, ar, en, X, _, g => by
    obtain ⟨Y, v, e, ⟨-, -, a0⟩, a1, a2, -, a3, -, a4, a5, a6⟩ := g
    exact ⟨Y, v, e, a0, a1, a2, a3, a4, a5, a6⟩
  | .leaf none, _, _, _, _, g, _ => nomatch (show (0 : Nat) = 2 from g)
  | .branch (_ + 3) _ _, _, _, _, _, g, _ => nomatch (show (0 : Nat) = 2 from g)
  | .leaf (some (0, _, _, _, _, _)), _, _, _, _, g, _ => nomatch (show (1 : Nat) = 2 from g)
  | .leaf (some (_ + 1, _, _, _, _, _)), _, _, _, _, g, _ => nomatch (show (1 : Nat) = 2 from g)
  | .branch 0 (.leaf (some (0, _, _, _, _, _))) _, _, _, _, _, g, _ => nomatch (show (1 : Nat) = 2 from g)
  | .branch 0 (.leaf (some (1, _, _, _, _, _))) _, _, _, _, _, g, _ => nomatch (show (1 : Nat) = 2 from g)
  | .branch 1 (.leaf (some (0, _, _, _, _, _))) (.branch _ _ _), _, _, _, _, g, _ => nomatch (show (1 : Nat) = 2 from g)
  | .branch 1 (.leaf (some (_ + 1, _, _, _, _, _))) (.branch _ _ _), _, _, _, _, g, _ => nomatch (show (1 : Nat) = 2 from g)
  | .branch 2 (.leaf (some (_, _, _, _, _, _))) (.branch _ _ (.branch _ _ _)), _, _, _, _, g, _ => nomatch (show (1 : Nat) = 2 from g)
  | .branch 0 (.leaf (some (2, _, _, _, _, _))) _, _, _, _, _, g, _ => nomatch (show (1 : Nat) = 2 from g)
  | .branch 0 (.leaf none) _, _, _, _, _, g, _ => nomatch (show (0 : Nat) = 2 from g)
  | .branch 0 (.branch _ _ _) _, _, _, _, _, g, _ => nomatch (show (0 : Nat) = 2 from g)
  | .branch 1 (.leaf none) _, _, _, _, _, g, _ => nomatch (show (0 : Nat) = 2 from g)
  | .branch 1 (.branch _ _ _) _, _, _, _, _, g, _ => nomatch (show (0 : Nat) = 2 from g)
  | .branch 1 (.leaf (some (0, _, _, _, _, _))) (.leaf _), _, _, _, _, g, _ => nomatch (show (0 : Nat) = 2 from g)
  | .branch 1 (.leaf (some (_ + 1, _, _, _, _, _))) (.leaf _), _, _, _, _, g, _ => nomatch (show (0 : Nat) = 2 from g)
  | .branch 2 (.leaf none) _, _, _, _, _, g, _ => nomatch (show (0 : Nat) = 2 from g)
  | .branch 2 (.branch _ _ _) _, _, _, _, _, g, _ => nomatch (show (0 : Nat) = 2 from g)
  | .branch 2 (.leaf (some (_, _, _, _, _, _))) (.leaf _), _, _, _, _, g, _ => nomatch (show (0 : Nat) = 2 from g)
  | .branch 2 (.leaf (some (_, _, _, _, _, _))) (.branch _ _ (.leaf _)), _, _, _, _, g, _ => nomatch (show (0 : Nat) = 2 from g)
/-- what an arm is -/
def aOk (z : Nat) (kf : Nat → Int32) (c w : Nat) (a : Tm) : Prop := am_h a = c ∧ am_m a ≤ 3 ∧ (am_k a = -1 ∧ am_m a = 0 ∨ ∃ j : Nat, am_k a = (j : Int) ∧ j < z ∧ (kf j).toInt = (am_m a : Int)) ∧ tm_wf z kf (am_x a) (c + am_m a) ∧ sy_x (am_x a) ∧ am_h a + am_m a ≤ w ∧ tm_wi (am_x a) ≤ w
theorem aOk_of {c w : Nat} : ∀ (a : Tm), tm_k a = 2 → tm_sy a false → tm_wf z kf a c → tm_wi a ≤ w → aOk z kf c w a
  | .branch 0 (.leaf (some (_ + 3, p, k, h, m, _))) x, _, h1, h2, h3 => by
    obtain ⟨⟨⟨w1, w2, w3⟩, w4⟩, w5⟩ := h2
    have h3 : max (h + m) (tm_wi x) ≤ w := h3
    exact ⟨w1, w3, w4, w5, h1, by show h + m ≤ w; omega, by show tm_wi x ≤ w; omega⟩
  | .leaf none, g, _, _, _ => nomatch (show (0 : Nat) = 2 from g)
  | .branch (_ + 3) _ _, g, _, _, _ => nomatch (show (0 : Nat) = 2 from g)
  | .leaf (some (0, _, _, _, _, _)), g, _, _, _ => nomatch (show (1 : Nat) = 2 from g)
  | .leaf (some (_ + 1, _, _, _, _, _)), g, _, _, _ => nomatch (show (1 : Nat) = 2 from g)
  | .branch 0 (.leaf (some (0, _, _, _, _, _))) _, g, _, _, _ => nomatch (show (1 : Nat) = 2 from g)
  | .branch 0 (.leaf (some (1, _, _, _, _, _))) _, g, _, _, _ => nomatch (show (1 : Nat) = 2 from g)
  | .branch 1 (.leaf (some (0, _, _, _, _, _))) (.branch _ _ _), g, _, _, _ => nomatch (show (1 : Nat) = 2 from g)
  | .branch 1 (.leaf (some (_ + 1, _, _, _, _, _))) (.branch _ _ _), g, _, _, _ => nomatch (show (1 : Nat) = 2 from g)
  | .branch 2 (.leaf (some (_, _, _, _, _, _))) (.branch _ _ (.branch _ _ _)), g, _, _, _ => nomatch (show (1 : Nat) = 2 from g)
  | .branch 0 (.leaf (some (2, _, _, _, _, _))) _, g, _, _, _ => nomatch (show (1 : Nat) = 2 from g)
  | .branch 0 (.leaf none) _, g, _, _, _ => nomatch (show (0 : Nat) = 2 from g)
  | .branch 0 (.branch _ _ _) _, g, _, _, _ => nomatch (show (0 : Nat) = 2 from g)
  | .branch 1 (.leaf none) _, g, _, _, _ => nomatch (show (0 : Nat) = 2 from g)
  | .branch 1 (.branch _ _ _) _, g, _, _, _ => nomatch (show (0 : Nat) = 2 from g)
  | .branch 1 (.leaf (some (0, _, _, _, _, _))) (.leaf _), g, _, _, _ => nomatch (show (0 : Nat) = 2 from g)
  | .branch 1 (.leaf (some (_ + 1, _, _, _, _, _))) (.leaf _), g, _, _, _ => nomatch (show (0 : Nat) = 2 from g)
  | .branch 2 (.leaf none) _, g, _, _, _ => nomatch (show (0 : Nat) = 2 from g)
  | .branch 2 (.branch _ _ _) _, g, _, _, _ => nomatch (show (0 : Nat) = 2 from g)
  | .branch 2 (.leaf (some (_, _, _, _, _, _))) (.leaf _), g, _, _, _ => nomatch (show (0 : Nat) = 2 from g)
  | .branch 2 (.leaf (some (_, _, _, _, _, _))) (.branch _ _ (.leaf _)), g, _, _, _ => nomatch (show (0 : Nat) = 2 from g)
/-- the class's search for the arm that fits -/
def cfa (ak an : Nat → Int32) (kd : Int32) : Nat → Int32 → Int32
  | 0, _ => -1
  | n + 1, ar => if ar.toInt = -1 then -1 else if (ak (Int32.toNatClampNeg ar)).toInt = -2 ∨ ak (Int32.toNatClampNeg ar) = kd then ar else cfa ak an kd n (an (Int32.toNatClampNeg ar))
theorem cfa_st {ak an : Nat → Int32} {kd ar : Int32} {n : Nat} (h : ¬ ar.toInt = -1) (h1 : ¬ (ak (Int32.toNatClampNeg ar)).toInt = -2) (h2 : ¬ ak (Int32.toNatClampNeg ar) = kd) : cfa ak an kd (n + 1) ar = cfa ak an kd n (an (Int32.toNatClampNeg ar)) := by rw [cfa, if_neg h, if_neg (fun g => g.elim h1 h2)]
theorem cfa_hit {ak an : Nat → Int32} {kd ar : Int32} {n : Nat} (h : ¬ ar.toInt = -1) (h1 : (ak (Int32.toNatClampNeg ar)).toInt = -2 ∨ ak (Int32.toNatClampNeg ar) = kd) : cfa ak an kd (n + 1) ar = ar := by rw [cfa, if_neg h, if_pos h1]
theorem cfa_no {ak an : Nat → Int32} {kd ar : Int32} : ∀ {n : Nat}, ar.toInt = -1 ∨ n = 0 → cfa ak an kd n ar = -1
  | 0, _ => rfl
  | n + 1, h => by rw [cfa, if_pos (h.resolve_right (by omega))]
theorem cfa_fi {kd : Int32} {c w en : Nat} : ∀ (a : Tm) {n pv : Nat} {ar zz : Int32} {Y : List Nat}, tm_li a → tm_sy a true → tm_wf z kf a c → tm_wi a ≤ w → tm_ln a ≤ n → cI S H 0 az a true pv ar en Y → zpx nx (nx pv) Y zz → (pm_fi kd.toInt a = none ∧ (cfa (S 4) (S 5) kd n ar).toInt = -1) ∨ ∃ (y : Tm) (p2 : Nat) (Yb : List Nat) (v : Nat) (v2 : Int32), pm_fi kd.toInt a = some y ∧ 0 ≤ (cfa (S 4) (S 5) kd n ar).toInt ∧ ((S 4 (Int32.toNatClampNeg (cfa (S 4) (S 5) kd n ar))).toInt = (if am_k y = -1 then -2 else am_k y) ∧ (am_k y = -1 ∨ S 4 (Int32.toNatClampNeg (cfa (S 4) (S 5) kd n ar)) = kd) ∧ (S 6 (Int32.toNatClampNeg (cfa (S 4) (S 5) kd n ar))).toInt = (p2 : Int) ∧ (S 8 (Int32.toNatClampNeg (cfa (S 4) (S 5) kd n ar))).toInt = (am_h y : Int)) ∧ (S 0 v).toInt = 16 ∧ (S 1 v).toInt = (en : Int) ∧ cI S H 0 az (am_x y) false 0 0 0 Yb ∧ zpx nx (nx p2) Yb v2 ∧ v2.toInt = (v : Int) ∧ aOk z kf c w y
  | .leaf none, n, pv, ar, zz, Y, _, _, _, _, _, h, _ => by
    have e := h.2 rfl
    refine Or.inl ⟨rfl, ?_⟩
    cases n with
    | zero => show (-1 : Int32).toInt = -1; decide
    | succ n => rw [cfa, if_pos e]; decide
  | .branch (_ + 3) a b, n, pv, ar, zz, Y, hl, hs, hw, hi, hn, h, hz => by
    have hn : tm_ln b + 1 ≤ n := hn
    have hi : max (tm_wi a) (tm_wi b) ≤ w := hi
    obtain ⟨n, rfl⟩ : ∃ k, n = k + 1 := ⟨n - 1, by omega⟩
    obtain ⟨X, Z, rfl, q1, q2, q3⟩ := h
    obtain ⟨z1, k1, k2⟩ := zpx_app hz
    obtain ⟨Yb, v, rfl, a0, a1, a2, a3, a4, a5, a6⟩ := cI_arm a hs.1.1 q1
    have ok := aOk_of (w := w) a hs.1.1 hs.1.2 hw.1 (by omega)
    have hne : ¬ ar.toInt = -1 := by omega
    have hk : am_k a = -1 ∨ 0 ≤ am_k a := ok.2.2.1.imp (fun g => g.1) (fun ⟨j, e, _⟩ => by omega)
    have e1 : ∀ q, pm_fi kd.toInt (Lean.RArray.branch (q + 3) a b) = if am_k a = -1 ∨ am_k a = kd.toInt then some a else pm_fi kd.toInt b := fun _ => rfl
    have e2 : cfa (S 4) (S 5) kd (n + 1) ar = if (S 4 (Int32.toNatClampNeg ar)).toInt = -2 ∨ S 4 (Int32.toNatClampNeg ar) = kd then ar else cfa (S 4) (S 5) kd n (S 5 (Int32.toNatClampNeg ar)) := by
      rw [cfa, if_neg hne]
    have e3 : (am_k a = -1 ∨ am_k a = kd.toInt) ↔ ((S 4 (Int32.toNatClampNeg ar)).toInt = -2 ∨ S 4 (Int32.toNatClampNeg ar) = kd) := by
      by_cases u : am_k a = -1
      · rw [if_pos u] at a1
        exact ⟨fun _ => Or.inl a1, fun _ => Or.inl u⟩
      · rw [if_neg u] at a1
        exact ⟨fun g => Or.inr (Int32.toInt_inj.mp (by rw [a1]; exact g.resolve_left u)), fun g => Or.inr (g.elim (fun g => by omega) (fun g => by rw [← a1, g]))⟩
    by_cases u : am_k a = -1 ∨ am_k a = kd.toInt
    · rw [e1, e2, if_pos u, if_pos (e3.mp u)]
      obtain ⟨v2, k3, k4⟩ := zpx_app k1
      refine Or.inr ⟨a, pv, Yb, v, v2, rfl, a0, ⟨a1, ?_, a2, a3⟩, a4, a5, a6, k3, k4.1, ok⟩
      by_cases u2 : am_k a = -1
      · exact Or.inl u2
      · rw [if_neg u2] at a1
        exact Or.inr (Int32.toInt_inj.mp (by rw [a1]; exact u.resolve_left u2))
    · rw [e1, e2, if_neg u, if_neg (fun g => u (e3.mpr g))]
      exact cfa_fi b hl hs.2 hw.2 (by omega) (by omega) q2 (by show zpx nx (nx (zla pv (Yb ++ [v]))) Z zz; rw [← zpx_la k1]; exact k2)
  | .leaf (some (0, _, _, _, _, _)), _, _, _, _, _, g, _, _, _, _, _, _ => g.elim
  | .leaf (some (_ + 1, _, _, _, _, _)), _, _, _, _, _, g, _, _, _, _, _, _ => g.elim
  | .branch 0 (.leaf (some (0, _, _, _, _, _))) _, _, _, _, _, _, g, _, _, _, _, _, _ => g.elim
  | .branch 0 (.leaf (some (1, _, _, _, _, _))) _, _, _, _, _, _, g, _, _, _, _, _, _ => g.elim
  | .branch 1 (.leaf (some (0, _, _, _, _, _))) (.branch _ _ _), _, _, _, _, _, g, _, _, _, _, _, _ => g.elim
  | .branch 1 (.leaf (some (_ + 1, _, _, _, _, _))) (.branch _ _ _), _, _, _, _, _, g, _, _, _, _, _, _ => g.elim
  | .branch 2 (.leaf (some (_, _, _, _, _, _))) (.branch _ _ (.branch _ _ _)), _, _, _, _, _, g, _, _, _, _, _, _ => g.elim
  | .branch 0 (.leaf (some (2, _, _, _, _, _))) _, _, _, _, _, _, g, _, _, _, _, _, _ => g.elim
  | .branch 0 (.leaf (some (_ + 3, _, _, _, _, _))) _, _, _, _, _, _, g, _, _, _, _, _, _ => g.elim
  | .branch 0 (.leaf none) _, _, _, _, _, _, g, _, _, _, _, _, _ => g.elim
  | .branch 0 (.branch _ _ _) _, _, _, _, _, _, g, _, _, _, _, _, _ => g.elim
  | .branch 1 (.leaf none) _, _, _, _, _, _, g, _, _, _, _, _, _ => g.elim
  | .branch 1 (.branch _ _ _) _, _, _, _, _, _, g, _, _, _, _, _, _ => g.elim
  | .branch 1 (.leaf (some (0, _, _, _, _, _))) (.leaf _), _, _, _, _, _, g, _, _, _, _, _, _ => g.elim
  | .branch 1 (.leaf (some (_ + 1, _, _, _, _, _))) (.leaf _), _, _, _, _, _, g, _, _, _, _, _, _ => g.elim
  | .branch 2 (.leaf none) _, _, _, _, _, _, g, _, _, _, _, _, _ => g.elim
  | .branch 2 (.branch _ _ _) _, _, _, _, _, _, g, _, _, _, _, _, _ => g.elim
  | .branch 2 (.leaf (some (_, _, _, _, _, _))) (.leaf _), _, _, _, _, _, g, _, _, _, _, _, _ => g.elim
  | .branch 2 (.leaf (some (_, _, _, _, _, _))) (.branch _ _ (.leaf _)), _, _, _, _, _, g, _, _, _, _, _, _ => g.elim
/-- a match's way -/
theorem cs_15 {kd : Int32} {v : Int64} {am : Int32} (hz : kz.toInt = (z : Int)) (h : cSm S nx H az z kz kf gs kb kk gk gv on ba tp st fr x i s) (hr : x.toInt = (r : Int)) (ho : (S 0 r).toInt = 15) (hv : v = gs (Int32.toNatClampNeg ba + Int32.toNatClampNeg (S 1 r))) (hkd : kd.toInt = if zhs v = 0 then -1 else if zhs v = 2 then (gk (Int32.toNatClampNeg v.toInt32)).toInt else v.toInt32.toInt) (hcl : zhs v = 2 → 0 ≤ v.toInt32.toInt ∧ v.toInt32.toInt < fr.toInt) (hvk : zhs v ≠ 0 → zhs v ≠ 2 → zfk kz kf v.toInt32 = 0) (ha : am = cfa (S 4) (S 5) kd 8 (S 2 r)) : (am.toInt = -1 → ∃ p, pm_ou F al s (2, p)) ∧ (am.toInt ≠ -1 → (0 ≤ (S 6 (Int32.toNatClampNeg am)).toInt → x2 = nx (Int32.toNatClampNeg (S 6 (Int32.toNatClampNeg am)))) → (¬ zhs v = 2 → gs2 = gs) → (zhs v = 2 → (∀ k : Nat, (k : Int) < zfk kz kf (S 4 (Int32.toNatClampNeg am)) → gs2 (Int32.toNatClampNeg ba + Int32.toNatClampNeg (S 8 (Int32.toNatClampNeg am)) + k) = gv (3 * Int32.toNatClampNeg v.toInt32 + k)) ∧ ∀ j, (∀ k : Nat, (k : Int) < zfk kz kf (S 4 (Int32.toNatClampNeg am)) → j ≠ Int32.toNatClampNeg ba + Int32.toNatClampNeg (S 8 (Int32.toNatClampNeg am)) + k) → gs2 j = gs j) → ∃ s2, pm_re F al s s2 ∧ cSm S nx H az z kz kf gs2 kb kk gk gv on ba tp st fr x2 (i + 1) s2) := by
  obtain ⟨b, nm, K, Vs, e, bd, fs, m1, m2, tn, sn, cn, ck, cf, ⟨n1, n2, n3, n4, n5⟩, ⟨ht, hb, hk, hh⟩, hK, hF, rfl, hc, hm⟩ := h
  obtain ⟨t, K2, zz, w, m3, rfl, g1, g2, g3⟩ := cK_d hr (Or.inr (Or.inr ho)) hk hK
  obtain ⟨-, q3, q5, sl, ta, Y, c0, q6, q7, q8, q9, q10, q11, q12, q13, q14, q15, p2⟩ : (S 0 r).toInt = 15 ∧ w = 2 ∧ _ := by
    rcases g1 with g | g | g | g | g | g
    · have := g.1; omega
    · have := g.1; omega
    · exact g
    · obtain ⟨-, -, -, o, g, -⟩ := g; have := cI_op_r o; omega
    · have := g.1; omega
    · have := g.1; omega
  have hh2 : pm_ar t ≤ Vs.length ∧ cHt K2 (Vs.length - pm_ar t + 1) := hh
  rw [q5] at hh2
  have eb : Int32.toNatClampNeg ba = b := by have := zn_nat (x := ba) (by omega); omega
  have es : Int32.toNatClampNeg (S 1 r) = sl := by have := zn_nat (x := S 1 r) (by omega); omega
  rw [eb, es, ht.2.2.1 sl q7] at hv
  rw [eb]
  have ekd : pm_kd ck ((e :: cEs fs).headD (fun _ => 0) sl) = kd.toInt := by
    show pm_kd ck (e sl) = _
    rw [← hv, hkd]
    unfold pm_kd
    by_cases u0 : zhs v = 0
    · rw [if_pos u0, if_pos u0]
    · rw [if_neg u0, if_neg u0]
      by_cases u : zhs v = 2
      · obtain ⟨c1, c2⟩ := hcl u
        rw [if_pos u, if_pos u, (hc _ (by have := zn_nat c1; omega)).1]
      · rw [if_neg u, if_neg u]
  have key := cfa_fi (kd := kd) (w := nm) ta (n := 8) q9 q10 q11 q13 q12 q14 q15
  rw [← ha] at key
  rcases key with ⟨k1, k2⟩ | ⟨y, pp, Yb, vr, v2, k1, k2, ⟨k3, k4, k5, k6⟩, k7, k8, k9, k10, k11, ok⟩
  · refine ⟨fun _ => ⟨_, pm_ou_s (e := (2, (S 3 r).toInt)) pm_re_r (pm_st_d.trans ((p2 _ _ _ _ _ _ _ _).trans ?_))⟩, fun g => absurd k2 g⟩
    unfold pm_mt
    rw [ekd, k1]
  · refine ⟨fun g => by omega, fun g a1 a2 a3 => ?_⟩
    have ez : zz = nx (zla r Y) := zpx_la q15
    have epp : Int32.toNatClampNeg (S 6 (Int32.toNatClampNeg am)) = pp := by have := zn_nat (x := S 6 (Int32.toNatClampNeg am)) (by omega); omega
    have efs : Int32.toNatClampNeg (S 8 (Int32.toNatClampNeg am)) = am_h y := by have := zn_nat (x := S 8 (Int32.toNatClampNeg am)) (by omega); omega
    rw [epp] at a1
    rw [efs] at a3
    obtain ⟨o1, o2, o3, o4, o5, o6, o7⟩ := ok
    have hmz : zfk kz kf (S 4 (Int32.toNatClampNeg am)) = (am_m y : Int) := by
      unfold zfk
      rcases o3 with ⟨u1, u2⟩ | ⟨j, u1, u2, u3⟩
      · rw [if_pos u1] at k3
        rw [if_neg (by omega), u2]; rfl
      · rw [if_neg (by omega)] at k3
        have ej : Int32.toNatClampNeg (S 4 (Int32.toNatClampNeg am)) = j := by have := zn_nat (x := S 4 (Int32.toNatClampNeg am)) (by omega); omega
        rw [ej]
        by_cases u : 0 < (kf j).toInt
        · rw [if_pos ⟨by omega, by omega, u⟩]; exact u3
        · rw [if_neg (fun g => u g.2.2)]; omega
    rw [hmz] at a3
    have hm0 : ¬ zhs v = 2 → am_m y = 0 := fun u => by
      rcases o3 with ⟨u1, u2⟩ | ⟨j, u1, u2, u3⟩
      · exact u2
      · have e4 := k4.resolve_left (by omega)
        rw [if_neg (by omega)] at k3
        by_cases u0 : zhs v = 0
        · rw [if_pos u0] at hkd; rw [e4] at k3; omega
        · rw [if_neg u0, if_neg u] at hkd
          have e5 := hvk u0 u
          rw [show v.toInt32 = kd from Int32.toInt_inj.mp hkd.symm, ← e4, hmz] at e5
          omega
    have hcf : zhs v = 2 → ∀ k, k < am_m y → gv (3 * Int32.toNatClampNeg v.toInt32 + k) = cf (3 * Int32.toNatClampNeg v.toInt32 + k) := fun u k hk2 => by
      obtain ⟨c1, c2⟩ := hcl u
      obtain ⟨d1, d2⟩ := hc (Int32.toNatClampNeg v.toInt32) (by have := zn_nat c1; omega)
      refine d2 k ?_
      rcases o3 with ⟨u1, u2⟩ | ⟨j, u1, u2, u3⟩
      · omega
      · have e4 := k4.resolve_left (by omega)
        rw [if_neg (by rw [u]; decide), if_pos u] at hkd
        rw [← d1, show gk (Int32.toNatClampNeg v.toInt32) = kd from Int32.toInt_inj.mp hkd.symm, ← e4, hmz]
        omega
    have hst : pm_st F al ((1, t) :: (K2 ++ (2, Tm.nil) :: cTs fs), Vs ++ cVs fs, e :: cEs fs, sn, cn, ck, cf) = .ok ((0, am_x y) :: (K2 ++ (2, Tm.nil) :: cTs fs), Vs ++ cVs fs, (if zhs v = 2 then pm_bd e cf (Int32.toNatClampNeg v.toInt32) (am_h y) (am_m y) else e) :: cEs fs, sn, cn, ck, cf) := by
      refine pm_st_d.trans ((p2 _ _ _ _ _ _ _ _).trans ?_)
      unfold pm_mt
      rw [ekd, k1, hv]
      rfl
    refine ⟨_, pm_re_s pm_re_r hst, ?_⟩
    have hx2 := a1 (by omega)
    have hK3 : cKo S nx H az ((0, am_x y) :: K2) x2 (1 + m3) := by
      rw [hx2]
      have h1 : cSi S nx 1 v2 zz := ⟨vr, k11, Or.inl ⟨Or.inr k7, by omega, by rw [ez, show Int32.toNatClampNeg (S 1 vr) = zla r Y from by have := zn_nat (x := S 1 vr) (by omega); omega]; rfl⟩⟩
      exact cKo_w k9 k10 (cKo_si h1 g2)
    have hg : ∀ j, (j < b + am_h y ∨ b + am_h y + am_m y ≤ j) → gs2 j = gs j := fun j hj => by
      by_cases u : zhs v = 2
      · exact (a3 u).2 j (fun k hk2 => by omega)
      · rw [a2 u]
    obtain ⟨t1, t2, t3, t4⟩ := ht
    refine ⟨b, nm, (0, am_x y) :: K2, Vs, _, max bd (c0 + am_m y), fs, 1 + m3, m2, tn, sn, cn, ck, cf, ⟨n1, n2, n3, n4, n5⟩, ⟨⟨t1, fun j hj => by rw [hg _ (by omega)]; exact t2 j hj, fun k hk2 => ?_, by omega⟩, hb, fun u hu => ?_, hh2.2⟩, hK3, cFr_cg (fun j hj => hg j (by omega)) (fun _ _ => ⟨rfl, rfl⟩) hF, rfl, hc, by omega⟩
    · by_cases u : zhs v = 2
      · rw [if_pos u]
        show _ = if am_h y ≤ k ∧ k < am_h y + am_m y then cf (3 * Int32.toNatClampNeg v.toInt32 + (k - am_h y)) else e k
        by_cases u2 : am_h y ≤ k ∧ k < am_h y + am_m y
        · rw [if_pos u2, show b + k = b + am_h y + (k - am_h y) from by omega, (a3 u).1 (k - am_h y) (by omega), hcf u _ (by omega)]
        · rw [if_neg u2, hg _ (by omega), t3 k (by omega)]
      · rw [if_neg u, a2 u, t3 k (by have := hm0 u; omega)]
    · rcases List.mem_cons.mp hu with g | g
      · rw [g]; exact ⟨o5, ⟨c0 + am_m y, o4, by omega⟩, o7⟩
      · exact cOk_mo (by omega) (hk u (List.mem_cons_of_mem _ g))
/-- the first call begins -/
theorem cs_0 {en ff : Nat → Int32} {f : Nat} {a1 a2 a3 a4 : Int32} (hp : cPx S nx H az z kf en ff F) (hf : f < F.1) (hg : ∀ k : Nat, (k : Int) < (ff (5 * f)).toInt → gs k = pv0 (if k = 0 then a1 else if k = 1 then a2 else if k = 2 then a3 else if k = 3 then a4 else 0)) (e2 : st.toInt = 0) (e4 : on2.toInt = 1) (e5 : ba2.toInt = 0) (e6 : tp2.toInt = (ff (5 * f + 1)).toInt) (e7 : (kb2 0).toInt = 0) (e8 : fr.toInt = 0) (e9 : x2 = en f) : cSm S nx H az z kz kf gs kb2 kk2 gk gv on2 ba2 tp2 st fr x2 0 (pm_s0 F f a1 a2 a3 a4) := by
  obtain ⟨X, y, c, ⟨x1, x3, x4, x5, x6⟩, c1, c2, c3, c4, c5, c6⟩ := hp.2 f hf
  obtain ⟨k, k1⟩ : ∃ k : Nat, (ff (5 * f + 1)).toInt = (k : Int) := ⟨(ff (5 * f + 1)).toInt.toNat, by omega⟩
  obtain ⟨y2, y3, y4⟩ := zpx_pa x3
  have hK0 : cKo S nx H az [(0, F.2.2.2 f)] x2 2 := by
    have h1 : cKo S nx H az [(0, F.2.2.2 f)] (nx (Int32.toNatClampNeg (en f))) 1 := cKo_w x1 y3 ⟨0, y2, y, rfl, y4, x6, rfl⟩
    have h2 : cSi S nx 1 x2 (nx (Int32.toNatClampNeg (en f))) := ⟨Int32.toNatClampNeg (en f), by rw [e9]; exact (zn_nat x4).symm, Or.inr ⟨x5, rfl⟩⟩
    exact cKo_si h2 h1
  refine ⟨0, k, [(0, F.2.2.2 f)], [], (fun k => if (k : Int) < F.2.2.1 f then pv0 (if k = 0 then a1 else if k = 1 then a2 else if k = 2 then a3 else if k = 3 then a4 else 0) else 0), c, [], 2, 0, k, 0, 0, (fun _ => 0), (fun _ => 0), ⟨by omega, e2, e8, by rw [e4]; rfl, by omega⟩, ⟨⟨by simp, fun j hj => by simp at hj, fun j hj => ?_, by omega⟩, e7, fun u hu => ?_, rfl⟩, hK0, rfl, rfl, fun j hj => absurd hj (Nat.not_lt_zero _), by omega⟩
  · rw [Nat.zero_add, hg j (by omega)]
    have hj2 : (j : Int) < F.2.2.1 f := by rw [c1]; omega
    exact (if_pos hj2).symm
  · rw [List.mem_singleton.mp hu]
    exact ⟨c3, ⟨c, c4, Nat.le_refl _⟩, by show tm_wi (F.2.2.2 f) ≤ k; omega⟩
end
/-! what a plain match writes -/
theorem zfk_nn {kz : Int32} {kf : Nat → Int32} {k : Int32} : 0 ≤ zfk kz kf k := by
  unfold zfk
  split <;> omega
def zBp (gs l : Nat → Int64) (gv : Nat → Int64) (B C n : Nat) : Prop := (∀ k, k < n → l (B + k) = gv (C + k)) ∧ ∀ j, (∀ k, k < n → j ≠ B + k) → l j = gs j
theorem zBp_0 {gs gv : Nat → Int64} {B C : Nat} : zBp gs gs gv B C 0 := ⟨fun k hk => absurd hk (Nat.not_lt_zero _), fun _ _ => rfl⟩
theorem zBp_s {gs l l2 gv : Nat → Int64} {B C n n2 : Nat} {v : Int64} (h : zBp gs l gv B C n) (e : l2 = vp_updL l (B + n) v) (ev : v = gv (C + n)) (en : n2 = n + 1) : zBp gs l2 gv B C n2 := by
  subst e ev en
  refine ⟨fun k hk => ?_, fun j hj => ?_⟩
  · by_cases u : k = n
    · rw [u, cul_s]
    · rw [cul_n (by omega)]; exact h.1 k (by omega)
  · rw [cul_n (hj n (by omega))]; exact h.2 j (fun k hk => hj k (by omega))
/-- a plain match: the arm, its row, its names -/
def cMt (ak an ab af nx : Nat → Int32) (kz : Int32) (kf gk : Nat → Int32) (gv gs gs2 : Nat → Int64) (v : Int64) (ba fr mh mh2 mat2 : Int32) : Prop := ∃ kd am : Int32, (kd.toInt = if zhs v = 0 then -1 else if zhs v = 2 then (gk (Int32.toNatClampNeg v.toInt32)).toInt else v.toInt32.toInt) ∧ am = cfa ak an kd 8 fr ∧ (mh2.toInt = 2 ∧ am.toInt = -1 ∨ mh2.toInt = mh.toInt ∧ am.toInt ≠ -1 ∧ mat2 = nx (Int32.toNatClampNeg (ab (Int32.toNatClampNeg am))) ∧ (¬ zhs v = 2 → gs2 = gs) ∧ (zhs v = 2 → zBp gs gs2 gv (Int32.toNatClampNeg ba + Int32.toNatClampNeg (af (Int32.toNatClampNeg am))) (3 * Int32.toNatClampNeg v.toInt32) (zfk kz kf (ak (Int32.toNatClampNeg am))).toNat))
theorem cMt_kd {gk : Nat → Int32} {v : Int64} {kd : Int32} (h : zhs v = 0 ∧ kd = -1 ∨ zhs v = 2 ∧ kd = gk (Int32.toNatClampNeg v.toInt32) ∨ zhs v ≠ 0 ∧ zhs v ≠ 2 ∧ kd = v.toInt32) : kd.toInt = if zhs v = 0 then -1 else if zhs v = 2 then (gk (Int32.toNatClampNeg v.toInt32)).toInt else v.toInt32.toInt := by
  rcases h with ⟨h1, h2⟩ | ⟨h1, h2⟩ | ⟨h1, h2, h3⟩
  · rw [if_pos h1, h2]; decide
  · rw [if_neg (by rw [h1]; decide), if_pos h1, h2]
  · rw [if_neg h1, if_neg h2, h3]
