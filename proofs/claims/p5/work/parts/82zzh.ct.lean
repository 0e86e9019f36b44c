section
/-! one turn of the class, counted, and the counted machine's steps -/
/-- how it ends, where, with its counts; held: how many are held then -/
def cXs (F : sp_F) (fd : Nat → Int32) (lim : Int) (al : Nat) (s0 : cm_S) (hw : Nat) (p : Int) (n md ru : Nat) (mo : Int) (db om : Nat) (held : Int) : Prop := ∃ (K : List (Nat × Tm)) (V : List Int64) (E : List (Nat → Int64)) (c : Nat) (ck : Nat → Int32) (cf : Nat → Int64) (S : List (Nat × Nat × Nat)), cm_ou F fd lim al s0 (hw, p, ((K, V, E, n, c, ck, cf), (S, md, ru, mo, db, om))) ∧ cm_hl fd ((K, V, E, n, c, ck, cf), (S, md, ru, mo, db, om)) = held
def pn0 : Nat → Bool := fun _ => false
section
variable {F : sp_F} {fd : Nat → Int32} {lim : Int} {al : Nat}
theorem cn_0 {n c : Nat} {t : Tm} {K : List (Nat × Tm)} {V : List Int64} {E : List (Nat → Int64)} {ck : Nat → Int32} {cf : Nat → Int64} {X : cm_X} (h : ¬ n = al) : cm_st F fd lim al (((0, t) :: K, V, E, n, c, ck, cf), X) = cm_w t K V E (n + 1) c ck cf X := by
  show (if (0 : Nat) = 0 then (if n = al then (Except.error (5, pm_pl t, (((0, t) :: K, V, E, n, c, ck, cf), X)) : Except (Nat × Int × cm_S) cm_S) else cm_w t K V E (n + 1) c ck cf X) else if (0 : Nat) = 1 then cm_d F fd lim t ((0, t) :: K) K V E n c ck cf X else if (0 : Nat) = 3 then Except.ok ((K, V, E, n, c, ck, cf), (sh_r (tm_id t) X.1, X.2)) else Except.ok ((K, V, E.tail, n, c, ck, cf), X)) = _
  rw [if_pos rfl, if_neg h]
theorem cn_x {n c : Nat} {t : Tm} {K : List (Nat × Tm)} {V : List Int64} {E : List (Nat → Int64)} {ck : Nat → Int32} {cf : Nat → Int64} {X : cm_X} (h : n = al) : cm_st F fd lim al (((0, t) :: K, V, E, n, c, ck, cf), X) = .error (5, pm_pl t, (((0, t) :: K, V, E, n, c, ck, cf), X)) := by
  show (if (0 : Nat) = 0 then (if n = al then (Except.error (5, pm_pl t, (((0, t) :: K, V, E, n, c, ck, cf), X)) : Except (Nat × Int × cm_S) cm_S) else cm_w t K V E (n + 1) c ck cf X) else if (0 : Nat) = 1 then cm_d F fd lim t ((0, t) :: K) K V E n c ck cf X else if (0 : Nat) = 3 then Except.ok ((K, V, E, n, c, ck, cf), (sh_r (tm_id t) X.1, X.2)) else Except.ok ((K, V, E.tail, n, c, ck, cf), X)) = _
  rw [if_pos rfl, if_pos h]
theorem cn_1 {n c : Nat} {t : Tm} {K : List (Nat × Tm)} {V : List Int64} {E : List (Nat → Int64)} {ck : Nat → Int32} {cf : Nat → Int64} {X : cm_X} : cm_st F fd lim al (((1, t) :: K, V, E, n, c, ck, cf), X) = cm_d F fd lim t ((1, t) :: K) K V E n c ck cf X := rfl
theorem cn_2 {n c : Nat} {t : Tm} {K : List (Nat × Tm)} {V : List Int64} {E : List (Nat → Int64)} {ck : Nat → Int32} {cf : Nat → Int64} {X : cm_X} : cm_st F fd lim al (((2, t) :: K, V, E, n, c, ck, cf), X) = .ok ((K, V, E.tail, n, c, ck, cf), X) := rfl
theorem cn_3 {n c : Nat} {t : Tm} {K : List (Nat × Tm)} {V : List Int64} {E : List (Nat → Int64)} {ck : Nat → Int32} {cf : Nat → Int64} {X : cm_X} : cm_st F fd lim al (((3, t) :: K, V, E, n, c, ck, cf), X) = .ok ((K, V, E, n, c, ck, cf), (sh_r (tm_id t) X.1, X.2)) := rfl
theorem mRt_e {A B : List (Nat × Tm)} {V : List Int64} {e : Nat → Int64} {E : List (Nat → Int64)} {y : Nat} (h : ∀ i, i < 24 → nF A i = nF B i) (ha : aF A = aF B) : mRt A V (e :: E) y = mRt B V (e :: E) y := by
  unfold mRt
  rw [mRn_c, mRn_c, ha, zNb_e h (fun _ _ _ => rfl)]
theorem mRt_st {K : List (Nat × Tm)} {V : List Int64} {E : List (Nat → Int64)} (h : mk4 K) : mRt (gst K) V E = mRt K V E := funext fun y => by
  unfold mRt
  rw [mRn_st h]
theorem zNb_n {e : Nat → Int64} {y : Nat} : zNb pn0 e y = 0 := zNb_z (fun _ _ => rfl)
end
section
variable {S : Nat → Nat → Int32} {nx : Nat → Int32} {H : Int32 → Int64 → Prop} {az : Int} {z : Nat} {kz : Int32} {kf : Nat → Int32} {M : Nat → Prop} {F : sp_F} {lim : Int} {al : Nat} {s0 : cm_S} {gs gs2 : Nat → Int64} {kb kk sh ks kb2 kk2 sh2 ks2 gk gc gk2 gc2 : Nat → Int32} {gv gv2 : Nat → Int64} {fresh held fresh2 held2 : Int} {x x2 : Int32} {i : Int} {b nm : Nat} {G K2 : List (Nat × Tm)} {Vs : List Int64} {e : Nat → Int64} {bd : Nat} {fs : List cFm} {m1 m2 tn sn hn c : Nat} {ck : Nat → Int32} {cf : Nat → Int64} {Sh : List (Nat × Nat × Nat)} {md ru : Nat} {mo : Int} {db om db2 : Nat} {ph : Nat → Nat} {lv lv2 : Nat → Bool} {gA gA2 : Nat → Int} {FL FL2 : List Nat} {pn : Nat → Bool} {r : Nat}
theorem cFc_mk : ∀ {fs : List cFm} {tp : Nat} {x : Int32} {m : Nat}, cFc S nx H az z kf M ph gs kb kk fs tp x m → mk4 (cTs fs)
  | [], _, _, _, _ => fun _ g => (nomatch g)
  | (b, nm, G, Vs, e, bd) :: fs, tp, x, m, ⟨_, _, h3, _, _, _, _, h6, _⟩ => fun u hu => by
    have hu : u ∈ G ++ (2, Tm.nil) :: cTs fs := hu
    rcases List.mem_append.mp hu with g | g
    · exact (gSc_mk h3.2.1).1 u g
    · rcases List.mem_cons.mp g with g | g
      · rw [g]; intro q; exact absurd (show (2 : Nat) = 4 from q) (by decide)
      · exact cFc_mk h6 u g
theorem cSO_mk (h : cSO S nx H az z kz kf M F lim al s0 gs kb kk sh ks gk gc gv fresh held x i b nm G Vs e bd fs m1 m2 tn sn hn c ck cf Sh md ru mo db om ph lv gA FL pn) : mk4 (G ++ (2, Tm.nil) :: cTs fs) ∧ ∀ u ∈ G, u.1 ≠ 2 := by
  obtain ⟨⟨h1, h2, h3, h4, h5, h6, h7⟩, -⟩ := h
  have hm := gSc_mk h3.2.1
  refine ⟨fun u hu => ?_, hm.2⟩
  rcases List.mem_append.mp hu with g | g
  · exact hm.1 u g
  · rcases List.mem_cons.mp g with g | g
    · rw [g]; intro q; exact absurd (show (2 : Nat) = 4 from q) (by decide)
    · exact cFc_mk h6 u g
/-- how many are held -/
theorem cSO_hl (h : cSO S nx H az z kz kf M F lim al s0 gs kb kk sh ks gk gc gv fresh held x i b nm G Vs e bd fs m1 m2 tn sn hn c ck cf Sh md ru mo db om ph lv gA FL pn0) {X : Nat × Nat × Int × Nat × Nat} : cm_hl kf ((gst (G ++ (2, Tm.nil) :: cTs fs), Vs ++ cVs fs, e :: cEs fs, sn, c, ck, cf), (Sh, X)) = held := by
  have hm := (cSO_mk h).1
  obtain ⟨-, -, ⟨h1, h2, -, -⟩, -, -⟩ := h
  show nLv c (cWd kf ck) cf (mRt (gst (G ++ (2, Tm.nil) :: cTs fs)) (Vs ++ cVs fs) (e :: cEs fs)) + (Sh.length : Int) = held
  rw [mRt_st hm]
  have h3 := hZ_nl (hZ_R h1 (R2 := mRt (G ++ (2, Tm.nil) :: cTs fs) (Vs ++ cVs fs) (e :: cEs fs)) (fun y => by rw [zNb_n]; omega))
  rw [← h3, h2.2]
  show _ + (Sh.length : Int) = _ + ((Sh.map (fun a => a.2.1)).length : Int)
  rw [List.length_map]
/-- a STEP more than allowed -/
theorem cz_cut (h : cSO S nx H az z kz kf M F lim al s0 gs kb kk sh ks gk gc gv fresh held x i b nm G Vs e bd fs m1 m2 tn sn hn c ck cf Sh md ru mo db om ph lv gA FL pn0) (hr : x.toInt = (r : Int)) (ho : (S 0 r).toInt = 1 ∨ (S 0 r).toInt = 2 ∨ (S 0 r).toInt = 3 ∨ (S 0 r).toInt = 4 ∨ (S 0 r).toInt = 6) (ha : sn = al) : cXs F kf lim al s0 5 (S 3 r).toInt sn md ru mo db om held := by
  have hl := cSO_hl h (X := (md, ru, mo, db, om))
  obtain ⟨⟨h1, h2, h3, h4, h5, h6, h7⟩, h8, h9, h10, h11⟩ := h
  obtain ⟨t, K2, zz, rfl, g1, g2, g3⟩ := cG_w (fd := kf) hr ho h3.1 h5
  rw [List.cons_append, gst_c (by decide)] at h11 hl
  refine ⟨_, _, _, _, _, _, _, cm_ou_s h11 ?_, hl⟩
  rw [g1]
  exact cn_x ha
theorem cz_1 (hm : mM S nx M) (h : cSO S nx H az z kz kf M F lim al s0 gs kb kk sh ks gk gc gv fresh held x i b nm G Vs e bd fs m1 m2 tn sn hn c ck cf Sh md ru mo db om ph lv gA FL pn0) (hr : x.toInt = (r : Int)) (ho : (S 0 r).toInt = 1) (ha : sn ≠ al) : ∃ (G2 : List (Nat × Tm)) (m3 : Nat), cSO S nx H az z kz kf M F lim al s0 gs kb kk sh ks gk gc gv fresh held (nx r) (i + 1) b nm G2 Vs e bd fs m3 m2 tn (sn + 1) hn c ck cf Sh md ru mo db om ph lv gA FL pn0 := by
  obtain ⟨⟨h1, h2, h3, h4, h5, h6, h7⟩, h8, h9, h10, h11⟩ := h
  obtain ⟨t, K2, zz, rfl, g1, g2, g3⟩ := cG_w (fd := kf) hr (Or.inl ho) h3.1 h5
  obtain ⟨-, K1, w, w3, p1, p2, p3, p4, p5, p6, p7⟩ := g2.resolve_right (fun g => by rcases g with g | g | g | g <;> (have := g.1; omega))
  have hM := mQ_r hm h4 hr
  obtain ⟨k1, k2, k3, k4⟩ := h3
  have enF : ∀ (B : List (Nat × Tm)) (j : Nat), nF (K1 ++ B) j = nF ((0, t) :: B) j := fun B j => (p5 B j).trans nF_g0.symm
  refine ⟨K1 ++ K2, w + m1, ⟨⟨h1.1, h1.2.1, fun k hk => h1.2.2 k (by rw [← enF]; exact hk)⟩, h2, ⟨fun u hu hj => ?_, p7 K2 k2, p3 K2 _ k3, k4⟩, Or.inl ⟨r, hM, rfl⟩, p2 K2 m1 g3, h6, by omega⟩, ?_, ⟨hZ_R h9.1 (fun y => ?_), h9.2⟩, h10, ?_⟩
  · rcases List.mem_append.mp hu with g | g
    · exact (p4 u g).2
    · exact k1 u (List.mem_cons_of_mem _ g) hj
  · rw [List.append_assoc]
    exact (cShr_p (fun u hu => (p4 u hu).1)).mpr ((cShr_p (A := [(0, t)]) (fun u hu => by rw [List.mem_singleton.mp hu]; exact Or.inl rfl)).mp h8)
  · rw [List.append_assoc, mRt_e (A := K1 ++ (K2 ++ (2, Tm.nil) :: cTs fs)) (B := (0, t) :: (K2 ++ (2, Tm.nil) :: cTs fs)) (fun j _ => enF _ j) (p6 _)]
    rfl
  · rw [List.append_assoc, gst_a, gst_i (A := K1) (fun u hu => by have := (p4 u hu).1; omega)]
    rw [List.cons_append, gst_c (by decide)] at h11
    exact cm_re_s h11 ((cn_0 ha).trans (p1 _ _ _ _ _ _ _ _))
/-- a value more -/
theorem cz_v {t : Tm} {v u : Int64} (hm : mM S nx M) (h : cSO S nx H az z kz kf M F lim al s0 gs kb kk sh ks gk gc gv fresh held x i b nm ((0, t) :: K2) Vs e bd fs m1 m2 tn sn hn c ck cf Sh md ru mo db om ph lv gA FL pn0) (hr : x.toInt = (r : Int)) (hK : cKg S nx H az K2 (nx r) m1) (hv : vr ph v u) (e4 : gs2 = vp_updL gs tn u) (hH : cHp kz kf z ph lv2 gA2 c ck cf (mRt (K2 ++ (2, Tm.nil) :: cTs fs) (v :: (Vs ++ cVs fs)) (e :: cEs fs)) Sh gk gc2 gv FL2 fresh2 held2) (hre : cm_re F kf lim al s0 ((gst (K2 ++ (2, Tm.nil) :: cTs fs), v :: (Vs ++ cVs fs), e :: cEs fs, sn + 1, c, ck, cf), (Sh, md, ru, mo, db2, om))) : cSO S nx H az z kz kf M F lim al s0 gs2 kb kk sh ks gk gc2 gv fresh2 held2 (nx r) (i + 1) b nm K2 (v :: Vs) e bd fs m1 m2 (tn + 1) (sn + 1) hn c ck cf Sh md ru mo db2 om ph lv2 gA2 FL2 pn0 := by
  obtain ⟨⟨h1, h2, h3, h4, h5, h6, h7⟩, h8, h9, h10, h11⟩ := h
  obtain ⟨k1, k2, k3, k4⟩ := h3
  have hM := mQ_r hm h4 hr
  have hk2 : ∀ u ∈ K2, u.1 = 0 ∨ u.1 = 1 → cOk z kf bd nm u := fun u hu => k1 u (List.mem_cons_of_mem _ hu)
  have hb : b ≤ tn := by have := h1.1; omega
  refine ⟨⟨cTc_pu h1 hv (fun k hk => ⟨by have := (nF_bd hk2 k2.2.2 hk).1; omega, by rw [nF_g0, hk, Bool.or_true]⟩) e4, h2, ⟨hk2, k2.2.2, k3, k4⟩, Or.inl ⟨r, hM, rfl⟩, hK, cFc_cg (fun j hj => by rw [e4, cul_n (by omega)]) (fun _ _ => ⟨rfl, rfl⟩) h6, by omega⟩, ?_, ⟨hZ_R hH.1 (fun y => by rw [zNb_n]; show _ = _; rw [Int.add_zero]; rfl), hH.2⟩, fun k hk => (nomatch (show false = true from hk)), hre⟩
  exact (cShr_p (A := [(0, t)]) (fun u hu => by rw [List.mem_singleton.mp hu]; exact Or.inl rfl)).mp h8
end

end
section
/-! one turn of the class, counted: names, signs, lets, ifs -/
theorem pvn_0 {x : Int32} : zhs (pv0 x) ≠ 2 := by unfold pv0; rw [(zof_int _).1]; decide
theorem pvn_1 {x : Int32} : zhs (pv1 x) ≠ 2 := by unfold pv1; rw [(zof_kind _).1]; decide
theorem vr_nn {ph : Nat → Nat} {v : Int64} (h : zhs v ≠ 2) : vr ph v v := Or.inl ⟨h, rfl⟩
theorem vr_0 {ph : Nat → Nat} {v u : Int64} (h : vr ph v u) (g : zhs u = 0) : u = v := (vr_n h (by rw [g]; decide)).1
theorem vr_0i {ph : Nat → Nat} {v u : Int64} (h : vr ph v u) : zhs v = 0 ↔ zhs u = 0 := by rw [vr_h h]
def hNd (S : Nat → Nat → Int32) (nx : Nat → Int32) (H : Int32 → Int64 → Prop) (az : Int) (z : Nat) (kf : Nat → Int32) (M : Nat → Prop) (nd : Nat → Int32) : Prop := ∀ {G : List (Nat × Tm)} {x : Int32} {m : Nat}, gSc z kf G → cKg S nx H az G x m → mQ S nx M x → ∀ k, zNp nd x k = nF G k
theorem mRv_dr {x : Nat} : ∀ {n : Nat} {V : List Int64}, n ≤ V.length → mRv V x = mRv (V.drop n) x + zs n (fun k => zr (V.getD (n - 1 - k) 0) x)
  | 0, V, _ => by show _ = mRv V x + 0; omega
  | n + 1, [], h => absurd h (by show ¬ n + 1 ≤ 0; omega)
  | n + 1, v :: V, h => by
    have ih := mRv_dr (x := x) (n := n) (V := V) (by have : (v :: V).length = V.length + 1 := rfl; omega)
    show zr v x + mRv V x = mRv (V.drop n) x + (zs n (fun k => zr ((v :: V).getD (n + 1 - 1 - k) 0) x) + zr ((v :: V).getD (n + 1 - 1 - n) 0) x)
    rw [ih, show n + 1 - 1 - n = 0 from by omega, zs_ext (f := fun k => zr ((v :: V).getD (n + 1 - 1 - k) 0) x) (g := fun k => zr (V.getD (n - 1 - k) 0) x) (fun k hk => by
      show zr ((v :: V).getD (n + 1 - 1 - k) 0) x = _
      rw [show n + 1 - 1 - k = (n - 1 - k) + 1 from by omega]; rfl)]
    show _ = mRv (V.drop n) x + (_ + zr v x)
    omega
theorem mRv_n {x : Nat} : ∀ {V : List Int64}, 0 ≤ mRv V x
  | [] => Int.le_refl _
  | v :: V => by
    have a := mRv_n (x := x) (V := V)
    have b := zr_0 v x
    show 0 ≤ zr v x + mRv V x
    omega
theorem mRn_n {x : Nat} : ∀ {E : List (Nat → Int64)} {K : List (Nat × Tm)}, 0 ≤ mRn E K x
  | [], _ => Int.le_refl _
  | e :: E, K => by
    have a := mRn_n (x := x) (E := E) (K := aF K)
    have b := zNb_0 (p := nF K) (e := e) (x := x)
    rw [mRn_c]
    omega
section
variable {S : Nat → Nat → Int32} {nx : Nat → Int32} {H : Int32 → Int64 → Prop} {az : Int} {z : Nat} {kz : Int32} {kf nd : Nat → Int32} {M : Nat → Prop} {F : sp_F} {lim : Int} {al : Nat} {s0 : cm_S} {gs gs2 : Nat → Int64} {kb kk sh ks kb2 kk2 sh2 ks2 gk gc gk2 gc2 : Nat → Int32} {gv gv2 : Nat → Int64} {fresh held fresh2 held2 : Int} {x x2 : Int32} {i : Int} {b nm : Nat} {G K2 : List (Nat × Tm)} {Vs : List Int64} {e : Nat → Int64} {bd : Nat} {fs : List cFm} {m1 m2 tn sn hn c : Nat} {ck : Nat → Int32} {cf : Nat → Int64} {Sh : List (Nat × Nat × Nat)} {md ru : Nat} {mo : Int} {db om db2 : Nat} {ph : Nat → Nat} {lv lv2 : Nat → Bool} {gA gA2 : Nat → Int} {FL FL2 : List Nat} {pn : Nat → Bool} {r : Nat}
theorem cz_2 (hm : mM S nx M) (h : cSO S nx H az z kz kf M F lim al s0 gs kb kk sh ks gk gc gv fresh held x i b nm G Vs e bd fs m1 m2 tn sn hn c ck cf Sh md ru mo db om ph lv gA FL pn0) (hr : x.toInt = (r : Int)) (ho : (S 0 r).toInt = 2) (ha : sn ≠ al) (e4 : gs2 = vp_updL gs tn (pv0 (S 1 r))) : ∃ G2, cSO S nx H az z kz kf M F lim al s0 gs2 kb kk sh ks gk gc gv fresh held (nx r) (i + 1) b nm G2 (pv0 (S 1 r) :: Vs) e bd fs m1 m2 (tn + 1) (sn + 1) hn c ck cf Sh md ru mo db om ph lv gA FL pn0 := by
  have hh := h
  obtain ⟨⟨h1, h2, h3, h4, h5, h6, h7⟩, h8, h9, h10, h11⟩ := hh
  obtain ⟨t, K2, zz, rfl, g1, g2, g3⟩ := cG_w (fd := kf) hr (Or.inr (Or.inl ho)) h3.1 h5
  obtain ⟨-, q2, q3, p1⟩ : (S 0 r).toInt = 2 ∧ zz = nx r ∧ _ := by
    rcases g2 with g | g | g | g | g
    · have := g.1; omega
    · exact g
    · have := g.1; omega
    · have := g.1; omega
    · have := g.1; omega
  subst q2
  rw [List.cons_append, gst_c (by decide)] at h11
  refine ⟨K2, cz_v hm h hr g3 (vr_nn pvn_0) e4 ⟨hZ_R h9.1 (fun y => ?_), h9.2⟩ (cm_re_s h11 ((cn_0 ha).trans (p1 _ _ _ _ _ _ _ _)))⟩
  rw [zNb_n, List.cons_append, mRt_e (A := (0, t) :: (K2 ++ (2, Tm.nil) :: cTs fs)) (B := K2 ++ (2, Tm.nil) :: cTs fs) (fun j _ => by rw [nF_g0, q3 j, Bool.false_or]) rfl]
  show (zr (pv0 (S 1 r)) y + mRv (Vs ++ cVs fs) y) + _ = (mRv (Vs ++ cVs fs) y + _) + 0
  rw [zr_n pvn_0]; omega
theorem cz_4 (hm : mM S nx M) (h : cSO S nx H az z kz kf M F lim al s0 gs kb kk sh ks gk gc gv fresh held x i b nm G Vs e bd fs m1 m2 tn sn hn c ck cf Sh md ru mo db om ph lv gA FL pn0) (hr : x.toInt = (r : Int)) (ho : (S 0 r).toInt = 4) (ha : sn ≠ al) (e4 : gs2 = vp_updL gs tn (pv1 (S 1 r))) : ∃ G2, cSO S nx H az z kz kf M F lim al s0 gs2 kb kk sh ks gk gc gv fresh held (nx r) (i + 1) b nm G2 (pv1 (S 1 r) :: Vs) e bd fs m1 m2 (tn + 1) (sn + 1) hn c ck cf Sh md ru mo db om ph lv gA FL pn0 := by
  have hh := h
  obtain ⟨⟨h1, h2, h3, h4, h5, h6, h7⟩, h8, h9, h10, h11⟩ := hh
  obtain ⟨t, K2, zz, rfl, g1, g2, g3⟩ := cG_w (fd := kf) hr (Or.inr (Or.inr (Or.inr (Or.inl ho)))) h3.1 h5
  obtain ⟨-, q2, t2, q3, q4, p1, p2⟩ : (S 0 r).toInt = 4 ∧ zz = nx r ∧ _ := by
    rcases g2 with g | g | g | g | g
    · have := g.1; omega
    · have := g.1; omega
    · have := g.1; omega
    · exact g
    · have := g.1; omega
  subst q2
  rw [List.cons_append, gst_c (by decide)] at h11
  refine ⟨K2, cz_v hm h hr g3 (vr_nn pvn_1) e4 ⟨hZ_R h9.1 (fun y => ?_), h9.2⟩ (cm_re_s (cm_re_s h11 ((cn_0 ha).trans (p1 _ _ _ _ _ _ _ _))) (cn_1.trans (p2 _ _ _ _ _ _ _ _ _ _ _)))⟩
  rw [zNb_n, List.cons_append, mRt_e (A := (0, t) :: (K2 ++ (2, Tm.nil) :: cTs fs)) (B := K2 ++ (2, Tm.nil) :: cTs fs) (fun j _ => by rw [nF_g0, q3 j, Bool.false_or]) rfl]
  show (zr (pv1 (S 1 r)) y + mRv (Vs ++ cVs fs) y) + _ = (mRv (Vs ++ cVs fs) y + _) + 0
  rw [zr_n pvn_1]; omega
/-- a name -/
theorem cz_3 (hm : mM S nx M) (hN : hNd S nx H az z kf M nd) (h : cSO S nx H az z kz kf M F lim al s0 gs kb kk sh ks gk gc gv fresh held x i b nm G Vs e bd fs m1 m2 tn sn hn c ck cf Sh md ru mo db om ph lv gA FL pn0) (hr : x.toInt = (r : Int)) (ho : (S 0 r).toInt = 3) : ∃ (sl : Nat) (K2 : List (Nat × Tm)), (S 1 r).toInt = (sl : Int) ∧ sl < 24 ∧ sl < nm ∧ vr ph (e sl) (gs (b + sl)) ∧ (zhs (e sl) = 2 → lv (Int32.toNatClampNeg (e sl).toInt32) = true) ∧
    (zNp nd (nx r) sl = false → sn ≠ al → ∀ {gs2 : Nat → Int64}, gs2 = vp_updL gs tn (gs (b + sl)) → cSO S nx H az z kz kf M F lim al s0 gs2 kb kk sh ks gk gc gv fresh held (nx r) (i + 1) b nm K2 (e sl :: Vs) e bd fs m1 m2 (tn + 1) (sn + 1) hn c ck cf Sh md ru mo db om ph lv gA FL pn0) ∧
    (zNp nd (nx r) sl = true → sn ≠ al → ∀ {gs2 : Nat → Int64} {gc2 : Nat → Int32} {gA2 : Nat → Int}, gs2 = vp_updL gs tn (gs (b + sl)) → hZ ph lv gA2 c (cWd kf ck) ck cf (fun y => (mRt (G ++ (2, Tm.nil) :: cTs fs) (Vs ++ cVs fs) (e :: cEs fs) y + zNb pn0 e y) + zr (e sl) y) (sIs Sh) gk gc2 gv → cSO S nx H az z kz kf M F lim al s0 gs2 kb kk sh ks gk gc2 gv fresh held (nx r) (i + 1) b nm K2 (e sl :: Vs) e bd fs m1 m2 (tn + 1) (sn + 1) hn c ck cf Sh md ru mo (db + if zhs (e sl) = 2 then 1 else 0) om ph lv gA2 FL pn0) := by
  have hh := h
  have mk := cSO_mk h
  obtain ⟨⟨h1, h2, h3, h4, h5, h6, h7⟩, h8, h9, h10, h11⟩ := hh
  obtain ⟨t, K2, zz, rfl, g1, g2, g3⟩ := cG_w (fd := kf) hr (Or.inr (Or.inr (Or.inl ho))) h3.1 h5
  obtain ⟨-, q2, sl, q3, q4, q5, p1⟩ : (S 0 r).toInt = 3 ∧ zz = nx r ∧ _ := by
    rcases g2 with g | g | g | g | g
    · have := g.1; omega
    · have := g.1; omega
    · exact g
    · have := g.1; omega
    · have := g.1; omega
  subst q2
  have hM := mQ_r hm h4 hr
  have eN := hN h3.2.1.2.2 g3 (Or.inl ⟨r, hM, rfl⟩) sl
  have hs : nF ((0, t) :: K2) sl = true := by rw [nF_g0, q5 sl, beq_self_eq_true, Bool.true_or]
  obtain ⟨s1, s2⟩ := nF_bd h3.1 h3.2.1 hs
  have mk2 : mk4 (K2 ++ (2, Tm.nil) :: cTs fs) := fun u hu => mk.1 u (List.mem_cons_of_mem _ hu)
  have n2 : ∀ u ∈ K2, u.1 ≠ 2 := fun u hu => mk.2 u (List.mem_cons_of_mem _ hu)
  have eK : nF (gst (K2 ++ (2, Tm.nil) :: cTs fs)) sl = nF K2 sl := by rw [nF_st mk2, nF_a2 n2]
  have hre := h11
  rw [List.cons_append, gst_c (by decide)] at hre
  refine ⟨sl, K2, q3, s2, by have := h3.2.2.2; omega, h1.2.2 sl hs, fun g => hZ_lv h9.1 ?_, fun g ha gs2 e4 => ?_, fun g ha gs2 gc2 gA2 e4 hZ2 => ?_⟩
  · have a1 : 1 ≤ zNb (nF (((0, t) :: K2) ++ (2, Tm.nil) :: cTs fs)) e (Int32.toNatClampNeg (e sl).toInt32) := by
      have b1 := zs_ge (n := 24) (x := sl) (f := fun i => if nF (((0, t) :: K2) ++ (2, Tm.nil) :: cTs fs) i = true then zr (e i) (Int32.toNatClampNeg (e sl).toInt32) else 0) (fun d _ => by show (0 : Int) ≤ if nF (((0, t) :: K2) ++ (2, Tm.nil) :: cTs fs) d = true then zr (e d) (Int32.toNatClampNeg (e sl).toInt32) else 0; split; exact zr_0 _ _; exact Int.le_refl _) s2
      have b2 : (if nF (((0, t) :: K2) ++ (2, Tm.nil) :: cTs fs) sl = true then zr (e sl) (Int32.toNatClampNeg (e sl).toInt32) else 0) = 1 := by
        rw [if_pos (by rw [nF_a2 mk.2]; exact hs)]
        have hv := h1.2.2 sl hs
        have hu : zhs (gs (b + sl)) = 2 := by rw [vr_h hv]; exact g
        rw [zr_w2 hv hu, if_pos rfl]
      have b3 : (if nF (((0, t) :: K2) ++ (2, Tm.nil) :: cTs fs) sl = true then zr (e sl) (Int32.toNatClampNeg (e sl).toInt32) else 0) ≤ zNb (nF (((0, t) :: K2) ++ (2, Tm.nil) :: cTs fs)) e (Int32.toNatClampNeg (e sl).toInt32) := b1
      omega
    have a2 := mRv_n (x := Int32.toNatClampNeg (e sl).toInt32) (V := Vs ++ cVs fs)
    have a3 := mRn_n (x := Int32.toNatClampNeg (e sl).toInt32) (E := cEs fs) (K := aF (((0, t) :: K2) ++ (2, Tm.nil) :: cTs fs))
    show 1 ≤ (mRv (Vs ++ cVs fs) _ + (zNb (nF (((0, t) :: K2) ++ (2, Tm.nil) :: cTs fs)) e _ + mRn (cEs fs) (aF (((0, t) :: K2) ++ (2, Tm.nil) :: cTs fs)) _)) + zNb pn0 e _
    rw [zNb_n]
    omega
  · have hf : nF K2 sl = false := by rw [← eN]; exact g
    have hre2 := cm_re_s hre ((cn_0 ha).trans (p1 _ _ _ _ _ _ _ _))
    rw [show (e :: cEs fs).headD (fun _ => 0) sl = e sl from rfl, eK] at hre2
    refine cz_v hm h hr g3 (h1.2.2 sl hs) e4 ⟨hZ_R h9.1 (fun y => ?_), h9.2⟩ ?_
    · show (zr (e sl) y + mRv (Vs ++ cVs fs) y) + (zNb (nF (K2 ++ (2, Tm.nil) :: cTs fs)) e y + mRn (cEs fs) (aF (K2 ++ (2, Tm.nil) :: cTs fs)) y) = (mRv (Vs ++ cVs fs) y + (zNb (nF (((0, t) :: K2) ++ (2, Tm.nil) :: cTs fs)) e y + mRn (cEs fs) (aF (K2 ++ (2, Tm.nil) :: cTs fs)) y)) + zNb pn0 e y
      have a1 := zNb_a (p := nF (((0, t) :: K2) ++ (2, Tm.nil) :: cTs fs)) (q := fun i => i == sl) (r := nF (K2 ++ (2, Tm.nil) :: cTs fs)) (e := e) (x := y) (fun j _ => by show nF ((0, t) :: (K2 ++ (2, Tm.nil) :: cTs fs)) j = _; rw [nF_g0, q5 j]) (fun j _ hj => by rw [show j = sl from eq_of_beq hj, nF_a2 n2]; exact hf)
      rw [a1, zNb_1 s2, zNb_n]
      omega
    · rw [hf, if_neg (fun q => by cases q.1)] at hre2
      exact hre2
  · have ht : nF K2 sl = true := by rw [← eN]; exact g
    have hre2 := cm_re_s hre ((cn_0 ha).trans (p1 _ _ _ _ _ _ _ _))
    rw [show (e :: cEs fs).headD (fun _ => 0) sl = e sl from rfl, eK] at hre2
    refine cz_v hm h hr g3 (h1.2.2 sl hs) e4 ⟨hZ_R hZ2 (fun y => ?_), h9.2⟩ ?_
    · show (zr (e sl) y + mRv (Vs ++ cVs fs) y) + (zNb (nF (K2 ++ (2, Tm.nil) :: cTs fs)) e y + mRn (cEs fs) (aF (K2 ++ (2, Tm.nil) :: cTs fs)) y) = ((mRv (Vs ++ cVs fs) y + (zNb (nF (((0, t) :: K2) ++ (2, Tm.nil) :: cTs fs)) e y + mRn (cEs fs) (aF (K2 ++ (2, Tm.nil) :: cTs fs)) y)) + zNb pn0 e y) + zr (e sl) y
      have a1 : zNb (nF (((0, t) :: K2) ++ (2, Tm.nil) :: cTs fs)) e y = zNb (nF (K2 ++ (2, Tm.nil) :: cTs fs)) e y := zNb_e (fun j _ => by
        show nF ((0, t) :: (K2 ++ (2, Tm.nil) :: cTs fs)) j = _
        rw [nF_g0, q5 j]
        by_cases u : j = sl
        · rw [u, nF_a2 n2, ht, Bool.or_true]
        · rw [beq_eq_false_iff_ne.mpr u, Bool.false_or]) (fun _ _ _ => rfl)
      rw [a1, zNb_n]
      omega
    · rw [ht] at hre2
      by_cases u : zhs (e sl) = 2
      · rw [if_pos ⟨rfl, u⟩] at hre2
        rw [if_pos u]
        exact hre2
      · rw [if_neg (fun q => u q.2)] at hre2
        rw [if_neg u]
        exact hre2
end

end
section
/-! one turn of the class, counted: signs, lets, ifs, jumps, returns -/
section
variable {S : Nat → Nat → Int32} {nx : Nat → Int32} {H : Int32 → Int64 → Prop} {az : Int} {z : Nat} {kz : Int32} {kf nd : Nat → Int32} {M : Nat → Prop} {F : sp_F} {lim : Int} {al : Nat} {s0 : cm_S} {gs gs2 : Nat → Int64} {kb kk sh ks kb2 kk2 sh2 ks2 gk gc gk2 gc2 : Nat → Int32} {gv gv2 : Nat → Int64} {fresh held fresh2 held2 : Int} {x x2 : Int32} {i : Int} {b nm : Nat} {G K2 : List (Nat × Tm)} {Vs : List Int64} {e : Nat → Int64} {bd : Nat} {fs : List cFm} {m1 m2 tn sn hn c : Nat} {ck : Nat → Int32} {cf : Nat → Int64} {Sh : List (Nat × Nat × Nat)} {md ru : Nat} {mo : Int} {db om db2 : Nat} {ph : Nat → Nat} {lv lv2 : Nat → Bool} {gA gA2 : Nat → Int} {FL FL2 : List Nat} {pn : Nat → Bool} {r : Nat}
theorem cShr_h {j : Nat} {t : Tm} {K : List (Nat × Tm)} {o n : Nat} {SS : List (Nat × Nat × Nat)} (hj : j = 0 ∨ j = 1) : cShr ph sh ks ((j, t) :: K) o SS n ↔ cShr ph sh ks K o SS n := cShr_p (A := [(j, t)]) (fun u hu => by rw [List.mem_singleton.mp hu]; exact hj)
/-- it ends here -/
theorem cz_x {t : Tm} {hw : Nat} {p : Int} (h : cSO S nx H az z kz kf M F lim al s0 gs kb kk sh ks gk gc gv fresh held x i b nm ((1, t) :: K2) Vs e bd fs m1 m2 tn sn hn c ck cf Sh md ru mo db om ph lv gA FL pn0) (hd : ∀ (K0 K : List (Nat × Tm)), K0 = (1, t) :: gst (K2 ++ (2, Tm.nil) :: cTs fs) → K = gst (K2 ++ (2, Tm.nil) :: cTs fs) → cm_d F kf lim t K0 K (Vs ++ cVs fs) (e :: cEs fs) sn c ck cf (Sh, md, ru, mo, db, om) = .error (hw, p, ((K0, Vs ++ cVs fs, e :: cEs fs, sn, c, ck, cf), (Sh, md, ru, mo, db, om)))) : cXs F kf lim al s0 hw p sn md ru mo db om held := by
  have hl := cSO_hl h (X := (md, ru, mo, db, om))
  obtain ⟨-, -, -, -, h11⟩ := h
  rw [List.cons_append, gst_c (by decide)] at h11 hl
  exact ⟨_, _, _, _, _, _, _, cm_ou_s h11 (cn_1.trans (hd _ _ rfl rfl)), hl⟩
theorem cz_8 (hm : mM S nx M) (h : cSO S nx H az z kz kf M F lim al s0 gs kb kk sh ks gk gc gv fresh held x i b nm G Vs e bd fs m1 m2 tn sn hn c ck cf Sh md ru mo db om ph lv gA FL pn0) (hr : x.toInt = (r : Int)) (ho : 8 ≤ (S 0 r).toInt ∧ (S 0 r).toInt ≤ 11) : 2 ≤ Vs.length ∧ (¬ (zhs (gs (tn - 2)) = 0 ∧ zhs (gs (tn - 1)) = 0) → cXs F kf lim al s0 2 (S 3 r).toInt sn md ru mo db om held) ∧ (zhs (gs (tn - 2)) = 0 ∧ zhs (gs (tn - 1)) = 0 → gs2 = vp_updL gs (tn - 2) (pv0 (crk (S 0 r).toInt (gs (tn - 2)).toInt32 (gs (tn - 1)).toInt32)) → ∃ (G2 : List (Nat × Tm)) (V2 : List Int64) (m3 : Nat), cSO S nx H az z kz kf M F lim al s0 gs2 kb kk sh ks gk gc gv fresh held (nx r) (i + 1) b nm G2 V2 e bd fs m3 m2 (tn - 2 + 1) sn hn c ck cf Sh md ru mo db om ph lv gA FL pn0) := by
  have hh := h
  obtain ⟨⟨h1, h2, h3, h4, h5, h6, h7⟩, h8, h9, h10, h11⟩ := hh
  obtain ⟨t, K2, zz, w, m3, rfl, g1, g2, g3⟩ := cG_d (fd := kf) hr (Or.inr (Or.inl ⟨by omega, by omega⟩)) h3.1 h5
  obtain ⟨q2, q3, q5, o, q4, q6, p2⟩ : zz = nx r ∧ w = 1 ∧ _ := by
    rcases g1 with g | g | g | g | g | g
    · have := g.1; omega
    · have := g.1; omega
    · have := g.1; omega
    · exact g
    · have := g.1; omega
    · have := g.1; omega
  subst q2
  obtain ⟨k1, k2, k3, k4⟩ := h3
  have hh2 : pm_ar t ≤ Vs.length ∧ cHg K2 (Vs.length - pm_ar t + 1) := k3
  rw [q5] at hh2
  have hM := mQ_r hm h4 hr
  have hk2 : ∀ u ∈ K2, u.1 = 0 ∨ u.1 = 1 → cOk z kf bd nm u := fun u hu => k1 u (List.mem_cons_of_mem _ hu)
  have hn2 : ∀ k, nF K2 k = true → nF ((1, t) :: K2) k = true := fun k hk => by rw [nF_g1, hk, Bool.or_true]
  have hd := cTc_dr h1 hh2.1 hn2
  have hq := h1.1
  have v0 : vr ph ((Vs ++ cVs fs).getD 0 0) (gs (tn - 1)) := by
    rw [gd_app (by omega), show tn - 1 = tn - 2 + 1 from by omega]; exact hd.2.1 1 (by omega)
  have v1 : vr ph ((Vs ++ cVs fs).getD 1 0) (gs (tn - 2)) := by
    rw [gd_app (by omega)]; exact hd.2.1 0 (by omega)
  have iff1 : (zhs ((Vs ++ cVs fs).getD 1 0) = 0 ∧ zhs ((Vs ++ cVs fs).getD 0 0) = 0) ↔ (zhs (gs (tn - 2)) = 0 ∧ zhs (gs (tn - 1)) = 0) := and_congr (vr_0i v1) (vr_0i v0)
  refine ⟨hh2.1, fun g => cz_x h (fun K0 K e0 e1 => ?_), fun g a3 => ?_⟩
  · rw [p2, if_neg (fun u => g (iff1.mp u))]
  · have e0 := vr_0 v0 g.2
    have e1 := vr_0 v1 g.1
    rw [q4, crk_op, e0, e1] at a3
    rw [List.cons_append, gst_c (by decide)] at h11
    have hre := cm_re_s h11 (cn_1.trans ((p2 _ _ _ _ _ _ _ _ _ _ _).trans (if_pos (iff1.mpr g))))
    rw [List.drop_append_of_le_length hh2.1] at hre
    refine ⟨K2, _ :: Vs.drop 2, m3, ⟨cTc_pu hd.1 (vr_nn pvn_0) (fun k hk => ⟨by have := (nF_bd hk2 k2.2.2 hk).1; omega, hk⟩) a3, h2, ⟨hk2, k2.2.2, by rw [List.length_cons, List.length_drop]; exact hh2.2, k4⟩, Or.inl ⟨r, hM, rfl⟩, g2, cFc_cg (fun j hj => by rw [a3, cul_n (by omega)]) (fun _ _ => ⟨rfl, rfl⟩) h6, by omega⟩, (cShr_h (Or.inr rfl)).mp h8, ⟨hZ_R h9.1 (fun y => ?_), h9.2⟩, fun k hk => (nomatch (show false = true from hk)), hre⟩
    have a1 := mRv_dr (x := y) (n := 2) (V := Vs ++ cVs fs) (by rw [List.length_append]; omega)
    have a2 : zs 2 (fun k => zr ((Vs ++ cVs fs).getD (2 - 1 - k) 0) y) = 0 := zs_z (fun d hd => by
      have : d = 0 ∨ d = 1 := by omega
      rcases this with u | u
      · subst u; exact zr_n (by rw [(vr_0i v1).mpr g.1]; decide)
      · subst u; exact zr_n (by rw [(vr_0i v0).mpr g.2]; decide))
    rw [List.drop_append_of_le_length hh2.1] at a1
    have a4 := zr_n (v := pv0 (pm_op o ((Vs ++ cVs fs).getD 1 0).toInt32 ((Vs ++ cVs fs).getD 0 0).toInt32)) pvn_0 (c := y)
    have a5 : zNb (nF (((1, t) :: K2) ++ (2, Tm.nil) :: cTs fs)) e y = zNb (nF (K2 ++ (2, Tm.nil) :: cTs fs)) e y := zNb_e (fun j _ => by
      show nF ((1, t) :: (K2 ++ (2, Tm.nil) :: cTs fs)) j = _
      rw [nF_g1, q6 j, Bool.false_or]) (fun _ _ _ => rfl)
    show ((zr (pv0 (pm_op o ((Vs ++ cVs fs).getD 1 0).toInt32 ((Vs ++ cVs fs).getD 0 0).toInt32)) y + mRv (Vs.drop 2 ++ cVs fs) y) + (zNb (nF (K2 ++ (2, Tm.nil) :: cTs fs)) e y + mRn (cEs fs) (aF (K2 ++ (2, Tm.nil) :: cTs fs)) y)) + zNb pn0 e y = (mRv (Vs ++ cVs fs) y + (zNb (nF (((1, t) :: K2) ++ (2, Tm.nil) :: cTs fs)) e y + mRn (cEs fs) (aF (K2 ++ (2, Tm.nil) :: cTs fs)) y)) + zNb pn0 e y
    rw [a5]
    omega
/-- a let's name -/
theorem cz_12 (hm : mM S nx M) (hN : hNd S nx H az z kf M nd) (h : cSO S nx H az z kz kf M F lim al s0 gs kb kk sh ks gk gc gv fresh held x i b nm G Vs e bd fs m1 m2 tn sn hn c ck cf Sh md ru mo db om ph lv gA FL pn0) (hr : x.toInt = (r : Int)) (ho : (S 0 r).toInt = 12) : ∃ (sl : Nat) (G2 : List (Nat × Tm)) (v : Int64) (bd2 m3 : Nat) (RN : Nat → Int), (S 1 r).toInt = (sl : Int) ∧ sl < 24 ∧ sl < nm ∧ vr ph v (gs (tn - 1)) ∧ b + nm ≤ tn - 1 ∧ 1 ≤ tn ∧ (∀ y, 0 ≤ RN y) ∧ (∀ y, mRt (G ++ (2, Tm.nil) :: cTs fs) (Vs ++ cVs fs) (e :: cEs fs) y + zNb pn0 e y = RN y + zNb (fun k => (k == sl) && !zNp nd (nx r) k) (vp_updL e sl v) y) ∧
    ∀ {gs2 : Nat → Int64} {gc2 : Nat → Int32} {lv2 : Nat → Bool} {gA2 : Nat → Int} {FL2 : List Nat} {fresh2 held2 : Int}, gs2 = vp_updL gs (b + sl) (gs (tn - 1)) → cHp kz kf z ph lv2 gA2 c ck cf RN Sh gk gc2 gv FL2 fresh2 held2 → cSO S nx H az z kz kf M F lim al s0 gs2 kb kk sh ks gk gc2 gv fresh2 held2 (nx r) (i + 1) b nm G2 (Vs.drop 1) (vp_updL e sl v) bd2 fs m3 m2 (tn - 1) sn hn c ck cf Sh md ru mo db om ph lv2 gA2 FL2 pn0 := by
  have hh := h
  obtain ⟨⟨h1, h2, h3, h4, h5, h6, h7⟩, h8, h9, h10, h11⟩ := hh
  obtain ⟨t, K2, zz, w, m3, rfl, g1, g2, g3⟩ := cG_d (fd := kf) hr (Or.inr (Or.inl ⟨by omega, by omega⟩)) h3.1 h5
  obtain ⟨-, q3, q5, sl, bb, Z, q6, q7, q8, q9, q10, q11, q12, q13, p2⟩ : (S 0 r).toInt = 12 ∧ w = 1 ∧ _ := by
    rcases g1 with g | g | g | g | g | g
    · have := g.1; omega
    · have := g.1; omega
    · have := g.1; omega
    · obtain ⟨-, -, -, o, g, -⟩ := g; have := cI_op_r o; omega
    · exact g
    · have := g.1; omega
  have mk := cSO_mk h
  obtain ⟨k1, k2, k3, k4⟩ := h3
  have hh2 : pm_ar t ≤ Vs.length ∧ cHg K2 (Vs.length - pm_ar t + 1) := k3
  rw [q5] at hh2
  have hM := mQ_r hm h4 hr
  obtain ⟨sc, ns, hsl⟩ := q13 K2 k2
  have hq := h1.1
  have hd := cTc_dr (G2 := []) h1 hh2.1 (fun k hk => (nomatch (show false = true from hk)))
  have v0 : vr ph ((Vs ++ cVs fs).getD 0 0) (gs (tn - 1)) := by
    rw [gd_app (by omega)]; exact hd.2.1 0 (by omega)
  have hKg := cKg_w q9 q10 g2
  have hmx : mQ S nx M (nx r) := Or.inl ⟨r, hM, rfl⟩
  have eN := hN sc hKg hmx
  have n2 : ∀ u ∈ K2, u.1 ≠ 2 := fun u hu => mk.2 u (List.mem_cons_of_mem _ hu)
  have n3 : ∀ u ∈ (0, bb) :: K2, u.1 ≠ 2 := (gSc_mk sc).2
  refine ⟨sl, (0, bb) :: K2, (Vs ++ cVs fs).getD 0 0, max bd (sl + 1), m3, mRt (((0, bb) :: K2) ++ (2, Tm.nil) :: cTs fs) (Vs.drop 1 ++ cVs fs) (vp_updL e sl ((Vs ++ cVs fs).getD 0 0) :: cEs fs), q6, hsl, q8, v0, hd.2.2, by omega, fun y => ?_, fun y => ?_, fun {gs2 gc2 lv2 gA2 FL2 fresh2 held2} e4 hH => ?_⟩
  · have a1 := mRv_n (x := y) (V := Vs.drop 1 ++ cVs fs)
    have a2 := mRn_n (x := y) (E := vp_updL e sl ((Vs ++ cVs fs).getD 0 0) :: cEs fs) (K := ((0, bb) :: K2) ++ (2, Tm.nil) :: cTs fs)
    show 0 ≤ mRv _ y + mRn _ _ y
    omega
  · have a1 := mRv_dr (x := y) (n := 1) (V := Vs ++ cVs fs) (by rw [List.length_append]; omega)
    rw [List.drop_append_of_le_length hh2.1] at a1
    have a2 : zs 1 (fun k => zr ((Vs ++ cVs fs).getD (1 - 1 - k) 0) y) = zr ((Vs ++ cVs fs).getD 0 0) y := by show (0 : Int) + zr ((Vs ++ cVs fs).getD 0 0) y = _; omega
    have f1 : ∀ j, nF (((1, t) :: K2) ++ (2, Tm.nil) :: cTs fs) j = (tm_ub bb j && !(j == sl) || nF K2 j) := fun j => by
      rw [nF_a2 mk.2, nF_g1, q12 j]
    have f2 : ∀ j, nF (((0, bb) :: K2) ++ (2, Tm.nil) :: cTs fs) j = (tm_ub bb j || nF K2 j) := fun j => by
      rw [nF_a2 n3, nF_g0]
    have b1 := zNb_a (p := fun k => (tm_ub bb k || nF K2 k) || (k == sl)) (q := nF (((0, bb) :: K2) ++ (2, Tm.nil) :: cTs fs)) (r := fun k => (k == sl) && !zNp nd (nx r) k) (e := vp_updL e sl ((Vs ++ cVs fs).getD 0 0)) (x := y) (fun j _ => by
      show (tm_ub bb j || nF K2 j || (j == sl)) = (nF (((0, bb) :: K2) ++ (2, Tm.nil) :: cTs fs) j || ((j == sl) && !zNp nd (nx r) j))
      rw [f2 j, eN j, nF_g0]
      cases tm_ub bb j <;> cases nF K2 j <;> cases (j == sl) <;> rfl) (fun j _ hj => by
      show ((j == sl) && !zNp nd (nx r) j) = false
      rw [f2 j] at hj
      rw [eN j, nF_g0, hj, Bool.not_true, Bool.and_false])
    have b2 := zNb_a (p := fun k => (tm_ub bb k || nF K2 k) || (k == sl)) (q := nF (((1, t) :: K2) ++ (2, Tm.nil) :: cTs fs)) (r := fun k => (k == sl)) (e := vp_updL e sl ((Vs ++ cVs fs).getD 0 0)) (x := y) (fun j _ => by
      show (tm_ub bb j || nF K2 j || (j == sl)) = (nF (((1, t) :: K2) ++ (2, Tm.nil) :: cTs fs) j || (j == sl))
      rw [f1 j]
      cases tm_ub bb j <;> cases nF K2 j <;> cases (j == sl) <;> rfl) (fun j _ hj => by
      rw [f1 j] at hj
      refine zbf7 (fun u => ?_)
      have u : (j == sl) = true := u
      rw [u, Bool.not_true, Bool.and_false, Bool.false_or, eq_of_beq u, ns] at hj
      cases hj)
    have b3 := zNb_1 (e := vp_updL e sl ((Vs ++ cVs fs).getD 0 0)) (x := y) hsl
    rw [cul_s] at b3
    have b4 : zNb (nF (((1, t) :: K2) ++ (2, Tm.nil) :: cTs fs)) (vp_updL e sl ((Vs ++ cVs fs).getD 0 0)) y = zNb (nF (((1, t) :: K2) ++ (2, Tm.nil) :: cTs fs)) e y := zNb_e (fun _ _ => rfl) (fun j _ hj => by
      refine cul_n (fun u => ?_)
      rw [f1 j, u, ns, beq_self_eq_true, Bool.not_true, Bool.and_false] at hj
      cases hj)
    show (mRv (Vs ++ cVs fs) y + (zNb (nF (((1, t) :: K2) ++ (2, Tm.nil) :: cTs fs)) e y + mRn (cEs fs) (aF (K2 ++ (2, Tm.nil) :: cTs fs)) y)) + zNb pn0 e y = (mRv (Vs.drop 1 ++ cVs fs) y + (zNb (nF (((0, bb) :: K2) ++ (2, Tm.nil) :: cTs fs)) (vp_updL e sl ((Vs ++ cVs fs).getD 0 0)) y + mRn (cEs fs) (aF (K2 ++ (2, Tm.nil) :: cTs fs)) y)) + zNb (fun k => (k == sl) && !zNp nd (nx r) k) (vp_updL e sl ((Vs ++ cVs fs).getD 0 0)) y
    rw [zNb_n]
    omega
  · rw [List.cons_append, gst_c (by decide)] at h11
    have hre := cm_re_s h11 (cn_1.trans (p2 _ _ _ _ _ _ _ _ _ _ _))
    rw [List.drop_append_of_le_length hh2.1] at hre
    refine ⟨⟨⟨by rw [List.length_drop]; omega, fun j hj => ?_, fun k hk => ?_⟩, h2, ⟨fun u hu hj => ?_, sc, by rw [List.length_drop]; exact hh2.2, by omega⟩, hmx, hKg, cFc_cg (fun j hj => by rw [e4, cul_n (by omega)]) (fun _ _ => ⟨rfl, rfl⟩) h6, by omega⟩, (cShr_h (Or.inl rfl)).mpr ((cShr_h (Or.inr rfl)).mp h8), ⟨hZ_R hH.1 (fun y => by rw [zNb_n]; omega), hH.2⟩, fun k hk => (nomatch (show false = true from hk)), ?_⟩
    · rw [e4, cul_n (by omega)]
      exact hd.1.2.1 j hj
    · by_cases u : k = sl
      · rw [u, e4, cul_s, cul_s]; exact v0
      · rw [cul_n u, e4, cul_n (by omega)]
        refine h1.2.2 k ?_
        rw [nF_g0] at hk
        rw [nF_g1, q12 k, beq_eq_false_iff_ne.mpr u, Bool.not_false, Bool.and_true]
        exact hk
    · rcases List.mem_cons.mp hu with g | g
      · rw [g]; exact q11
      · exact cOk_mo (by omega) (k1 u (List.mem_cons_of_mem _ g) hj)
    · rw [List.cons_append, gst_c (by decide)]
      exact hre
end

end
section
/-! one turn of the class, counted: ifs, jumps -/
section
variable {S : Nat → Nat → Int32} {nx : Nat → Int32} {H : Int32 → Int64 → Prop} {az : Int} {z : Nat} {kz : Int32} {kf nd : Nat → Int32} {M : Nat → Prop} {F : sp_F} {lim : Int} {al : Nat} {s0 : cm_S} {gs gs2 : Nat → Int64} {kb kk sh ks kb2 kk2 sh2 ks2 gk gc gk2 gc2 : Nat → Int32} {gv gv2 : Nat → Int64} {fresh held fresh2 held2 : Int} {x x2 : Int32} {i : Int} {b nm : Nat} {G K2 : List (Nat × Tm)} {Vs : List Int64} {e : Nat → Int64} {bd : Nat} {fs : List cFm} {m1 m2 tn sn hn c : Nat} {ck : Nat → Int32} {cf : Nat → Int64} {Sh : List (Nat × Nat × Nat)} {md ru : Nat} {mo : Int} {db om db2 : Nat} {ph : Nat → Nat} {lv lv2 : Nat → Bool} {gA gA2 : Nat → Int} {FL FL2 : List Nat} {pn : Nat → Bool} {r : Nat}
/-- the way that is taken: D are the names that only the other one needs -/
theorem cz_br {t tq : Tm} {m3 : Nat} {D : Nat → Bool} (h : cSO S nx H az z kz kf M F lim al s0 gs kb kk sh ks gk gc gv fresh held x i b nm ((1, t) :: K2) Vs e bd fs m1 m2 tn sn hn c ck cf Sh md ru mo db om ph lv gA FL pn0) (ha : pm_ar t = 1) (hz : zhs ((Vs ++ cVs fs).getD 0 0) ≠ 2) (hx : mQ S nx M x2) (hK : cKg S nx H az ((0, tq) :: K2) x2 m3) (hsc : gSc z kf ((0, tq) :: K2)) (hok : cOk z kf bd nm (0, tq)) (hi : i + 1 + m3 ≤ i + m1) (hD : ∀ k, nF ((1, t) :: K2) k = (nF ((0, tq) :: K2) k || D k)) (hD2 : ∀ k, nF ((0, tq) :: K2) k = true → D k = false) (hst : cm_d F kf lim t ((1, t) :: gst (K2 ++ (2, Tm.nil) :: cTs fs)) (gst (K2 ++ (2, Tm.nil) :: cTs fs)) (Vs ++ cVs fs) (e :: cEs fs) sn c ck cf (Sh, md, ru, mo, db, om) = .ok (((0, tq) :: gst (K2 ++ (2, Tm.nil) :: cTs fs), (Vs ++ cVs fs).drop 1, e :: cEs fs, sn, c, ck, cf), (Sh, md, ru, mo, db, om))) : ∃ RN : Nat → Int, (∀ y, 0 ≤ RN y) ∧ (∀ y, mRt (((1, t) :: K2) ++ (2, Tm.nil) :: cTs fs) (Vs ++ cVs fs) (e :: cEs fs) y + zNb pn0 e y = RN y + zNb D e y) ∧ (∀ k, D k = true → vr ph (e k) (gs (b + k)) ∧ k < 24) ∧
    ∀ {gc2 : Nat → Int32} {lv2 : Nat → Bool} {gA2 : Nat → Int} {FL2 : List Nat} {fresh2 held2 : Int}, cHp kz kf z ph lv2 gA2 c ck cf RN Sh gk gc2 gv FL2 fresh2 held2 → cSO S nx H az z kz kf M F lim al s0 gs kb kk sh ks gk gc2 gv fresh2 held2 x2 (i + 1) b nm ((0, tq) :: K2) (Vs.drop 1) e bd fs m3 m2 (tn - 1) sn hn c ck cf Sh md ru mo db om ph lv2 gA2 FL2 pn0 := by
  have mk := cSO_mk h
  obtain ⟨⟨h1, h2, h3, h4, h5, h6, h7⟩, h8, h9, h10, h11⟩ := h
  obtain ⟨k1, k2, k3, k4⟩ := h3
  have hh2 : pm_ar t ≤ Vs.length ∧ cHg K2 (Vs.length - pm_ar t + 1) := k3
  rw [ha] at hh2
  have hq := h1.1
  have hd := cTc_dr (G2 := (0, tq) :: K2) h1 hh2.1 (fun k hk => by rw [hD k, hk, Bool.true_or])
  refine ⟨mRt (((0, tq) :: K2) ++ (2, Tm.nil) :: cTs fs) (Vs.drop 1 ++ cVs fs) (e :: cEs fs), fun y => ?_, fun y => ?_, fun k hk => ?_, fun {gc2 lv2 gA2 FL2 fresh2 held2} hH => ?_⟩
  · have a1 := mRv_n (x := y) (V := Vs.drop 1 ++ cVs fs)
    have a2 := mRn_n (x := y) (E := e :: cEs fs) (K := ((0, tq) :: K2) ++ (2, Tm.nil) :: cTs fs)
    show 0 ≤ mRv _ y + mRn _ _ y
    omega
  · have a1 := mRv_dr (x := y) (n := 1) (V := Vs ++ cVs fs) (by rw [List.length_append]; omega)
    rw [List.drop_append_of_le_length hh2.1] at a1
    have a2 : zs 1 (fun k => zr ((Vs ++ cVs fs).getD (1 - 1 - k) 0) y) = 0 := by
      show (0 : Int) + zr ((Vs ++ cVs fs).getD 0 0) y = 0
      rw [zr_n hz]; rfl
    have b1 := zNb_a (p := nF (((1, t) :: K2) ++ (2, Tm.nil) :: cTs fs)) (q := nF (((0, tq) :: K2) ++ (2, Tm.nil) :: cTs fs)) (r := D) (e := e) (x := y) (fun j _ => by
      rw [nF_a2 mk.2, nF_a2 (gSc_mk hsc).2]; exact hD j) (fun j _ hj => by
      rw [nF_a2 (gSc_mk hsc).2] at hj
      exact hD2 j hj)
    show (mRv (Vs ++ cVs fs) y + (zNb (nF (((1, t) :: K2) ++ (2, Tm.nil) :: cTs fs)) e y + mRn (cEs fs) (aF (K2 ++ (2, Tm.nil) :: cTs fs)) y)) + zNb pn0 e y = (mRv (Vs.drop 1 ++ cVs fs) y + (zNb (nF (((0, tq) :: K2) ++ (2, Tm.nil) :: cTs fs)) e y + mRn (cEs fs) (aF (K2 ++ (2, Tm.nil) :: cTs fs)) y)) + zNb D e y
    rw [zNb_n]
    omega
  · have hk2 : nF ((1, t) :: K2) k = true := by rw [hD k, hk, Bool.or_true]
    exact ⟨h1.2.2 k hk2, (nF_bd k1 k2 hk2).2⟩
  · rw [List.cons_append, gst_c (by decide)] at h11
    have hre := cm_re_s h11 (cn_1.trans hst)
    rw [List.drop_append_of_le_length hh2.1] at hre
    refine ⟨⟨hd.1, h2, ⟨fun u hu hj => ?_, hsc, by rw [List.length_drop]; exact hh2.2, k4⟩, hx, hK, h6, by omega⟩, (cShr_h (Or.inl rfl)).mpr ((cShr_h (Or.inr rfl)).mp h8), ⟨hZ_R hH.1 (fun y => by rw [zNb_n]; omega), hH.2⟩, fun k hk => (nomatch (show false = true from hk)), ?_⟩
    · rcases List.mem_cons.mp hu with g | g
      · rw [g]; exact hok
      · exact k1 u (List.mem_cons_of_mem _ g) hj
    · rw [List.cons_append, gst_c (by decide)]
      exact hre
/-- an if's way -/
theorem cz_13 (hm : mM S nx M) (hN : hNd S nx H az z kf M nd) (h : cSO S nx H az z kz kf M F lim al s0 gs kb kk sh ks gk gc gv fresh held x i b nm G Vs e bd fs m1 m2 tn sn hn c ck cf Sh md ru mo db om ph lv gA FL pn0) (hr : x.toInt = (r : Int)) (ho : (S 0 r).toInt = 13) : ∃ j : Nat, (S 1 r).toInt = (j : Int) ∧ b + nm ≤ tn - 1 ∧ 1 ≤ tn ∧ (¬ zhs (gs (tn - 1)) = 0 → cXs F kf lim al s0 2 (S 3 r).toInt sn md ru mo db om held) ∧
    (zhs (gs (tn - 1)) = 0 → (gs (tn - 1)).toInt32 ≠ 0 → ∃ (G2 : List (Nat × Tm)) (m3 : Nat) (RN : Nat → Int), (∀ y, 0 ≤ RN y) ∧ (∀ y, mRt (G ++ (2, Tm.nil) :: cTs fs) (Vs ++ cVs fs) (e :: cEs fs) y + zNb pn0 e y = RN y + zNb (fun k => zNp nd (nx j) k && !zNp nd (nx r) k) e y) ∧ (∀ k, (zNp nd (nx j) k && !zNp nd (nx r) k) = true → vr ph (e k) (gs (b + k)) ∧ k < 24) ∧
      ∀ {gc2 : Nat → Int32} {lv2 : Nat → Bool} {gA2 : Nat → Int} {FL2 : List Nat} {fresh2 held2 : Int}, cHp kz kf z ph lv2 gA2 c ck cf RN Sh gk gc2 gv FL2 fresh2 held2 → cSO S nx H az z kz kf M F lim al s0 gs kb kk sh ks gk gc2 gv fresh2 held2 (nx r) (i + 1) b nm G2 (Vs.drop 1) e bd fs m3 m2 (tn - 1) sn hn c ck cf Sh md ru mo db om ph lv2 gA2 FL2 pn0) ∧
    (zhs (gs (tn - 1)) = 0 → (gs (tn - 1)).toInt32 = 0 → ∃ (G2 : List (Nat × Tm)) (m3 : Nat) (RN : Nat → Int), (∀ y, 0 ≤ RN y) ∧ (∀ y, mRt (G ++ (2, Tm.nil) :: cTs fs) (Vs ++ cVs fs) (e :: cEs fs) y + zNb pn0 e y = RN y + zNb (fun k => zNp nd (nx r) k && !zNp nd (nx j) k) e y) ∧ (∀ k, (zNp nd (nx r) k && !zNp nd (nx j) k) = true → vr ph (e k) (gs (b + k)) ∧ k < 24) ∧
      ∀ {gc2 : Nat → Int32} {lv2 : Nat → Bool} {gA2 : Nat → Int} {FL2 : List Nat} {fresh2 held2 : Int}, cHp kz kf z ph lv2 gA2 c ck cf RN Sh gk gc2 gv FL2 fresh2 held2 → cSO S nx H az z kz kf M F lim al s0 gs kb kk sh ks gk gc2 gv fresh2 held2 (nx j) (i + 1) b nm G2 (Vs.drop 1) e bd fs m3 m2 (tn - 1) sn hn c ck cf Sh md ru mo db om ph lv2 gA2 FL2 pn0) := by
  have hh := h
  obtain ⟨⟨h1, h2, h3, h4, h5, h6, h7⟩, h8, h9, h10, h11⟩ := hh
  obtain ⟨t, K2, zz, w, m3, rfl, g1, g2, g3⟩ := cG_d (fd := kf) hr (Or.inr (Or.inl ⟨by omega, by omega⟩)) h3.1 h5
  obtain ⟨-, q3, q5, tb, td, Z, j, U, q6, q7, q8, q9, q10, q11, q12, q13, q14, q15, p2⟩ : (S 0 r).toInt = 13 ∧ w = 2 ∧ _ := by
    rcases g1 with g | g | g | g | g | g
    · have := g.1; omega
    · have := g.1; omega
    · have := g.1; omega
    · obtain ⟨-, -, -, o, g, -⟩ := g; have := cI_op_r o; omega
    · have := g.1; omega
    · exact g
  have k3 : pm_ar t ≤ Vs.length ∧ cHg K2 (Vs.length - pm_ar t + 1) := h3.2.2.1
  rw [q5] at k3
  have hM := mQ_r hm h4 hr
  obtain ⟨sc1, sc2⟩ := q15 K2 h3.2.1
  have hq := h1.1
  have hd := cTc_dr (G2 := []) h1 k3.1 (fun k hk => (nomatch (show false = true from hk)))
  have v0 : vr ph ((Vs ++ cVs fs).getD 0 0) (gs (tn - 1)) := by
    rw [gd_app (by omega)]; exact hd.2.1 0 (by omega)
  obtain ⟨y1, y2, y3⟩ := zpx_app q11
  obtain ⟨y4, y5, y6⟩ := zpx_app y2
  obtain rfl : nx j = y1 := y6.2
  have pz := mQ_px hm hM y5
  have hj : M j := mQ_r hm (Or.inl ⟨_, pz.2.1, zpx_la y5⟩) y6.1
  have ez : zz = nx (zla j U) := zpx_la y3
  have x1 : mQ S nx M (nx r) := Or.inl ⟨r, hM, rfl⟩
  have x2 : mQ S nx M (nx j) := Or.inl ⟨j, hj, rfl⟩
  have kt : cKg S nx H az ((0, tb) :: K2) (nx r) (1 + m3) := by
    refine cKg_w q7 y5 ?_
    have h1 : cSj S nx 1 y4 zz := ⟨j, y6.1, q8, by omega, by rw [ez, show Int32.toNatClampNeg (S 1 j) = zla j U from zn_li7 q9]; rfl⟩
    exact cKg_si h1 g2
  have ke : cKg S nx H az ((0, td) :: K2) (nx j) m3 := cKg_w q10 y3 g2
  have e1 := hN sc1 kt x1
  have e2 := hN sc2 ke x2
  have bq : ∀ k, nF ((1, t) :: K2) k = ((tm_ub tb k || tm_ub td k) || nF K2 k) := fun k => by rw [nF_g1, q14 k]
  refine ⟨j, q6, hd.2.2, by omega, fun g => cz_x h (fun K0 K _ _ => ?_), fun g g0 => ?_, fun g g0 => ?_⟩
  · rw [p2, if_neg (fun u => g ((vr_0i v0).mp u))]
  · have e0 := vr_0 v0 g
    obtain ⟨RN, r1, r2, r3, r4⟩ := cz_br (tq := tb) (x2 := nx r) (m3 := 1 + m3) (D := fun k => zNp nd (nx j) k && !zNp nd (nx r) k) h q5 (by rw [← e0, g]; decide) x1 kt sc1 q12 (by omega) (fun k => by
      show _ = (nF ((0, tb) :: K2) k || (zNp nd (nx j) k && !zNp nd (nx r) k))
      rw [e1 k, e2 k, bq k, nF_g0, nF_g0]
      cases tm_ub tb k <;> cases tm_ub td k <;> cases nF K2 k <;> rfl) (fun k hk => by
      show (zNp nd (nx j) k && !zNp nd (nx r) k) = false
      rw [e1 k, hk, Bool.not_true, Bool.and_false]) (by
      rw [p2, if_pos ((vr_0i v0).mpr g), ← e0, if_neg g0])
    exact ⟨_, _, RN, r1, r2, r3, r4⟩
  · have e0 := vr_0 v0 g
    obtain ⟨RN, r1, r2, r3, r4⟩ := cz_br (tq := td) (x2 := nx j) (m3 := m3) (D := fun k => zNp nd (nx r) k && !zNp nd (nx j) k) h q5 (by rw [← e0, g]; decide) x2 ke sc2 q13 (by omega) (fun k => by
      show _ = (nF ((0, td) :: K2) k || (zNp nd (nx r) k && !zNp nd (nx j) k))
      rw [e1 k, e2 k, bq k, nF_g0, nF_g0]
      cases tm_ub tb k <;> cases tm_ub td k <;> cases nF K2 k <;> rfl) (fun k hk => by
      show (zNp nd (nx r) k && !zNp nd (nx j) k) = false
      rw [e2 k, hk, Bool.not_true, Bool.and_false]) (by
      rw [p2, if_pos ((vr_0i v0).mpr g), ← e0, if_pos g0])
    exact ⟨_, _, RN, r1, r2, r3, r4⟩
/-- a jump -/
theorem cz_14 (hm : mM S nx M) (h : cSO S nx H az z kz kf M F lim al s0 gs kb kk sh ks gk gc gv fresh held x i b nm G Vs e bd fs m1 m2 tn sn hn c ck cf Sh md ru mo db om ph lv gA FL pn0) (hr : x.toInt = (r : Int)) (ho : (S 0 r).toInt = 14) : 0 ≤ (S 1 r).toInt ∧ ∃ m3 : Nat, cSO S nx H az z kz kf M F lim al s0 gs kb kk sh ks gk gc gv fresh held (nx (Int32.toNatClampNeg (S 1 r))) (i + 1) b nm G Vs e bd fs m3 m2 tn sn hn c ck cf Sh md ru mo db om ph lv gA FL pn0 := by
  obtain ⟨⟨h1, h2, h3, h4, h5, h6, h7⟩, h8, h9, h10, h11⟩ := h
  obtain ⟨m3, g1, -, g3, g2⟩ := cG_s hr (Or.inr ho) h3.1 h5
  have hM := mQ_r hm h4 hr
  obtain ⟨d, d1, d2⟩ := hm.2 r hM (Or.inl ho)
  have ed : Int32.toNatClampNeg (S 1 r) = d := zn_li7 d1
  exact ⟨by omega, m3, ⟨h1, h2, h3, Or.inl ⟨d, d2, by rw [ed]⟩, g2, h6, by omega⟩, h8, h9, h10, h11⟩
/-- no function's first row -/
theorem cz_n0 (h : cSO S nx H az z kz kf M F lim al s0 gs kb kk sh ks gk gc gv fresh held x i b nm G Vs e bd fs m1 m2 tn sn hn c ck cf Sh md ru mo db om ph lv gA FL pn) (hr : x.toInt = (r : Int)) : (S 0 r).toInt ≠ 0 := cG_0 hr h.1.2.2.1.1 h.1.2.2.2.2.1
/-- a function's first row: the names that it never needs are dropped -/
theorem cz_0 (h : cSO S nx H az z kz kf M F lim al s0 gs kb kk sh ks gk gc gv fresh held x i b nm G Vs e bd fs m1 m2 tn sn hn c ck cf Sh md ru mo db om ph lv gA FL pn) (hN : hNd S nx H az z kf M nd) : (∀ k, zNp nd x k = nF G k) ∧ ∃ RN : Nat → Int, (∀ y, 0 ≤ RN y) ∧ (∀ y, mRt (G ++ (2, Tm.nil) :: cTs fs) (Vs ++ cVs fs) (e :: cEs fs) y + zNb pn e y = RN y + zNb pn e y) ∧ ∀ {gc2 : Nat → Int32} {lv2 : Nat → Bool} {gA2 : Nat → Int} {FL2 : List Nat} {fresh2 held2 : Int}, cHp kz kf z ph lv2 gA2 c ck cf RN Sh gk gc2 gv FL2 fresh2 held2 → cSO S nx H az z kz kf M F lim al s0 gs kb kk sh ks gk gc2 gv fresh2 held2 x i b nm G Vs e bd fs m1 m2 tn sn hn c ck cf Sh md ru mo db om ph lv2 gA2 FL2 pn0 := by
  obtain ⟨⟨h1, h2, h3, h4, h5, h6, h7⟩, h8, h9, h10, h11⟩ := h
  refine ⟨hN h3.2.1 h5 h4, mRt (G ++ (2, Tm.nil) :: cTs fs) (Vs ++ cVs fs) (e :: cEs fs), fun y => ?_, fun y => rfl, fun {gc2 lv2 gA2 FL2 fresh2 held2} hH => ⟨⟨h1, h2, h3, h4, h5, h6, h7⟩, h8, ⟨hZ_R hH.1 (fun y => by rw [zNb_n]; omega), hH.2⟩, fun k hk => (nomatch (show false = true from hk)), h11⟩⟩
  have a1 := mRv_n (x := y) (V := Vs ++ cVs fs)
  have a2 := mRn_n (x := y) (E := e :: cEs fs) (K := G ++ (2, Tm.nil) :: cTs fs)
  show 0 ≤ mRv _ y + mRn _ _ y
  omega
end

end
section
/-! one turn of the class, counted: returns, an arm's end, calls -/
/-- it has ended with the value u -/
def cEz (F : sp_F) (lim : Int) (al : Nat) (s0 : cm_S) (kz : Int32) (z : Nat) (kf : Nat → Int32) (u : Int64) (gk gc : Nat → Int32) (gv : Nat → Int64) (FL : List Nat) (fresh held : Int) (n md ru : Nat) (mo : Int) (db om : Nat) : Prop := ∃ (v : Int64) (c : Nat) (ck : Nat → Int32) (cf : Nat → Int64) (ph : Nat → Nat) (lv : Nat → Bool) (gA : Nat → Int), cm_ou F kf lim al s0 (1, -1, (([], [v], [], n, c, ck, cf), ([], md, ru, mo, db, om))) ∧ vr ph v u ∧ cHp kz kf z ph lv gA c ck cf (mRt [] [v] []) [] gk gc gv FL fresh held
theorem cEz_x {F : sp_F} {lim : Int} {al : Nat} {s0 : cm_S} {kz : Int32} {z : Nat} {kf : Nat → Int32} {u : Int64} {gk gc : Nat → Int32} {gv : Nat → Int64} {FL : List Nat} {fresh held : Int} {n md ru : Nat} {mo : Int} {db om : Nat} (h : cEz F lim al s0 kz z kf u gk gc gv FL fresh held n md ru mo db om) : cXs F kf lim al s0 1 (-1) n md ru mo db om held := by
  obtain ⟨v, c, ck, cf, ph, lv, gA, h1, -, h2, h3, -⟩ := h
  refine ⟨_, _, _, _, _, _, _, h1, ?_⟩
  show nLv c (cWd kf ck) cf (mRt [] [v] []) + 0 = held
  rw [← hZ_nl h2, h3.2]
  rfl
theorem sh_r_n {i : Nat} : ∀ {S : List (Nat × Nat × Nat)}, i ∉ sIs S → sh_r i S = S
  | [], _ => rfl
  | (q, j, w) :: S, h => by
    have h1 : i ≠ j ∧ i ∉ sIs S := ⟨fun g => h (by rw [g]; exact List.mem_cons_self), fun g => h (List.mem_cons_of_mem _ g)⟩
    show (if j = i then S else (q, j, w) :: sh_r i S) = _
    rw [if_neg (fun g => h1.1 g.symm), sh_r_n h1.2]
section
variable {S : Nat → Nat → Int32} {nx : Nat → Int32} {H : Int32 → Int64 → Prop} {az : Int} {z : Nat} {kz : Int32} {kf nd : Nat → Int32} {M : Nat → Prop} {F : sp_F} {lim : Int} {al : Nat} {s0 : cm_S} {gs gs2 : Nat → Int64} {kb kk sh ks kb2 kk2 sh2 ks2 gk gc gk2 gc2 : Nat → Int32} {gv gv2 : Nat → Int64} {fresh held fresh2 held2 : Int} {x x2 : Int32} {i : Int} {b nm : Nat} {G K2 : List (Nat × Tm)} {Vs : List Int64} {e : Nat → Int64} {bd : Nat} {fs : List cFm} {m1 m2 tn sn hn c : Nat} {ck : Nat → Int32} {cf : Nat → Int64} {Sh : List (Nat × Nat × Nat)} {md ru : Nat} {mo : Int} {db om db2 : Nat} {ph : Nat → Nat} {lv lv2 : Nat → Bool} {gA gA2 : Nat → Int} {FL FL2 : List Nat} {pn : Nat → Bool} {r : Nat}
/-- a call ends -/
theorem cz_17 (h : cSO S nx H az z kz kf M F lim al s0 gs kb kk sh ks gk gc gv fresh held x i b nm G Vs e bd fs m1 m2 tn sn hn c ck cf Sh md ru mo db om ph lv gA FL pn0) (hr : x.toInt = (r : Int)) (ho : (S 0 r).toInt = 17) : b + nm + 1 = tn ∧ (fs.length = 0 → cEz F lim al s0 kz z kf (gs (tn - 1)) gk gc gv FL fresh held sn md ru mo db om) ∧ (0 < fs.length → ∃ (b3 nm3 : Nat) (G3 : List (Nat × Tm)) (V3 : List Int64) (e3 : Nat → Int64) (bd3 : Nat) (fs3 : List cFm) (m3 m4 : Nat), fs.length = fs3.length + 1 ∧ (kb fs3.length).toInt = (b3 : Int) ∧ b3 + nm3 ≤ b ∧ ∀ {gs2 : Nat → Int64}, gs2 = vp_updL gs b (gs (tn - 1)) → cSO S nx H az z kz kf M F lim al s0 gs2 kb kk sh ks gk gc gv fresh held (kk fs.length) (i + 1) b3 nm3 G3 V3 e3 bd3 fs3 m3 m4 (b + 1) sn hn c ck cf Sh md ru mo db om ph lv gA FL pn0) := by
  obtain ⟨⟨h1, h2, h3, h4, h5, h6, h7⟩, h8, h9, h10, h11⟩ := h
  obtain ⟨rfl, e1⟩ := cG_r hr ho h3.1 h5
  have hl : Vs.length = 1 := h3.2.2.1
  obtain ⟨v, rfl⟩ : ∃ v, Vs = [v] := List.length_eq_one_iff.mp hl
  have hq := h1.1
  rw [hl] at hq
  have hv : vr ph v (gs (tn - 1)) := (cTc_dr (q := 1) (G2 := []) h1 (by rw [hl]; omega) (fun k hk => hk)).2.1 0 (by omega)
  have h11 : cm_re F kf lim al s0 ((gst ((2, Tm.nil) :: cTs fs), v :: cVs fs, e :: cEs fs, sn, c, ck, cf), (Sh, md, ru, mo, db, om)) := h11
  rw [gst_c (by decide)] at h11
  have hre := cm_re_s h11 cn_2
  have h8 : cShr ph sh ks ((2, Tm.nil) :: cTs fs) (fs.length + 1) Sh hn := h8
  have h8 : cShr ph sh ks (cTs fs) fs.length Sh hn := by
    rcases h8 with ⟨-, o', e, -, g⟩ | g | g | g
    · rw [show fs.length = o' from by omega]; exact g
    · exact absurd g.1 (by decide)
    · exact absurd g.1 (by decide)
    · exact absurd rfl g.1
  refine ⟨by omega, fun g => ?_, fun g => ?_⟩
  · cases fs with
    | cons f fs => cases g
    | nil =>
      obtain ⟨-, rfl, -⟩ := h8
      exact ⟨v, c, ck, cf, ph, lv, gA, cm_ou_s hre rfl, hv, hZ_R h9.1 (fun y => by
        rw [zNb_n]
        show (zr v y + 0) + 0 = ((zr v y + 0) + (zNb (nF [(2, Tm.nil)]) e y + 0)) + 0
        rw [zNb_z (p := nF [(2, Tm.nil)]) (fun _ _ => rfl)]; omega), h9.2⟩
  · cases fs with
    | nil => cases g
    | cons f1 fs =>
      obtain ⟨b1, nm1, K1, Vs1, e1', bd1⟩ := f1
      obtain ⟨f1, f2, f3, f4, m3, m4, f5, f6, f7⟩ := h6
      refine ⟨b1, nm1, K1, v :: Vs1, e1', bd1, fs, m3, m4, rfl, f2, by have := f1.1; omega, fun {gs2} a3 => ⟨⟨cTc_pu f1 hv (fun k hk => ⟨by have := (nF_bd f3.1 f3.2.1 hk).1; have := f3.2.2.2; omega, hk⟩) a3, f2, f3, f4, f5, cFc_cg (fun j hj => by rw [a3, cul_n (by have := f1.1; omega)]) (fun _ _ => ⟨rfl, rfl⟩) f6, by omega⟩, h8, ⟨hZ_R h9.1 (fun y => ?_), h9.2⟩, fun k hk => (nomatch (show false = true from hk)), hre⟩⟩
      rw [zNb_n, zNb_n]
      show (mRv (v :: (Vs1 ++ cVs fs)) y + mRn (e1' :: cEs fs) (K1 ++ (2, Tm.nil) :: cTs fs) y) + 0 = (mRv (v :: (Vs1 ++ cVs fs)) y + (zNb (nF ((2, Tm.nil) :: cTs ((b1, nm1, K1, Vs1, e1', bd1) :: fs))) e y + mRn (e1' :: cEs fs) (K1 ++ (2, Tm.nil) :: cTs fs) y)) + 0
      rw [zNb_z (p := nF ((2, Tm.nil) :: cTs ((b1, nm1, K1, Vs1, e1', bd1) :: fs))) (fun _ _ => rfl)]; omega
/-- an arm's end -/
theorem cz_16 (hm : mM S nx M) (h : cSO S nx H az z kz kf M F lim al s0 gs kb kk sh ks gk gc gv fresh held x i b nm G Vs e bd fs m1 m2 tn sn hn c ck cf Sh md ru mo db om ph lv gA FL pn0) (hr : x.toInt = (r : Int)) (ho : (S 0 r).toInt = 16) : 0 ≤ (S 1 r).toInt ∧ ∃ (hn3 m3 : Nat) (G3 : List (Nat × Tm)), hn = hn3 + 1 ∧ ((sh hn3).toInt = -1 ∨ 0 ≤ (sh hn3).toInt) ∧
    ((sh hn3).toInt = -1 → cSO S nx H az z kz kf M F lim al s0 gs kb kk sh ks gk gc gv fresh held (nx (Int32.toNatClampNeg (S 1 r))) (i + 1) b nm G3 Vs e bd fs m3 m2 tn sn hn3 c ck cf Sh md ru mo db om ph lv gA FL pn0) ∧
    (0 ≤ (sh hn3).toInt → ∃ (id : Nat) (Sh3 : List (Nat × Nat × Nat)), sIs Sh = id :: sIs Sh3 ∧ (sh hn3).toInt = (ph id : Int) ∧ ∀ {gc2 : Nat → Int32} {held2 : Int}, (∀ y, y ≠ ph id → gc2 y = gc y) → held2 = held - 1 → cSO S nx H az z kz kf M F lim al s0 gs kb kk sh ks gk gc2 gv fresh held2 (nx (Int32.toNatClampNeg (S 1 r))) (i + 1) b nm G3 Vs e bd fs m3 m2 tn sn hn3 c ck cf Sh3 md ru mo db om ph lv gA (ph id :: FL) pn0) := by
  obtain ⟨⟨h1, h2, h3, h4, h5, h6, h7⟩, h8, h9, h10, h11⟩ := h
  obtain ⟨j, t, K2, m3, rfl, gj, g1, g2, g3⟩ := cG_l hr ho h3.1 h5
  have hM := mQ_r hm h4 hr
  obtain ⟨d, d1, d2⟩ := hm.2 r hM (Or.inr ho)
  have ed : Int32.toNatClampNeg (S 1 r) = d := zn_li7 d1
  have hx : mQ S nx M (nx (Int32.toNatClampNeg (S 1 r))) := Or.inl ⟨d, d2, by rw [ed]⟩
  obtain ⟨k1, kS, k3, k4⟩ := h3
  have kT := gSc_mk kS
  obtain ⟨s1, s2, s3⟩ := kS
  have eF : ∀ k, nF ((j, t) :: K2) k = nF K2 k := fun k => by
    rcases s1 with g | g | g | ⟨g, g9⟩
    · omega
    · omega
    · subst g; rfl
    · subst g; subst g9; exact nF_m4
  have eG : ∀ k, nF (((j, t) :: K2) ++ (2, Tm.nil) :: cTs fs) k = nF (K2 ++ (2, Tm.nil) :: cTs fs) k := fun k => by
    rw [nF_a2 kT.2, nF_a2 (gSc_mk s3).2, eF k]
  have ct : cTc ph gs b nm K2 Vs e tn := ⟨h1.1, h1.2.1, fun k hk => h1.2.2 k (by rw [eF k]; exact hk)⟩
  have hg : cHg K2 Vs.length := by
    have k3 : (if j = 0 then cHg K2 (Vs.length + 1) else if j = 1 then pm_ar t ≤ Vs.length ∧ cHg K2 (Vs.length - pm_ar t + 1) else cHg K2 Vs.length) := k3
    rw [if_neg (by omega), if_neg (by omega)] at k3
    exact k3
  have ok : gOk z kf bd nm K2 Vs.length := ⟨fun u hu => k1 u (List.mem_cons_of_mem _ hu), s3, hg, k4⟩
  have eR : ∀ y, mRt (K2 ++ (2, Tm.nil) :: cTs fs) (Vs ++ cVs fs) (e :: cEs fs) y + zNb pn0 e y = mRt (((j, t) :: K2) ++ (2, Tm.nil) :: cTs fs) (Vs ++ cVs fs) (e :: cEs fs) y + zNb pn0 e y := fun y => by
    rw [mRt_e (A := ((j, t) :: K2) ++ (2, Tm.nil) :: cTs fs) (B := K2 ++ (2, Tm.nil) :: cTs fs) (fun k _ => eG k) (by
      show (if j = 2 then K2 ++ (2, Tm.nil) :: cTs fs else aF (K2 ++ (2, Tm.nil) :: cTs fs)) = _
      rw [if_neg (by omega)])]
  have hz := hZ_R h9.1 eR
  have h8 : cShr ph sh ks ((j, t) :: (K2 ++ (2, Tm.nil) :: cTs fs)) (fs.length + 1) Sh hn := h8
  have h11 : cm_re F kf lim al s0 ((gst ((j, t) :: (K2 ++ (2, Tm.nil) :: cTs fs)), Vs ++ cVs fs, e :: cEs fs, sn, c, ck, cf), (Sh, md, ru, mo, db, om)) := h11
  have st : (cTc ph gs b nm K2 Vs e tn ∧ (kb fs.length).toInt = (b : Int) ∧ gOk z kf bd nm K2 Vs.length ∧ mQ S nx M (nx (Int32.toNatClampNeg (S 1 r))) ∧ cKg S nx H az K2 (nx (Int32.toNatClampNeg (S 1 r))) m3 ∧ cFc S nx H az z kf M ph gs kb kk fs b (kk fs.length) m2 ∧ (i + 1) + m3 + m2 ≤ 4 * (sn : Int) + 2) := ⟨ct, h2, ok, hx, g2, h6, by omega⟩
  refine ⟨g1, ?_⟩
  rcases h8 with g | ⟨a, n', e9, g⟩ | ⟨a, n', e9, bq, g⟩ | g
  · have := g.1; omega
  · subst a
    rw [gst_c (by decide)] at h11
    have hre := cm_re_s h11 cn_3
    rcases g with ⟨w, S', rfl, q1, q2⟩ | ⟨q1, q2, q3⟩
    · refine ⟨n', m3, K2, e9, Or.inr (by omega), fun g => by omega, fun _ => ⟨tm_id t, S', rfl, q1, fun {gc2 held2} a1 a2 => ?_⟩⟩
      obtain ⟨f1, f2⟩ := hK_free (A := []) (B := sIs S') (x := tm_id t) hz h9.2.1 a1 a2
      refine ⟨st, q2, ⟨f1, f2, fun a ha => h9.2.2.1 a (List.mem_cons_of_mem _ ha), h9.2.2.2⟩, h10, ?_⟩
      rw [show sh_r (tm_id t) ((fs.length + 1, tm_id t, w) :: S') = S' from if_pos rfl] at hre
      exact hre
    · refine ⟨n', m3, K2, e9, Or.inl q1, fun _ => ⟨st, q3, ⟨hz, h9.2⟩, h10, ?_⟩, fun g => by omega⟩
      rw [sh_r_n q2] at hre
      exact hre
  · subst a
    rw [gst_4] at h11
    exact ⟨n', m3, K2, e9, Or.inl bq, fun _ => ⟨st, g, ⟨hz, h9.2⟩, h10, h11⟩, fun g => by omega⟩
  · rcases gj with q | q
    · exact absurd q g.2.1
    · exact absurd q g.2.2.1
end

end
section
/-! one turn of the class, counted: calls -/
/-- the program, as both have it; M its rows -/
def cPz (S : Nat → Nat → Int32) (nx : Nat → Int32) (H : Int32 → Int64 → Prop) (az : Int) (z : Nat) (kf en ff : Nat → Int32) (F : sp_F) (M : Nat → Prop) : Prop := cPx S nx H az z kf en ff F ∧ mM S nx M ∧ ∀ f, f < F.1 → M (Int32.toNatClampNeg (en f)) ∧ (S 1 (Int32.toNatClampNeg (en f))).toInt = (f : Int) ∧ F.2.2.1 f ≤ 24 ∧ tm_md (F.2.2.2 f) ≤ 30
theorem zs_lt {f : Nat → Int} {q : Nat} : ∀ {n : Nat}, q ≤ n → zs n (fun k => if decide (k < q) = true then f k else 0) = zs q f
  | 0, h => by
    obtain rfl : q = 0 := by omega
    rfl
  | n + 1, h => by
    by_cases g : q = n + 1
    · subst g
      exact zs_ext (fun d hd => if_pos (decide_eq_true hd))
    · show zs n (fun k => if decide (k < q) = true then f k else 0) + (if decide (n < q) = true then f n else 0) = _
      rw [zs_lt (by omega), if_neg (by rw [decide_eq_false (by omega)]; decide)]; omega
section
variable {S : Nat → Nat → Int32} {nx : Nat → Int32} {H : Int32 → Int64 → Prop} {az : Int} {z : Nat} {kz : Int32} {kf nd en ff : Nat → Int32} {M : Nat → Prop} {F : sp_F} {lim : Int} {al : Nat} {s0 : cm_S} {gs gs2 : Nat → Int64} {kb kk sh ks kb2 kk2 sh2 ks2 gk gc gk2 gc2 : Nat → Int32} {gv gv2 : Nat → Int64} {fresh held fresh2 held2 : Int} {x x2 : Int32} {i : Int} {b nm : Nat} {G K2 : List (Nat × Tm)} {Vs : List Int64} {e : Nat → Int64} {bd : Nat} {fs : List cFm} {m1 m2 tn sn hn c : Nat} {ck : Nat → Int32} {cf : Nat → Int64} {Sh : List (Nat × Nat × Nat)} {md ru : Nat} {mo : Int} {db om db2 : Nat} {ph : Nat → Nat} {lv lv2 : Nat → Bool} {gA gA2 : Nat → Int} {FL FL2 : List Nat} {pn : Nat → Bool} {r : Nat}
/-- what a call gives: it is one too many, or it is entered -/
def cCa (S : Nat → Nat → Int32) (nx : Nat → Int32) (H : Int32 → Int64 → Prop) (az : Int) (z : Nat) (kz : Int32) (kf en ff : Nat → Int32) (M : Nat → Prop) (F : sp_F) (lim : Int) (al : Nat) (s0 : cm_S) (gs : Nat → Int64) (kb kk sh ks gk gc : Nat → Int32) (gv : Nat → Int64) (fresh held : Int) (r : Nat) (i : Int) (fs : List cFm) (tn sn hn c : Nat) (ck : Nat → Int32) (cf : Nat → Int64) (Sh : List (Nat × Nat × Nat)) (md ru : Nat) (mo : Int) (db om : Nat) (ph : Nat → Nat) (lv : Nat → Bool) (gA : Nat → Int) (FL : List Nat) : Prop :=
  (100 ≤ fs.length + 1 → cXs F kf lim al s0 4 (S 3 r).toInt sn md ru mo db om held) ∧ (fs.length + 1 < 100 → ∃ f q nm2 : Nat, f < F.1 ∧ (S 1 r).toInt = (f : Int) ∧ (ff (5 * f)).toInt = (q : Int) ∧ (ff (5 * f + 1)).toInt = (nm2 : Int) ∧ q ≤ tn ∧ q ≤ nm2 ∧ q ≤ 24 ∧ 0 ≤ (en f).toInt ∧ (S 0 (Int32.toNatClampNeg (en f))).toInt = 0 ∧ (S 1 (Int32.toNatClampNeg (en f))).toInt = (f : Int) ∧
    ∀ {kb2 kk2 ks2 : Nat → Int32} {ba2 st2 : Int32}, ba2.toInt = (tn : Int) - (q : Int) → st2.toInt = (hn : Int) → kb2 = upd kb (fs.length + 1) ba2 → kk2 = upd kk (fs.length + 1) (nx r) → ks2 = upd ks (fs.length + 1) st2 → ∃ (b2 : Nat) (G2 : List (Nat × Tm)) (e2 : Nat → Int64) (fs2 : List cFm) (m3 m4 : Nat), (b2 : Int) = (tn : Int) - (q : Int) ∧ fs2.length = fs.length + 1 ∧ cSO S nx H az z kz kf M F lim al s0 gs kb2 kk2 sh ks2 gk gc gv fresh held (nx (Int32.toNatClampNeg (en f))) (i + 2) b2 nm2 G2 [] e2 q fs2 m3 m4 (b2 + nm2) sn hn c ck cf Sh md ru mo db (max om (fs.length + 2)) ph lv gA FL (fun k => decide (k < q) && !nF G2 k))
theorem cz_cl {t2 : Tm} {wd : Int64} {q m3 : Nat} (hp : cPz S nx H az z kf en ff F M) (hM : M r) (ht : cTc ph gs b nm K2 Vs e tn) (hb : (kb fs.length).toInt = (b : Int)) (hq : q ≤ Vs.length) (hok : gOk z kf bd nm K2 (Vs.length - q + 1)) (hK : cKg S nx H az K2 (nx r) m3) (hF : cFc S nx H az z kf M ph gs kb kk fs b (kk fs.length) m2) (hi : i + 3 + m3 + m2 ≤ 4 * (sn : Int) + 2) (h8 : cShr ph sh ks (K2 ++ (2, Tm.nil) :: cTs fs) (fs.length + 1) Sh hn) (h9 : cHp kz kf z ph lv gA c ck cf (mRt (K2 ++ (2, Tm.nil) :: cTs fs) (Vs ++ cVs fs) (e :: cEs fs)) Sh gk gc gv FL fresh held) (h11 : cm_re F kf lim al s0 (((1, t2) :: gst (K2 ++ (2, Tm.nil) :: cTs fs), Vs ++ cVs fs, e :: cEs fs, sn, c, ck, cf), (Sh, md, ru, mo, db, om))) (hd : ∀ k, tm_dn t2 k = false) (hc : cm_cl kf t2 wd (S 3 r).toInt) (hw : H (S 1 r) wd) (h2 : (S 2 r).toInt = (q : Int)) (h3 : (S 2 r).toInt = (ff (5 * Int32.toNatClampNeg (S 1 r))).toInt) : cCa S nx H az z kz kf en ff M F lim al s0 gs kb kk sh ks gk gc gv fresh held r i fs tn sn hn c ck cf Sh md ru mo db om ph lv gA FL := by
  have hl : (e :: cEs fs).length = fs.length + 1 := by rw [List.length_cons, cEs_ln]
  obtain ⟨f1, f2, f3⟩ := hp.1.1 _ _ hw
  have mk : mk4 (K2 ++ (2, Tm.nil) :: cTs fs) := fun u hu => by
    rcases List.mem_append.mp hu with g | g
    · exact (gSc_mk hok.2.1).1 u g
    · rcases List.mem_cons.mp g with g | g
      · rw [g]; intro q; exact absurd (show (2 : Nat) = 4 from q) (by decide)
      · exact cFc_mk hF u g
  refine ⟨fun g => ?_, fun g => ?_⟩
  · refine ⟨_, _, _, _, _, _, _, cm_ou_s h11 (cn_1.trans ((hc _ _ _ _ _ _ _ _ _ _ _).trans (if_pos (by rw [hl]; exact g)))), ?_⟩
    show nLv c (cWd kf ck) cf (mRt ((1, t2) :: gst (K2 ++ (2, Tm.nil) :: cTs fs)) (Vs ++ cVs fs) (e :: cEs fs)) + (Sh.length : Int) = held
    rw [show mRt ((1, t2) :: gst (K2 ++ (2, Tm.nil) :: cTs fs)) (Vs ++ cVs fs) (e :: cEs fs) = mRt (K2 ++ (2, Tm.nil) :: cTs fs) (Vs ++ cVs fs) (e :: cEs fs) from by
      rw [← mRt_st mk]
      exact funext fun y => mRt_e (fun k _ => by rw [nF_g1, hd k, Bool.false_or]) rfl, ← hZ_nl h9.1, h9.2.1.2]
    show _ + (Sh.length : Int) = _ + ((Sh.map (fun a => a.2.1)).length : Int)
    rw [List.length_map]
  · obtain ⟨X, y, cc, ⟨x1, x3, x4, x5, x6⟩, c1, c2, c3, c4, c5, c6⟩ := hp.1.2 _ f3
    obtain ⟨z1, z2, z3⟩ := hp.2.2 _ f3
    have ec : cc = q := by omega
    subst ec
    obtain ⟨nm2, k1⟩ : ∃ k : Nat, (ff (5 * Int32.toNatClampNeg (S 1 r) + 1)).toInt = (k : Int) := ⟨(ff (5 * Int32.toNatClampNeg (S 1 r) + 1)).toInt.toNat, by omega⟩
    have ef : (S 1 r).toInt = (Int32.toNatClampNeg (S 1 r) : Int) := by have := zn_nat (x := S 1 r) f1; omega
    have htn := ht.1
    refine ⟨Int32.toNatClampNeg (S 1 r), cc, nm2, f3, ef, c2, k1, by omega, by omega, by omega, x4, x5, z2, fun {kb2 kk2 ks2 ba2 st2} a1 a2 a3 a4 a5 => ?_⟩
    have hdr := cTc_dr (G2 := K2) ht hq (fun k hk => hk)
    obtain ⟨y2, y3, y4⟩ := zpx_pa x3
    have hre := cm_re_s h11 (cn_1.trans ((hc _ _ _ _ _ _ _ _ _ _ _).trans (if_neg (by rw [hl]; omega))))
    rw [f2, c1, show ((cc : Int)).toNat = cc from rfl, List.drop_append_of_le_length hq, hl] at hre
    have nf : ∀ k, nF [(0, F.2.2.2 (Int32.toNatClampNeg (S 1 r)))] k = true → k < cc := fun k hk => by
      rw [nF_g0] at hk
      rcases (Bool.or_eq_true _ _).mp hk with u | u
      · exact wf_ub _ c4 u
      · cases u
    have pv : ∀ k, k < cc → vr ph (pm_ae (Vs ++ cVs fs) cc k) (gs (tn - cc + k)) := fun k hk => by
      show vr ph (if k < cc then (Vs ++ cVs fs).getD (cc - 1 - k) 0 else 0) _
      rw [if_pos hk, gd_app (by omega)]
      exact hdr.2.1 k hk
    have hd2 : zs cc (fun k => zr (pm_ae (Vs ++ cVs fs) cc k) 0) = zs cc (fun k => zr (pm_ae (Vs ++ cVs fs) cc k) 0) := rfl
    refine ⟨tn - cc, [(0, F.2.2.2 (Int32.toNatClampNeg (S 1 r)))], pm_ae (Vs ++ cVs fs) cc, (b, nm, K2, Vs.drop cc, e, bd) :: fs, 1, m3 + m2, by omega, rfl, ⟨⟨by simp, fun j hj => by simp at hj, fun k hk => pv k (nf k hk)⟩, by rw [List.length_cons, a3, zu_s]; omega, ⟨fun u hu hj => ?_, ⟨⟨Or.inl rfl, by rw [mdj_1 (Or.inl rfl)]; exact z3.2⟩, fun _ => ⟨c3, cc, c4, by omega, fun k hk => (nomatch (show false = true from hk))⟩, trivial⟩, rfl, by omega⟩, Or.inl ⟨_, z1, rfl⟩, cKg_w x1 y3 ⟨0, y2, y, rfl, y4, x6, rfl⟩, ?_, by omega⟩, ?_, ⟨hZ_R h9.1 (fun w => ?_), h9.2⟩, fun k hk => pv k (by
      have hk : (decide (k < cc) && !nF [(0, F.2.2.2 (Int32.toNatClampNeg (S 1 r)))] k) = true := hk
      exact of_decide_eq_true ((Bool.and_eq_true _ _).mp hk).1), ?_⟩
    · rw [List.mem_singleton.mp hu]
      exact ⟨c3, ⟨cc, c4, Nat.le_refl _⟩, by show tm_wi (F.2.2.2 (Int32.toNatClampNeg (S 1 r))) ≤ nm2; omega⟩
    · show cFc S nx H az z kf M ph gs kb2 kk2 ((b, nm, K2, Vs.drop cc, e, bd) :: fs) (tn - cc) (kk2 (fs.length + 1)) (m3 + m2)
      refine ⟨hdr.1, by rw [a3, zu_n (by omega)]; exact hb, by rw [List.length_drop]; exact hok, by rw [a4, zu_s]; exact Or.inl ⟨r, hM, rfl⟩, m3, m2, by rw [a4, zu_s]; exact hK, ?_, rfl⟩
      rw [a4, zu_n (by omega)]
      exact cFc_cg (fun _ _ => rfl) (fun j hj => ⟨by rw [a3, zu_n (by omega)], by rw [zu_n (by omega)]⟩) hF
    · refine (cShr_h (Or.inl rfl)).mpr (Or.inl ⟨rfl, fs.length + 1, rfl, by rw [a5, zu_s]; exact a2, ?_⟩)
      exact cShr_cg (fun _ _ => rfl) (fun _ _ => rfl) (fun j hj => by rw [a5, zu_n (by omega)]) h8
    · have b1 := mRv_dr (x := w) (n := cc) (V := Vs ++ cVs fs) (by rw [List.length_append]; omega)
      rw [List.drop_append_of_le_length hq] at b1
      have b2 := zNb_a (p := fun k => decide (k < cc)) (q := nF ([(0, F.2.2.2 (Int32.toNatClampNeg (S 1 r)))] ++ (2, Tm.nil) :: cTs ((b, nm, K2, Vs.drop cc, e, bd) :: fs))) (r := fun k => decide (k < cc) && !nF [(0, F.2.2.2 (Int32.toNatClampNeg (S 1 r)))] k) (e := pm_ae (Vs ++ cVs fs) cc) (x := w) (fun j _ => by
        rw [nF_a2 (fun u hu => by rw [List.mem_singleton.mp hu]; exact (by decide : (0 : Nat) ≠ 2))]
        by_cases u : nF [(0, F.2.2.2 (Int32.toNatClampNeg (S 1 r)))] j = true
        · rw [u, decide_eq_true (nf j u)]; rfl
        · rw [zbf7 u, Bool.false_or, Bool.not_false, Bool.and_true]) (fun j _ hj => by
        rw [nF_a2 (fun u hu => by rw [List.mem_singleton.mp hu]; exact (by decide : (0 : Nat) ≠ 2))] at hj
        show (decide (j < cc) && !nF [(0, F.2.2.2 (Int32.toNatClampNeg (S 1 r)))] j) = false
        rw [hj, Bool.not_true, Bool.and_false])
      have b3 : zNb (fun k => decide (k < cc)) (pm_ae (Vs ++ cVs fs) cc) w = zs cc (fun k => zr ((Vs ++ cVs fs).getD (cc - 1 - k) 0) w) := by
        show zs 24 (fun k => if decide (k < cc) = true then zr (pm_ae (Vs ++ cVs fs) cc k) w else 0) = _
        rw [zs_lt (f := fun k => zr (pm_ae (Vs ++ cVs fs) cc k) w) (by omega)]
        exact zs_ext (fun d hd => by
          show zr (if d < cc then (Vs ++ cVs fs).getD (cc - 1 - d) 0 else 0) w = _
          rw [if_pos hd])
      show (mRv (Vs.drop cc ++ cVs fs) w + (zNb (nF ([(0, F.2.2.2 (Int32.toNatClampNeg (S 1 r)))] ++ (2, Tm.nil) :: cTs ((b, nm, K2, Vs.drop cc, e, bd) :: fs))) (pm_ae (Vs ++ cVs fs) cc) w + mRn (e :: cEs fs) (K2 ++ (2, Tm.nil) :: cTs fs) w)) + zNb (fun k => decide (k < cc) && !nF [(0, F.2.2.2 (Int32.toNatClampNeg (S 1 r)))] k) (pm_ae (Vs ++ cVs fs) cc) w = mRv (Vs ++ cVs fs) w + mRn (e :: cEs fs) (K2 ++ (2, Tm.nil) :: cTs fs) w
      omega
    · rw [List.cons_append, List.nil_append, gst_c (by decide), gst_c (by decide)]
      exact hre
/-- a call with names told -/
theorem cz_7 (hp : cPz S nx H az z kf en ff F M) (h : cSO S nx H az z kz kf M F lim al s0 gs kb kk sh ks gk gc gv fresh held x i b nm G Vs e bd fs m1 m2 tn sn hn c ck cf Sh md ru mo db om ph lv gA FL pn0) (hr : x.toInt = (r : Int)) (ho : (S 0 r).toInt = 7) (h3 : (S 2 r).toInt = (ff (5 * Int32.toNatClampNeg (S 1 r))).toInt) : cCa S nx H az z kz kf en ff M F lim al s0 gs kb kk sh ks gk gc gv fresh held r i fs tn sn hn c ck cf Sh md ru mo db om ph lv gA FL := by
  obtain ⟨⟨h1, h2, h4, h5, h6, h7, h8⟩, h9, h10, h12, h11⟩ := h
  obtain ⟨t, K2, zz, w, m3, rfl, g1, g2, g3⟩ := cG_d (fd := kf) hr (Or.inr (Or.inl ⟨by omega, by omega⟩)) h4.1 h6
  obtain ⟨-, q2, q3, wd, p0, q4, p2, q5⟩ : (S 0 r).toInt = 7 ∧ zz = nx r ∧ w = 3 ∧ _ := by
    rcases g1 with g | g | g | g | g | g
    · exact g
    · have := g.1; omega
    · have := g.1; omega
    · obtain ⟨-, -, -, o, g, -⟩ := g; have := cI_op_r o; omega
    · have := g.1; omega
    · have := g.1; omega
  subst q2
  obtain ⟨k1, k2, k3, k4⟩ := h4
  have hh2 : pm_ar t ≤ Vs.length ∧ cHg K2 (Vs.length - pm_ar t + 1) := k3
  have hM := mQ_r hp.2.1 h5 hr
  have eF : ∀ k, nF ((1, t) :: K2) k = nF K2 k := fun k => by rw [nF_g1, q5 k, Bool.false_or]
  rw [List.cons_append, gst_c (by decide)] at h11
  refine cz_cl (q := pm_ar t) hp hM ⟨h1.1, h1.2.1, fun k hk => h1.2.2 k (by rw [eF k]; exact hk)⟩ h2 hh2.1 ⟨fun u hu => k1 u (List.mem_cons_of_mem _ hu), k2.2.2, hh2.2, k4⟩ g2 h7 (by omega) ((cShr_h (Or.inr rfl)).mp h9) ⟨hZ_R h10.1 (fun y => ?_), h10.2⟩ h11 q5 p2 p0 q4 h3
  rw [zNb_n, List.cons_append, mRt_e (A := (1, t) :: (K2 ++ (2, Tm.nil) :: cTs fs)) (B := K2 ++ (2, Tm.nil) :: cTs fs) (fun k _ => by rw [nF_g1, q5 k, Bool.false_or]) rfl]
  omega
/-- a call with none -/
theorem cz_6 (hp : cPz S nx H az z kf en ff F M) (h : cSO S nx H az z kz kf M F lim al s0 gs kb kk sh ks gk gc gv fresh held x i b nm G Vs e bd fs m1 m2 tn sn hn c ck cf Sh md ru mo db om ph lv gA FL pn0) (hr : x.toInt = (r : Int)) (ho : (S 0 r).toInt = 6) (ha : sn ≠ al) (h3 : (S 2 r).toInt = (ff (5 * Int32.toNatClampNeg (S 1 r))).toInt) : cCa S nx H az z kz kf en ff M F lim al s0 gs kb kk sh ks gk gc gv fresh held r i fs tn (sn + 1) hn c ck cf Sh md ru mo db om ph lv gA FL := by
  obtain ⟨⟨h1, h2, h4, h5, h6, h7, h8⟩, h9, h10, h12, h11⟩ := h
  obtain ⟨t, K2, zz, rfl, g1, g2, g3⟩ := cG_w (fd := kf) hr (Or.inr (Or.inr (Or.inr (Or.inr ho)))) h4.1 h6
  obtain ⟨-, q2, q4, t2, wd, p0, q5, q6, p1, p2⟩ : (S 0 r).toInt = 6 ∧ zz = nx r ∧ _ := by
    rcases g2 with g | g | g | g | g
    · have := g.1; omega
    · have := g.1; omega
    · have := g.1; omega
    · have := g.1; omega
    · exact g
  subst q2
  obtain ⟨k1, k2, k3, k4⟩ := h4
  have hM := mQ_r hp.2.1 h5 hr
  have eF : ∀ k, nF ((0, t) :: K2) k = nF K2 k := fun k => by rw [nF_g0, q5 k, Bool.false_or]
  rw [List.cons_append, gst_c (by decide)] at h11
  rw [← g1] at p2
  refine cz_cl (q := 0) (t2 := t2) hp hM ⟨h1.1, h1.2.1, fun k hk => h1.2.2 k (by rw [eF k]; exact hk)⟩ h2 (Nat.zero_le _) ⟨fun u hu => k1 u (List.mem_cons_of_mem _ hu), k2.2.2, k3, k4⟩ g3 h7 (by omega) ((cShr_h (Or.inl rfl)).mp h9) ⟨hZ_R h10.1 (fun y => ?_), h10.2⟩ (cm_re_s h11 ((cn_0 ha).trans (p1 _ _ _ _ _ _ _ _))) q6 p2 p0 q4 h3
  rw [zNb_n, List.cons_append, mRt_e (A := (0, t) :: (K2 ++ (2, Tm.nil) :: cTs fs)) (B := K2 ++ (2, Tm.nil) :: cTs fs) (fun k _ => by rw [nF_g0, q5 k, Bool.false_or]) rfl]
  omega
end

end
section
/-! a shell that fits, in the class's row -/
/-- row i of the shells has one with m fields -/
def cFt (kz : Int32) (kf gk sh : Nat → Int32) (m : Int) (i : Nat) : Prop := (sh i).toInt ≠ -1 ∧ zfk kz kf (gk (Int32.toNatClampNeg (sh i))) = m
section
variable {kz : Int32} {kf gk : Nat → Int32} {ph : Nat → Nat} {ks : Nat → Int32} {m lo : Nat}
theorem sh_f_lt {o : Nat} : ∀ {S : List (Nat × Nat × Nat)}, (∀ a ∈ S, a.1 < o) → sh_f o m S = none
  | [], _ => rfl
  | (q, i, w) :: S, h => by
    have : q < o := h (q, i, w) List.mem_cons_self
    show (if q = o then (if w = m then some i else sh_f o m S) else none) = none
    rw [if_neg (by omega)]
theorem sh_r_sub {i : Nat} : ∀ {S : List (Nat × Nat × Nat)} (a), a ∈ sh_r i S → a ∈ S
  | [], a, ha => by cases ha
  | (q, k, w) :: S, a, ha => by
    have ha : a ∈ (if k = i then S else (q, k, w) :: sh_r i S) := ha
    by_cases g : k = i
    · rw [if_pos g] at ha; exact List.mem_cons_of_mem _ ha
    · rw [if_neg g] at ha
      rcases List.mem_cons.mp ha with u | u
      · rw [u]; exact List.mem_cons_self
      · exact List.mem_cons_of_mem _ (sh_r_sub a u)
theorem sIs_sub {i j : Nat} {S : List (Nat × Nat × Nat)} (h : j ∈ sIs (sh_r i S)) : j ∈ sIs S := by
  obtain ⟨a, h1, h2⟩ := List.mem_map.mp h
  exact List.mem_map.mpr ⟨a, sh_r_sub a h1, h2⟩
theorem cShr_lo {sh : Nat → Int32} : ∀ {K : List (Nat × Tm)} {o : Nat} {S : List (Nat × Nat × Nat)} {n : Nat}, cShr ph sh ks K o S n → 1 ≤ o → (ks (o - 1)).toInt = (lo : Int) → lo ≤ n
  | [], o, S, n, h, ho, hl => by have := h.1; omega
  | (j, t) :: K, o, S, n, h, ho, hl => by
    rcases h with ⟨-, o', e, b, h⟩ | ⟨-, n', e, h⟩ | ⟨-, n', e, b, h⟩ | ⟨-, -, -, h⟩
    · rw [e, show o' + 1 - 1 = o' from rfl] at hl
      omega
    · rcases h with ⟨w, S', q, b, h⟩ | ⟨b, d, h⟩
      · have := cShr_lo h ho hl; omega
      · have := cShr_lo h ho hl; omega
    · have := cShr_lo h ho hl; omega
    · exact cShr_lo h ho hl
/-- none fits -/
theorem cSh_no {sh : Nat → Int32} : ∀ {K : List (Nat × Tm)} {o : Nat} {S : List (Nat × Nat × Nat)} {n : Nat}, cShr ph sh ks K o S n → 1 ≤ o → (ks (o - 1)).toInt = (lo : Int) → (∀ a ∈ S, zfk kz kf (gk (ph a.2.1)) = (a.2.2 : Int)) → (∀ i, lo ≤ i → i < n → ¬ cFt kz kf gk sh (m : Int) i) → sh_f o m S = none
  | [], o, S, n, h, _, _, _, _ => by rw [h.2.1]; rfl
  | (j, t) :: K, o, S, n, h, ho, hl, hw, hn => by
    rcases h with ⟨-, o', e, b, h⟩ | ⟨-, n', e, h⟩ | ⟨-, n', e, b, h⟩ | ⟨-, -, -, h⟩
    · exact sh_f_lt (fun a ha => by have := cShr_le h a ha; omega)
    · rcases h with ⟨w, S', q, b, h⟩ | ⟨b, d, h⟩
      · subst q
        by_cases g : lo ≤ n'
        · have nf := hn n' g (by omega)
          have ew : zfk kz kf (gk (ph (tm_id t))) = (w : Int) := hw (o, tm_id t, w) List.mem_cons_self
          have nw : ¬ w = m := fun u => nf ⟨by omega, by rw [zn_li7 b, ew, u]⟩
          show (if o = o then (if w = m then some (tm_id t) else sh_f o m S') else none) = none
          rw [if_pos rfl, if_neg nw]
          exact cSh_no h ho hl (fun a ha => hw a (List.mem_cons_of_mem _ ha)) (fun i h1 h2 => hn i h1 (by omega))
        · exfalso
          exact g (cShr_lo h ho hl)
      · exact cSh_no h ho hl hw (fun i h1 h2 => hn i h1 (by omega))
    · exact cSh_no h ho hl hw (fun i h1 h2 => hn i h1 (by omega))
    · exact cSh_no h ho hl hw hn
/-- the latest that fits -/
theorem cSh_ye {sh : Nat → Int32} {p : Nat} : ∀ {K : List (Nat × Tm)} {o : Nat} {S : List (Nat × Nat × Nat)} {n : Nat}, cShr ph sh ks K o S n → 1 ≤ o → (ks (o - 1)).toInt = (lo : Int) → (∀ a ∈ S, zfk kz kf (gk (ph a.2.1)) = (a.2.2 : Int)) → (sIs S).Nodup → lo ≤ p → p < n → cFt kz kf gk sh (m : Int) p → (∀ i, p < i → i < n → ¬ cFt kz kf gk sh (m : Int) i) → ∃ id : Nat, sh_f o m S = some id ∧ id ∈ sIs S ∧ (sh p).toInt = (ph id : Int) ∧ cShr ph (upd sh p (-1)) ks K o (sh_r id S) n
  | [], o, S, n, h, ho, _, _, _, _, hp, _, _ => by have := h.2.2; omega
  | (j, t) :: K, o, S, n, h, ho, hl, hw, hN, h1, h2, h3, h4 => by
    have m1 : ((-1 : Int32)).toInt = -1 := by decide
    rcases h with ⟨-, o', e, b, h⟩ | ⟨a, n', e, h⟩ | ⟨a, n', e, b, h⟩ | ⟨a, a2, a3, h⟩
    · rw [e, show o' + 1 - 1 = o' from rfl] at hl
      omega
    · rcases h with ⟨w, S', q, b, h⟩ | ⟨b, d, h⟩
      · subst q
        have ew : zfk kz kf (gk (ph (tm_id t))) = (w : Int) := hw (o, tm_id t, w) List.mem_cons_self
        have hN2 : tm_id t ∉ sIs S' ∧ (sIs S').Nodup := List.nodup_cons.mp hN
        by_cases g : p = n'
        · subst g
          have em : w = m := by
            have := h3.2
            rw [zn_li7 b, ew] at this
            omega
          refine ⟨tm_id t, ?_, List.mem_cons_self, b, Or.inr (Or.inl ⟨a, p, e, Or.inr ⟨by rw [zu_s]; exact m1, ?_, ?_⟩⟩)⟩
          · show (if o = o then (if w = m then some (tm_id t) else sh_f o m S') else none) = _
            rw [if_pos rfl, if_pos em]
          · rw [show sh_r (tm_id t) ((o, tm_id t, w) :: S') = S' from if_pos rfl]; exact hN2.1
          · rw [show sh_r (tm_id t) ((o, tm_id t, w) :: S') = S' from if_pos rfl]
            exact cShr_cg (fun _ _ => rfl) (fun i hi => zu_n (by omega)) (fun _ _ => rfl) h
        · have nf := h4 n' (by omega) (by omega)
          have nw : ¬ w = m := fun u => nf ⟨by omega, by rw [zn_li7 b, ew, u]⟩
          obtain ⟨id, i1, i2, i3, i4⟩ := cSh_ye h ho hl (fun a ha => hw a (List.mem_cons_of_mem _ ha)) hN2.2 h1 (by omega) h3 (fun i q1 q2 => h4 i q1 (by omega))
          have ne : ¬ tm_id t = id := fun u => hN2.1 (by rw [u]; exact i2)
          refine ⟨id, ?_, List.mem_cons_of_mem _ i2, i3, Or.inr (Or.inl ⟨a, n', e, Or.inl ⟨w, sh_r id S', ?_, ?_, i4⟩⟩)⟩
          · show (if o = o then (if w = m then some (tm_id t) else sh_f o m S') else none) = _
            rw [if_pos rfl, if_neg nw]; exact i1
          · show (if tm_id t = id then S' else (o, tm_id t, w) :: sh_r id S') = _
            rw [if_neg ne]
          · rw [zu_n (by omega)]; exact b
      · have g : ¬ p = n' := fun u => h3.1 (by rw [u]; exact b)
        obtain ⟨id, i1, i2, i3, i4⟩ := cSh_ye h ho hl hw hN h1 (by omega) h3 (fun i q1 q2 => h4 i q1 (by omega))
        exact ⟨id, i1, i2, i3, Or.inr (Or.inl ⟨a, n', e, Or.inr ⟨by rw [zu_n (fun u => g u.symm)]; exact b, fun u => d (sIs_sub u), i4⟩⟩)⟩
    · have g : ¬ p = n' := fun u => h3.1 (by rw [u]; exact b)
      obtain ⟨id, i1, i2, i3, i4⟩ := cSh_ye h ho hl hw hN h1 (by omega) h3 (fun i q1 q2 => h4 i q1 (by omega))
      exact ⟨id, i1, i2, i3, Or.inr (Or.inr (Or.inl ⟨a, n', e, by rw [zu_n (fun u => g u.symm)]; exact b, i4⟩))⟩
    · obtain ⟨id, i1, i2, i3, i4⟩ := cSh_ye h ho hl hw hN h1 h2 h3 h4
      exact ⟨id, i1, i2, i3, Or.inr (Or.inr (Or.inr ⟨a, a2, a3, i4⟩))⟩
end

end
section
/-! one turn of the class, counted: a cell is built -/
theorem mRv_gm {x : Nat} {v : Int64} : ∀ {V : List Int64}, v ∈ V → zr v x ≤ mRv V x
  | [], h => nomatch h
  | u :: V, h => by
    have a1 := mRv_n (x := x) (V := V)
    have a2 := zr_0 u x
    show zr v x ≤ zr u x + mRv V x
    rcases List.mem_cons.mp h with g | g
    · rw [g]; omega
    · have := mRv_gm (x := x) g; omega
theorem mRv_ap {x : Nat} : ∀ {A B : List Int64}, mRv (A ++ B) x = mRv A x + mRv B x
  | [], B => by show mRv B x = 0 + mRv B x; omega
  | a :: A, B => by
    show zr a x + mRv (A ++ B) x = zr a x + mRv A x + mRv B x
    rw [mRv_ap]; omega
theorem vr_y {ph ph2 : Nat → Nat} {v u : Int64} (h : vr ph v u) (e : 1 ≤ zr v (Int32.toNatClampNeg v.toInt32) → ph2 (Int32.toNatClampNeg v.toInt32) = ph (Int32.toNatClampNeg v.toInt32)) : vr ph2 v u := by
  rcases h with h | ⟨h1, h2, h3, h4⟩
  · exact Or.inl h
  · exact Or.inr ⟨h1, h2, h3, by rw [e (by rw [zr_c h1 h3, if_pos rfl]; exact Int.le_refl _)]; exact h4⟩
theorem zNb_ge {p : Nat → Bool} {e : Nat → Int64} {x k : Nat} (hk : k < 24) (hp : p k = true) : zr (e k) x ≤ zNb p e x := by
  have b1 := zs_ge (n := 24) (x := k) (f := fun i => if p i = true then zr (e i) x else 0) (fun d _ => by show (0 : Int) ≤ if p d = true then zr (e d) x else 0; split; exact zr_0 _ _; exact Int.le_refl _) hk
  have b2 : (if p k = true then zr (e k) x else 0) ≤ zNb p e x := b1
  rw [if_pos hp] at b2
  exact b2
theorem cTc_y {ph ph2 : Nat → Nat} {gs : Nat → Int64} {b nm tp : Nat} {G : List (Nat × Tm)} {Vs : List Int64} {e : Nat → Int64} (hv : ∀ x, 1 ≤ mRv Vs x → ph2 x = ph x) (he : ∀ x, 1 ≤ zNb (nF G) e x → ph2 x = ph x) (hn : ∀ k, nF G k = true → k < 24) (h : cTc ph gs b nm G Vs e tp) : cTc ph2 gs b nm G Vs e tp := by
  obtain ⟨h1, h2, h3⟩ := h
  refine ⟨h1, fun j hj => vr_y (h2 j hj) (fun g => hv _ ?_), fun k hk => vr_y (h3 k hk) (fun g => he _ ?_)⟩
  · have := mRv_gm (x := Int32.toNatClampNeg (Vs.getD (Vs.length - 1 - j) 0).toInt32) (v := Vs.getD (Vs.length - 1 - j) 0) (V := Vs) (by
      rw [List.getD_eq_getElem?_getD, List.getElem?_eq_getElem (by omega)]
      exact List.getElem_mem _)
    omega
  · have := zNb_ge (e := e) (x := Int32.toNatClampNeg (e k).toInt32) (hn k hk) hk
    omega
section
variable {S : Nat → Nat → Int32} {nx : Nat → Int32} {H : Int32 → Int64 → Prop} {az : Int} {z : Nat} {kz : Int32} {kf nd en ff : Nat → Int32} {M : Nat → Prop} {F : sp_F} {lim : Int} {al : Nat} {s0 : cm_S} {gs gs2 : Nat → Int64} {kb kk sh ks kb2 kk2 sh2 ks2 gk gc gk2 gc2 : Nat → Int32} {gv gv2 : Nat → Int64} {fresh held fresh2 held2 : Int} {x x2 : Int32} {i : Int} {b nm : Nat} {G K2 : List (Nat × Tm)} {Vs : List Int64} {e : Nat → Int64} {bd : Nat} {fs : List cFm} {m1 m2 tn sn hn c : Nat} {ck : Nat → Int32} {cf : Nat → Int64} {Sh Sh2 : List (Nat × Nat × Nat)} {md ru md2 ru2 : Nat} {mo mo2 : Int} {db om db2 : Nat} {ph ph2 : Nat → Nat} {lv lv2 : Nat → Bool} {gA gA2 : Nat → Int} {FL FL2 : List Nat} {pn : Nat → Bool} {r : Nat}
theorem cFc_y : ∀ {fs : List cFm} {tp : Nat} {x : Int32} {m : Nat}, (∀ x, 1 ≤ mRv (cVs fs) x → ph2 x = ph x) → (∀ x, 1 ≤ mRn (cEs fs) (cTs fs) x → ph2 x = ph x) → cFc S nx H az z kf M ph gs kb kk fs tp x m → cFc S nx H az z kf M ph2 gs kb kk fs tp x m
  | [], _, _, _, _, _, h => h
  | (b, nm, G, Vs, e, bd) :: fs, tp, x, m, hv, he, ⟨h1, h2, h3, h4, m1, m2, h5, h6, h7⟩ => by
    have mk := gSc_mk h3.2.1
    have he2 : ∀ y, mRn (cEs ((b, nm, G, Vs, e, bd) :: fs)) (cTs ((b, nm, G, Vs, e, bd) :: fs)) y = zNb (nF G) e y + mRn (cEs fs) (cTs fs) y := fun y => by
      show mRn (e :: cEs fs) (G ++ (2, Tm.nil) :: cTs fs) y = _
      rw [mRn_c, aF_a2 mk.2, zNb_e (fun j _ => nF_a2 mk.2) (fun _ _ _ => rfl)]
    have hv2 : ∀ y, mRv (cVs ((b, nm, G, Vs, e, bd) :: fs)) y = mRv Vs y + mRv (cVs fs) y := fun y => mRv_ap
    refine ⟨cTc_y (fun y hy => hv y ?_) (fun y hy => he y ?_) (fun k hk => (nF_bd h3.1 h3.2.1 hk).2) h1, h2, h3, h4, m1, m2, h5, cFc_y (fun y hy => hv y ?_) (fun y hy => he y ?_) h6, h7⟩
    · rw [hv2]; have := mRv_n (x := y) (V := cVs fs); omega
    · rw [he2]; have := mRn_n (x := y) (E := cEs fs) (K := cTs fs); omega
    · rw [hv2]; have := mRv_n (x := y) (V := Vs); omega
    · rw [he2]; have := zNb_0 (p := nF G) (e := e) (x := y); omega
theorem ofi_n {c : Nat} (h : c ≤ 1000000) : (Int32.ofInt (c : Int)).toInt = (c : Int) := by
  rw [Int32.toInt_ofInt_of_le] <;> omega
theorem pmcf_s {V : List Int64} {j m : Nat} (hj : j < m) : pm_cf cf V c m (3 * c + j) = V.getD (m - 1 - j) 0 := by
  unfold pm_cf; rw [if_pos (by omega), show 3 * c + j - 3 * c = j from by omega]
/-- all that the ways to build a cell share; y: the class's cell -/
theorem cz_5g {t : Tm} {q k y m3 : Nat} {y9 : Int32} (hM : M r) (h : cSO S nx H az z kz kf M F lim al s0 gs kb kk sh ks gk gc gv fresh held x i b nm ((1, t) :: K2) Vs e bd fs m1 m2 tn sn hn c ck cf Sh md ru mo db om ph lv gA FL pn0) (ha : pm_ar t = q) (hd : ∀ j, tm_dn t j = false) (hK : cKg S nx H az K2 (nx r) m3) (hi : i + 1 + m3 ≤ i + m1) (hk : (S 1 r).toInt = (k : Int)) (hkz : k < z) (hkf : (kf k).toInt = (q : Int)) (hq3 : q ≤ 3) (hq1 : 1 ≤ q) (hcb : c ≤ 1000000)
    (hre : cm_re F kf lim al s0 ((gst (K2 ++ (2, Tm.nil) :: cTs fs), pv2 (Int32.ofInt (c : Int)) :: (Vs ++ cVs fs).drop q, e :: cEs fs, sn, c + 1, upd ck c (S 1 r), pm_cf cf (Vs ++ cVs fs) c q), (Sh2, md2, ru2, mo2, db, om))) (hsub : ∀ a, a ∈ Sh2 → a ∈ Sh) (hnd : (sIs Sh2).Nodup) (hy4 : y < 400) (hyn : ∀ x, (lv x = true ∨ x ∈ sIs Sh2) → ph x ≠ y) (hKf2 : hKf (hUpd ph c y) (hUpd lv c true) (c + 1) (sIs Sh2) FL2 fresh2 held2) (hSh : cShr ph sh2 ks (((1, t) :: K2) ++ (2, Tm.nil) :: cTs fs) (fs.length + 1) Sh2 hn)
    (ey : y9.toInt = (y : Int)) (a1 : gk2 = upd gk y (S 1 r)) (a2 : gc2 y = 1) (a3 : ∀ j, j ≠ y → gc2 j = gc j) (a4 : ∀ j, j < q → gv2 (3 * y + j) = gs (tn - q + j)) (a5 : ∀ w, w ≠ y → ∀ j, j < 3 → gv2 (3 * w + j) = gv (3 * w + j)) (a6 : gs2 = vp_updL gs (tn - q) (pv2 y9)) :
    cSO S nx H az z kz kf M F lim al s0 gs2 kb kk sh2 ks gk2 gc2 gv2 fresh2 held2 (nx r) (i + 1) b nm K2 (pv2 (Int32.ofInt (c : Int)) :: Vs.drop q) e bd fs m3 m2 (tn - q + 1) sn hn (c + 1) (upd ck c (S 1 r)) (pm_cf cf (Vs ++ cVs fs) c q) Sh2 md2 ru2 mo2 db om (hUpd ph c y) (hUpd lv c true) (hUpd gA c 1) FL2 pn0 := by
  have mk := cSO_mk h
  obtain ⟨⟨h1, h2, h3, h4, h5, h6, h7⟩, h8, h9, h10, h11⟩ := h
  obtain ⟨k1, k2, k3, k4⟩ := h3
  have hh2 : pm_ar t ≤ Vs.length ∧ cHg K2 (Vs.length - pm_ar t + 1) := k3
  rw [ha] at hh2
  have n2 : ∀ u ∈ K2, u.1 ≠ 2 := fun u hu => mk.2 u (List.mem_cons_of_mem _ hu)
  have hn2 : ∀ j, nF K2 j = true → nF ((1, t) :: K2) j = true := fun j hj => by rw [nF_g1, hj, Bool.or_true]
  have hdr := cTc_dr h1 hh2.1 hn2
  have hq := h1.1
  have hzo := hZ_R h9.1 (R2 := mRt (K2 ++ (2, Tm.nil) :: cTs fs) (Vs ++ cVs fs) (e :: cEs fs)) (fun w => by
    rw [zNb_n, List.cons_append, mRt_e (A := (1, t) :: (K2 ++ (2, Tm.nil) :: cTs fs)) (B := K2 ++ (2, Tm.nil) :: cTs fs) (fun j _ => by rw [nF_g1, hd j, Bool.false_or]) rfl]; omega)
  have hlt : ∀ w, lv w = true → w < c := fun w hw => (hZ_at hzo hw).1
  have hS : ∀ w, w ∈ sIs Sh → w < c := fun w hw => (hzo.2.2.2.1 w hw).1
  have hsb : ∀ w, w ∈ sIs Sh2 → w ∈ sIs Sh := fun w hw => by
    obtain ⟨a, u1, u2⟩ := List.mem_map.mp hw
    exact List.mem_map.mpr ⟨a, hsub a u1, u2⟩
  have hR1 : ∀ w, 1 ≤ mRt (K2 ++ (2, Tm.nil) :: cTs fs) (Vs ++ cVs fs) (e :: cEs fs) w → hUpd ph c y w = ph w := fun w hw => hU_n (by have := hlt w (hZ_lv hzo hw); omega)
  have eR : ∀ w, mRt (K2 ++ (2, Tm.nil) :: cTs fs) (Vs ++ cVs fs) (e :: cEs fs) w = mRv (Vs.drop q) w + zs q (fun j => zr ((Vs ++ cVs fs).getD (q - 1 - j) 0) w) + mRv (cVs fs) w + (zNb (nF K2) e w + mRn (cEs fs) (cTs fs) w) := fun w => by
    have b1 := mRv_dr (x := w) (n := q) (V := Vs ++ cVs fs) (by rw [List.length_append]; omega)
    rw [List.drop_append_of_le_length hh2.1, mRv_ap (A := Vs.drop q)] at b1
    unfold mRt
    rw [mRn_c, aF_a2 n2, zNb_e (p := nF (K2 ++ (2, Tm.nil) :: cTs fs)) (q := nF K2) (f := e) (fun j _ => nF_a2 n2) (fun _ _ _ => rfl), b1]
    omega
  have p0 : ∀ w, 0 ≤ mRv (Vs.drop q) w ∧ 0 ≤ zs q (fun j => zr ((Vs ++ cVs fs).getD (q - 1 - j) 0) w) ∧ 0 ≤ mRv (cVs fs) w ∧ 0 ≤ zNb (nF K2) e w ∧ 0 ≤ mRn (cEs fs) (cTs fs) w := fun w => ⟨mRv_n, zs_0 (fun _ _ => zr_0 _ _), mRv_n, zNb_0, mRn_n⟩
  have ek : Int32.toNatClampNeg (S 1 r) = k := zn_li7 hk
  have cw : cWd kf (upd ck c (S 1 r)) c = q := by unfold cWd; rw [zu_s, ek, hkf]; omega
  have hzf := hZ_fill (φ := ph) (w := cWd kf ck) (w2 := cWd kf (upd ck c (S 1 r))) (cA2 := pm_cf cf (Vs ++ cVs fs) c q) (kA2 := upd ck c (S 1 r)) (ki := S 1 r) (gk2 := gk2) (gc2 := gc2) (gv2 := gv2) (m := q) (y := y) (R2 := fun w => mRv (Vs.drop q) w + mRv (cVs fs) w + (zNb (nF K2) e w + mRn (cEs fs) (cTs fs) w)) (hZ_un hzo hsb hnd) hy4 hyn hq3 cw (fun d hd => by unfold cWd; rw [zu_n hd]) (fun d hd hl j hj => by
      have := (hzo.2.2.1 d hl).2.2.2.1
      unfold pm_cf
      rw [if_neg (by omega)]) rfl (by rw [a1, zu_s]) (fun w hw => by rw [a1, zu_n hw]) (by rw [a2]; decide) a3 (fun j hj => by
      rw [pmcf_s hj, a4 j hj, gd_app (by omega)]
      exact hdr.2.1 j hj) a5 (fun w => by
      rw [eR w]
      show _ = mRv (Vs.drop q) w + mRv (cVs fs) w + (zNb (nF K2) e w + mRn (cEs fs) (cTs fs) w) + zs (cWd kf (upd ck c (S 1 r)) c) (fun j => zr (pm_cf cf (Vs ++ cVs fs) c q (3 * c + j)) w)
      rw [cw, zs_ext (f := fun j => zr (pm_cf cf (Vs ++ cVs fs) c q (3 * c + j)) w) (g := fun j => zr ((Vs ++ cVs fs).getD (q - 1 - j) 0) w) (fun j hj => by show zr (pm_cf cf (Vs ++ cVs fs) c q (3 * c + j)) w = _; rw [pmcf_s hj])]
      omega) (fun w => by have := p0 w; omega)
  have eo := ofi_n hcb
  have en : Int32.toNatClampNeg (Int32.ofInt (c : Int)) = c := zn_li7 eo
  have z2 : zhs (pv2 (Int32.ofInt (c : Int))) = 2 ∧ (pv2 (Int32.ofInt (c : Int))).toInt32 = Int32.ofInt (c : Int) := zof_cell _
  have z3 : zhs (pv2 y9) = 2 ∧ (pv2 y9).toInt32 = y9 := zof_cell _
  have hvr : vr (hUpd ph c y) (pv2 (Int32.ofInt (c : Int))) (pv2 y9) := Or.inr ⟨z2.1, z3.1, by rw [z2.2]; omega, by rw [z2.2, z3.2, en, hU_s]; exact ey⟩
  have hk2 : ∀ u ∈ K2, u.1 = 0 ∨ u.1 = 1 → cOk z kf bd nm u := fun u hu => k1 u (List.mem_cons_of_mem _ hu)
  rw [List.drop_append_of_le_length hh2.1] at hre
  refine ⟨⟨cTc_pu (cTc_y (fun w hw => hR1 w ?_) (fun w hw => hR1 w ?_) (fun j hj => (nF_bd hk2 k2.2.2 hj).2) hdr.1) hvr (fun j hj => ⟨by have := (nF_bd hk2 k2.2.2 hj).1; omega, hj⟩) a6, h2, ⟨hk2, k2.2.2, by rw [List.length_cons, List.length_drop]; exact hh2.2, k4⟩, Or.inl ⟨r, hM, rfl⟩, hK, cFc_cg (fun j hj => by rw [a6, cul_n (by omega)]) (fun _ _ => ⟨rfl, rfl⟩) (cFc_y (fun w hw => hR1 w ?_) (fun w hw => hR1 w ?_) h6), by omega⟩, cShr_cg (fun a ha => hU_n (by have := hS _ (hsb _ (List.mem_map.mpr ⟨a, ha, rfl⟩)); omega)) (fun _ _ => rfl) (fun _ _ => rfl) ((cShr_h (Or.inr rfl)).mp hSh), ⟨hZ_R hzf (fun w => ?_), hKf2, fun a ha => ?_, fun w hw => ?_⟩, fun j hj => (nomatch (show false = true from hj)), hre⟩
  · rw [eR w]; have := p0 w; omega
  · rw [eR w]; have := p0 w; omega
  · rw [eR w]; have := p0 w; omega
  · rw [eR w]; have := p0 w; omega
  · show ((zr (pv2 (Int32.ofInt (c : Int))) w + mRv (Vs.drop q ++ cVs fs) w) + mRn (e :: cEs fs) (K2 ++ (2, Tm.nil) :: cTs fs) w) + zNb pn0 e w = mRv (Vs.drop q) w + mRv (cVs fs) w + (zNb (nF K2) e w + mRn (cEs fs) (cTs fs) w) + if w = c then 1 else 0
    rw [zr_c z2.1 (by rw [z2.2]; omega), z2.2, en, zNb_n, mRv_ap, mRn_c, aF_a2 n2, zNb_e (p := nF (K2 ++ (2, Tm.nil) :: cTs fs)) (q := nF K2) (f := e) (fun j _ => nF_a2 n2) (fun _ _ _ => rfl)]
    omega
  · have ai : a.2.1 ∈ sIs Sh2 := List.mem_map.mpr ⟨a, ha, rfl⟩
    rw [hU_n (by have := hS _ (hsb _ ai); omega), a1, zu_n (hyn _ (Or.inr ai))]
    exact h9.2.2.1 a (hsub a ha)
  · by_cases u : w = c
    · rw [u, zu_s]; exact ⟨k, hk, hkz, by omega⟩
    · rw [zu_n u]; exact h9.2.2.2 w (by omega)
end

end
section
/-! one turn of the class, counted: the ways to build a cell -/
theorem sh_r_p {ii : Nat} : ∀ {A B : List (Nat × Nat × Nat)} {q w : Nat}, ii ∉ sIs A → sh_r ii (A ++ (q, ii, w) :: B) = A ++ B
  | [], B, q, w, _ => if_pos rfl
  | (a, j, v) :: A, B, q, w, h => by
    have h1 : ¬ j = ii ∧ ii ∉ sIs A := ⟨fun g => h (by rw [← g]; exact List.mem_cons_self), fun g => h (List.mem_cons_of_mem _ g)⟩
    show (if j = ii then A ++ (q, ii, w) :: B else (a, j, v) :: sh_r ii (A ++ (q, ii, w) :: B)) = _
    rw [if_neg h1.1, sh_r_p h1.2]; rfl
theorem sh_r_g {ii : Nat} {S : List (Nat × Nat × Nat)} (hn : (sIs S).Nodup) (hi : ii ∈ sIs S) : (sIs (sh_r ii S)).Nodup ∧ ii ∉ sIs (sh_r ii S) ∧ (sIs (sh_r ii S)).length + 1 = (sIs S).length := by
  obtain ⟨b9, hb, e⟩ := List.mem_map.mp hi
  obtain ⟨A, B, rfl⟩ := List.append_of_mem hb
  obtain ⟨q, j, w⟩ := b9
  obtain rfl : j = ii := e
  have es : ∀ A B : List (Nat × Nat × Nat), sIs (A ++ B) = sIs A ++ sIs B := fun A B => List.map_append ..
  rw [es] at hn
  obtain ⟨n1, n2, n3⟩ := List.nodup_append.mp hn
  have n2 : j ∉ sIs B ∧ (sIs B).Nodup := List.nodup_cons.mp n2
  have nA : j ∉ sIs A := fun g => n3 _ g _ List.mem_cons_self rfl
  rw [sh_r_p nA, es, es]
  refine ⟨List.nodup_append.mpr ⟨n1, n2.2, fun x hx y hy => n3 x hx y (List.mem_cons_of_mem _ hy)⟩, fun g => ?_, ?_⟩
  · rcases List.mem_append.mp g with g | g
    · exact nA g
    · exact n2.1 g
  · rw [List.length_append, List.length_append]
    show _ = _ + ((sIs B).length + 1)
    omega
section
variable {S : Nat → Nat → Int32} {nx : Nat → Int32} {H : Int32 → Int64 → Prop} {az : Int} {z : Nat} {kz : Int32} {kf nd en ff : Nat → Int32} {M : Nat → Prop} {F : sp_F} {lim : Int} {al : Nat} {s0 : cm_S} {gs : Nat → Int64} {kb kk sh ks gk gc : Nat → Int32} {gv : Nat → Int64} {fresh held : Int} {x : Int32} {i : Int} {b nm : Nat} {G : List (Nat × Tm)} {Vs : List Int64} {e : Nat → Int64} {bd : Nat} {fs : List cFm} {m1 m2 tn sn hn c : Nat} {ck : Nat → Int32} {cf : Nat → Int64} {Sh : List (Nat × Nat × Nat)} {md ru : Nat} {mo : Int} {db om : Nat} {ph : Nat → Nat} {lv : Nat → Bool} {gA : Nat → Int} {FL : List Nat} {r lo : Nat}
theorem cz_5 (hm : mM S nx M) (hkZ : kz.toInt = (z : Int)) (h : cSO S nx H az z kz kf M F lim al s0 gs kb kk sh ks gk gc gv fresh held x i b nm G Vs e bd fs m1 m2 tn sn hn c ck cf Sh md ru mo db om ph lv gA FL pn0) (hr : x.toInt = (r : Int)) (ho : (S 0 r).toInt = 5) (hcb : c ≤ 1000000) (hlo : (ks fs.length).toInt = (lo : Int)) : ∃ (q : Nat) (K2 : List (Nat × Tm)) (m3 : Nat), zfk kz kf (S 1 r) = (q : Int) ∧ 1 ≤ q ∧ q ≤ Vs.length ∧ b + nm ≤ tn - q ∧ q ≤ tn ∧
    (∀ {p y : Nat} {y9 : Int32} {gs2 : Nat → Int64} {sh2 gk2 gc2 : Nat → Int32} {gv2 : Nat → Int64}, q ≤ 3 → lo ≤ p → p < hn → cFt kz kf gk sh (q : Int) p → (∀ i, p < i → i < hn → ¬ cFt kz kf gk sh (q : Int) i) → sh2 = upd sh p (-1) → y9 = sh p → y9.toInt = (y : Int) → gk2 = upd gk y (S 1 r) → gc2 y = 1 → (∀ j, j ≠ y → gc2 j = gc j) → (∀ j, j < q → gv2 (3 * y + j) = gs (tn - q + j)) → (∀ w, w ≠ y → ∀ j, j < 3 → gv2 (3 * w + j) = gv (3 * w + j)) → gs2 = vp_updL gs (tn - q) (pv2 y9) → ∃ (Sh2 : List (Nat × Nat × Nat)) (ck2 : Nat → Int32) (cf2 : Nat → Int64) (ph2 : Nat → Nat) (lv2 : Nat → Bool) (gA2 : Nat → Int), cSO S nx H az z kz kf M F lim al s0 gs2 kb kk sh2 ks gk2 gc2 gv2 fresh held (nx r) (i + 1) b nm K2 (pv2 (Int32.ofInt (c : Int)) :: Vs.drop q) e bd fs m3 m2 (tn - q + 1) sn hn (c + 1) ck2 cf2 Sh2 md (ru + 1) mo db om ph2 lv2 gA2 FL pn0) ∧
    ((∀ i, lo ≤ i → i < hn → ¬ cFt kz kf gk sh (q : Int) i) → lim ≤ held → cXs F kf lim al s0 3 (S 3 r).toInt sn md ru mo db om held) ∧
    ((∀ i, lo ≤ i → i < hn → ¬ cFt kz kf gk sh (q : Int) i) → held < lim → ∀ {y : Nat} {y9 : Int32} {gs2 : Nat → Int64} {gk2 gc2 : Nat → Int32} {gv2 : Nat → Int64} {FL2 : List Nat} {fresh2 held2 : Int}, q ≤ 3 → y9.toInt = (y : Int) → y < 400 → (∀ w, w ∈ FL2 → w ∈ FL) → y ∉ FL2 → (y ∈ FL ∨ (y : Int) = fresh) → (y : Int) < fresh2 → fresh ≤ fresh2 → held2 = held + 1 → gk2 = upd gk y (S 1 r) → gc2 y = 1 → (∀ j, j ≠ y → gc2 j = gc j) → (∀ j, j < q → gv2 (3 * y + j) = gs (tn - q + j)) → (∀ w, w ≠ y → ∀ j, j < 3 → gv2 (3 * w + j) = gv (3 * w + j)) → gs2 = vp_updL gs (tn - q) (pv2 y9) → ∃ (ck2 : Nat → Int32) (cf2 : Nat → Int64) (ph2 : Nat → Nat) (lv2 : Nat → Bool) (gA2 : Nat → Int), cSO S nx H az z kz kf M F lim al s0 gs2 kb kk sh ks gk2 gc2 gv2 fresh2 held2 (nx r) (i + 1) b nm K2 (pv2 (Int32.ofInt (c : Int)) :: Vs.drop q) e bd fs m3 m2 (tn - q + 1) sn hn (c + 1) ck2 cf2 Sh (md + 1) ru (max mo held2) db om ph2 lv2 gA2 FL2 pn0) := by
  have hl0 := cSO_hl h (X := (md, ru, mo, db, om))
  have hh := h
  obtain ⟨⟨h1, h2, h3, h4, h5, h6, h7⟩, h8, h9, h10, h11⟩ := hh
  obtain ⟨t, K2, zz, w, m3, rfl, g1, g2, g3⟩ := cG_d (fd := kf) hr (Or.inl ho) h3.1 h5
  obtain ⟨-, q2, q3, q, k, q4, q5, q6, q7, q8, q9, p2⟩ : (S 0 r).toInt = 5 ∧ zz = nx r ∧ w = 1 ∧ _ := by
    rcases g1 with g | g | g | g | g | g
    · have := g.1; omega
    · exact g
    · have := g.1; omega
    · obtain ⟨-, -, -, o, g, -⟩ := g; have := cI_op_r o; omega
    · have := g.1; omega
    · have := g.1; omega
  subst q2
  have hM := mQ_r hm h4 hr
  have hh2 : pm_ar t ≤ Vs.length ∧ cHg K2 (Vs.length - pm_ar t + 1) := h3.2.2.1
  rw [q5] at hh2
  have hq := h1.1
  have ek : Int32.toNatClampNeg (S 1 r) = k := zn_li7 q6
  have ew : zfk kz kf (S 1 r) = (q : Int) := by
    unfold zfk
    rw [ek, if_pos ⟨by omega, by omega, by omega⟩]
    exact q8
  have hl : (e :: cEs fs).length = fs.length + 1 := by rw [List.length_cons, cEs_ln]
  have hre := h11
  rw [List.cons_append, gst_c (by decide)] at hre hl0
  have hnd := h9.1.2.2.2.2.1
  have hSc : ∀ w, w ∈ sIs Sh → w < c := fun w hw => (h9.1.2.2.2.1 w hw).1
  have hlt : ∀ w, lv w = true → w < c := fun w hw => (hZ_at h9.1 hw).1
  have hlo2 : (ks (fs.length + 1 - 1)).toInt = (lo : Int) := hlo
  have inj := h9.1.2.2.2.2.2
  refine ⟨q, K2, m3, ew, q4, hh2.1, by omega, by omega, fun {p y y9 gs2 sh2 gk2 gc2 gv2} c0 c1 c2 c3 c4 c5 c6 c7 c8 c9 c10 c11 c12 c13 => ?_, fun c1 c2 => ?_, fun c1 c2 {y y9 gs2 gk2 gc2 gv2 FL2 fresh2 held2} d0 d1 d2 d3 d4 d5 d6 d7 d8 d9 d10 d11 d12 d13 d14 => ?_⟩
  · obtain ⟨id, i1, i2, i3, i4⟩ := cSh_ye (m := q) h8 (by omega) hlo2 h9.2.2.1 hnd c1 c2 c3 c4
    have hst := p2 F lim ((1, t) :: gst (K2 ++ (2, Tm.nil) :: cTs fs)) (gst (K2 ++ (2, Tm.nil) :: cTs fs)) (Vs ++ cVs fs) (e :: cEs fs) sn c ck cf (Sh, md, ru, mo, db, om)
    rw [hl, show (Sh, md, ru, mo, db, om).1 = Sh from rfl, i1] at hst
    have hr2 := cm_re_s hre (cn_1.trans hst)
    obtain ⟨n1, n2, n3⟩ := sh_r_g hnd i2
    have ey : y = ph id := by rw [c6] at c7; omega
    have hsb : ∀ w, w ∈ sIs (sh_r id Sh) → w ∈ sIs Sh := fun w hw => sIs_sub hw
    refine ⟨sh_r id Sh, _, _, _, _, _, cz_5g (y := y) (y9 := y9) hM h q5 q9 g2 (by omega) q6 q7 q8 c0 (by omega) hcb hr2 (fun a ha => sh_r_sub a ha) n1 (by rw [ey]; exact (h9.1.2.2.2.1 id i2).2.2) (fun w hw e9 => ?_) (by rw [ey]; exact hK_re h9.2.1 i2 hsb n3 hlt hSc) (by rw [c5]; exact i4) c7 c8 c9 c10 c11 c12 c13⟩
    rw [ey] at e9
    have g := inj w id (hw.imp (fun u => u) (hsb w)) (Or.inr i2) e9
    rcases hw with u | u
    · have := (h9.1.2.2.2.1 id i2).2.1
      rw [← g, u] at this; cases this
    · exact n2 (g ▸ u)
  · have i1 := cSh_no (m := q) h8 (by omega) hlo2 h9.2.2.1 c1
    refine cz_x h (fun K0 K e0 e1 => ?_)
    rw [p2, hl, show (Sh, md, ru, mo, db, om).1 = Sh from rfl, i1]
    show (if lim ≤ cm_hl kf ((K0, Vs ++ cVs fs, e :: cEs fs, sn, c, ck, cf), (Sh, md, ru, mo, db, om)) then _ else _) = _
    rw [e0, hl0, if_pos c2]
  · have i1 := cSh_no (m := q) h8 (by omega) hlo2 h9.2.2.1 c1
    have hst := p2 F lim ((1, t) :: gst (K2 ++ (2, Tm.nil) :: cTs fs)) (gst (K2 ++ (2, Tm.nil) :: cTs fs)) (Vs ++ cVs fs) (e :: cEs fs) sn c ck cf (Sh, md, ru, mo, db, om)
    rw [hl, show (Sh, md, ru, mo, db, om).1 = Sh from rfl, i1] at hst
    have hst : cm_d F kf lim t ((1, t) :: gst (K2 ++ (2, Tm.nil) :: cTs fs)) (gst (K2 ++ (2, Tm.nil) :: cTs fs)) (Vs ++ cVs fs) (e :: cEs fs) sn c ck cf (Sh, md, ru, mo, db, om) = (if lim ≤ cm_hl kf (((1, t) :: gst (K2 ++ (2, Tm.nil) :: cTs fs), Vs ++ cVs fs, e :: cEs fs, sn, c, ck, cf), (Sh, md, ru, mo, db, om)) then _ else .ok ((gst (K2 ++ (2, Tm.nil) :: cTs fs), pv2 (Int32.ofInt (c : Int)) :: (Vs ++ cVs fs).drop q, e :: cEs fs, sn, c + 1, upd ck c (S 1 r), pm_cf cf (Vs ++ cVs fs) c q), (Sh, md + 1, ru, max mo (cm_hl kf (((1, t) :: gst (K2 ++ (2, Tm.nil) :: cTs fs), Vs ++ cVs fs, e :: cEs fs, sn, c, ck, cf), (Sh, md, ru, mo, db, om)) + 1), db, om))) := hst
    rw [hl0, if_neg (by omega), ← d8] at hst
    have hr2 := cm_re_s hre (cn_1.trans hst)
    obtain ⟨t1, t2⟩ := hK_take (y := y) h9.2.1 d3 d4 d5 d6 d7 d8 hSc hlt
    exact ⟨_, _, _, _, _, cz_5g (y := y) (y9 := y9) hM h q5 q9 g2 (by omega) q6 q7 q8 d0 (by omega) hcb hr2 (fun a ha => ha) hnd d2 t1 t2 h8 d1 d9 d10 d11 d12 d13 d14⟩
end

end
section
/-! one turn of the class, counted: which arm fits -/
section
variable {S : Nat → Nat → Int32} {nx : Nat → Int32} {H : Int32 → Int64 → Prop} {az : Int} {z : Nat} {kf : Nat → Int32}
theorem tm_ub_ca {q k : Nat} {a b : Tm} : tm_ub (Lean.RArray.branch (q + 3) a b) k = (tm_ub a k || tm_ub b k) := rfl
theorem am_ub : ∀ (a : Tm) {k : Nat}, tm_k a = 2 → tm_ub (am_x a) k = true → k < am_h a → tm_ub a k = true
  | .branch 0 (.leaf (some (_ + 3, p, j, h, m, _))) x, k, _, g, l => by
    have l : k < h := l
    have g : tm_ub x k = true := g
    show (tm_ub x k && !(decide ((h : Int) ≤ (k : Int)) && decide ((k : Int) < (h : Int) + (m : Int)))) = true
    rw [g, show decide ((h : Int) ≤ (k : Int)) = false from decide_eq_false (by omega)]; rfl
  | .leaf none, _, g, _, _ => nomatch (show (0 : Nat) = 2 from g)
  | .branch (_ + 3) _ _, _, g, _, _ => nomatch (show (0 : Nat) = 2 from g)
  | .leaf (some (0, _, _, _, _, _)), _, g, _, _ => nomatch (show (1 : Nat) = 2 from g)
  | .leaf (some (_ + 1, _, _, _, _, _)), _, g, _, _ => nomatch (show (1 : Nat) = 2 from g)
  | .branch 0 (.leaf (some (0, _, _, _, _, _))) _, _, g, _, _ => nomatch (show (1 : Nat) = 2 from g)
  | .branch 0 (.leaf (some (1, _, _, _, _, _))) _, _, g, _, _ => nomatch (show (1 : Nat) = 2 from g)
  | .branch 1 (.leaf (some (0, _, _, _, _, _))) (.branch _ _ _), _, g, _, _ => nomatch (show (1 : Nat) = 2 from g)
  | .branch 1 (.leaf (some (_ + 1, _, _, _, _, _))) (.branch _ _ _), _, g, _, _ => nomatch (show (1 : Nat) = 2 from g)
  | .branch 2 (.leaf (some (_, _, _, _, _, _))) (.branch _ _ (.branch _ _ _)), _, g, _, _ => nomatch (show (1 : Nat) = 2 from g)
  | .branch 0 (.leaf (some (2, _, _, _, _, _))) _, _, g, _, _ => nomatch (show (1 : Nat) = 2 from g)
  | .branch 0 (.leaf none) _, _, g, _, _ => nomatch (show (0 : Nat) = 2 from g)
  | .branch 0 (.branch _ _ _) _, _, g, _, _ => nomatch (show (0 : Nat) = 2 from g)
  | .branch 1 (.leaf none) _, _, g, _, _ => nomatch (show (0 : Nat) = 2 from g)
  | .branch 1 (.branch _ _ _) _, _, g, _, _ => nomatch (show (0 : Nat) = 2 from g)
  | .branch 1 (.leaf (some (0, _, _, _, _, _))) (.leaf _), _, g, _, _ => nomatch (show (0 : Nat) = 2 from g)
  | .branch 1 (.leaf (some (_ + 1, _, _, _, _, _))) (.leaf _), _, g, _, _ => nomatch (show (0 : Nat) = 2 from g)
  | .branch 2 (.leaf none) _, _, g, _, _ => nomatch (show (0 : Nat) = 2 from g)
  | .branch 2 (.branch _ _ _) _, _, g, _, _ => nomatch (show (0 : Nat) = 2 from g)
  | .branch 2 (.leaf (some (_, _, _, _, _, _))) (.leaf _), _, g, _, _ => nomatch (show (0 : Nat) = 2 from g)
  | .branch 2 (.leaf (some (_, _, _, _, _, _))) (.branch _ _ (.leaf _)), _, g, _, _ => nomatch (show (0 : Nat) = 2 from g)
theorem cI_arn {mo : Bool} : ∀ (a : Tm) {pv : Nat} {ar : Int32} {en : Nat} {X : List Nat}, tm_k a = 2 → cI S H 0 az a mo pv ar en X → ∃ (Y : List Nat) (v : Nat), X = Y ++ [v] ∧ 0 ≤ ar.toInt ∧ (S 4 (Int32.toNatClampNeg ar)).toInt = (if am_k a = -1 then -2 else am_k a) ∧ (S 6 (Int32.toNatClampNeg ar)).toInt = (pv : Int) ∧ (S 8 (Int32.toNatClampNeg ar)).toInt = (am_h a : Int) ∧ (S 0 v).toInt = 16 ∧ (S 1 v).toInt = (en : Int) ∧ cI S H 0 az (am_x a) false 0 0 0 Y ∧ ∀ n, 1 ≤ n → n ≤ 3 → (S 9 (Int32.toNatClampNeg ar)).toBitVec.getLsbD n = tm_mk (am_x a) n
  | .branch 0 (.leaf (some (_ + 3, p, k, h, m, _))) x, pv, ar, en, X, _, g => by
    obtain ⟨Y, v, e, ⟨-, -, a0⟩, a1, a2, -, a3, a7, a4, a5, a6⟩ := g
    exact ⟨Y, v, e, a0, a1, a2, a3, a4, a5, a6, a7⟩
  | .leaf none, _, _, _, _, g, _ => nomatch (show (0 : Nat) = 2 from g)
  | .branch (_ + 3) _ _, _, _, _, _, g, _ => nomatch (show (0 : Nat) = 2 from g)
  | .leaf (some (0, _, _, _, _, _)), _, _, _, _, g, _ => nomatch (show (1 : Nat) = 2 from g)
  | .leaf (some (_ + 1, _, _, _, _, _)), _, _, _, _, g, _ => nomatch (show (1 : Nat) = 2 from g)
  | .branch 0 (.leaf (some (0, _, _, _, _, _))) _, _, _, _, _, g, _ => nomatch (show (1 : Nat) = 2 from g)
  | .branch 0 (.leaf (some (1, _, _, _, _, _))) _, _, _, _, _, g, _ => nomatch (show (1 : Nat) = 2 from g)
  | .branch 1 (.leaf (some (0, _, _, _, _, _))) (.branch _ _ _), _, _, _, _, g, _ => nomatch (show (1 : Nat) = 2 from g)
  | .branch 1 (.leaf (some (_ + 1, _, _, _, _, _))) (.branch _ _ _), _, _, _, _, g, _ => nomatch (show (1 : Nat) = 2 from g)
  | .branch 2 (.leaf (some (_, _, _, _, _, _))) (.branch _ _ (.branch _ _ _)), _, _, _, _, g, _ => nomatch (show (1 : Nat) = 2 from g)
  | .branch 0 (.leaf (some (2, _, _, _, _, _))) _, _, _, _, _, g, _ => nomatch (show (1 : Nat) = 2 from g)
  | .branch 0 (.leaf none) _, _, _, _, _, g, _ => nomatch (show (0 : Nat) = 2 from g)
  | .branch 0 (.branch _ _ _) _, _, _, _, _, g, _ => nomatch (show (0 : Nat) = 2 from g)
  | .branch 1 (.leaf none) _, _, _, _, _, g, _ => nomatch (show (0 : Nat) = 2 from g)
  | .branch 1 (.branch _ _ _) _, _, _, _, _, g, _ => nomatch (show (0 : Nat) = 2 from g)
  | .branch 1 (.leaf (some (0, _, _, _, _, _))) (.leaf _), _, _, _, _, g, _ => nomatch (show (0 : Nat) = 2 from g)
  | .branch 1 (.leaf (some (_ + 1, _, _, _, _, _))) (.leaf _), _, _, _, _, g, _ => nomatch (show (0 : Nat) = 2 from g)
  | .branch 2 (.leaf none) _, _, _, _, _, g, _ => nomatch (show (0 : Nat) = 2 from g)
  | .branch 2 (.branch _ _ _) _, _, _, _, _, g, _ => nomatch (show (0 : Nat) = 2 from g)
  | .branch 2 (.leaf (some (_, _, _, _, _, _))) (.leaf _), _, _, _, _, g, _ => nomatch (show (0 : Nat) = 2 from g)
  | .branch 2 (.leaf (some (_, _, _, _, _, _))) (.branch _ _ (.leaf _)), _, _, _, _, g, _ => nomatch (show (0 : Nat) = 2 from g)
theorem cfa_fj {kd : Int32} {c w en : Nat} : ∀ (a : Tm) {nn pv : Nat} {ar zz : Int32} {Y : List Nat}, tm_li a → tm_sy a true → tm_wf z kf a c → tm_wi a ≤ w → tm_ln a ≤ nn → cI S H 0 az a true pv ar en Y → zpx nx (nx pv) Y zz → (pm_fi kd.toInt a = none ∧ (cfa (S 4) (S 5) kd nn ar).toInt = -1) ∨ ∃ (y : Tm) (p2 : Nat) (Yb : List Nat) (v : Nat) (v2 : Int32), pm_fi kd.toInt a = some y ∧ 0 ≤ (cfa (S 4) (S 5) kd nn ar).toInt ∧ ((S 4 (Int32.toNatClampNeg (cfa (S 4) (S 5) kd nn ar))).toInt = (if am_k y = -1 then -2 else am_k y) ∧ (am_k y = -1 ∨ S 4 (Int32.toNatClampNeg (cfa (S 4) (S 5) kd nn ar)) = kd) ∧ (S 6 (Int32.toNatClampNeg (cfa (S 4) (S 5) kd nn ar))).toInt = (p2 : Int) ∧ (S 8 (Int32.toNatClampNeg (cfa (S 4) (S 5) kd nn ar))).toInt = (am_h y : Int)) ∧ (S 0 v).toInt = 16 ∧ (S 1 v).toInt = (en : Int) ∧ cI S H 0 az (am_x y) false 0 0 0 Yb ∧ zpx nx (nx p2) Yb v2 ∧ v2.toInt = (v : Int) ∧ aOk z kf c w y ∧ (p2 = pv ∨ p2 ∈ Y) ∧ (∀ n, 1 ≤ n → n ≤ 3 → (S 9 (Int32.toNatClampNeg (cfa (S 4) (S 5) kd nn ar))).toBitVec.getLsbD n = tm_mk (am_x y) n) ∧ ∀ k, tm_ub (am_x y) k = true → k < c → tm_ub a k = true
  | .leaf none, n, pv, ar, zz, Y, _, _, _, _, _, h, _ => by
    have e := h.2 rfl
    refine Or.inl ⟨rfl, ?_⟩
    cases n with
    | zero => show (-1 : Int32).toInt = -1; decide
    | succ n => rw [cfa, if_pos e]; decide
  | .branch (_ + 3) a b, n, pv, ar, zz, Y, hl, hs, hw, hi, hn, h, hz => by
    have hn : tm_ln b + 1 ≤ n := hn
    have hi : max (tm_wi a) (tm_wi b) ≤ w := hi
    obtain ⟨n, rfl⟩ : ∃ k, n = k + 1 := ⟨n - 1, by omega⟩
    obtain ⟨X, Z, rfl, q1, q2, q3⟩ := h
    obtain ⟨z1, k1, k2⟩ := zpx_app hz
    obtain ⟨Yb, v, rfl, a0, a1, a2, a3, a4, a5, a6, a7⟩ := cI_arn a hs.1.1 q1
    have ok := aOk_of (w := w) a hs.1.1 hs.1.2 hw.1 (by omega)
    have hne : ¬ ar.toInt = -1 := by omega
    have hk : am_k a = -1 ∨ 0 ≤ am_k a := ok.2.2.1.imp (fun g => g.1) (fun ⟨j, e, _⟩ => by omega)
    have e1 : ∀ q, pm_fi kd.toInt (Lean.RArray.branch (q + 3) a b) = if am_k a = -1 ∨ am_k a = kd.toInt then some a else pm_fi kd.toInt b := fun _ => rfl
    have e2 : cfa (S 4) (S 5) kd (n + 1) ar = if (S 4 (Int32.toNatClampNeg ar)).toInt = -2 ∨ S 4 (Int32.toNatClampNeg ar) = kd then ar else cfa (S 4) (S 5) kd n (S 5 (Int32.toNatClampNeg ar)) := by
      rw [cfa, if_neg hne]
    have e3 : (am_k a = -1 ∨ am_k a = kd.toInt) ↔ ((S 4 (Int32.toNatClampNeg ar)).toInt = -2 ∨ S 4 (Int32.toNatClampNeg ar) = kd) := by
      by_cases u : am_k a = -1
      · rw [if_pos u] at a1
        exact ⟨fun _ => Or.inl a1, fun _ => Or.inl u⟩
      · rw [if_neg u] at a1
        exact ⟨fun g => Or.inr (Int32.toInt_inj.mp (by rw [a1]; exact g.resolve_left u)), fun g => Or.inr (g.elim (fun g => by omega) (fun g => by rw [← a1, g]))⟩
    by_cases u : am_k a = -1 ∨ am_k a = kd.toInt
    · rw [e1, e2, if_pos u, if_pos (e3.mp u)]
      obtain ⟨v2, k3, k4⟩ := zpx_app k1
      refine Or.inr ⟨a, pv, Yb, v, v2, rfl, a0, ⟨a1, ?_, a2, a3⟩, a4, a5, a6, k3, k4.1, ok, Or.inl rfl, a7, fun k g1 g2 => by rw [tm_ub_ca, am_ub a hs.1.1 g1 (by have := ok.1; omega), Bool.true_or]⟩
      by_cases u2 : am_k a = -1
      · exact Or.inl u2
      · rw [if_neg u2] at a1
        exact Or.inr (Int32.toInt_inj.mp (by rw [a1]; exact u.resolve_left u2))
    · rw [e1, e2, if_neg u, if_neg (fun g => u (e3.mpr g))]
      rcases cfa_fj (kd := kd) (c := c) (w := w) (nn := n) b hl hs.2 hw.2 (by omega) (by omega) q2 (by show zpx nx (nx (zla pv (Yb ++ [v]))) Z zz; rw [← zpx_la k1]; exact k2) with g | ⟨y, p2, Yb2, v2, v3, r1, r2, r3, r4, r5, r6, r7, r8, r9, r10, r11, r12⟩
      · exact Or.inl g
      · refine Or.inr ⟨y, p2, Yb2, v2, v3, r1, r2, r3, r4, r5, r6, r7, r8, r9, Or.inr ?_, r11, fun k g1 g2 => by rw [tm_ub_ca, r12 k g1 g2, Bool.or_true]⟩
        rcases r10 with g | g
        · have g : p2 = zla pv (Yb ++ [v]) := g
          rw [g]
          exact List.mem_append.mpr (Or.inl (zla_mem (X := Yb ++ [v]) (by simp) pv))
        · exact List.mem_append.mpr (Or.inr g)
  | .leaf (some (0, _, _, _, _, _)), _, _, _, _, _, g, _, _, _, _, _, _ => g.elim
  | .leaf (some (_ + 1, _, _, _, _, _)), _, _, _, _, _, g, _, _, _, _, _, _ => g.elim
  | .branch 0 (.leaf (some (0, _, _, _, _, _))) _, _, _, _, _, _, g, _, _, _, _, _, _ => g.elim
  | .branch 0 (.leaf (some (1, _, _, _, _, _))) _, _, _, _, _, _, g, _, _, _, _, _, _ => g.elim
  | .branch 1 (.leaf (some (0, _, _, _, _, _))) (.branch _ _ _), _, _, _, _, _, g, _, _, _, _, _, _ => g.elim
  | .branch 1 (.leaf (some (_ + 1, _, _, _, _, _))) (.branch _ _ _), _, _, _, _, _, g, _, _, _, _, _, _ => g.elim
  | .branch 2 (.leaf (some (_, _, _, _, _, _))) (.branch _ _ (.branch _ _ _)), _, _, _, _, _, g, _, _, _, _, _, _ => g.elim
  | .branch 0 (.leaf (some (2, _, _, _, _, _))) _, _, _, _, _, _, g, _, _, _, _, _, _ => g.elim
  | .branch 0 (.leaf (some (_ + 3, _, _, _, _, _))) _, _, _, _, _, _, g, _, _, _, _, _, _ => g.elim
  | .branch 0 (.leaf none) _, _, _, _, _, _, g, _, _, _, _, _, _ => g.elim
  | .branch 0 (.branch _ _ _) _, _, _, _, _, _, g, _, _, _, _, _, _ => g.elim
  | .branch 1 (.leaf none) _, _, _, _, _, _, g, _, _, _, _, _, _ => g.elim
  | .branch 1 (.branch _ _ _) _, _, _, _, _, _, g, _, _, _, _, _, _ => g.elim
  | .branch 1 (.leaf (some (0, _, _, _, _, _))) (.leaf _), _, _, _, _, _, g, _, _, _, _, _, _ => g.elim
  | .branch 1 (.leaf (some (_ + 1, _, _, _, _, _))) (.leaf _), _, _, _, _, _, g, _, _, _, _, _, _ => g.elim
  | .branch 2 (.leaf none) _, _, _, _, _, _, g, _, _, _, _, _, _ => g.elim
  | .branch 2 (.branch _ _ _) _, _, _, _, _, _, g, _, _, _, _, _, _ => g.elim
  | .branch 2 (.leaf (some (_, _, _, _, _, _))) (.leaf _), _, _, _, _, _, g, _, _, _, _, _, _ => g.elim
  | .branch 2 (.leaf (some (_, _, _, _, _, _))) (.branch _ _ (.leaf _)), _, _, _, _, _, g, _, _, _, _, _, _ => g.elim
end

end
section
/-! one turn of the class, counted: a match -/
/-- the arm that fits: its rows, its fields, what is needed there -/
def cMb (S : Nat → Nat → Int32) (nx : Nat → Int32) (H : Int32 → Int64 → Prop) (az : Int) (z : Nat) (kz : Int32) (kf nd : Nat → Int32) (M : Nat → Prop) (nm bd : Nat) (K2 : List (Nat × Tm)) (t y : Tm) (am : Int32) (sl pp m3 : Nat) : Prop :=
  ((S 6 (Int32.toNatClampNeg am)).toInt = (pp : Int) ∧ M pp ∧ (S 8 (Int32.toNatClampNeg am)).toInt = (am_h y : Int) ∧ zfk kz kf (S 4 (Int32.toNatClampNeg am)) = (am_m y : Int) ∧ ((S 4 (Int32.toNatClampNeg am)).toInt = -2 ↔ am_k y = -1) ∧ (∀ n, 1 ≤ n → n ≤ 3 → zbit (S 9 (Int32.toNatClampNeg am)) n = tm_mk (am_x y) n)) ∧
  (am_m y ≤ 3 ∧ am_h y + am_m y ≤ 24 ∧ am_h y + am_m y ≤ nm ∧ sl < am_h y ∧ (am_k y = -1 → am_m y = 0)) ∧
  ((∀ k, zNp nd (nx pp) k = nF ((0, am_x y) :: K2) k) ∧ (∀ k, nF ((0, am_x y) :: K2) k = true → k < am_h y + am_m y) ∧ (∀ k, nF ((0, am_x y) :: K2) k = true → k < am_h y → nF ((1, t) :: K2) k = true) ∧ (∀ k, nF ((1, t) :: K2) k = true → k < am_h y) ∧ nF ((1, t) :: K2) sl = true) ∧
  (∀ (j : Nat) (tt : Tm), j = 3 ∨ j = 4 ∧ tt = Tm.nil → cKg S nx H az ((0, am_x y) :: (j, tt) :: K2) (nx pp) (1 + m3) ∧ gSc z kf ((0, am_x y) :: (j, tt) :: K2)) ∧ cOk z kf (max bd (am_h y + am_m y)) nm (0, am_x y)
theorem nF_mk {j : Nat} {x tt : Tm} {K : List (Nat × Tm)} {k : Nat} (h : j = 3 ∨ j = 4 ∧ tt = Tm.nil) : nF ((0, x) :: (j, tt) :: K) k = nF ((0, x) :: K) k := by
  rw [nF_g0, nF_g0]
  rcases h with h | ⟨h, h2⟩
  · subst h; rfl
  · subst h; subst h2; rw [nF_m4]
section
variable {S : Nat → Nat → Int32} {nx : Nat → Int32} {H : Int32 → Int64 → Prop} {az : Int} {z : Nat} {kz : Int32} {kf nd : Nat → Int32} {M : Nat → Prop} {F : sp_F} {lim : Int} {al : Nat} {s0 : cm_S} {gs gs2 : Nat → Int64} {kb kk sh ks sh2 gk gc gc2 : Nat → Int32} {gv : Nat → Int64} {fresh held fresh2 held2 : Int} {x : Int32} {i : Int} {b nm : Nat} {G K2 : List (Nat × Tm)} {Vs : List Int64} {e e2 : Nat → Int64} {bd : Nat} {fs : List cFm} {m1 m2 m3 tn sn hn c : Nat} {ck : Nat → Int32} {cf : Nat → Int64} {Sh Sh2 : List (Nat × Nat × Nat)} {md ru : Nat} {mo : Int} {db om db2 : Nat} {ph : Nat → Nat} {lv lv2 : Nat → Bool} {gA gA2 : Nat → Int} {FL FL2 : List Nat} {r sl pp : Nat} {t y : Tm} {am : Int32}
/-- what a match finds -/
theorem cz_15 {kd : Int32} (hm : mM S nx M) (hN : hNd S nx H az z kf M nd) (hkZ : kz.toInt = (z : Int)) (h : cSO S nx H az z kz kf M F lim al s0 gs kb kk sh ks gk gc gv fresh held x i b nm G Vs e bd fs m1 m2 tn sn hn c ck cf Sh md ru mo db om ph lv gA FL pn0) (hr : x.toInt = (r : Int)) (ho : (S 0 r).toInt = 15) (hkd : ∀ u : Int64, u = gs (b + Int32.toNatClampNeg (S 1 r)) → kd.toInt = if zhs u = 0 then -1 else if zhs u = 2 then (gk (Int32.toNatClampNeg u.toInt32)).toInt else u.toInt32.toInt) (ha : am = cfa (S 4) (S 5) kd 8 (S 2 r)) : ∃ (sl m3 : Nat) (t a : Tm) (K2 : List (Nat × Tm)), G = (1, t) :: K2 ∧ (S 1 r).toInt = (sl : Int) ∧ sl < 24 ∧ sl < nm ∧ vr ph (e sl) (gs (b + sl)) ∧ (zhs (e sl) = 2 → lv (Int32.toNatClampNeg (e sl).toInt32) = true) ∧ (∀ k, zbit (nd r) k = nF ((1, t) :: K2) k) ∧ pm_ar t = 0 ∧ i + 1 + (1 + m3) ≤ i + m1 ∧ (∀ (F : sp_F) (lim : Int) (K0 K : List (Nat × Tm)) (V : List Int64) (E : List (Nat → Int64)) (n c : Nat) (ck : Nat → Int32) (cf : Nat → Int64) (X : cm_X), cm_d F kf lim t K0 K V E n c ck cf X = cm_mt kf (S 3 r).toInt sl a K0 K V E n c ck cf X) ∧ pm_kd ck (e sl) = kd.toInt ∧
    (am.toInt = -1 → cXs F kf lim al s0 2 (S 3 r).toInt sn md ru mo db om held) ∧
    (am.toInt ≠ -1 → 0 ≤ am.toInt ∧ ∃ (y : Tm) (pp : Nat), pm_fi kd.toInt a = some y ∧ cMb S nx H az z kz kf nd M nm bd K2 t y am sl pp m3 ∧ (am_k y = -1 ∨ S 4 (Int32.toNatClampNeg am) = kd)) := by
  have hh := h
  obtain ⟨⟨h1, h2, h3, h4, h5, h6, h7⟩, h8, h9, h10, h11⟩ := hh
  obtain ⟨t, K2, zz, w, m3, rfl, g1, g2, g3⟩ := cG_d (fd := kf) hr (Or.inr (Or.inr ho)) h3.1 h5
  obtain ⟨-, q3, q5, sl, a, Y, c0, q6, q7, q8, q9, q10, q11, q12, q13, q14, q15, q16, q17, p2⟩ : (S 0 r).toInt = 15 ∧ w = 2 ∧ _ := by
    rcases g1 with g | g | g | g | g | g
    · have := g.1; omega
    · have := g.1; omega
    · exact g
    · obtain ⟨-, -, -, o, g, -⟩ := g; have := cI_op_r o; omega
    · have := g.1; omega
    · have := g.1; omega
  have hM := mQ_r hm h4 hr
  have es : Int32.toNatClampNeg (S 1 r) = sl := zn_li7 q6
  have hs : nF ((1, t) :: K2) sl = true := by rw [nF_g1, q16 sl, beq_self_eq_true]; rfl
  obtain ⟨s1, s2⟩ := nF_bd h3.1 h3.2.1 hs
  have hv := h1.2.2 sl hs
  have mk := cSO_mk h
  have hlv : zhs (e sl) = 2 → lv (Int32.toNatClampNeg (e sl).toInt32) = true := fun g => by
    refine hZ_lv h9.1 ?_
    have a1 := zNb_ge (p := nF (((1, t) :: K2) ++ (2, Tm.nil) :: cTs fs)) (e := e) (x := Int32.toNatClampNeg (e sl).toInt32) s2 (by rw [nF_a2 mk.2]; exact hs)
    have hu : zhs (gs (b + sl)) = 2 := by rw [vr_h hv]; exact g
    rw [zr_w2 hv hu, if_pos rfl] at a1
    have a2 := mRv_n (x := Int32.toNatClampNeg (e sl).toInt32) (V := Vs ++ cVs fs)
    have a3 := mRn_n (x := Int32.toNatClampNeg (e sl).toInt32) (E := cEs fs) (K := aF (((1, t) :: K2) ++ (2, Tm.nil) :: cTs fs))
    show 1 ≤ (mRv (Vs ++ cVs fs) _ + (zNb (nF (((1, t) :: K2) ++ (2, Tm.nil) :: cTs fs)) e _ + mRn (cEs fs) (aF (((1, t) :: K2) ++ (2, Tm.nil) :: cTs fs)) _)) + zNb pn0 e _
    rw [zNb_n]
    omega
  have ekd : pm_kd ck (e sl) = kd.toInt := by
    rw [hkd _ rfl, es]
    unfold pm_kd
    rw [vr_h hv]
    by_cases u0 : zhs (e sl) = 0
    · rw [if_pos u0, if_pos u0]
    · rw [if_neg u0, if_neg u0]
      by_cases u : zhs (e sl) = 2
      · have hu : zhs (gs (b + sl)) = 2 := by rw [vr_h hv]; exact u
        rw [if_pos u, if_pos u, (vr_c hv hu).2.2, (hZ_at h9.1 (hlv u)).2.2.1]
      · have hu : ¬ zhs (gs (b + sl)) = 2 := by rw [vr_h hv]; exact u
        rw [if_neg u, if_neg u, (vr_n hv hu).1]
  have eX : ∀ k, zbit (nd r) k = nF ((1, t) :: K2) k := fun k => by
    rw [← zNp_1 hr]; exact hN h3.2.1 h5 h4 k
  refine ⟨sl, m3, t, a, K2, rfl, q6, s2, by have := h3.2.2.2; omega, hv, hlv, eX, q5, by omega, p2, ekd, fun g => ?_, fun g => ?_⟩
  · rcases cfa_fj (kd := kd) (w := nm) (nn := 8) a q9 q10 q11 q13 q12 q14 q15 with ⟨k1, k2⟩ | ⟨y, pp, Yb, vv, v2, k1, k2, -⟩
    · refine cz_x h (fun K0 K _ _ => ?_)
      rw [p2]
      unfold cm_mt
      rw [show (e :: cEs fs).headD (fun _ => 0) sl = e sl from rfl, ekd, k1]
    · rw [ha] at g; omega
  · rcases cfa_fj (kd := kd) (w := nm) (nn := 8) a q9 q10 q11 q13 q12 q14 q15 with ⟨k1, k2⟩ | ⟨y, pp, Yb, vv, v2, k1, k2, ⟨k3, k4, k5, k6⟩, k7, k8, k9, k10, k11, ok, k12, k13, k14⟩
    · rw [ha] at g; exact absurd k2 g
    · rw [← ha] at k2 k3 k4 k5 k6 k13
      obtain ⟨o1, o2, o3, o4, o5, o6, o7⟩ := ok
      have pz := mQ_px hm hM q15
      have hpp : M pp := by
        rcases k12 with u | u
        · rw [u]; exact hM
        · exact pz.1 pp u
      obtain ⟨sc, nsc, hsl, h24, hmdy⟩ := q17 K2 kd.toInt y h3.2.1 k1
      obtain ⟨sy1, cc, w1, w2, w3⟩ := h3.2.1.2.1 (Or.inr rfl)
      have ez : zz = nx (zla r Y) := zpx_la q15
      have hK3 : ∀ (j : Nat) (tt : Tm), j = 3 ∨ j = 4 ∧ tt = Tm.nil → cKg S nx H az ((0, am_x y) :: (j, tt) :: K2) (nx pp) (1 + m3) := fun j tt hj => by
        refine cKg_w k9 k10 ⟨0, v2, zz, 1, m3, rfl, Or.inr (Or.inr ⟨hj.imp (fun u => u) (fun u => u.1), vv, k11, k7, by omega, ?_, rfl⟩), g2, by omega⟩
        rw [ez, zn_li7 k8]
      have hsc : ∀ (j : Nat) (tt : Tm), j = 3 ∨ j = 4 ∧ tt = Tm.nil → gSc z kf ((0, am_x y) :: (j, tt) :: K2) := fun j tt hj => by
        have hj3 : j = 3 ∨ j = 4 := hj.imp (fun u => u) (fun u => u.1)
        refine ⟨⟨sc.1.1, by rw [mdj_1 (Or.inl rfl), gm_3 hj3]; omega⟩, fun u => ?_, ?_⟩
        · obtain ⟨u1, u2, u3, u4, u5⟩ := sc.2.1 u
          refine ⟨u1, u2, u3, u4, fun k hk => u5 k ?_⟩
          rcases hj with v | ⟨v, v2⟩
          · subst v; exact hk
          · subst v; subst v2; rw [← nF_m4]; exact hk
        · exact ⟨⟨by rcases hj with v | v; exact Or.inr (Or.inr (Or.inl v)); exact Or.inr (Or.inr (Or.inr v)), by rw [mdj_3 hj3]; omega⟩, fun u => by omega, sc.2.2⟩
      have e4 : ∀ k, zNp nd (nx pp) k = nF ((0, am_x y) :: K2) k := fun k => by
        rw [hN (hsc 4 Tm.nil (Or.inr ⟨rfl, rfl⟩)) (hK3 4 Tm.nil (Or.inr ⟨rfl, rfl⟩)) (Or.inl ⟨pp, hpp, rfl⟩) k]
        exact nF_mk (Or.inr ⟨rfl, rfl⟩)
      have hold : ∀ k, nF ((1, t) :: K2) k = true → k < am_h y := fun k hk => by
        rcases Nat.lt_or_ge k (am_h y) with u | u
        · exact u
        · exfalso
          rw [nF_g1, nsc k u, Bool.or_false, q16 k] at hk
          rcases (Bool.or_eq_true _ _).mp hk with v | v
          · have := eq_of_beq v
            omega
          · have := wf_ub a q11 v
            omega
      refine ⟨k2, y, pp, k1, ⟨⟨k5, hpp, k6, ?_, ?_, k13⟩, ⟨o2, ?_, o6, hold sl hs, fun u => ?_⟩, ⟨e4, fun k hk => ?_, fun k hk hlt => ?_, hold, hs⟩, fun j tt hj => ⟨hK3 j tt hj, hsc j tt hj⟩, ?_⟩, k4⟩
      · unfold zfk
        rcases o3 with ⟨u1, u2⟩ | ⟨j, u1, u2, u3⟩
        · rw [if_pos u1] at k3
          rw [if_neg (by omega), u2]; rfl
        · rw [if_neg (by omega)] at k3
          have ej : Int32.toNatClampNeg (S 4 (Int32.toNatClampNeg am)) = j := zn_li7 (by omega)
          rw [ej]
          by_cases u : 0 < (kf j).toInt
          · rw [if_pos ⟨by omega, by omega, u⟩]; exact u3
          · rw [if_neg (fun g => u g.2.2)]; omega
      · rcases o3 with ⟨u1, u2⟩ | ⟨j, u1, u2, u3⟩
        · rw [if_pos u1] at k3
          exact ⟨fun _ => u1, fun _ => k3⟩
        · rw [if_neg (by omega)] at k3
          exact ⟨fun u => by omega, fun u => by omega⟩
      · exact h24
      · rcases o3 with ⟨u1, u2⟩ | ⟨j, u1, u2, u3⟩
        · exact u2
        · omega
      · rw [nF_g0] at hk
        rcases (Bool.or_eq_true _ _).mp hk with v | v
        · have := wf_ub _ o4 v; omega
        · rcases Nat.lt_or_ge k (am_h y) with u | u
          · omega
          · rw [nsc k u] at v; cases v
      · rw [nF_g0] at hk
        rw [nF_g1, q16 k]
        rcases (Bool.or_eq_true _ _).mp hk with v | v
        · rw [k14 k v (by omega), Bool.or_true, Bool.true_or]
        · rw [v, Bool.or_true]
      · exact ⟨o5, ⟨_, o4, by omega⟩, o7⟩
end

end
section
/-! one turn of the class, counted: a match's ways -/
theorem zs_ap {f : Nat → Int} {a : Nat} : ∀ {n : Nat}, zs (a + n) f = zs a f + zs n (fun i => f (a + i))
  | 0 => by show zs a f = zs a f + 0; omega
  | n + 1 => by
    show zs (a + n) f + f (a + n) = zs a f + (zs n (fun i => f (a + i)) + f (a + n))
    rw [zs_ap]; omega
theorem zs_ct {f : Nat → Int} {q : Nat} : ∀ {n : Nat}, q ≤ n → (∀ k, q ≤ k → f k = 0) → zs n f = zs q f
  | 0, h, _ => by
    obtain rfl : q = 0 := by omega
    rfl
  | n + 1, h, hf => by
    by_cases g : q = n + 1
    · subst g; rfl
    · show zs n f + f n = _
      rw [zs_ct (by omega) hf, hf n (by omega)]; omega
/-- the names of p, where those from h on are a cell's fields -/
theorem zNb_bd {p : Nat → Bool} {e : Nat → Int64} {cf : Nat → Int64} {d h m x : Nat} (hp : ∀ k, p k = true → k < h + m) (h24 : h + m ≤ 24) : zNb p (pm_bd e cf d h m) x = zNb (fun k => p k && decide (k < h)) e x + zs m (fun i => if p (h + i) = true then zr (cf (3 * d + i)) x else 0) := by
  unfold zNb
  rw [zs_ct (q := h + m) (f := fun i => if p i = true then zr (pm_bd e cf d h m i) x else 0) h24 (fun k hk => if_neg (fun g => by have := hp k g; omega)), zs_ap, zs_ct (q := h) (f := fun i => if (p i && decide (i < h)) = true then zr (e i) x else 0) (by omega) (fun k hk => if_neg (by rw [show decide (k < h) = false from decide_eq_false (by omega), Bool.and_false]; decide))]
  congr 1
  · exact zs_ext (fun k hk => by
      show (if p k = true then zr (if h ≤ k ∧ k < h + m then cf (3 * d + (k - h)) else e k) x else 0) = (if (p k && decide (k < h)) = true then zr (e k) x else 0)
      rw [show (if h ≤ k ∧ k < h + m then cf (3 * d + (k - h)) else e k) = e k from if_neg (by omega), show decide (k < h) = true from decide_eq_true hk, Bool.and_true])
  · exact zs_ext (fun k hk => by
      show (if p (h + k) = true then zr (if h ≤ h + k ∧ h + k < h + m then cf (3 * d + (h + k - h)) else e (h + k)) x else 0) = _
      rw [show (if h ≤ h + k ∧ h + k < h + m then cf (3 * d + (h + k - h)) else e (h + k)) = cf (3 * d + (h + k - h)) from if_pos (by omega), show h + k - h = k from by omega])
theorem zs_pn {p : Nat → Bool} {f : Nat → Int} {h m : Nat} : zs m f = zs m (fun i => if p (h + i) = true then f i else 0) + zs m (fun i => if p (h + i) = true then 0 else f i) := by
  rw [← zs_add]
  exact zs_ext (fun k _ => by
    show f k = (if p (h + k) = true then f k else 0) + (if p (h + k) = true then 0 else f k)
    by_cases g : p (h + k) = true
    · rw [if_pos g, if_pos g]; omega
    · rw [if_neg g, if_neg g]; omega)
/-- names that the arm needs no more, without the match's own -/
def cDn (nd : Nat → Int32) (r : Nat) (x2 : Int32) (sl k : Nat) : Bool := zbit (nd r) k && !zNp nd x2 k && !(k == sl)
section
variable {S : Nat → Nat → Int32} {nx : Nat → Int32} {H : Int32 → Int64 → Prop} {az : Int} {z : Nat} {kz : Int32} {kf nd : Nat → Int32} {M : Nat → Prop} {F : sp_F} {lim : Int} {al : Nat} {s0 : cm_S} {gs gs2 : Nat → Int64} {kb kk sh ks sh2 gk gc gc2 : Nat → Int32} {gv : Nat → Int64} {fresh held fresh2 held2 : Int} {x : Int32} {i : Int} {b nm : Nat} {G K2 : List (Nat × Tm)} {Vs : List Int64} {e e2 : Nat → Int64} {bd : Nat} {fs : List cFm} {m1 m2 m3 tn sn hn c : Nat} {ck : Nat → Int32} {cf : Nat → Int64} {Sh Sh2 : List (Nat × Nat × Nat)} {md ru : Nat} {mo : Int} {db om db2 : Nat} {ph : Nat → Nat} {lv lv2 : Nat → Bool} {gA gA2 : Nat → Int} {FL FL2 : List Nat} {r sl pp : Nat} {t y a : Tm} {am : Int32}
theorem cz_mg {j : Nat} {tt : Tm} (h : cSO S nx H az z kz kf M F lim al s0 gs kb kk sh ks gk gc gv fresh held x i b nm ((1, t) :: K2) Vs e bd fs m1 m2 tn sn hn c ck cf Sh md ru mo db om ph lv gA FL pn0) (hb : cMb S nx H az z kz kf nd M nm bd K2 t y am sl pp m3) (ha : pm_ar t = 0) (hi : i + 1 + (1 + m3) ≤ i + m1) (hj : j = 3 ∨ j = 4 ∧ tt = Tm.nil) (c1 : ∀ q, q < b ∨ b + nm ≤ q → gs2 q = gs q) (c2 : ∀ k, nF ((0, am_x y) :: K2) k = true → vr ph (e2 k) (gs2 (b + k))) (hH : cHp kz kf z ph lv2 gA2 c ck cf (mRt (((0, am_x y) :: (j, tt) :: K2) ++ (2, Tm.nil) :: cTs fs) (Vs ++ cVs fs) (e2 :: cEs fs)) Sh2 gk gc2 gv FL2 fresh2 held2) (hSh : cShr ph sh2 ks (((0, am_x y) :: (j, tt) :: K2) ++ (2, Tm.nil) :: cTs fs) (fs.length + 1) Sh2 (hn + 1)) (hre : cm_re F kf lim al s0 ((gst (((0, am_x y) :: (j, tt) :: K2) ++ (2, Tm.nil) :: cTs fs), Vs ++ cVs fs, e2 :: cEs fs, sn, c, ck, cf), (Sh2, md, ru, mo, db2, om))) : cSO S nx H az z kz kf M F lim al s0 gs2 kb kk sh2 ks gk gc2 gv fresh2 held2 (nx pp) (i + 1) b nm ((0, am_x y) :: (j, tt) :: K2) Vs e2 (max bd (am_h y + am_m y)) fs (1 + m3) m2 tn sn (hn + 1) c ck cf Sh2 md ru mo db2 om ph lv2 gA2 FL2 pn0 := by
  obtain ⟨⟨h1, h2, h3, h4, h5, h6, h7⟩, h8, h9, h10, h11⟩ := h
  obtain ⟨⟨b1, b2, b3, b4, b5, b6⟩, ⟨b7, b8, b9, b10, b11⟩, ⟨b12, b13, b14, b15, b16⟩, b17, b18⟩ := hb
  obtain ⟨k1, k2, k3, k4⟩ := h3
  have hh2 : pm_ar t ≤ Vs.length ∧ cHg K2 (Vs.length - pm_ar t + 1) := k3
  rw [ha] at hh2
  have hg : cHg ((0, am_x y) :: (j, tt) :: K2) Vs.length := by
    show (if j = 0 then cHg K2 (Vs.length + 1 + 1) else if j = 1 then pm_ar tt ≤ Vs.length + 1 ∧ cHg K2 (Vs.length + 1 - pm_ar tt + 1) else cHg K2 (Vs.length + 1))
    rw [if_neg (by omega), if_neg (by omega)]
    exact hh2.2
  obtain ⟨hK, hs⟩ := b17 j tt hj
  refine ⟨⟨⟨h1.1, fun q hq => ?_, fun k hk => c2 k (by rw [← nF_mk hj]; exact hk)⟩, h2, ⟨fun u hu hj2 => ?_, hs, hg, by omega⟩, Or.inl ⟨pp, b2, rfl⟩, hK, cFc_cg (fun q hq => c1 q (Or.inl hq)) (fun _ _ => ⟨rfl, rfl⟩) h6, by omega⟩, hSh, ⟨hZ_R hH.1 (fun w => by rw [zNb_n]; omega), hH.2⟩, fun k hk => (nomatch (show false = true from hk)), hre⟩
  · rw [c1 _ (Or.inr (by omega))]; exact h1.2.1 q hq
  · rcases List.mem_cons.mp hu with g | g
    · rw [g]; exact b18
    · rcases List.mem_cons.mp g with g | g
      · rw [g] at hj2
        have hj2 : j = 0 ∨ j = 1 := hj2
        omega
      · exact cOk_mo (by omega) (k1 u (List.mem_cons_of_mem _ g) hj2)
/-- what is held before, by what the arm needs -/
theorem cz_mR (h : cSO S nx H az z kz kf M F lim al s0 gs kb kk sh ks gk gc gv fresh held x i b nm ((1, t) :: K2) Vs e bd fs m1 m2 tn sn hn c ck cf Sh md ru mo db om ph lv gA FL pn0) (hb : cMb S nx H az z kz kf nd M nm bd K2 t y am sl pp m3) (hx : ∀ k, zbit (nd r) k = nF ((1, t) :: K2) k) (w : Nat) : mRt (((1, t) :: K2) ++ (2, Tm.nil) :: cTs fs) (Vs ++ cVs fs) (e :: cEs fs) w + zNb pn0 e w = mRv (Vs ++ cVs fs) w + mRn (cEs fs) (cTs fs) w + zNb (fun k => nF ((0, am_x y) :: K2) k && decide (k < am_h y)) e w + zNb (cDn nd r (nx pp) sl) e w + (if nF ((0, am_x y) :: K2) sl = true then 0 else zr (e sl) w) := by
  have mk := cSO_mk h
  obtain ⟨⟨b1, b2, b3, b4, b5, b6⟩, ⟨b7, b8, b9, b10, b11⟩, ⟨b12, b13, b14, b15, b16⟩, b17, b18⟩ := hb
  have a0 : mRt (((1, t) :: K2) ++ (2, Tm.nil) :: cTs fs) (Vs ++ cVs fs) (e :: cEs fs) w = mRv (Vs ++ cVs fs) w + (zNb (nF ((1, t) :: K2)) e w + mRn (cEs fs) (cTs fs) w) := by
    unfold mRt
    rw [mRn_c, aF_a2 mk.2, zNb_e (p := nF (((1, t) :: K2) ++ (2, Tm.nil) :: cTs fs)) (q := nF ((1, t) :: K2)) (f := e) (fun j _ => nF_a2 mk.2) (fun _ _ _ => rfl)]
  have a1 := zNb_a (p := nF ((1, t) :: K2)) (q := fun k => nF ((0, am_x y) :: K2) k && decide (k < am_h y)) (r := fun k => nF ((1, t) :: K2) k && !nF ((0, am_x y) :: K2) k) (e := e) (x := w) (fun j _ => by
    show nF ((1, t) :: K2) j = ((nF ((0, am_x y) :: K2) j && decide (j < am_h y)) || (nF ((1, t) :: K2) j && !nF ((0, am_x y) :: K2) j))
    by_cases u : nF ((1, t) :: K2) j = true
    · rw [u, decide_eq_true (b15 j u)]
      cases nF ((0, am_x y) :: K2) j <;> rfl
    · rw [zbf7 u, Bool.false_and, Bool.or_false]
      symm
      refine zbf7 (fun v => ?_)
      obtain ⟨v1, v2⟩ := (Bool.and_eq_true _ _).mp v
      exact u (b14 j v1 (of_decide_eq_true v2))) (fun j _ hj => by
    show (nF ((1, t) :: K2) j && !nF ((0, am_x y) :: K2) j) = false
    rw [((Bool.and_eq_true _ _).mp hj).1, Bool.not_true, Bool.and_false])
  have a2 : zNb (fun k => nF ((1, t) :: K2) k && !nF ((0, am_x y) :: K2) k) e w = zNb (cDn nd r (nx pp) sl) e w + (if nF ((0, am_x y) :: K2) sl = true then 0 else zr (e sl) w) := by
    by_cases u : nF ((0, am_x y) :: K2) sl = true
    · rw [if_pos u, Int.add_zero]
      refine zNb_e (fun j _ => ?_) (fun _ _ _ => rfl)
      show (nF ((1, t) :: K2) j && !nF ((0, am_x y) :: K2) j) = (zbit (nd r) j && !zNp nd (nx pp) j && !(j == sl))
      rw [hx j, b12 j]
      by_cases v : j = sl
      · rw [v, u, Bool.not_true, Bool.and_false, Bool.false_and]
      · rw [beq_eq_false_iff_ne.mpr v, Bool.not_false, Bool.and_true]
    · rw [if_neg u, ← zNb_1 (e := e) (x := w) (show sl < 24 from by omega)]
      refine zNb_a (fun j _ => ?_) (fun j _ hj => ?_)
      · show (nF ((1, t) :: K2) j && !nF ((0, am_x y) :: K2) j) = ((zbit (nd r) j && !zNp nd (nx pp) j && !(j == sl)) || (j == sl))
        rw [hx j, b12 j]
        by_cases v : j = sl
        · rw [v, b16, zbf7 u, beq_self_eq_true]; rfl
        · rw [beq_eq_false_iff_ne.mpr v, Bool.not_false, Bool.and_true, Bool.or_false]
      · have hj : (zbit (nd r) j && !zNp nd (nx pp) j && !(j == sl)) = true := hj
        have := ((Bool.and_eq_true _ _).mp hj).2
        cases q : (j == sl) with
        | false => rfl
        | true => rw [q] at this; cases this
  rw [a0, zNb_n, a1, a2]
  omega
theorem cz_mN {j : Nat} {tt : Tm} (hb : cMb S nx H az z kz kf nd M nm bd K2 t y am sl pp m3) (hj : j = 3 ∨ j = 4 ∧ tt = Tm.nil) (w : Nat) : mRt (((0, am_x y) :: (j, tt) :: K2) ++ (2, Tm.nil) :: cTs fs) (Vs ++ cVs fs) (e2 :: cEs fs) w = mRv (Vs ++ cVs fs) w + mRn (cEs fs) (cTs fs) w + zNb (nF ((0, am_x y) :: K2)) e2 w := by
  have mk := gSc_mk (hb.2.2.2.1 j tt hj).2
  unfold mRt
  rw [mRn_c, aF_a2 mk.2, zNb_e (p := nF (((0, am_x y) :: (j, tt) :: K2) ++ (2, Tm.nil) :: cTs fs)) (q := nF ((0, am_x y) :: K2)) (f := e2) (fun k _ => by rw [nF_a2 mk.2]; exact nF_mk hj) (fun _ _ _ => rfl)]
  omega
end

end
