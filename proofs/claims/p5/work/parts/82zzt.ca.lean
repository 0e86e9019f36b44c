section
/-! one turn of the class, counted: a match that takes no cell apart, one that takes it whole, one that shares it -/
theorem cm_fd_e {cf : Nat → Int64} {K K' : List (Nat × Tm)} {x h : Nat} (hk : ∀ k, nF K k = nF K' k) : ∀ m, cm_fd cf K x h m = cm_fd cf K' x h m
  | 0 => rfl
  | m + 1 => by
    show cm_fd cf K x h m + (if nF K (h + m) = true ∧ zhs (cf (3 * x + m)) = 2 then 1 else 0) = cm_fd cf K' x h m + (if nF K' (h + m) = true ∧ zhs (cf (3 * x + m)) = 2 then 1 else 0)
    rw [cm_fd_e hk m, hk]
section
variable {S : Nat → Nat → Int32} {nx : Nat → Int32} {H : Int32 → Int64 → Prop} {az : Int} {z : Nat} {kz : Int32} {kf nd : Nat → Int32} {M : Nat → Prop} {F : sp_F} {lim : Int} {al : Nat} {s0 : cm_S} {gs : Nat → Int64} {kb kk sh ks gk gc : Nat → Int32} {gv : Nat → Int64} {fresh held : Int} {x : Int32} {i : Int} {b nm : Nat} {K2 : List (Nat × Tm)} {Vs : List Int64} {e : Nat → Int64} {bd : Nat} {fs : List cFm} {m1 m2 m3 tn sn hn c : Nat} {ck : Nat → Int32} {cf : Nat → Int64} {Sh : List (Nat × Nat × Nat)} {md ru : Nat} {mo : Int} {db om : Nat} {ph : Nat → Nat} {lv : Nat → Bool} {gA : Nat → Int} {FL : List Nat} {r sl pp : Nat} {t y a : Tm} {am kd : Int32}
theorem cShr_4 {sh2 : Nat → Int32} {K : List (Nat × Tm)} {o : Nat} {xx : Tm} (h : cShr ph sh ks ((1, t) :: K) o Sh hn) (e : sh2 = upd sh hn (-1)) : cShr ph sh2 ks ((0, xx) :: (4, Tm.nil) :: K) o Sh (hn + 1) := by
  refine (cShr_h (Or.inl rfl)).mpr (Or.inr (Or.inr (Or.inl ⟨rfl, hn, rfl, by rw [e, zu_s]; decide, ?_⟩)))
  exact cShr_cg (fun _ _ => rfl) (fun q hq => by rw [e, zu_n (by omega)]) (fun _ _ => rfl) ((cShr_h (Or.inr rfl)).mp h)
theorem cDn_v (h : cSO S nx H az z kz kf M F lim al s0 gs kb kk sh ks gk gc gv fresh held x i b nm ((1, t) :: K2) Vs e bd fs m1 m2 tn sn hn c ck cf Sh md ru mo db om ph lv gA FL pn0) (hx : ∀ k, zbit (nd r) k = nF ((1, t) :: K2) k) (k : Nat) (hk : cDn nd r (nx pp) sl k = true) : vr ph (e k) (gs (b + k)) ∧ k < 24 ∧ k < bd := by
  have hk : (zbit (nd r) k && !zNp nd (nx pp) k && !(k == sl)) = true := hk
  have h2 : nF ((1, t) :: K2) k = true := by rw [← hx k]; exact ((Bool.and_eq_true _ _).mp ((Bool.and_eq_true _ _).mp hk).1).1
  have h3 := nF_bd h.1.2.2.1.1 h.1.2.2.1.2.1 h2
  exact ⟨h.1.1.2.2 k h2, h3.2, h3.1⟩
/-- no cell, or any arm -/
theorem cz_15T (h : cSO S nx H az z kz kf M F lim al s0 gs kb kk sh ks gk gc gv fresh held x i b nm ((1, t) :: K2) Vs e bd fs m1 m2 tn sn hn c ck cf Sh md ru mo db om ph lv gA FL pn0) (hb : cMb S nx H az z kz kf nd M nm bd K2 t y am sl pp m3) (hx : ∀ k, zbit (nd r) k = nF ((1, t) :: K2) k) (ha : pm_ar t = 0) (hi : i + 1 + (1 + m3) ≤ i + m1) (p2 : ∀ (F : sp_F) (lim : Int) (K0 K : List (Nat × Tm)) (V : List Int64) (E : List (Nat → Int64)) (n c : Nat) (ck : Nat → Int32) (cf : Nat → Int64) (X : cm_X), cm_d F kf lim t K0 K V E n c ck cf X = cm_mt kf (S 3 r).toInt sl a K0 K V E n c ck cf X) (hkd : pm_kd ck (e sl) = kd.toInt) (hf : pm_fi kd.toInt a = some y) (hT : ¬ (zhs (e sl) = 2 ∧ am_k y ≠ -1)) (hm0 : am_m y = 0) : ∃ RN : Nat → Int, (∀ w, 0 ≤ RN w) ∧ (∀ w, mRt (((1, t) :: K2) ++ (2, Tm.nil) :: cTs fs) (Vs ++ cVs fs) (e :: cEs fs) w + zNb pn0 e w = RN w + zNb (cDn nd r (nx pp) sl) e w + (if zNp nd (nx pp) sl = true then 0 else zr (e sl) w)) ∧
    ∀ {sh2 gc2 : Nat → Int32} {lv2 : Nat → Bool} {gA2 : Nat → Int} {FL2 : List Nat} {fresh2 held2 : Int}, sh2 = upd sh hn (-1) → cHp kz kf z ph lv2 gA2 c ck cf RN Sh gk gc2 gv FL2 fresh2 held2 → ∃ G2 : List (Nat × Tm), cSO S nx H az z kz kf M F lim al s0 gs kb kk sh2 ks gk gc2 gv fresh2 held2 (nx pp) (i + 1) b nm G2 Vs e (max bd (am_h y + am_m y)) fs (1 + m3) m2 tn sn (hn + 1) c ck cf Sh md ru mo db om ph lv2 gA2 FL2 pn0 := by
  have hj : (4 : Nat) = 3 ∨ (4 : Nat) = 4 ∧ (Tm.nil : Tm) = Tm.nil := Or.inr ⟨rfl, rfl⟩
  have hR := cz_mR h hb hx
  have hn4 := fun w => cz_mN (e2 := e) (Vs := Vs) (fs := fs) hb hj w
  have hc := h.1.1.2.2
  have hre := h.2.2.2.2
  have hc8 := h.2.1
  obtain ⟨⟨b1, b2, b3, b4, b5, b6⟩, ⟨b7, b8, b9, b10, b11⟩, ⟨b12, b13, b14, b15, b16⟩, b17, b18⟩ := id hb
  refine ⟨mRt (((0, am_x y) :: (4, Tm.nil) :: K2) ++ (2, Tm.nil) :: cTs fs) (Vs ++ cVs fs) (e :: cEs fs), fun w => ?_, fun w => ?_, fun {sh2 gc2 lv2 gA2 FL2 fresh2 held2} e1 hH => ⟨_, cz_mg h hb ha hi hj (fun _ _ => rfl) (fun k hk => hc k (b14 k hk (by have := b13 k hk; omega))) hH (cShr_4 hc8 e1) ?_⟩⟩
  · have a1 := mRv_n (x := w) (V := Vs ++ cVs fs)
    have a2 := mRn_n (x := w) (E := e :: cEs fs) (K := ((0, am_x y) :: (4, Tm.nil) :: K2) ++ (2, Tm.nil) :: cTs fs)
    show 0 ≤ mRv _ w + mRn _ _ w
    omega
  · rw [hR w, hn4 w, b12 sl, zNb_e (p := fun k => nF ((0, am_x y) :: K2) k && decide (k < am_h y)) (q := nF ((0, am_x y) :: K2)) (f := e) (fun j _ => by
      show (nF ((0, am_x y) :: K2) j && decide (j < am_h y)) = _
      by_cases u : nF ((0, am_x y) :: K2) j = true
      · rw [u, decide_eq_true (by have := b13 j u; omega)]; rfl
      · rw [zbf7 u, Bool.false_and]) (fun _ _ _ => rfl)]
  · rw [List.cons_append, gst_c (by decide)] at hre
    have hst := p2 F lim ((1, t) :: gst (K2 ++ (2, Tm.nil) :: cTs fs)) (gst (K2 ++ (2, Tm.nil) :: cTs fs)) (Vs ++ cVs fs) (e :: cEs fs) sn c ck cf (Sh, md, ru, mo, db, om)
    unfold cm_mt at hst
    rw [show (e :: cEs fs).headD (fun _ => 0) sl = e sl from rfl, hkd, hf] at hst
    have hst := hst.trans (if_neg hT)
    rw [List.cons_append, List.cons_append, gst_c (by decide), gst_4]
    exact cm_re_s hre (cn_1.trans hst)
/-- the cell's kind is the arm's -/
theorem cz_mw (h : cSO S nx H az z kz kf M F lim al s0 gs kb kk sh ks gk gc gv fresh held x i b nm ((1, t) :: K2) Vs e bd fs m1 m2 tn sn hn c ck cf Sh md ru mo db om ph lv gA FL pn0) (hb : cMb S nx H az z kz kf nd M nm bd K2 t y am sl pp m3) (hkZ : kz.toInt = (z : Int)) (hkd : pm_kd ck (e sl) = kd.toInt) (hk4 : am_k y = -1 ∨ S 4 (Int32.toNatClampNeg am) = kd) (h2 : zhs (e sl) = 2) (hk : am_k y ≠ -1) (hlv : lv (Int32.toNatClampNeg (e sl).toInt32) = true) : cWd kf ck (Int32.toNatClampNeg (e sl).toInt32) = am_m y ∧ zfk kz kf (ck (Int32.toNatClampNeg (e sl).toInt32)) = (am_m y : Int) := by
  have hc := (hZ_at h.2.2.1.1 hlv).1
  obtain ⟨k, k1, k2⟩ := h.2.2.1.2.2.2 _ hc
  have e1 : ck (Int32.toNatClampNeg (e sl).toInt32) = kd := by
    unfold pm_kd at hkd
    rw [if_neg (by rw [h2]; decide), if_pos h2] at hkd
    exact Int32.toInt_inj.mp hkd
  have e2 := hk4.resolve_left hk
  have b4 := hb.1.2.2.2.1
  rw [e2, ← e1] at b4
  refine ⟨?_, b4⟩
  have ek : Int32.toNatClampNeg (ck (Int32.toNatClampNeg (e sl).toInt32)) = k := zn_li7 k1
  unfold zfk at b4
  unfold cWd
  rw [ek] at b4 ⊢
  by_cases u : 0 < (kf k).toInt
  · rw [if_pos ⟨by omega, by omega, u⟩] at b4
    omega
  · rw [if_neg (fun g => u g.2.2)] at b4
    omega
end

end
section
/-! one turn of the class, counted: a match on a cell -/
section
variable {S : Nat → Nat → Int32} {nx : Nat → Int32} {H : Int32 → Int64 → Prop} {az : Int} {z : Nat} {kz : Int32} {kf nd : Nat → Int32} {M : Nat → Prop} {F : sp_F} {lim : Int} {al : Nat} {s0 : cm_S} {gs : Nat → Int64} {kb kk sh ks gk gc : Nat → Int32} {gv : Nat → Int64} {fresh held : Int} {x : Int32} {i : Int} {b nm : Nat} {K2 : List (Nat × Tm)} {Vs : List Int64} {e : Nat → Int64} {bd : Nat} {fs : List cFm} {m1 m2 m3 tn sn hn c : Nat} {ck : Nat → Int32} {cf : Nat → Int64} {Sh : List (Nat × Nat × Nat)} {md ru : Nat} {mo : Int} {db om : Nat} {ph : Nat → Nat} {lv : Nat → Bool} {gA : Nat → Int} {FL : List Nat} {r sl pp : Nat} {t y a : Tm} {am kd : Int32}
/-- the stack, where the arm's needed fields were put -/
def cGf (nd : Nat → Int32) (x2 : Int32) (gs gs2 gv : Nat → Int64) (b h m d : Nat) : Prop := (∀ q, (∀ i, i < m → zNp nd x2 (h + i) = true → q ≠ b + h + i) → gs2 q = gs q) ∧ ∀ i, i < m → zNp nd x2 (h + i) = true → gs2 (b + h + i) = gv (3 * d + i)
theorem cGf_v {id : Nat} {gs2 : Nat → Int64} (h : cSO S nx H az z kz kf M F lim al s0 gs kb kk sh ks gk gc gv fresh held x i b nm ((1, t) :: K2) Vs e bd fs m1 m2 tn sn hn c ck cf Sh md ru mo db om ph lv gA FL pn0) (hb : cMb S nx H az z kz kf nd M nm bd K2 t y am sl pp m3) (hw : cWd kf ck id = am_m y) (hlv : lv id = true) (g : cGf nd (nx pp) gs gs2 gv b (am_h y) (am_m y) (ph id)) : (∀ q, q < b ∨ b + nm ≤ q → gs2 q = gs q) ∧ ∀ k, nF ((0, am_x y) :: K2) k = true → vr ph (pm_bd e cf id (am_h y) (am_m y) k) (gs2 (b + k)) := by
  obtain ⟨⟨b1, b2, b3, b4, b5, b6⟩, ⟨b7, b8, b9, b10, b11⟩, ⟨b12, b13, b14, b15, b16⟩, b17, b18⟩ := hb
  refine ⟨fun q hq => g.1 q (fun j hj _ => by omega), fun k hk => ?_⟩
  have k2 := b13 k hk
  show vr ph (if am_h y ≤ k ∧ k < am_h y + am_m y then cf (3 * id + (k - am_h y)) else e k) _
  by_cases u : am_h y ≤ k
  · have e1 := g.2 (k - am_h y) (by omega) (by rw [show am_h y + (k - am_h y) = k from by omega, b12 k]; exact hk)
    rw [if_pos ⟨u, k2⟩, show b + k = b + am_h y + (k - am_h y) from by omega, e1]
    exact (h.2.2.1.1.2.2.1 id hlv).2.2.2.2 (k - am_h y) (by rw [hw]; omega)
  · rw [if_neg (fun v => u v.1), g.1 _ (fun j hj _ => by omega)]
    exact h.1.1.2.2 k (b14 k hk (by omega))
theorem cz_mst {id : Nat} (h : cSO S nx H az z kz kf M F lim al s0 gs kb kk sh ks gk gc gv fresh held x i b nm ((1, t) :: K2) Vs e bd fs m1 m2 tn sn hn c ck cf Sh md ru mo db om ph lv gA FL pn0) (hid : id = Int32.toNatClampNeg (e sl).toInt32) (p2 : ∀ (F : sp_F) (lim : Int) (K0 K : List (Nat × Tm)) (V : List Int64) (E : List (Nat → Int64)) (n c : Nat) (ck : Nat → Int32) (cf : Nat → Int64) (X : cm_X), cm_d F kf lim t K0 K V E n c ck cf X = cm_mt kf (S 3 r).toInt sl a K0 K V E n c ck cf X) (hkd : pm_kd ck (e sl) = kd.toInt) (hf : pm_fi kd.toInt a = some y) (h2 : zhs (e sl) = 2) (hk : am_k y ≠ -1) (hlv : lv id = true) : cm_d F kf lim t ((1, t) :: gst (K2 ++ (2, Tm.nil) :: cTs fs)) (gst (K2 ++ (2, Tm.nil) :: cTs fs)) (Vs ++ cVs fs) (e :: cEs fs) sn c ck cf (Sh, md, ru, mo, db, om) = if nF ((0, am_x y) :: K2) sl = false ∧ (gc (ph id)).toInt = 1 then
        if tm_mk (am_x y) (am_m y) = true then
          .ok (((0, am_x y) :: (3, Tm.use 0 id) :: gst (K2 ++ (2, Tm.nil) :: cTs fs), Vs ++ cVs fs, pm_bd e cf id (am_h y) (am_m y) :: cEs fs, sn, c, ck, cf), ((fs.length + 1, id, am_m y) :: Sh, md, ru, mo, db, om))
        else .ok (((0, am_x y) :: gst (K2 ++ (2, Tm.nil) :: cTs fs), Vs ++ cVs fs, pm_bd e cf id (am_h y) (am_m y) :: cEs fs, sn, c, ck, cf), (Sh, md, ru, mo, db, om))
      else .ok (((0, am_x y) :: gst (K2 ++ (2, Tm.nil) :: cTs fs), Vs ++ cVs fs, pm_bd e cf id (am_h y) (am_m y) :: cEs fs, sn, c, ck, cf), (Sh, md, ru, mo, db + cm_fd cf ((0, am_x y) :: K2) id (am_h y) (am_m y), om)) := by
  have mk := cSO_mk h
  have hl : (e :: cEs fs).length = fs.length + 1 := by rw [List.length_cons, cEs_ln]
  have mk2 : mk4 (K2 ++ (2, Tm.nil) :: cTs fs) := fun u hu => mk.1 u (List.mem_cons_of_mem _ hu)
  have n2 : ∀ u ∈ K2, u.1 ≠ 2 := fun u hu => mk.2 u (List.mem_cons_of_mem _ hu)
  have eN : ∀ k, nF ((0, am_x y) :: gst (K2 ++ (2, Tm.nil) :: cTs fs)) k = nF ((0, am_x y) :: K2) k := fun k => by rw [nF_g0, nF_g0, nF_st mk2, nF_a2 n2]
  have hz := hZ_R h.2.2.1.1 (R2 := mRt ((1, t) :: gst (K2 ++ (2, Tm.nil) :: cTs fs)) (Vs ++ cVs fs) (e :: cEs fs)) (fun w => by
    rw [← gst_c (j := 1) (by decide), ← List.cons_append, mRt_st mk.1, zNb_n]
    show mRt (((1, t) :: K2) ++ (2, Tm.nil) :: cTs fs) (Vs ++ cVs fs) (e :: cEs fs) w = _
    omega)
  have hct := (hZ_ct hz hlv).1
  have hst := p2 F lim ((1, t) :: gst (K2 ++ (2, Tm.nil) :: cTs fs)) (gst (K2 ++ (2, Tm.nil) :: cTs fs)) (Vs ++ cVs fs) (e :: cEs fs) sn c ck cf (Sh, md, ru, mo, db, om)
  unfold cm_mt at hst
  rw [show (e :: cEs fs).headD (fun _ => 0) sl = e sl from rfl, hkd, hf] at hst
  have hst := hst.trans (if_pos ⟨h2, hk⟩)
  rw [← hid, ← hct, eN sl, hl, cm_fd_e eN] at hst
  exact hst
/-- alone: all its fields are the arm's -/
theorem cz_15A {id : Nat} (h : cSO S nx H az z kz kf M F lim al s0 gs kb kk sh ks gk gc gv fresh held x i b nm ((1, t) :: K2) Vs e bd fs m1 m2 tn sn hn c ck cf Sh md ru mo db om ph lv gA FL pn0) (hb : cMb S nx H az z kz kf nd M nm bd K2 t y am sl pp m3) (hx : ∀ k, zbit (nd r) k = nF ((1, t) :: K2) k) (ha : pm_ar t = 0) (hi : i + 1 + (1 + m3) ≤ i + m1) (hid : id = Int32.toNatClampNeg (e sl).toInt32) (p2 : ∀ (F : sp_F) (lim : Int) (K0 K : List (Nat × Tm)) (V : List Int64) (E : List (Nat → Int64)) (n c : Nat) (ck : Nat → Int32) (cf : Nat → Int64) (X : cm_X), cm_d F kf lim t K0 K V E n c ck cf X = cm_mt kf (S 3 r).toInt sl a K0 K V E n c ck cf X) (hkd : pm_kd ck (e sl) = kd.toInt) (hf : pm_fi kd.toInt a = some y) (h2 : zhs (e sl) = 2) (hk : am_k y ≠ -1) (hlv : lv id = true) (hw : cWd kf ck id = am_m y) (hw2 : zfk kz kf (ck id) = (am_m y : Int)) (hs : zNp nd (nx pp) sl = false) (hc1 : (gc (ph id)).toInt = 1) : ∃ RN : Nat → Int, (∀ w, 0 ≤ RN w) ∧ hZ ph (hUpd lv id false) gA c (cWd kf ck) ck cf (fun w => RN w + zNb (cDn nd r (nx pp) sl) e w + zs (am_m y) (fun i => if zNp nd (nx pp) (am_h y + i) = true then 0 else zr (cf (3 * id + i)) w)) (id :: sIs Sh) gk gc gv ∧ hKf ph (hUpd lv id false) c (id :: sIs Sh) FL fresh held ∧
    (∀ {gs2 : Nat → Int64} {sh2 gc2 : Nat → Int32} {lv2 : Nat → Bool} {gA2 : Nat → Int} {FL2 : List Nat} {fresh2 held2 : Int}, tm_mk (am_x y) (am_m y) = true → (sh2 = upd sh hn (sh2 hn)) → (sh2 hn).toInt = (ph id : Int) → cGf nd (nx pp) gs gs2 gv b (am_h y) (am_m y) (ph id) → hZ ph lv2 gA2 c (cWd kf ck) ck cf RN (id :: sIs Sh) gk gc2 gv → hKf ph lv2 c (id :: sIs Sh) FL2 fresh2 held2 → ∃ (G2 : List (Nat × Tm)) (e2 : Nat → Int64) (Sh2 : List (Nat × Nat × Nat)), cSO S nx H az z kz kf M F lim al s0 gs2 kb kk sh2 ks gk gc2 gv fresh2 held2 (nx pp) (i + 1) b nm G2 Vs e2 (max bd (am_h y + am_m y)) fs (1 + m3) m2 tn sn (hn + 1) c ck cf Sh2 md ru mo db om ph lv2 gA2 FL2 pn0) ∧
    (∀ {gs2 : Nat → Int64} {sh2 gc2 : Nat → Int32} {lv2 : Nat → Bool} {gA2 : Nat → Int} {FL2 : List Nat} {fresh2 held2 : Int}, tm_mk (am_x y) (am_m y) = false → sh2 = upd sh hn (-1) → cGf nd (nx pp) gs gs2 gv b (am_h y) (am_m y) (ph id) → hZ ph lv2 gA2 c (cWd kf ck) ck cf RN (sIs Sh) gk gc2 gv → hKf ph lv2 c (sIs Sh) FL2 fresh2 held2 → ∃ (G2 : List (Nat × Tm)) (e2 : Nat → Int64), cSO S nx H az z kz kf M F lim al s0 gs2 kb kk sh2 ks gk gc2 gv fresh2 held2 (nx pp) (i + 1) b nm G2 Vs e2 (max bd (am_h y + am_m y)) fs (1 + m3) m2 tn sn (hn + 1) c ck cf Sh md ru mo db om ph lv2 gA2 FL2 pn0) := by
  have hR := cz_mR h hb hx
  have hst := cz_mst h hid p2 hkd hf h2 hk hlv
  have hb9 := hb
  obtain ⟨⟨b1, b2, b3, b4, b5, b6⟩, ⟨b7, b8, b9, b10, b11⟩, ⟨b12, b13, b14, b15, b16⟩, b17, b18⟩ := hb9
  have hs2 : nF ((0, am_x y) :: K2) sl = false := by rw [← b12 sl]; exact hs
  have hre := h.2.2.2.2
  rw [List.cons_append, gst_c (by decide)] at hre
  rw [if_pos ⟨hs2, hc1⟩] at hst
  have hv := h.1.1.2.2 sl b16
  have hu : zhs (gs (b + sl)) = 2 := by rw [vr_h hv]; exact h2
  have h9 := h.2.2.1
  have hc8 := h.2.1
  have eR : ∀ w, mRv (Vs ++ cVs fs) w + mRn (cEs fs) (cTs fs) w + zNb (nF ((0, am_x y) :: K2)) (pm_bd e cf id (am_h y) (am_m y)) w + zNb (cDn nd r (nx pp) sl) e w + zs (am_m y) (fun i => if zNp nd (nx pp) (am_h y + i) = true then 0 else zr (cf (3 * id + i)) w) = (mRv (Vs ++ cVs fs) w + mRn (cEs fs) (cTs fs) w + zNb (fun k => nF ((0, am_x y) :: K2) k && decide (k < am_h y)) e w + zNb (cDn nd r (nx pp) sl) e w) + zcf zr (cWd kf ck) cf id w := fun w => by
    have a1 := zNb_bd (p := nF ((0, am_x y) :: K2)) (e := e) (cf := cf) (d := id) (x := w) b13 b8
    have a2 := zs_pn (p := nF ((0, am_x y) :: K2)) (f := fun i => zr (cf (3 * id + i)) w) (h := am_h y) (m := am_m y)
    have a3 : zs (am_m y) (fun i => if zNp nd (nx pp) (am_h y + i) = true then 0 else zr (cf (3 * id + i)) w) = zs (am_m y) (fun i => if nF ((0, am_x y) :: K2) (am_h y + i) = true then 0 else zr (cf (3 * id + i)) w) := zs_ext (fun d _ => by show (if zNp nd (nx pp) (am_h y + d) = true then 0 else zr (cf (3 * id + d)) w) = _; rw [b12])
    have a4 : zcf zr (cWd kf ck) cf id w = zs (am_m y) (fun i => zr (cf (3 * id + i)) w) := by show zs (cWd kf ck id) (fun k => zr (cf (3 * id + k)) w) = _; rw [hw]
    rw [a1, a3, a4, a2]
    omega
  have p0 : ∀ w, 0 ≤ mRv (Vs ++ cVs fs) w + mRn (cEs fs) (cTs fs) w := fun w => by
    have a1 := mRv_n (x := w) (V := Vs ++ cVs fs)
    have a2 := mRn_n (x := w) (E := cEs fs) (K := cTs fs)
    omega
  have hd := hZ_dsh2 (gc2 := gc) (x := id) (R2 := fun w => mRv (Vs ++ cVs fs) w + mRn (cEs fs) (cTs fs) w + zNb (fun k => nF ((0, am_x y) :: K2) k && decide (k < am_h y)) e w + zNb (cDn nd r (nx pp) sl) e w) h9.1 (fun w => by
    show mRt (((1, t) :: K2) ++ (2, Tm.nil) :: cTs fs) (Vs ++ cVs fs) (e :: cEs fs) w + zNb pn0 e w = _
    rw [hR w, hs2, if_neg (by decide), zr_w2 hv hu, ← hid]) (fun w => by
    have a1 := p0 w
    have a2 := zNb_0 (p := fun k => nF ((0, am_x y) :: K2) k && decide (k < am_h y)) (e := e) (x := w)
    have a3 := zNb_0 (p := cDn nd r (nx pp) sl) (e := e) (x := w)
    show 0 ≤ mRv (Vs ++ cVs fs) w + mRn (cEs fs) (cTs fs) w + zNb (fun k => nF ((0, am_x y) :: K2) k && decide (k < am_h y)) e w + zNb (cDn nd r (nx pp) sl) e w
    omega) hlv (by omega) (fun _ _ => rfl)
  refine ⟨fun w => mRv (Vs ++ cVs fs) w + mRn (cEs fs) (cTs fs) w + zNb (nF ((0, am_x y) :: K2)) (pm_bd e cf id (am_h y) (am_m y)) w, fun w => ?_, hZ_R hd.1 (fun w => eR w), hK_die h9.1 h9.2.1 hlv, fun {gs2 sh2 gc2 lv2 gA2 FL2 fresh2 held2} c1 c2 c3 c4 c5 c6 => ?_, fun {gs2 sh2 gc2 lv2 gA2 FL2 fresh2 held2} c1 c2 c4 c5 c6 => ?_⟩
  · have a1 := p0 w
    have a2 := zNb_0 (p := nF ((0, am_x y) :: K2)) (e := pm_bd e cf id (am_h y) (am_m y)) (x := w)
    show 0 ≤ mRv (Vs ++ cVs fs) w + mRn (cEs fs) (cTs fs) w + _
    omega
  · have hj : (3 : Nat) = 3 ∨ (3 : Nat) = 4 ∧ (Tm.use 0 id : Tm) = Tm.nil := Or.inl rfl
    obtain ⟨d1, d2⟩ := cGf_v h hb hw hlv c4
    rw [if_pos c1] at hst
    refine ⟨_, _, (fs.length + 1, id, am_m y) :: Sh, cz_mg h hb ha hi hj d1 d2 ⟨hZ_R c5 (fun w => cz_mN hb hj w), c6, fun q hq => ?_, h9.2.2.2⟩ ?_ ?_⟩
    · rcases List.mem_cons.mp hq with g | g
      · rw [g]
        show zfk kz kf (gk (ph id)) = (am_m y : Int)
        rw [(hZ_at h9.1 hlv).2.2.1]; exact hw2
      · exact h9.2.2.1 q g
    · refine (cShr_h (Or.inl rfl)).mpr (Or.inr (Or.inl ⟨rfl, hn, rfl, Or.inl ⟨am_m y, Sh, rfl, c3, ?_⟩⟩))
      exact cShr_cg (fun _ _ => rfl) (fun q hq => by rw [c2, zu_n (by omega)]) (fun _ _ => rfl) ((cShr_h (Or.inr rfl)).mp hc8)
    · rw [List.cons_append, List.cons_append, gst_c (by decide), gst_c (by decide)]
      exact cm_re_s hre (cn_1.trans hst)
  · have hj : (4 : Nat) = 3 ∨ (4 : Nat) = 4 ∧ (Tm.nil : Tm) = Tm.nil := Or.inr ⟨rfl, rfl⟩
    obtain ⟨d1, d2⟩ := cGf_v h hb hw hlv c4
    rw [if_neg (by rw [c1]; decide)] at hst
    refine ⟨_, _, cz_mg h hb ha hi hj d1 d2 ⟨hZ_R c5 (fun w => cz_mN hb hj w), c6, h9.2.2⟩ (cShr_4 hc8 c2) ?_⟩
    rw [List.cons_append, List.cons_append, gst_c (by decide), gst_4]
    exact cm_re_s hre (cn_1.trans hst)
/-- shared, or it stays -/
theorem cz_15C {id : Nat} (h : cSO S nx H az z kz kf M F lim al s0 gs kb kk sh ks gk gc gv fresh held x i b nm ((1, t) :: K2) Vs e bd fs m1 m2 tn sn hn c ck cf Sh md ru mo db om ph lv gA FL pn0) (hb : cMb S nx H az z kz kf nd M nm bd K2 t y am sl pp m3) (hx : ∀ k, zbit (nd r) k = nF ((1, t) :: K2) k) (ha : pm_ar t = 0) (hi : i + 1 + (1 + m3) ≤ i + m1) (hid : id = Int32.toNatClampNeg (e sl).toInt32) (p2 : ∀ (F : sp_F) (lim : Int) (K0 K : List (Nat × Tm)) (V : List Int64) (E : List (Nat → Int64)) (n c : Nat) (ck : Nat → Int32) (cf : Nat → Int64) (X : cm_X), cm_d F kf lim t K0 K V E n c ck cf X = cm_mt kf (S 3 r).toInt sl a K0 K V E n c ck cf X) (hkd : pm_kd ck (e sl) = kd.toInt) (hf : pm_fi kd.toInt a = some y) (h2 : zhs (e sl) = 2) (hk : am_k y ≠ -1) (hlv : lv id = true) (hw : cWd kf ck id = am_m y) (hs : ¬ (zNp nd (nx pp) sl = false ∧ (gc (ph id)).toInt = 1)) : ∃ RN : Nat → Int, (∀ w, 0 ≤ RN w) ∧ (∀ w, mRt (((1, t) :: K2) ++ (2, Tm.nil) :: cTs fs) (Vs ++ cVs fs) (e :: cEs fs) w + zNb pn0 e w + zs (am_m y) (fun i => if zNp nd (nx pp) (am_h y + i) = true then zr (cf (3 * id + i)) w else 0) = RN w + zNb (cDn nd r (nx pp) sl) e w + (if zNp nd (nx pp) sl = true then 0 else if w = id then 1 else 0)) ∧
    ∀ {gs2 : Nat → Int64} {sh2 gc2 : Nat → Int32} {lv2 : Nat → Bool} {gA2 : Nat → Int} {FL2 : List Nat} {fresh2 held2 : Int}, sh2 = upd sh hn (-1) → cGf nd (nx pp) gs gs2 gv b (am_h y) (am_m y) (ph id) → cHp kz kf z ph lv2 gA2 c ck cf RN Sh gk gc2 gv FL2 fresh2 held2 → ∃ (G2 : List (Nat × Tm)) (e2 : Nat → Int64), cSO S nx H az z kz kf M F lim al s0 gs2 kb kk sh2 ks gk gc2 gv fresh2 held2 (nx pp) (i + 1) b nm G2 Vs e2 (max bd (am_h y + am_m y)) fs (1 + m3) m2 tn sn (hn + 1) c ck cf Sh md ru mo (db + cm_fd cf ((0, am_x y) :: K2) id (am_h y) (am_m y)) om ph lv2 gA2 FL2 pn0 := by
  have hR := cz_mR h hb hx
  have hst := cz_mst h hid p2 hkd hf h2 hk hlv
  have hb9 := hb
  obtain ⟨⟨b1, b2, b3, b4, b5, b6⟩, ⟨b7, b8, b9, b10, b11⟩, ⟨b12, b13, b14, b15, b16⟩, b17, b18⟩ := hb9
  have hre := h.2.2.2.2
  rw [List.cons_append, gst_c (by decide)] at hre
  rw [if_neg (by rw [← b12 sl]; exact hs)] at hst
  have hv := h.1.1.2.2 sl b16
  have hu : zhs (gs (b + sl)) = 2 := by rw [vr_h hv]; exact h2
  have hc8 := h.2.1
  have hj : (4 : Nat) = 3 ∨ (4 : Nat) = 4 ∧ (Tm.nil : Tm) = Tm.nil := Or.inr ⟨rfl, rfl⟩
  refine ⟨mRt (((0, am_x y) :: (4, Tm.nil) :: K2) ++ (2, Tm.nil) :: cTs fs) (Vs ++ cVs fs) (pm_bd e cf id (am_h y) (am_m y) :: cEs fs), fun w => ?_, fun w => ?_, fun {gs2 sh2 gc2 lv2 gA2 FL2 fresh2 held2} c1 c2 hH => ?_⟩
  · have a1 := mRv_n (x := w) (V := Vs ++ cVs fs)
    have a2 := mRn_n (x := w) (E := pm_bd e cf id (am_h y) (am_m y) :: cEs fs) (K := ((0, am_x y) :: (4, Tm.nil) :: K2) ++ (2, Tm.nil) :: cTs fs)
    show 0 ≤ mRv _ w + mRn _ _ w
    omega
  · have a1 := zNb_bd (p := nF ((0, am_x y) :: K2)) (e := e) (cf := cf) (d := id) (x := w) b13 b8
    have a3 : zs (am_m y) (fun i => if zNp nd (nx pp) (am_h y + i) = true then zr (cf (3 * id + i)) w else 0) = zs (am_m y) (fun i => if nF ((0, am_x y) :: K2) (am_h y + i) = true then zr (cf (3 * id + i)) w else 0) := zs_ext (fun d _ => by show (if zNp nd (nx pp) (am_h y + d) = true then zr (cf (3 * id + d)) w else 0) = _; rw [b12])
    rw [hR w, cz_mN hb hj w, a1, a3, b12 sl, zr_w2 hv hu, ← hid]
    omega
  · obtain ⟨d1, d2⟩ := cGf_v h hb hw hlv c2
    refine ⟨_, _, cz_mg h hb ha hi hj d1 d2 hH (cShr_4 hc8 c1) ?_⟩
    rw [List.cons_append, List.cons_append, gst_c (by decide), gst_4]
    exact cm_re_s hre (cn_1.trans hst)
end

end
section
/-! the class's counted run: its start, its state with the class's own numbers -/
theorem hZ_st {ph : Nat → Nat} {gA : Nat → Int} {w : Nat → Nat} {kA : Nat → Int32} {cA : Nat → Int64} {R : Nat → Int} {gk gc : Nat → Int32} {gv : Nat → Int64} (hR : ∀ x, R x = 0) : hZ ph (fun _ => false) gA 0 w kA cA R [] gk gc gv :=
  ⟨⟨0, ⟨fun x hx => (by cases hx), fun x _ => ⟨hR x, rfl⟩, fun x => by rw [hR x]; decide⟩, Int.le_refl _⟩, fun d x hd => (by cases hd), fun x hx => (by cases hx), fun x hx => (by cases hx), List.nodup_nil, fun x y hx => (by rcases hx with g | g <;> cases g)⟩
section
variable {S : Nat → Nat → Int32} {nx : Nat → Int32} {H : Int32 → Int64 → Prop} {az : Int} {z : Nat} {kz : Int32} {kf nd en ff : Nat → Int32} {M : Nat → Prop} {F : sp_F} {lim : Int} {al : Nat} {gs : Nat → Int64} {kb kk sh ks gk gc : Nat → Int32} {gv : Nat → Int64} {f : Nat} {a1 a2 a3 a4 : Int32}
/-- the first call begins -/
theorem cz_s0 (hp : cPz S nx H az z kf en ff F M) (hf : f < F.1) (hg : ∀ k : Nat, (k : Int) < (ff (5 * f)).toInt → gs k = pv0 (if k = 0 then a1 else if k = 1 then a2 else if k = 2 then a3 else if k = 3 then a4 else 0)) (e7 : (kb 0).toInt = 0) (e8 : (ks 0).toInt = 0) : ∃ (q nm : Nat) (G : List (Nat × Tm)) (e : Nat → Int64) (ck : Nat → Int32) (cf : Nat → Int64), (ff (5 * f)).toInt = (q : Int) ∧ (ff (5 * f + 1)).toInt = (nm : Int) ∧ q ≤ nm ∧ q ≤ 24 ∧ 0 ≤ (en f).toInt ∧ (S 0 (Int32.toNatClampNeg (en f))).toInt = 0 ∧ (S 1 (Int32.toNatClampNeg (en f))).toInt = (f : Int) ∧ M (Int32.toNatClampNeg (en f)) ∧ cSO S nx H az z kz kf M F lim al (cm_s0 F f a1 a2 a3 a4) gs kb kk sh ks gk gc gv 0 0 (nx (Int32.toNatClampNeg (en f))) 1 0 nm G [] e q [] 1 0 nm 0 0 0 ck cf [] 0 0 0 0 1 (fun x => x) (fun _ => false) (fun _ => 0) [] (fun k => decide (k < q) && !nF G k) := by
  obtain ⟨X, y, c, ⟨x1, x3, x4, x5, x6⟩, c1, c2, c3, c4, c5, c6⟩ := hp.1.2 f hf
  obtain ⟨z1, z2, z3⟩ := hp.2.2 f hf
  obtain ⟨k, k1⟩ : ∃ k : Nat, (ff (5 * f + 1)).toInt = (k : Int) := ⟨(ff (5 * f + 1)).toInt.toNat, by omega⟩
  obtain ⟨y2, y3, y4⟩ := zpx_pa x3
  have hv : ∀ j, j < c → vr (fun x => x) ((fun k : Nat => if (k : Int) < F.2.2.1 f then pv0 (if k = 0 then a1 else if k = 1 then a2 else if k = 2 then a3 else if k = 3 then a4 else 0) else 0) j) (gs (0 + j)) := fun j hj => by
    rw [Nat.zero_add, hg j (by omega)]
    show vr _ (if (j : Int) < F.2.2.1 f then pv0 (if j = 0 then a1 else if j = 1 then a2 else if j = 2 then a3 else if j = 3 then a4 else 0) else 0) _
    rw [if_pos (by rw [c1]; omega)]
    exact vr_nn pvn_0
  have nf : ∀ k, nF [(0, F.2.2.2 f)] k = true → k < c := fun k hk => by
    rw [nF_g0] at hk
    rcases (Bool.or_eq_true _ _).mp hk with u | u
    · exact wf_ub _ c4 u
    · cases u
  have e0 : ∀ p : Nat → Bool, ∀ w, zNb p (fun k : Nat => if (k : Int) < F.2.2.1 f then pv0 (if k = 0 then a1 else if k = 1 then a2 else if k = 2 then a3 else if k = 3 then a4 else 0) else 0) w = 0 := fun p w => zs_z (fun d _ => by
    show (if p d = true then zr (if (d : Int) < F.2.2.1 f then pv0 (if d = 0 then a1 else if d = 1 then a2 else if d = 2 then a3 else if d = 3 then a4 else 0) else 0) w else 0) = 0
    by_cases u : p d = true
    · rw [if_pos u]
      by_cases v : (d : Int) < F.2.2.1 f
      · rw [if_pos v]; exact zr_n pvn_0
      · rw [if_neg v]; exact zr_n (by decide)
    · rw [if_neg u])
  refine ⟨c, k, [(0, F.2.2.2 f)], _, (fun _ => 0), (fun _ => 0), c2, k1, by omega, by omega, x4, x5, z2, z1, ⟨⟨by simp, fun j hj => by simp at hj, fun j hj => hv j (nf j hj)⟩, e7, ⟨fun u hu hj => ?_, ⟨⟨Or.inl rfl, by rw [mdj_1 (Or.inl rfl)]; exact z3.2⟩, fun _ => ⟨c3, c, c4, by omega, fun k hk => (nomatch (show false = true from hk))⟩, trivial⟩, rfl, by omega⟩, Or.inl ⟨_, z1, rfl⟩, cKg_w x1 y3 ⟨0, y2, y, rfl, y4, x6, rfl⟩, rfl, by omega⟩, ?_, ⟨hZ_st (fun w => ?_), ⟨fun w hw => (by rcases hw with g | g <;> cases g), rfl⟩, fun q hq => (nomatch hq), fun w hw => absurd hw (Nat.not_lt_zero _)⟩, fun j hj => hv j ?_, cm_re_r⟩
  · rw [List.mem_singleton.mp hu]
    exact ⟨c3, ⟨c, c4, Nat.le_refl _⟩, by show tm_wi (F.2.2.2 f) ≤ k; omega⟩
  · refine (cShr_h (Or.inl rfl)).mpr (Or.inl ⟨rfl, 0, rfl, e8, rfl, rfl, rfl⟩)
  · show (0 + (zNb (nF ([(0, F.2.2.2 f)] ++ (2, Tm.nil) :: [])) _ w + 0)) + zNb _ _ w = 0
    rw [e0, e0]; rfl
  · have hj : (decide (j < c) && !nF [(0, F.2.2.2 f)] j) = true := hj
    exact of_decide_eq_true ((Bool.and_eq_true _ _).mp hj).1
end
/-- the class's numbers -/
def cNm (on ba tp st sht md ru mo db om : Int32) (b : Nat) (fs : List cFm) (tn sn hn mdn run : Nat) (mon : Int) (dbn omn : Nat) : Prop := tp.toInt = (tn : Int) ∧ st.toInt = (sn : Int) ∧ on.toInt = (fs.length : Int) + 1 ∧ ba.toInt = (b : Int) ∧ sht.toInt = (hn : Int) ∧ md.toInt = (mdn : Int) ∧ ru.toInt = (run : Int) ∧ mo.toInt = mon ∧ db.toInt = (dbn : Int) ∧ om.toInt = (omn : Int)

end
section
/-! the counted machine asks only for the fields of KINDS that there are -/
theorem any_e {p q : Nat → Bool} : ∀ {l : List Nat}, (∀ d ∈ l, p d = q d) → l.any p = l.any q
  | [], _ => rfl
  | d :: l, h => by
    show (p d || l.any p) = (q d || l.any q)
    rw [h d List.mem_cons_self, any_e (fun d hd => h d (List.mem_cons_of_mem _ hd))]
section
variable {c : Nat} {w w2 : Nat → Nat} {cf : Nat → Int64} {R : Nat → Int}
theorem lvA_e (h : ∀ d, d < c → w d = w2 d) : ∀ (k x : Nat), lvA c w cf R k x = lvA c w2 cf R k x
  | 0, _ => rfl
  | k + 1, x => by
    show (decide (1 ≤ R x) || (List.range c).any (fun d => decide (x < d) && (decide (1 ≤ zcf zr w cf d x) && lvA c w cf R k d))) = (decide (1 ≤ R x) || (List.range c).any (fun d => decide (x < d) && (decide (1 ≤ zcf zr w2 cf d x) && lvA c w2 cf R k d)))
    rw [any_e (p := fun d => decide (x < d) && (decide (1 ≤ zcf zr w cf d x) && lvA c w cf R k d)) (q := fun d => decide (x < d) && (decide (1 ≤ zcf zr w2 cf d x) && lvA c w2 cf R k d)) (fun d hd => by
      show (decide (x < d) && (decide (1 ≤ zcf zr w cf d x) && lvA c w cf R k d)) = _
      rw [lvA_e h k d, show zcf zr w cf d x = zcf zr w2 cf d x from by unfold zcf; rw [h d (List.mem_range.mp hd)]])]
theorem lvC_e (h : ∀ d, d < c → w d = w2 d) : lvC c w cf R = lvC c w2 cf R := funext fun x => by
  unfold lvC
  rw [lvA_e h]
theorem nLv_e (h : ∀ d, d < c → w d = w2 d) : nLv c w cf R = nLv c w2 cf R := by
  unfold nLv
  rw [lvC_e h]
theorem cCt_e (h : ∀ d, d < c → w d = w2 d) (x : Nat) : cCt c w cf R x = cCt c w2 cf R x := by
  unfold cCt zct
  rw [lvC_e h, zs_ext (fun d hd => by
    show (if lvC c w2 cf R d = true then zcf zr w cf d x else 0) = (if lvC c w2 cf R d = true then zcf zr w2 cf d x else 0)
    rw [show zcf zr w cf d x = zcf zr w2 cf d x from by unfold zcf; rw [h d hd]])]
end
/-- every call's FUNCTION is there -/
def tm_fn (F : sp_F) : Tm → Prop
  | .branch 0 (.leaf (some (0, _, _, _, _, w))) x => sp_fi F.2.1 w F.1 < F.1 ∧ tm_fn F x
  | .branch 0 (.leaf (some (1, _, _, _, _, _))) x => tm_fn F x
  | .branch 0 (.leaf (some (2, _, _, _, _, _))) x => tm_fn F x
  | .branch 1 (.leaf (some (0, _, _, _, _, _))) (.branch _ x y) => tm_fn F x ∧ tm_fn F y
  | .branch 1 (.leaf (some (_ + 1, _, _, _, _, _))) (.branch _ x y) => tm_fn F x ∧ tm_fn F y
  | .branch 2 (.leaf (some (_, _, _, _, _, _))) (.branch _ x (.branch _ y z)) => tm_fn F x ∧ tm_fn F y ∧ tm_fn F z
  | .branch 0 (.leaf (some (_ + 3, _, _, _, _, _))) x => tm_fn F x
  | .branch (_ + 3) x y => tm_fn F x ∧ tm_fn F y
  | _ => True
def fxP (zk : Nat) (fd : Nat → Int32) (F : sp_F) (t : Tm) : Prop := (∃ c, tm_wf zk fd t c) ∧ tm_fn F t
def fxI (zk : Nat) (fd : Nat → Int32) (F : sp_F) : cm_S → Prop
  | ((K, _, _, _, c, ck, _), _) => (∀ u ∈ K, u.1 = 0 ∨ u.1 = 1 → fxP zk fd F u.2) ∧ ∀ d, d < c → Int32.toNatClampNeg (ck d) < zk
section
variable {zk : Nat} {fd fd2 : Nat → Int32} {F : sp_F} {lim : Int} {al : Nat}
theorem fx_as {c : Nat} : ∀ (a : Tm), tm_wf zk fd a c → tm_fn F a → ∀ u ∈ pm_as a, fxP zk fd F u.2
  | .branch (_ + 3) x y, hw, hf, u, hu => by
    rcases List.mem_cons.mp hu with g | g
    · rw [g]; exact ⟨⟨c, hw.1⟩, hf.1⟩
    · exact fx_as y hw.2 hf.2 u g
  | .leaf none, _, _, _, g => nomatch g
  | .leaf (some (0, _, _, _, _, _)), _, _, _, g => nomatch g
  | .leaf (some (_ + 1, _, _, _, _, _)), _, _, _, g => nomatch g
  | .branch 0 (.leaf (some (0, _, _, _, _, _))) _, _, _, _, g => nomatch g
  | .branch 0 (.leaf (some (1, _, _, _, _, _))) _, _, _, _, g => nomatch g
  | .branch 1 (.leaf (some (0, _, _, _, _, _))) (.branch _ _ _), _, _, _, g => nomatch g
  | .branch 1 (.leaf (some (_ + 1, _, _, _, _, _))) (.branch _ _ _), _, _, _, g => nomatch g
  | .branch 2 (.leaf (some (_, _, _, _, _, _))) (.branch _ _ (.branch _ _ _)), _, _, _, g => nomatch g
  | .branch 0 (.leaf (some (2, _, _, _, _, _))) _, _, _, _, g => nomatch g
  | .branch 0 (.leaf (some (_ + 3, _, _, _, _, _))) _, _, _, _, g => nomatch g
  | .branch 0 (.leaf none) _, _, _, _, g => nomatch g
  | .branch 0 (.branch _ _ _) _, _, _, _, g => nomatch g
  | .branch 1 (.leaf none) _, _, _, _, g => nomatch g
  | .branch 1 (.branch _ _ _) _, _, _, _, g => nomatch g
  | .branch 1 (.leaf (some (0, _, _, _, _, _))) (.leaf _), _, _, _, g => nomatch g
  | .branch 1 (.leaf (some (_ + 1, _, _, _, _, _))) (.leaf _), _, _, _, g => nomatch g
  | .branch 2 (.leaf none) _, _, _, _, g => nomatch g
  | .branch 2 (.branch _ _ _) _, _, _, _, g => nomatch g
  | .branch 2 (.leaf (some (_, _, _, _, _, _))) (.leaf _), _, _, _, g => nomatch g
  | .branch 2 (.leaf (some (_, _, _, _, _, _))) (.branch _ _ (.leaf _)), _, _, _, g => nomatch g
/-- a tree's work begins -/
theorem fx_w {n c : Nat} {K : List (Nat × Tm)} {V : List Int64} {E : List (Nat → Int64)} {ck : Nat → Int32} {cf : Nat → Int64} {X : cm_X} {s2 : cm_S} (hK : ∀ u ∈ K, u.1 = 0 ∨ u.1 = 1 → fxP zk fd F u.2) (hc : ∀ d, d < c → Int32.toNatClampNeg (ck d) < zk) : ∀ (t : Tm), fxP zk fd F t → cm_w t K V E n c ck cf X = .ok s2 → fxI zk fd F s2
  | .leaf (some (0, _, _, _, _, _)), _, h => by cases h; exact ⟨hK, hc⟩
  | .leaf (some (_ + 1, _, _, _, _, _)), _, h => by cases h; exact ⟨hK, hc⟩
  | .branch 0 (.leaf (some (0, p, _, _, _, w))) a, ⟨⟨d, hw⟩, hf⟩, h => by
    cases h
    refine ⟨fun u hu hj => ?_, hc⟩
    rcases List.mem_append.mp hu with g | g
    · exact fx_as a hw hf.2 u g
    · rcases List.mem_cons.mp g with g | g
      · rw [g]; exact ⟨⟨d, hw⟩, hf⟩
      · exact hK u g hj
  | .branch 0 (.leaf (some (1, p, _, k, _, _))) a, ⟨⟨d, hw⟩, hf⟩, h => by
    cases h
    refine ⟨fun u hu hj => ?_, hc⟩
    rcases List.mem_append.mp hu with g | g
    · exact fx_as a hw.2 hf u g
    · rcases List.mem_cons.mp g with g | g
      · rw [g]; exact ⟨⟨d, hw⟩, hf⟩
      · exact hK u g hj
  | .branch 0 (.leaf (some (2, p, _, s, _, _))) a, ⟨⟨d, hw⟩, hf⟩, h => by
    cases h
    refine ⟨fun u hu hj => ?_, hc⟩
    rcases List.mem_cons.mp hu with g | g
    · rw [g]; exact ⟨⟨d, hw⟩, hf⟩
    · exact hK u g hj
  | .branch 1 (.leaf (some (0, p, o, _, _, _))) (.branch _ a b), ⟨⟨d, hw⟩, hf⟩, h => by
    cases h
    refine ⟨fun u hu hj => ?_, hc⟩
    rcases List.mem_cons.mp hu with g | g
    · rw [g]; exact ⟨⟨d, hw.1⟩, hf.1⟩
    · rcases List.mem_cons.mp g with g | g
      · rw [g]; exact ⟨⟨d, hw.2⟩, hf.2⟩
      · rcases List.mem_cons.mp g with g | g
        · rw [g]; exact ⟨⟨d, hw⟩, hf⟩
        · exact hK u g hj
  | .branch 1 (.leaf (some (_ + 1, p, _, s, _, _))) (.branch _ a b), ⟨⟨d, hw⟩, hf⟩, h => by
    cases h
    refine ⟨fun u hu hj => ?_, hc⟩
    rcases List.mem_cons.mp hu with g | g
    · rw [g]; exact ⟨⟨d, hw.2.1⟩, hf.1⟩
    · rcases List.mem_cons.mp g with g | g
      · rw [g]; exact ⟨⟨d, hw⟩, hf⟩
      · exact hK u g hj
  | .branch 2 (.leaf (some (_, p, _, _, _, _))) (.branch _ a (.branch _ b e)), ⟨⟨d, hw⟩, hf⟩, h => by
    cases h
    refine ⟨fun u hu hj => ?_, hc⟩
    rcases List.mem_cons.mp hu with g | g
    · rw [g]; exact ⟨⟨d, hw.1⟩, hf.1⟩
    · rcases List.mem_cons.mp g with g | g
      · rw [g]; exact ⟨⟨d, hw⟩, hf⟩
      · exact hK u g hj
  | .leaf none, _, h => by cases h
  | .branch (_ + 3) _ _, _, h => by cases h
  | .branch 0 (.leaf (some (_ + 3, _, _, _, _, _))) _, _, h => by cases h
  | .branch 0 (.leaf none) _, _, h => by cases h
  | .branch 0 (.branch _ _ _) _, _, h => by cases h
  | .branch 1 (.leaf none) _, _, h => by cases h
  | .branch 1 (.branch _ _ _) _, _, h => by cases h
  | .branch 1 (.leaf (some (0, _, _, _, _, _))) (.leaf _), _, h => by cases h
  | .branch 1 (.leaf (some (_ + 1, _, _, _, _, _))) (.leaf _), _, h => by cases h
  | .branch 2 (.leaf none) _, _, h => by cases h
  | .branch 2 (.branch _ _ _) _, _, h => by cases h
  | .branch 2 (.leaf (some (_, _, _, _, _, _))) (.leaf _), _, h => by cases h
  | .branch 2 (.leaf (some (_, _, _, _, _, _))) (.branch _ _ (.leaf _)), _, h => by cases h
end

end
section
/-! the counted machine asks only for the fields of KINDS that there are: its steps -/
section
variable {zk : Nat} {fd fd2 : Nat → Int32} {F : sp_F} {lim : Int} {al : Nat}
theorem fx_am : ∀ (y : Tm) {c : Nat}, tm_wf zk fd y c → tm_fn F y → fxP zk fd F (am_x y)
  | .branch 0 (.leaf (some (_ + 3, _, _, _, m, _))) x, c, hw, hf => ⟨⟨c + m, hw.2⟩, hf⟩
  | .leaf none, _, _, _ => ⟨⟨0, trivial⟩, trivial⟩
  | .branch (_ + 3) _ _, _, _, _ => ⟨⟨0, trivial⟩, trivial⟩
  | .leaf (some (0, _, _, _, _, _)), _, _, _ => ⟨⟨0, trivial⟩, trivial⟩
  | .leaf (some (_ + 1, _, _, _, _, _)), _, _, _ => ⟨⟨0, trivial⟩, trivial⟩
  | .branch 0 (.leaf (some (0, _, _, _, _, _))) _, _, _, _ => ⟨⟨0, trivial⟩, trivial⟩
  | .branch 0 (.leaf (some (1, _, _, _, _, _))) _, _, _, _ => ⟨⟨0, trivial⟩, trivial⟩
  | .branch 1 (.leaf (some (0, _, _, _, _, _))) (.branch _ _ _), _, _, _ => ⟨⟨0, trivial⟩, trivial⟩
  | .branch 1 (.leaf (some (_ + 1, _, _, _, _, _))) (.branch _ _ _), _, _, _ => ⟨⟨0, trivial⟩, trivial⟩
  | .branch 2 (.leaf (some (_, _, _, _, _, _))) (.branch _ _ (.branch _ _ _)), _, _, _ => ⟨⟨0, trivial⟩, trivial⟩
  | .branch 0 (.leaf (some (2, _, _, _, _, _))) _, _, _, _ => ⟨⟨0, trivial⟩, trivial⟩
  | .branch 0 (.leaf none) _, _, _, _ => ⟨⟨0, trivial⟩, trivial⟩
  | .branch 0 (.branch _ _ _) _, _, _, _ => ⟨⟨0, trivial⟩, trivial⟩
  | .branch 1 (.leaf none) _, _, _, _ => ⟨⟨0, trivial⟩, trivial⟩
  | .branch 1 (.branch _ _ _) _, _, _, _ => ⟨⟨0, trivial⟩, trivial⟩
  | .branch 1 (.leaf (some (0, _, _, _, _, _))) (.leaf _), _, _, _ => ⟨⟨0, trivial⟩, trivial⟩
  | .branch 1 (.leaf (some (_ + 1, _, _, _, _, _))) (.leaf _), _, _, _ => ⟨⟨0, trivial⟩, trivial⟩
  | .branch 2 (.leaf none) _, _, _, _ => ⟨⟨0, trivial⟩, trivial⟩
  | .branch 2 (.branch _ _ _) _, _, _, _ => ⟨⟨0, trivial⟩, trivial⟩
  | .branch 2 (.leaf (some (_, _, _, _, _, _))) (.leaf _), _, _, _ => ⟨⟨0, trivial⟩, trivial⟩
  | .branch 2 (.leaf (some (_, _, _, _, _, _))) (.branch _ _ (.leaf _)), _, _, _ => ⟨⟨0, trivial⟩, trivial⟩
theorem fx_fi {k : Int} {c : Nat} {y : Tm} : ∀ (a : Tm), tm_wf zk fd a c → tm_fn F a → pm_fi k a = some y → fxP zk fd F (am_x y)
  | .branch (_ + 3) x b, hw, hf, h => by
    have h : (if am_k x = -1 ∨ am_k x = k then some x else pm_fi k b) = some y := h
    by_cases g : am_k x = -1 ∨ am_k x = k
    · rw [if_pos g] at h
      rw [← Option.some.inj h]
      exact fx_am x hw.1 hf.1
    · rw [if_neg g] at h
      exact fx_fi b hw.2 hf.2 h
  | .leaf none, _, _, h => by cases h
  | .leaf (some (0, _, _, _, _, _)), _, _, h => by cases h
  | .leaf (some (_ + 1, _, _, _, _, _)), _, _, h => by cases h
  | .branch 0 (.leaf (some (0, _, _, _, _, _))) _, _, _, h => by cases h
  | .branch 0 (.leaf (some (1, _, _, _, _, _))) _, _, _, h => by cases h
  | .branch 1 (.leaf (some (0, _, _, _, _, _))) (.branch _ _ _), _, _, h => by cases h
  | .branch 1 (.leaf (some (_ + 1, _, _, _, _, _))) (.branch _ _ _), _, _, h => by cases h
  | .branch 2 (.leaf (some (_, _, _, _, _, _))) (.branch _ _ (.branch _ _ _)), _, _, h => by cases h
  | .branch 0 (.leaf (some (2, _, _, _, _, _))) _, _, _, h => by cases h
  | .branch 0 (.leaf (some (_ + 3, _, _, _, _, _))) _, _, _, h => by cases h
  | .branch 0 (.leaf none) _, _, _, h => by cases h
  | .branch 0 (.branch _ _ _) _, _, _, h => by cases h
  | .branch 1 (.leaf none) _, _, _, h => by cases h
  | .branch 1 (.branch _ _ _) _, _, _, h => by cases h
  | .branch 1 (.leaf (some (0, _, _, _, _, _))) (.leaf _), _, _, h => by cases h
  | .branch 1 (.leaf (some (_ + 1, _, _, _, _, _))) (.leaf _), _, _, h => by cases h
  | .branch 2 (.leaf none) _, _, _, h => by cases h
  | .branch 2 (.branch _ _ _) _, _, _, h => by cases h
  | .branch 2 (.leaf (some (_, _, _, _, _, _))) (.leaf _), _, _, h => by cases h
  | .branch 2 (.leaf (some (_, _, _, _, _, _))) (.branch _ _ (.leaf _)), _, _, h => by cases h
variable {n c : Nat} {K0 K : List (Nat × Tm)} {V : List Int64} {E : List (Nat → Int64)} {ck : Nat → Int32} {cf : Nat → Int64} {X : cm_X} {s2 : cm_S}
theorem fx_1 {j : Nat} {t : Tm} (hK : ∀ u ∈ K, u.1 = 0 ∨ u.1 = 1 → fxP zk fd F u.2) (h : fxP zk fd F t) : ∀ u ∈ (j, t) :: K, u.1 = 0 ∨ u.1 = 1 → fxP zk fd F u.2 := fun u hu hj => by
  rcases List.mem_cons.mp hu with g | g
  · rw [g]; exact h
  · exact hK u g hj
theorem fx_2 {j : Nat} {t : Tm} (hK : ∀ u ∈ K, u.1 = 0 ∨ u.1 = 1 → fxP zk fd F u.2) (h : j ≠ 0 ∧ j ≠ 1) : ∀ u ∈ (j, t) :: K, u.1 = 0 ∨ u.1 = 1 → fxP zk fd F u.2 := fun u hu hj => by
  rcases List.mem_cons.mp hu with g | g
  · rw [g] at hj
    have hj : j = 0 ∨ j = 1 := hj
    omega
  · exact hK u g hj
theorem fx_mt {p : Int} {s d : Nat} {a : Tm} (hfd : ∀ k, k < zk → fd2 k = fd k) (hK : ∀ u ∈ K, u.1 = 0 ∨ u.1 = 1 → fxP zk fd F u.2) (hc : ∀ d, d < c → Int32.toNatClampNeg (ck d) < zk) (hw : tm_wf zk fd a d) (hf : tm_fn F a) : cm_mt fd p s a K0 K V E n c ck cf X = cm_mt fd2 p s a K0 K V E n c ck cf X ∧ (cm_mt fd p s a K0 K V E n c ck cf X = .ok s2 → fxI zk fd F s2) := by
  have he : ∀ d, d < c → cWd fd ck d = cWd fd2 ck d := fun d hd => by unfold cWd; rw [hfd _ (hc d hd)]
  unfold cm_mt
  refine ⟨by rw [cCt_e he], fun h => ?_⟩
  cases g : pm_fi (pm_kd ck (E.headD (fun _ => 0) s)) a with
  | none => rw [g] at h; cases h
  | some y =>
    rw [g] at h
    have hy := fx_fi a hw hf g
    dsimp only at h
    split at h
    · split at h
      · split at h
        · cases h; exact ⟨fx_1 (fx_2 hK ⟨by decide, by decide⟩) hy, hc⟩
        · cases h; exact ⟨fx_1 hK hy, hc⟩
      · cases h; exact ⟨fx_1 hK hy, hc⟩
    · cases h; exact ⟨fx_1 hK hy, hc⟩
def fxZ (zk : Nat) : Prop := zk ≤ 1000000
theorem fx_of {k : Nat} (h : k ≤ 1000000) : (Int32.ofInt (k : Int)).toInt = (k : Int) := by
  rw [Int32.toInt_ofInt_of_le] <;> omega
theorem fx_up {k : Nat} (hz : fxZ zk) (hk : k < zk) (hc : ∀ d, d < c → Int32.toNatClampNeg (ck d) < zk) : ∀ d, d < c + 1 → Int32.toNatClampNeg (upd ck c (Int32.ofInt (k : Int)) d) < zk := fun d hd => by
  by_cases u : d = c
  · rw [u, zu_s]
    have hk2 : k ≤ 1000000 := Nat.le_trans (Nat.le_of_lt hk) hz
    have e := fx_of hk2
    rw [zn_li7 e]; exact hk
  · rw [zu_n u]; exact hc d (by omega)
theorem fx_dc {t : Tm} {w : Int64} {p : Int} (hF : ∀ f, f < F.1 → fxP zk fd F (F.2.2.2 f)) (hK : ∀ u ∈ K, u.1 = 0 ∨ u.1 = 1 → fxP zk fd F u.2) (hc : ∀ d, d < c → Int32.toNatClampNeg (ck d) < zk) (hf : sp_fi F.2.1 w F.1 < F.1) (e : ∀ q, cm_d F q lim t K0 K V E n c ck cf X = if 100 ≤ E.length then .error (4, p, ((K0, V, E, n, c, ck, cf), X)) else .ok (((0, F.2.2.2 (sp_fi F.2.1 w F.1)) :: (2, Tm.nil) :: K, V.drop (F.2.2.1 (sp_fi F.2.1 w F.1)).toNat, pm_ae V (F.2.2.1 (sp_fi F.2.1 w F.1)).toNat :: E, n, c, ck, cf), (X.1, X.2.1, X.2.2.1, X.2.2.2.1, X.2.2.2.2.1, max X.2.2.2.2.2 (E.length + 1)))) : cm_d F fd lim t K0 K V E n c ck cf X = cm_d F fd2 lim t K0 K V E n c ck cf X ∧ (cm_d F fd lim t K0 K V E n c ck cf X = .ok s2 → fxI zk fd F s2) := by
  refine ⟨(e fd).trans (e fd2).symm, fun h => ?_⟩
  have h := (e fd).symm.trans h
  split at h
  · cases h
  · cases h
    exact ⟨fx_1 (fx_2 hK ⟨by decide, by decide⟩) (hF _ hf), hc⟩
theorem fx_db {t : Tm} {o p : Int} (hK : ∀ u ∈ K, u.1 = 0 ∨ u.1 = 1 → fxP zk fd F u.2) (hc : ∀ d, d < c → Int32.toNatClampNeg (ck d) < zk) (e : ∀ q, cm_d F q lim t K0 K V E n c ck cf X = (match (if zhs (V.getD 1 0) = 0 ∧ zhs (V.getD 0 0) = 0 then (Except.ok (K, pv0 (pm_op o (V.getD 1 0).toInt32 (V.getD 0 0).toInt32) :: V.drop 2, E, n, c, ck, cf) : Except (Nat × Int) pm_S) else .error (2, p)) with | .ok s => (Except.ok (s, X) : Except (Nat × Int × cm_S) cm_S) | .error e => .error (e.1, e.2, ((K0, V, E, n, c, ck, cf), X)))) : cm_d F fd lim t K0 K V E n c ck cf X = cm_d F fd2 lim t K0 K V E n c ck cf X ∧ (cm_d F fd lim t K0 K V E n c ck cf X = .ok s2 → fxI zk fd F s2) := by
  refine ⟨(e fd).trans (e fd2).symm, fun h => ?_⟩
  have h := (e fd).symm.trans h
  by_cases g : zhs (V.getD 1 0) = 0 ∧ zhs (V.getD 0 0) = 0
  · rw [if_pos g] at h; cases h; exact ⟨hK, hc⟩
  · rw [if_neg g] at h; cases h
theorem fx_dl {t b : Tm} {s : Nat} (hK : ∀ u ∈ K, u.1 = 0 ∨ u.1 = 1 → fxP zk fd F u.2) (hc : ∀ d, d < c → Int32.toNatClampNeg (ck d) < zk) (hb : fxP zk fd F b) (e : ∀ q, cm_d F q lim t K0 K V E n c ck cf X = .ok (((0, b) :: K, V.drop 1, vp_updL (E.headD (fun _ => 0)) s (V.getD 0 0) :: E.tail, n, c, ck, cf), X)) : cm_d F fd lim t K0 K V E n c ck cf X = cm_d F fd2 lim t K0 K V E n c ck cf X ∧ (cm_d F fd lim t K0 K V E n c ck cf X = .ok s2 → fxI zk fd F s2) := by
  refine ⟨(e fd).trans (e fd2).symm, fun h => ?_⟩
  have h := (e fd).symm.trans h
  cases h
  exact ⟨fx_1 hK hb, hc⟩
theorem fx_di {t b d : Tm} {p : Int} (hK : ∀ u ∈ K, u.1 = 0 ∨ u.1 = 1 → fxP zk fd F u.2) (hc : ∀ d, d < c → Int32.toNatClampNeg (ck d) < zk) (hb : fxP zk fd F b) (hd : fxP zk fd F d) (e : ∀ q, cm_d F q lim t K0 K V E n c ck cf X = (match (if zhs (V.getD 0 0) = 0 then (Except.ok ((0, if (V.getD 0 0).toInt32 = 0 then d else b) :: K, V.drop 1, E, n, c, ck, cf) : Except (Nat × Int) pm_S) else .error (2, p)) with | .ok s => (Except.ok (s, X) : Except (Nat × Int × cm_S) cm_S) | .error e => .error (e.1, e.2, ((K0, V, E, n, c, ck, cf), X)))) : cm_d F fd lim t K0 K V E n c ck cf X = cm_d F fd2 lim t K0 K V E n c ck cf X ∧ (cm_d F fd lim t K0 K V E n c ck cf X = .ok s2 → fxI zk fd F s2) := by
  refine ⟨(e fd).trans (e fd2).symm, fun h => ?_⟩
  have h := (e fd).symm.trans h
  by_cases g : zhs (V.getD 0 0) = 0
  · rw [if_pos g] at h
    cases h
    refine ⟨fx_1 hK ?_, hc⟩
    split
    · exact hd
    · exact hb
  · rw [if_neg g] at h; cases h
theorem fx_dx {t : Tm} {z : Nat × Int × cm_S} (e : ∀ q, cm_d F q lim t K0 K V E n c ck cf X = .error z) : cm_d F fd lim t K0 K V E n c ck cf X = cm_d F fd2 lim t K0 K V E n c ck cf X ∧ (cm_d F fd lim t K0 K V E n c ck cf X = .ok s2 → fxI zk fd F s2) := ⟨(e fd).trans (e fd2).symm, fun h => by
  have h := (e fd).symm.trans h
  cases h⟩
/-- what is done behind the operands -/
theorem fx_d (hz : fxZ zk) (hfd : ∀ k, k < zk → fd2 k = fd k) (hF : ∀ f, f < F.1 → fxP zk fd F (F.2.2.2 f)) (hK : ∀ u ∈ K, u.1 = 0 ∨ u.1 = 1 → fxP zk fd F u.2) (hc : ∀ d, d < c → Int32.toNatClampNeg (ck d) < zk) : ∀ (t : Tm), fxP zk fd F t → cm_d F fd lim t K0 K V E n c ck cf X = cm_d F fd2 lim t K0 K V E n c ck cf X ∧ (cm_d F fd lim t K0 K V E n c ck cf X = .ok s2 → fxI zk fd F s2)
  | .branch 0 (.leaf (some (0, p, _, _, _, w))) a, ⟨⟨d, hw⟩, hf⟩ => fx_dc (p := p) (w := w) hF hK hc hf.1 (fun _ => rfl)
  | .branch 0 (.leaf (some (1, p, _, k, _, _))) a, ⟨⟨d, hw⟩, hf⟩ => by
    have he : ∀ d, d < c → cWd fd ck d = cWd fd2 ck d := fun d hd => by unfold cWd; rw [hfd _ (hc d hd)]
    have hh : cm_hl fd ((K0, V, E, n, c, ck, cf), X) = cm_hl fd2 ((K0, V, E, n, c, ck, cf), X) := by
      obtain ⟨S, X2⟩ := X
      show nLv c (cWd fd ck) cf (mRt K0 V E) + (S.length : Int) = nLv c (cWd fd2 ck) cf (mRt K0 V E) + (S.length : Int)
      rw [nLv_e he]
    have e : ∀ q, cm_d F q lim (Tm.made p k a) K0 K V E n c ck cf X = if tm_ln a = 0 then .ok ((K, pv1 (Int32.ofInt (k : Int)) :: V, E, n, c, ck, cf), X)
      else match sh_f E.length (tm_ln a) X.1 with
        | some i => .ok ((K, pv2 (Int32.ofInt (c : Int)) :: V.drop (tm_ln a), E, n, c + 1, upd ck c (Int32.ofInt (k : Int)), pm_cf cf V c (tm_ln a)), (sh_r i X.1, X.2.1, X.2.2.1 + 1, X.2.2.2))
        | none => if lim ≤ cm_hl q ((K0, V, E, n, c, ck, cf), X) then .error (3, p, ((K0, V, E, n, c, ck, cf), X)) else .ok ((K, pv2 (Int32.ofInt (c : Int)) :: V.drop (tm_ln a), E, n, c + 1, upd ck c (Int32.ofInt (k : Int)), pm_cf cf V c (tm_ln a)), (X.1, X.2.1 + 1, X.2.2.1, max X.2.2.2.1 (cm_hl q ((K0, V, E, n, c, ck, cf), X) + 1), X.2.2.2.2)) := fun _ => rfl
    refine ⟨?_, fun h => ?_⟩
    · refine (e fd).trans (Eq.trans ?_ (e fd2).symm)
      rw [hh]
    · have h := (e fd).symm.trans h
      split at h
      · cases h; exact ⟨hK, hc⟩
      · split at h
        · cases h; exact ⟨hK, fx_up hz hw.1.1 hc⟩
        · split at h
          · cases h
          · cases h; exact ⟨hK, fx_up hz hw.1.1 hc⟩
  | .branch 0 (.leaf (some (2, p, _, s, _, _))) a, ⟨⟨d, hw⟩, hf⟩ => fx_mt hfd hK hc hw.2 hf
  | .branch 1 (.leaf (some (0, p, o, _, _, _))) (.branch _ a b), ⟨⟨d, hw⟩, hf⟩ => fx_db (p := p) (o := o) hK hc (fun _ => rfl)
  | .branch 1 (.leaf (some (_ + 1, p, _, s, _, _))) (.branch _ a b), ⟨⟨d, hw⟩, hf⟩ => fx_dl (s := s) (b := b) hK hc ⟨⟨_, hw.2.2⟩, hf.2⟩ (fun _ => rfl)
  | .branch 2 (.leaf (some (_, p, _, _, _, _))) (.branch _ a (.branch _ b e)), ⟨⟨d, hw⟩, hf⟩ => fx_di (p := p) (b := b) (d := e) hK hc ⟨⟨d, hw.2.1⟩, hf.2.1⟩ ⟨⟨d, hw.2.2⟩, hf.2.2⟩ (fun _ => rfl)
  | .leaf none, _ => fx_dx (fun _ => rfl)
  | .branch (_ + 3) _ _, _ => fx_dx (fun _ => rfl)
  | .leaf (some (0, _, _, _, _, _)), _ => fx_dx (fun _ => rfl)
  | .leaf (some (_ + 1, _, _, _, _, _)), _ => fx_dx (fun _ => rfl)
  | .branch 0 (.leaf (some (_ + 3, _, _, _, _, _))) _, _ => fx_dx (fun _ => rfl)
  | .branch 0 (.leaf none) _, _ => fx_dx (fun _ => rfl)
  | .branch 0 (.branch _ _ _) _, _ => fx_dx (fun _ => rfl)
  | .branch 1 (.leaf none) _, _ => fx_dx (fun _ => rfl)
  | .branch 1 (.branch _ _ _) _, _ => fx_dx (fun _ => rfl)
  | .branch 1 (.leaf (some (0, _, _, _, _, _))) (.leaf _), _ => fx_dx (fun _ => rfl)
  | .branch 1 (.leaf (some (_ + 1, _, _, _, _, _))) (.leaf _), _ => fx_dx (fun _ => rfl)
  | .branch 2 (.leaf none) _, _ => fx_dx (fun _ => rfl)
  | .branch 2 (.branch _ _ _) _, _ => fx_dx (fun _ => rfl)
  | .branch 2 (.leaf (some (_, _, _, _, _, _))) (.leaf _), _ => fx_dx (fun _ => rfl)
  | .branch 2 (.leaf (some (_, _, _, _, _, _))) (.branch _ _ (.leaf _)), _ => fx_dx (fun _ => rfl)
/-- a step -/
theorem fx_st (hz : fxZ zk) (hfd : ∀ k, k < zk → fd2 k = fd k) (hF : ∀ f, f < F.1 → fxP zk fd F (F.2.2.2 f)) : ∀ {s s2 : cm_S}, fxI zk fd F s → cm_st F fd lim al s = cm_st F fd2 lim al s ∧ (cm_st F fd lim al s = .ok s2 → fxI zk fd F s2)
  | (([], V, E, n, c, ck, cf), X), s2, _ => ⟨rfl, fun h => by cases h⟩
  | (((j, t) :: K, V, E, n, c, ck, cf), X), s2, ⟨h1, h2⟩ => by
    have hK : ∀ u ∈ K, u.1 = 0 ∨ u.1 = 1 → fxP zk fd F u.2 := fun u hu => h1 u (List.mem_cons_of_mem _ hu)
    have e : ∀ q, cm_st F q lim al (((j, t) :: K, V, E, n, c, ck, cf), X) = if j = 0 then (if n = al then .error (5, pm_pl t, (((j, t) :: K, V, E, n, c, ck, cf), X)) else cm_w t K V E (n + 1) c ck cf X)
      else if j = 1 then cm_d F q lim t ((j, t) :: K) K V E n c ck cf X
      else if j = 3 then .ok ((K, V, E, n, c, ck, cf), (sh_r (tm_id t) X.1, X.2))
      else .ok ((K, V, E.tail, n, c, ck, cf), X) := fun _ => rfl
    rw [e fd, e fd2]
    by_cases j0 : j = 0
    · rw [if_pos j0, if_pos j0]
      refine ⟨rfl, fun h => ?_⟩
      by_cases u : n = al
      · rw [if_pos u] at h; cases h
      · rw [if_neg u] at h
        exact fx_w hK h2 t (h1 (j, t) List.mem_cons_self (Or.inl j0)) h
    · rw [if_neg j0, if_neg j0]
      by_cases j1 : j = 1
      · rw [if_pos j1, if_pos j1]
        exact fx_d hz hfd hF hK h2 t (h1 (j, t) List.mem_cons_self (Or.inr j1))
      · rw [if_neg j1, if_neg j1]
        refine ⟨rfl, fun h => ?_⟩
        by_cases j3 : j = 3
        · rw [if_pos j3] at h; cases h; exact ⟨hK, h2⟩
        · rw [if_neg j3] at h; cases h; exact ⟨hK, h2⟩
theorem fx_it (hz : fxZ zk) (hfd : ∀ k, k < zk → fd2 k = fd k) (hF : ∀ f, f < F.1 → fxP zk fd F (F.2.2.2 f)) : ∀ {m : Nat} {s : cm_S}, fxI zk fd F s → cm_it F fd lim al m s = cm_it F fd2 lim al m s
  | 0, _, _ => rfl
  | m + 1, s, h => by
    unfold cm_it
    rw [← (fx_st (s2 := s) hz hfd hF h).1]
    cases g : cm_st F fd lim al s with
    | error e => rfl
    | ok s2 => exact fx_it hz hfd hF ((fx_st hz hfd hF h).2 g)
/-- a run's end asks only for the fields of KINDS that there are -/
theorem fx_ou {f : Nat} {a b c d : Int32} {o : Nat × Int × cm_S} (hz : fxZ zk) (hfd : ∀ k, k < zk → fd2 k = fd k) (hF : ∀ f, f < F.1 → fxP zk fd F (F.2.2.2 f)) (hf : f < F.1) (h : cm_ou F fd lim al (cm_s0 F f a b c d) o) : cm_ou F fd2 lim al (cm_s0 F f a b c d) o := by
  obtain ⟨m, h⟩ := h
  refine ⟨m, ?_⟩
  rw [← fx_it hz hfd hF ?_]
  · exact h
  · exact ⟨fx_1 (fx_2 (fun u hu => (nomatch hu)) ⟨by decide, by decide⟩) (hF f hf), fun d hd => absurd hd (Nat.not_lt_zero _)⟩
end

end
section
/-! the calls of a tree's code -/
theorem cI_fn {S : Nat → Nat → Int32} {H : Int32 → Int64 → Prop} {alo ahi : Int} {F : sp_F} (hH : ∀ x w, H x w → sp_fi F.2.1 w F.1 < F.1) : ∀ (t : Tm) {mo : Bool} {pv : Nat} {ar : Int32} {en : Nat} {X : List Nat}, cI S H alo ahi t mo pv ar en X → tm_fn F t
  | .leaf (some (0, _, _, _, _, _)), _, _, _, _, _, _ => trivial
  | .leaf (some (_ + 1, _, _, _, _, _)), _, _, _, _, _, _ => trivial
  | .branch 0 (.leaf (some (0, _, _, _, _, _))) t, _, _, _, _, X, h => by
    rcases h with ⟨-, e, q, rfl, a, b, -⟩ | ⟨-, s, Y, q, rfl, a, -, b, d, g, -⟩
    · subst e; exact ⟨hH _ _ b, trivial⟩
    · exact ⟨hH _ _ g, cI_fn hH t b⟩
  | .branch 0 (.leaf (some (1, _, _, _, _, _))) t, _, _, _, _, X, h => by
    rcases h with ⟨-, e, q, rfl, a, -⟩ | ⟨-, s, Y, q, rfl, a, -, b, d, -⟩
    · subst e; exact (trivial : tm_fn F Tm.nil)
    · exact (cI_fn hH t b : tm_fn F t)
  | .branch 1 (.leaf (some (0, _, o, _, _, _))) (.branch _ t u), _, _, _, _, X, h => by
    obtain ⟨s, Y, Z, q, rfl, a, -, b, d, e, -⟩ := h
    exact ⟨cI_fn hH t b, cI_fn hH u d⟩
  | .branch 1 (.leaf (some (_ + 1, _, _, _, _, _))) (.branch _ t u), _, _, _, _, X, h => by
    obtain ⟨s, Y, q, Z, rfl, a, -, b, d, -, e⟩ := h
    exact ⟨cI_fn hH t b, cI_fn hH u e⟩
  | .branch 2 (.leaf (some (_, _, _, _, _, _))) (.branch _ t (.branch _ u v)), _, _, _, _, X, h => by
    obtain ⟨s, Y, i, Z, j, U, rfl, a, -, b, d, -, -, e, f, f2, k⟩ := h
    exact ⟨cI_fn hH t b, cI_fn hH u e, cI_fn hH v k⟩
  | .branch 0 (.leaf (some (2, _, _, _, _, _))) t, _, _, _, _, X, h => by
    obtain ⟨s, m, Y, rfl, a, -, b, -, -, d⟩ := h
    exact (cI_fn hH t d : tm_fn F t)
  | .branch 0 (.leaf (some (_ + 3, _, _, _, _, _))) t, _, _, _, en, X, h => by
    obtain ⟨Y, v, rfl, -, -, -, -, -, -, a, b, d⟩ := h
    exact (cI_fn hH t d : tm_fn F t)
  | .leaf none, _, _, _, _, X, _ => trivial
  | .branch (_ + 3) t u, _, _, _, _, X, h => by
    obtain ⟨Y, Z, rfl, a, b, -⟩ := h
    exact ⟨cI_fn hH t a, cI_fn hH u b⟩
  | .branch 0 (.leaf none) _, _, _, _, _, _, h => h.elim
  | .branch 0 (.branch _ _ _) _, _, _, _, _, _, h => h.elim
  | .branch 1 (.leaf none) _, _, _, _, _, _, h => h.elim
  | .branch 1 (.branch _ _ _) _, _, _, _, _, _, h => h.elim
  | .branch 1 (.leaf (some (0, _, _, _, _, _))) (.leaf _), _, _, _, _, _, h => h.elim
  | .branch 1 (.leaf (some (_ + 1, _, _, _, _, _))) (.leaf _), _, _, _, _, _, h => h.elim
  | .branch 2 (.leaf none) _, _, _, _, _, _, h => h.elim
  | .branch 2 (.branch _ _ _) _, _, _, _, _, _, h => h.elim
  | .branch 2 (.leaf (some (_, _, _, _, _, _))) (.leaf _), _, _, _, _, _, h => h.elim
  | .branch 2 (.leaf (some (_, _, _, _, _, _))) (.branch _ _ (.leaf _)), _, _, _, _, _, h => h.elim
/-- the trees of the program that was taken -/
theorem cPx_fx {S : Nat → Nat → Int32} {nx : Nat → Int32} {H : Int32 → Int64 → Prop} {az : Int} {z : Nat} {kf en ff : Nat → Int32} {F : sp_F} (hp : cPx S nx H az z kf en ff F) : ∀ f, f < F.1 → fxP z kf F (F.2.2.2 f) := fun f hf => by
  obtain ⟨X, y, c, ⟨x1, -⟩, -, -, -, c4, -⟩ := hp.2 f hf
  exact ⟨⟨c, c4⟩, cI_fn (fun x w g => by obtain ⟨-, e, l⟩ := hp.1 x w g; rw [e]; exact l) _ x1⟩

end
section
/-! names that are still to be dropped, from slot k on -/
def zNr (na : Int32) (k : Nat) (e : Nat → Int64) (x : Nat) : Int := zNb (fun j => zbit na j && decide (k ≤ j)) e x
section
variable {na : Int32} {k k2 x : Nat} {e : Nat → Int64}
theorem zNr_p : 0 ≤ zNr na k e x := zNb_0
theorem zNr_0 (h : k = 0) : zNr na k e x = zNb (fun j => zbit na j) e x := zNb_e (fun j _ => by
  show (zbit na j && decide (k ≤ j)) = zbit na j
  rw [decide_eq_true (by omega), Bool.and_true]) (fun _ _ _ => rfl)
theorem zNr_n (h : zbit na k = false) (e2 : k2 = k + 1) : zNr na k e x = zNr na k2 e x := zNb_e (fun j _ => by
  show (zbit na j && decide (k ≤ j)) = (zbit na j && decide (k2 ≤ j))
  by_cases u : j = k
  · rw [u, h]; rfl
  · by_cases v : k ≤ j
    · rw [decide_eq_true v, decide_eq_true (show k2 ≤ j by omega)]
    · rw [decide_eq_false v, decide_eq_false (show ¬ k2 ≤ j by omega)]) (fun _ _ _ => rfl)
theorem zNr_s (hk : k < 24) (h : zbit na k = true) (e2 : k2 = k + 1) : zNr na k e x = zNr na k2 e x + zr (e k) x := by
  unfold zNr
  rw [← zNb_1 (e := e) (x := x) hk]
  refine zNb_a (fun j _ => ?_) (fun j _ hj => ?_)
  · show (zbit na j && decide (k ≤ j)) = ((zbit na j && decide (k2 ≤ j)) || (j == k))
    by_cases u : j = k
    · rw [u, h, beq_self_eq_true, Bool.or_true, decide_eq_true (Nat.le_refl k)]; rfl
    · rw [beq_eq_false_iff_ne.mpr u, Bool.or_false]
      by_cases v : k ≤ j
      · rw [decide_eq_true v, decide_eq_true (show k2 ≤ j by omega)]
      · rw [decide_eq_false v, decide_eq_false (show ¬ k2 ≤ j by omega)]
  · have := of_decide_eq_true ((Bool.and_eq_true _ _).mp hj).2
    exact beq_eq_false_iff_ne.mpr (by omega)
theorem zNr_e (h : ∀ j, j < 24 → k ≤ j → zbit na j = false) : zNr na k e x = 0 := zNb_z (fun j hj => by
  show (zbit na j && decide (k ≤ j)) = false
  by_cases v : k ≤ j
  · rw [h j hj v]; rfl
  · rw [decide_eq_false v, Bool.and_false])
end
/-- nothing is left behind a shift: no bit from there on -/
theorem zsr_0 {v y : Int32} (h0 : 0 ≤ y.toInt) (h1 : y.toInt < 32) (h : v >>> (y &&& 31) = 0) : ∀ j, j < 32 → Int32.toNatClampNeg y ≤ j → zbit v j = false := fun j hj hk => by
  have hn := zn_nat h0
  have e := zi_of (y := y) (j := Int32.toNatClampNeg y) hn.symm
  have t := zsh_n ⟨Int32.toNatClampNeg y, by omega⟩
  have t : ((Int32.ofInt ((Int32.toNatClampNeg y : Nat) : Int) &&& 31).toBitVec.smod 32).toNat = Int32.toNatClampNeg y := t
  rw [← e] at t
  have h2 : (v >>> (y &&& 31)).toBitVec.getLsbD (j - Int32.toNatClampNeg y) = v.toBitVec.getLsbD j := by
    rw [Int32.toBitVec_shiftRight]
    show (v.toBitVec.sshiftRight ((y &&& 31).toBitVec.smod 32).toNat).getLsbD (j - Int32.toNatClampNeg y) = _
    rw [t, BitVec.getLsbD_sshiftRight]
    have h3 : Int32.toNatClampNeg y + (j - Int32.toNatClampNeg y) < 32 := by omega
    have h4 : Int32.toNatClampNeg y + (j - Int32.toNatClampNeg y) = j := by omega
    have h5 : j - Int32.toNatClampNeg y < 32 := by omega
    simp [h4, h5, hj]
  rw [h] at h2
  unfold zbit
  rw [← h2]
  exact BitVec.getLsbD_zero

end
section
/-! the machine's values: which rows of its stack are held, and what they refer to -/
theorem zul_s {f : Nat → Int64} {t : Nat} {v : Int64} : vp_updL f t v t = v := by unfold vp_updL; rw [if_pos rfl]
theorem zul_n {f : Nat → Int64} {t j : Nat} {v : Int64} (h : j ≠ t) : vp_updL f t v j = f j := by unfold vp_updL; rw [if_neg h]
theorem zs_le {f g : Nat → Int} : ∀ {n : Nat}, (∀ d, d < n → f d ≤ g d) → zs n f ≤ zs n g
  | 0, _ => Int.le_refl _
  | n + 1, h => by
    have := zs_le (n := n) (fun d hd => h d (by omega))
    have := h n (by omega)
    show zs n f + f n ≤ zs n g + g n
    omega
theorem zCS_mono {wd : Nat → Nat} {gc : Nat → Int32} {gv : Nat → Int64} {fresh ff held dbl dm : Int32} {lv : Nat → Bool} {R R2 : Nat → Int} {FL DL : List Nat} (h : zCS wd gc gv fresh ff held dbl lv R FL DL dm) (h0 : ∀ c, 0 ≤ R2 c) (h1 : ∀ c, R2 c ≤ R c) : zCS wd gc gv fresh ff held dbl lv R2 FL DL dm := by
  obtain ⟨hI, a, b, d, hR, r⟩ := h
  refine ⟨zI_leak hI (fun c => ?_) (fun c => ?_), a, b, d, h0, r⟩
  · have := h1 c
    show R2 c + zdl wd gv DL c ≤ R c + zdl wd gv DL c
    omega
  · have := h0 c
    have := zdl_0 (wd := wd) (gv := gv) (l := DL) (c := c)
    show 0 ≤ R2 c + zdl wd gv DL c
    omega
/-- what a live cell's field refers to lives -/
theorem zCS_fl {wd : Nat → Nat} {gc : Nat → Int32} {gv : Nat → Int64} {fresh ff held dbl dm : Int32} {lv : Nat → Bool} {R : Nat → Int} {FL DL : List Nat} (h : zCS wd gc gv fresh ff held dbl lv R FL DL dm) {x k : Nat} (hx : lv x = true) (hk : k < wd x) (h2 : zhs (gv (3 * x + k)) = 2) : lv (Int32.toNatClampNeg (gv (3 * x + k)).toInt32) = true := by
  obtain ⟨hI, h0, h4, hd, hR, -, -, -, -, -, hg⟩ := h
  have hge := hg x (Or.inl hx) k hk h2
  cases e : lv (Int32.toNatClampNeg (gv (3 * x + k)).toInt32) with
  | true => rfl
  | false =>
    exfalso
    have t := (hI.2.1 _ e).2
    have u := zct_ge zr_0 (wd := wd) (gv := gv) (c := Int32.toNatClampNeg (gv (3 * x + k)).toInt32) (hI.1 x hx).1 hx
    have v := zs_ge (f := fun k' => zr (gv (3 * x + k')) (Int32.toNatClampNeg (gv (3 * x + k)).toInt32)) (n := wd x) (x := k) (fun _ _ => zr_0 _ _) hk
    have v : zr (gv (3 * x + k)) (Int32.toNatClampNeg (gv (3 * x + k)).toInt32) ≤ zcf zr wd gv x (Int32.toNatClampNeg (gv (3 * x + k)).toInt32) := v
    rw [zr_c h2 hge, if_pos rfl] at v
    omega
/-- a cell that nothing but one hand holds: its own references come into the hand -/
theorem zCS_kill {wd : Nat → Nat} {gc : Nat → Int32} {gv : Nat → Int64} {fresh ff held dbl dm : Int32} {lv : Nat → Bool} {R R2 : Nat → Int} {FL : List Nat} (h : zCS wd gc gv fresh ff held dbl lv R FL [] dm) {x : Nat} (hR : ∀ c, R c = R2 c + if c = x then 1 else 0) (h2 : ∀ c, 0 ≤ R2 c) (h1 : (gc x).toInt ≤ 1) : zCS wd gc gv fresh ff held dbl (fun c => if c = x then false else lv c) (fun c => R2 c + zcf zr wd gv x c) FL [] dm ∧ x ∉ FL ∧ (x : Int) < fresh.toInt ∧ lv x = true := by
  have hx := zCS_lv h (x := x) (by have := hR x; rw [if_pos rfl] at this; have := h2 x; omega)
  obtain ⟨hI, h0, h4, hd, hR0, hf, hdm, hnd, hfl, hh, hg⟩ := h
  have hxn : x ∉ FL := fun g => by have := (hfl x (List.mem_append.mpr (Or.inl g))).2; rw [hx.1] at this; exact Bool.noConfusion this
  have hdie := zI_die zr_0 (lv2 := fun c => if c = x then false else lv c) (gc2 := fun c => (gc c).toInt) (x := x) (R2 := R2) hI (fun c => by
      show R c + 0 = R2 c + if c = x then 1 else 0
      rw [hR c]; omega) h2 hx.1 h1 (if_pos rfl) (fun c hc => ⟨if_neg hc, rfl⟩)
  refine ⟨⟨?_, h0, h4, hd, fun c => ?_, hf, hdm, hnd, fun c hc => ?_, hh, fun d hd => ?_⟩, hxn, hx.2.1, hx.1⟩
  · have e2 : (fun c => R2 c + zcf zr wd gv x c + zdl wd gv [] c : Nat → Int) = (fun c => R2 c + zcf zr wd gv x c) := by
      funext c
      show R2 c + zcf zr wd gv x c + 0 = _
      omega
    show zI zr _ _ wd gv _ (fun c => R2 c + zcf zr wd gv x c + zdl wd gv [] c) _
    rw [e2]; exact hdie
  · have := h2 c
    have := zcf_0 zr_0 (wd := wd) (gv := gv) (d := x) (c := c)
    show 0 ≤ R2 c + zcf zr wd gv x c
    omega
  · show c < _ ∧ (if c = x then false else lv c) = false
    by_cases g : c = x
    · rw [if_pos g, g]; exact ⟨by have := zn_nat h0; omega, rfl⟩
    · rw [if_neg g]; exact hfl c hc
  · refine hg d (hd.elim (fun u => Or.inl ?_) (fun u => nomatch u))
    have u : (if d = x then false else lv d) = true := u
    by_cases g : d = x
    · rw [if_pos g] at u; exact Bool.noConfusion u
    · rw [if_neg g] at u; exact u
def zpA (p : Nat → Bool) (t : Nat) : Nat → Bool := fun j => if j = t then true else p j
def zpR (p : Nat → Bool) (t : Nat) : Nat → Bool := fun j => if j = t then false else p j
theorem zpA_s {p : Nat → Bool} {t : Nat} : zpA p t t = true := if_pos rfl
theorem zpA_n {p : Nat → Bool} {t j : Nat} (h : j ≠ t) : zpA p t j = p j := if_neg h
theorem zpA_i {p : Nat → Bool} {t j : Nat} (h : p j = true) : zpA p t j = true := by
  by_cases g : j = t
  · rw [g]; exact zpA_s
  · rw [zpA_n g]; exact h
theorem zpR_s {p : Nat → Bool} {t : Nat} : zpR p t t = false := if_pos rfl
theorem zpR_n {p : Nat → Bool} {t j : Nat} (h : j ≠ t) : zpR p t j = p j := if_neg h
theorem zpR_i {p : Nat → Bool} {t j : Nat} (h : zpR p t j = true) : p j = true ∧ j ≠ t := by
  by_cases g : j = t
  · rw [g, zpR_s] at h; exact Bool.noConfusion h
  · rw [zpR_n g] at h; exact ⟨h, g⟩
def zRS (n : Nat) (st : Nat → Int64) (p : Nat → Bool) (c : Nat) : Int := zs n (fun j => if p j = true then zr (st j) c else 0)
theorem zRS_i {st : Nat → Int64} {p : Nat → Bool} {c j : Nat} : 0 ≤ (if p j = true then zr (st j) c else 0 : Int) := by
  split
  · exact zr_0 _ _
  · exact Int.le_refl _
theorem zRS_0 {n : Nat} {st : Nat → Int64} {p : Nat → Bool} {c : Nat} : 0 ≤ zRS n st p c := zs_0 (fun _ _ => zRS_i)
theorem zRS_rm {n : Nat} {st : Nat → Int64} {p : Nat → Bool} {j : Nat} (hj : j < n) (hp : p j = true) (c : Nat) : zRS n st p c = zRS n st (zpR p j) c + zr (st j) c := by
  have := zs_up (f := fun d => if zpR p j d = true then zr (st d) c else 0) (g := fun d => if p d = true then zr (st d) c else 0) (n := n) (x := j) (fun d _ hd => by
    show (if p d = true then zr (st d) c else 0) = (if zpR p j d = true then zr (st d) c else 0)
    rw [zpR_n hd]) hj
  unfold zRS
  rw [this]
  have a : (if zpR p j j = true then zr (st j) c else 0 : Int) = 0 := if_neg (by rw [zpR_s]; exact Bool.noConfusion)
  have b : (if p j = true then zr (st j) c else 0 : Int) = zr (st j) c := if_pos hp
  rw [a, b]; omega
theorem zRS_ad {n : Nat} {st : Nat → Int64} {p : Nat → Bool} {t : Nat} {v : Int64} (c : Nat) : zRS n (vp_updL st t v) (zpA p t) c ≤ zRS n st p c + zr v c := by
  by_cases ht : t < n
  · have := zs_up (f := fun d => if p d = true then zr (st d) c else 0) (g := fun d => if zpA p t d = true then zr (vp_updL st t v d) c else 0) (n := n) (x := t) (fun d _ hd => by
      show (if zpA p t d = true then zr (vp_updL st t v d) c else 0) = (if p d = true then zr (st d) c else 0)
      rw [zpA_n hd, zul_n hd]) ht
    unfold zRS
    rw [this]
    have a : (if zpA p t t = true then zr (vp_updL st t v t) c else 0 : Int) = zr v c := by rw [if_pos zpA_s, zul_s]
    have b := zRS_i (st := st) (p := p) (c := c) (j := t)
    rw [a]; omega
  · have e : zRS n (vp_updL st t v) (zpA p t) c = zRS n st p c := zs_ext (fun d hd => by
      have hne : d ≠ t := by omega
      show (if zpA p t d = true then zr (vp_updL st t v d) c else 0) = (if p d = true then zr (st d) c else 0)
      rw [zpA_n hne, zul_n hne])
    have := zr_0 v c
    omega
theorem zRS_le {n : Nat} {st : Nat → Int64} {p p2 : Nat → Bool} (h : ∀ j, p2 j = true → p j = true) (c : Nat) : zRS n st p2 c ≤ zRS n st p c := zs_le (fun d _ => by
  show (if p2 d = true then zr (st d) c else 0) ≤ (if p d = true then zr (st d) c else 0)
  by_cases g : p2 d = true
  · rw [if_pos g, if_pos (h d g)]; exact Int.le_refl _
  · rw [if_neg g]; exact zRS_i)
/-- a value that the program may have: a kind that stands alone has no fields -/
def zvk (kz : Int32) (kf : Nat → Int32) (v : Int64) : Prop := zgd v ∧ (zhs v ≠ 0 → zhs v ≠ 2 → zfk kz kf v.toInt32 = 0)
/-- the shells that are kept: cells that neither live nor are free, no two alike -/
def zSh (lv : Nat → Bool) (FL : List Nat) (fresh : Int32) (sh : Nat → Int32) (n : Int32) : Prop :=
  (∀ i : Nat, (i : Int) < n.toInt → (sh i).toInt = -1 ∨ 0 ≤ (sh i).toInt ∧ (sh i).toInt < fresh.toInt ∧ lv (Int32.toNatClampNeg (sh i)) = false ∧ Int32.toNatClampNeg (sh i) ∉ FL) ∧ ∀ i j : Nat, i < j → (j : Int) < n.toInt → (sh i).toInt ≠ -1 → (sh i).toInt ≠ (sh j).toInt
/-- cell x is none of the shells -/
def zSn (sh : Nat → Int32) (n : Int32) (x : Nat) : Prop := ∀ i : Nat, (i : Int) < n.toInt → (sh i).toInt ≠ (x : Int)
theorem zSh_mono {lv lv2 : Nat → Bool} {FL FL2 : List Nat} {fresh fresh2 : Int32} {sh : Nat → Int32} {n : Int32} (h : zSh lv FL fresh sh n) (hf : fresh.toInt ≤ fresh2.toInt) (h1 : ∀ i : Nat, (i : Int) < n.toInt → 0 ≤ (sh i).toInt → lv (Int32.toNatClampNeg (sh i)) = false → Int32.toNatClampNeg (sh i) ∉ FL → lv2 (Int32.toNatClampNeg (sh i)) = false ∧ Int32.toNatClampNeg (sh i) ∉ FL2) : zSh lv2 FL2 fresh2 sh n :=
  ⟨fun i hi => by
    rcases h.1 i hi with u | ⟨u1, u2, u3, u4⟩
    · exact Or.inl u
    · have := h1 i hi u1 u3 u4
      exact Or.inr ⟨u1, by omega, this.1, this.2⟩, h.2⟩
/-- the shell at i is taken -/
theorem zSh_tk {lv : Nat → Bool} {FL : List Nat} {fresh : Int32} {sh sh2 : Nat → Int32} {n : Int32} {i : Nat} (h : zSh lv FL fresh sh n) (hi : (i : Int) < n.toInt) (hx : (sh i).toInt ≠ -1) (e : sh2 = upd sh i (-1)) : zSh lv FL fresh sh2 n ∧ (0 ≤ (sh i).toInt ∧ (sh i).toInt < fresh.toInt ∧ lv (Int32.toNatClampNeg (sh i)) = false ∧ Int32.toNatClampNeg (sh i) ∉ FL) ∧ zSn sh2 n (Int32.toNatClampNeg (sh i)) := by
  have m1 : (-1 : Int32).toInt = -1 := by decide
  have hd := (h.1 i hi).resolve_left hx
  have hn := zn_nat hd.1
  refine ⟨⟨fun j hj => ?_, fun j k hjk hk hne => ?_⟩, hd, fun j hj => ?_⟩
  · rw [e]
    by_cases g : j = i
    · rw [g, zu_s]; exact Or.inl m1
    · rw [zu_n g]; exact h.1 j hj
  · rw [e] at hne ⊢
    by_cases g : j = i
    · rw [g, zu_s] at hne; exact (hne m1).elim
    · rw [zu_n g] at hne ⊢
      by_cases g2 : k = i
      · rw [g2, zu_s, m1]; exact hne
      · rw [zu_n g2]; exact h.2 j k hjk hk hne
  · rw [e]
    by_cases g : j = i
    · rw [g, zu_s, m1]; omega
    · rw [zu_n g]
      intro u
      rcases Nat.lt_or_ge j i with v | v
      · exact h.2 j i v hi (by omega) (by omega)
      · exact h.2 i j (by omega) hj hx (by omega)
/-- one shell more, or none -/
theorem zSh_ad {lv : Nat → Bool} {FL : List Nat} {fresh x : Int32} {sh sh2 : Nat → Int32} {n n2 : Int32} (h : zSh lv FL fresh sh n) (h0 : 0 ≤ n.toInt) (hx : x.toInt = -1 ∨ (0 ≤ x.toInt ∧ x.toInt < fresh.toInt ∧ lv (Int32.toNatClampNeg x) = false ∧ Int32.toNatClampNeg x ∉ FL) ∧ zSn sh n (Int32.toNatClampNeg x)) (e : sh2 = upd sh (Int32.toNatClampNeg n) x) (en : n2.toInt = n.toInt + 1) : zSh lv FL fresh sh2 n2 := by
  have hn := zn_nat h0
  refine ⟨fun j hj => ?_, fun j k hjk hk hne => ?_⟩
  · rw [e]
    by_cases g : j = Int32.toNatClampNeg n
    · rw [g, zu_s]
      exact hx.elim Or.inl (fun u => Or.inr u.1)
    · rw [zu_n g]; exact h.1 j (by omega)
  · rw [e] at hne ⊢
    have gj : j ≠ Int32.toNatClampNeg n := by omega
    rw [zu_n gj] at hne ⊢
    by_cases g : k = Int32.toNatClampNeg n
    · rw [g, zu_s]
      rcases hx with u | ⟨u1, u2⟩
      · rw [u]; exact hne
      · have := u2 j (by omega)
        have := zn_nat u1.1
        omega
    · rw [zu_n g]; exact h.2 j k hjk (by omega) hne
theorem zSh_lo {lv : Nat → Bool} {FL : List Nat} {fresh : Int32} {sh : Nat → Int32} {n n2 : Int32} (h : zSh lv FL fresh sh n) (e : n2.toInt ≤ n.toInt) : zSh lv FL fresh sh n2 := ⟨fun i hi => h.1 i (by omega), fun i j hij hj => h.2 i j hij (by omega)⟩
/-- the machine's values with cells that are counted: p the stack's rows that are held, E what is in hand -/
def zMx (n : Nat) (kz : Int32) (kf gk gc : Nat → Int32) (gv : Nat → Int64) (fresh ff held dbl : Int32) (st : Nat → Int64) (p : Nat → Bool) (sh : Nat → Int32) (sn : Int32) (E : Nat → Int) (lv : Nat → Bool) (FL : List Nat) : Prop :=
  zCS (zwd kz kf gk) gc gv fresh ff held dbl lv (fun c => zRS n st p c + E c) FL [] (-1) ∧ (∀ c, lv c = true → ∀ k, k < zwd kz kf gk c → zvk kz kf (gv (3 * c + k))) ∧ (∀ j, p j = true → j < n ∧ zvk kz kf (st j)) ∧ zSh lv FL fresh sh sn ∧ ∀ c, 0 ≤ E c
/-- a value out of the hand is laid into row t -/
theorem zMx_st {n : Nat} {kz : Int32} {kf gk gc : Nat → Int32} {gv : Nat → Int64} {fresh ff held dbl : Int32} {st : Nat → Int64} {p : Nat → Bool} {sh : Nat → Int32} {sn : Int32} {E E2 : Nat → Int} {lv : Nat → Bool} {FL : List Nat} {st2 : Nat → Int64} {t : Nat} {v : Int64} (h : zMx n kz kf gk gc gv fresh ff held dbl st p sh sn E lv FL) (ht : t < n) (hv : zvk kz kf v) (hE : ∀ c, E c = E2 c + zr v c) (h0 : ∀ c, 0 ≤ E2 c) (e : st2 = vp_updL st t v) : zMx n kz kf gk gc gv fresh ff held dbl st2 (zpA p t) sh sn E2 lv FL := by
  obtain ⟨a, b, c, d, -⟩ := h
  subst e
  refine ⟨zCS_mono a (fun c => ?_) (fun c => ?_), b, fun j hj => ?_, d, h0⟩
  · have := zRS_0 (n := n) (st := vp_updL st t v) (p := zpA p t) (c := c)
    have := h0 c
    show 0 ≤ zRS n (vp_updL st t v) (zpA p t) c + E2 c
    omega
  · have := zRS_ad (n := n) (st := st) (p := p) (t := t) (v := v) c
    have := hE c
    show zRS n (vp_updL st t v) (zpA p t) c + E2 c ≤ zRS n st p c + E c
    omega
  · by_cases g : j = t
    · rw [g, zul_s]; exact ⟨ht, hv⟩
    · rw [zpA_n g] at hj
      rw [zul_n g]; exact c j hj
/-- row j's value is taken into the hand -/
theorem zMx_rm {n : Nat} {kz : Int32} {kf gk gc : Nat → Int32} {gv : Nat → Int64} {fresh ff held dbl : Int32} {st : Nat → Int64} {p : Nat → Bool} {sh : Nat → Int32} {sn : Int32} {E : Nat → Int} {lv : Nat → Bool} {FL : List Nat} {j : Nat} (h : zMx n kz kf gk gc gv fresh ff held dbl st p sh sn E lv FL) (hj : p j = true) : zMx n kz kf gk gc gv fresh ff held dbl st (zpR p j) sh sn (fun c => E c + zr (st j) c) lv FL := by
  obtain ⟨a, b, c, d, e⟩ := h
  refine ⟨zCS_R (fun x => ?_) a, b, fun i hi => c i (zpR_i hi).1, d, fun x => ?_⟩
  · have := zRS_rm (n := n) (st := st) (c j hj).1 hj x
    show zRS n st (zpR p j) x + (E x + zr (st j) x) = zRS n st p x + E x
    omega
  · have := e x
    have := zr_0 (st j) x
    show 0 ≤ E x + zr (st j) x
    omega
/-- the cells have changed, the values in hand too -/
theorem zMx_cs {n : Nat} {kz : Int32} {kf gk gc gc2 : Nat → Int32} {gv : Nat → Int64} {fresh ff held dbl ff2 held2 dbl2 : Int32} {st : Nat → Int64} {p : Nat → Bool} {sh : Nat → Int32} {sn : Int32} {E E2 : Nat → Int} {lv lv2 : Nat → Bool} {FL FL2 : List Nat} {R : Nat → Int} (h : zMx n kz kf gk gc gv fresh ff held dbl st p sh sn E lv FL) (hz : zCS (zwd kz kf gk) gc2 gv fresh ff2 held2 dbl2 lv2 R FL2 [] (-1)) (hR : ∀ c, R c = zRS n st p c + E2 c) (h0 : ∀ c, 0 ≤ E2 c) (hl : ∀ c, lv2 c = true → lv c = true) (hf : ∀ c, c ∈ FL2 → c ∈ FL ∨ lv c = true) : zMx n kz kf gk gc2 gv fresh ff2 held2 dbl2 st p sh sn E2 lv2 FL2 := by
  obtain ⟨a, b, c, d, -⟩ := h
  refine ⟨zCS_R (fun x => (hR x).symm) hz, fun x hx => b x (hl x hx), c, zSh_mono d (Int.le_refl _) (fun i _ _ u1 u2 => ⟨?_, fun g => ?_⟩), h0⟩
  · cases g : lv2 (Int32.toNatClampNeg (sh i)) with
    | false => rfl
    | true => rw [hl _ g] at u1; exact Bool.noConfusion u1
  · rcases hf _ g with w | w
    · exact u2 w
    · rw [u1] at w; exact Bool.noConfusion w
/-- what is held may be forgotten -/
theorem zMx_le {n : Nat} {kz : Int32} {kf gk gc : Nat → Int32} {gv : Nat → Int64} {fresh ff held dbl : Int32} {st : Nat → Int64} {p p2 : Nat → Bool} {sh : Nat → Int32} {sn : Int32} {E E2 : Nat → Int} {lv : Nat → Bool} {FL : List Nat} (h : zMx n kz kf gk gc gv fresh ff held dbl st p sh sn E lv FL) (hp : ∀ j, p2 j = true → p j = true) (h0 : ∀ c, 0 ≤ E2 c) (hE : ∀ c, E2 c ≤ E c) : zMx n kz kf gk gc gv fresh ff held dbl st p2 sh sn E2 lv FL := by
  obtain ⟨a, b, c, d, -⟩ := h
  refine ⟨zCS_mono a (fun x => ?_) (fun x => ?_), b, fun j hj => c j (hp j hj), d, h0⟩
  · have := zRS_0 (n := n) (st := st) (p := p2) (c := x)
    have := h0 x
    show 0 ≤ zRS n st p2 x + E2 x
    omega
  · have := zRS_le (n := n) (st := st) hp x
    have := hE x
    show zRS n st p2 x + E2 x ≤ zRS n st p x + E x
    omega
theorem zMx_sh {n : Nat} {kz : Int32} {kf gk gc : Nat → Int32} {gv : Nat → Int64} {fresh ff held dbl : Int32} {st : Nat → Int64} {p : Nat → Bool} {sh sh2 : Nat → Int32} {sn sn2 : Int32} {E : Nat → Int} {lv : Nat → Bool} {FL : List Nat} (h : zMx n kz kf gk gc gv fresh ff held dbl st p sh sn E lv FL) (hs : zSh lv FL fresh sh2 sn2) : zMx n kz kf gk gc gv fresh ff held dbl st p sh2 sn2 E lv FL := ⟨h.1, h.2.1, h.2.2.1, hs, h.2.2.2.2⟩
/-- a value that row j holds: its cell lives -/
theorem zMx_lv {n : Nat} {kz : Int32} {kf gk gc : Nat → Int32} {gv : Nat → Int64} {fresh ff held dbl : Int32} {st : Nat → Int64} {p : Nat → Bool} {sh : Nat → Int32} {sn : Int32} {E : Nat → Int} {lv : Nat → Bool} {FL : List Nat} {j : Nat} (h : zMx n kz kf gk gc gv fresh ff held dbl st p sh sn E lv FL) (hj : p j = true) (h2 : zhs (st j) = 2) : lv (Int32.toNatClampNeg (st j).toInt32) = true ∧ 0 ≤ (st j).toInt32.toInt ∧ (st j).toInt32.toInt < fresh.toInt := by
  obtain ⟨a, -, c, -, e⟩ := h
  have hg := (c j hj).2.1 h2
  have hn := zn_nat hg
  have r := zRS_rm (n := n) (st := st) (c j hj).1 hj (Int32.toNatClampNeg (st j).toInt32)
  rw [zr_c h2 hg, if_pos rfl] at r
  have r0 := zRS_0 (n := n) (st := st) (p := zpR p j) (c := Int32.toNatClampNeg (st j).toInt32)
  have e0 := e (Int32.toNatClampNeg (st j).toInt32)
  have u := zCS_lv a (x := Int32.toNatClampNeg (st j).toInt32) (by show 1 ≤ zRS n st p _ + E _; omega)
  exact ⟨u.1, hg, by omega⟩
def zMD (n : Nat) (kz : Int32) (kf gk gc : Nat → Int32) (gv : Nat → Int64) (fresh ff held dbl : Int32) (st : Nat → Int64) (p : Nat → Bool) (sh : Nat → Int32) (sn : Int32) : Prop := ∃ lv FL, zMx n kz kf gk gc gv fresh ff held dbl st p sh sn (fun _ => 0) lv FL
theorem zMD_push {n : Nat} {kz : Int32} {kf gk gc : Nat → Int32} {gv : Nat → Int64} {fresh ff held dbl : Int32} {st st2 : Nat → Int64} {p : Nat → Bool} {sh : Nat → Int32} {sn : Int32} {t : Nat} {v : Int64} (h : zMD n kz kf gk gc gv fresh ff held dbl st p sh sn) (ht : t < n) (hv : zvk kz kf v) (h2 : zhs v ≠ 2) (e : st2 = vp_updL st t v) : zMD n kz kf gk gc gv fresh ff held dbl st2 (zpA p t) sh sn := by
  obtain ⟨lv, FL, h⟩ := h
  exact ⟨lv, FL, zMx_st h ht hv (fun c => by rw [zr_n h2]; rfl) (fun _ => Int.le_refl _) e⟩
theorem zMD_move {n : Nat} {kz : Int32} {kf gk gc : Nat → Int32} {gv : Nat → Int64} {fresh ff held dbl : Int32} {st st2 : Nat → Int64} {p : Nat → Bool} {sh : Nat → Int32} {sn : Int32} {t j : Nat} (h : zMD n kz kf gk gc gv fresh ff held dbl st p sh sn) (ht : t < n) (hj : p j = true) (e : st2 = vp_updL st t (st j)) : zMD n kz kf gk gc gv fresh ff held dbl st2 (zpA (zpR p j) t) sh sn := by
  obtain ⟨lv, FL, h⟩ := h
  have hv := (h.2.2.1 j hj).2
  exact ⟨lv, FL, zMx_st (zMx_rm h hj) ht hv (fun _ => rfl) (fun _ => Int.le_refl _) e⟩
/-- the machine's values with cells that aren't counted -/
def zgq (fresh kz : Int32) (kf : Nat → Int32) (v : Int64) : Prop := zvk kz kf v ∧ (zhs v = 2 → v.toInt32.toInt < fresh.toInt)
def zMP (n : Nat) (kz : Int32) (kf gk : Nat → Int32) (gv : Nat → Int64) (fresh : Int32) (st : Nat → Int64) (p : Nat → Bool) (sh : Nat → Int32) (sn : Int32) : Prop :=
  (∀ j, p j = true → j < n ∧ zgq fresh kz kf (st j)) ∧ (∀ c : Nat, (c : Int) < fresh.toInt → ∀ k, k < zwd kz kf gk c → zgq fresh kz kf (gv (3 * c + k))) ∧ ∀ i : Nat, (i : Int) < sn.toInt → (sh i).toInt = -1
theorem zMP_st {n : Nat} {kz : Int32} {kf gk : Nat → Int32} {gv : Nat → Int64} {fresh : Int32} {st st2 : Nat → Int64} {p : Nat → Bool} {sh : Nat → Int32} {sn : Int32} {t : Nat} {v : Int64} (h : zMP n kz kf gk gv fresh st p sh sn) (ht : t < n) (hv : zgq fresh kz kf v) (e : st2 = vp_updL st t v) : zMP n kz kf gk gv fresh st2 (zpA p t) sh sn := by
  obtain ⟨a, b, c⟩ := h
  subst e
  refine ⟨fun j hj => ?_, b, c⟩
  by_cases g : j = t
  · rw [g, zul_s]; exact ⟨ht, hv⟩
  · rw [zpA_n g] at hj
    rw [zul_n g]; exact a j hj
theorem zMP_push {n : Nat} {kz : Int32} {kf gk : Nat → Int32} {gv : Nat → Int64} {fresh : Int32} {st st2 : Nat → Int64} {p : Nat → Bool} {sh : Nat → Int32} {sn : Int32} {t : Nat} {v : Int64} (h : zMP n kz kf gk gv fresh st p sh sn) (ht : t < n) (hv : zvk kz kf v) (h2 : zhs v ≠ 2) (e : st2 = vp_updL st t v) : zMP n kz kf gk gv fresh st2 (zpA p t) sh sn := zMP_st h ht ⟨hv, fun g => (h2 g).elim⟩ e
theorem zMP_le {n : Nat} {kz : Int32} {kf gk : Nat → Int32} {gv : Nat → Int64} {fresh : Int32} {st : Nat → Int64} {p p2 : Nat → Bool} {sh : Nat → Int32} {sn : Int32} (h : zMP n kz kf gk gv fresh st p sh sn) (hp : ∀ j, p2 j = true → p j = true) : zMP n kz kf gk gv fresh st p2 sh sn := ⟨fun j hj => h.1 j (hp j hj), h.2⟩
theorem zMP_move {n : Nat} {kz : Int32} {kf gk : Nat → Int32} {gv : Nat → Int64} {fresh : Int32} {st st2 : Nat → Int64} {p : Nat → Bool} {sh : Nat → Int32} {sn : Int32} {t j : Nat} (h : zMP n kz kf gk gv fresh st p sh sn) (ht : t < n) (hj : p j = true) (e : st2 = vp_updL st t (st j)) : zMP n kz kf gk gv fresh st2 (zpA (zpR p j) t) sh sn := zMP_st (zMP_le h (fun i hi => (zpR_i hi).1)) ht (h.1 j hj).2 e
/-- row j's value is to be let go -/
theorem zMx_tk {n : Nat} {kz : Int32} {kf gk gc : Nat → Int32} {gv : Nat → Int64} {fresh ff held dbl : Int32} {st : Nat → Int64} {p : Nat → Bool} {sh : Nat → Int32} {sn : Int32} {lv : Nat → Bool} {FL : List Nat} {j : Nat} {v : Int64} (h : zMx n kz kf gk gc gv fresh ff held dbl st p sh sn (fun _ => 0) lv FL) (hj : p j = true) (hv : v = st j) : zCS (zwd kz kf gk) gc gv fresh ff held dbl lv (fun c => zRS n st (zpR p j) c + zr v c) FL [] (-1) ∧ zgd v := by
  refine ⟨zCS_R (fun c => ?_) h.1, by rw [hv]; exact (h.2.2.1 j hj).2.1⟩
  have := zRS_rm (n := n) (st := st) (h.2.2.1 j hj).1 hj c
  show zRS n st (zpR p j) c + zr v c = zRS n st p c + 0
  rw [hv]; omega
theorem zMx_dn {n : Nat} {kz : Int32} {kf gk gc gc2 : Nat → Int32} {gv : Nat → Int64} {fresh ff held dbl ff2 held2 : Int32} {st : Nat → Int64} {p : Nat → Bool} {sh : Nat → Int32} {sn : Int32} {lv lv2 : Nat → Bool} {FL FL2 : List Nat} {j : Nat} (h : zMx n kz kf gk gc gv fresh ff held dbl st p sh sn (fun _ => 0) lv FL) (hz : zCS (zwd kz kf gk) gc2 gv fresh ff2 held2 dbl lv2 (fun c => zRS n st (zpR p j) c) FL2 [] (-1)) (hl : ∀ c, lv2 c = true → lv c = true) (hf : ∀ c, c ∈ FL2 → c ∈ FL ∨ lv c = true) : zMD n kz kf gk gc2 gv fresh ff2 held2 dbl st (zpR p j) sh sn :=
  ⟨lv2, FL2, zMx_cs (zMx_le h (fun i hi => (zpR_i hi).1) (fun _ => Int.le_refl _) (fun _ => Int.le_refl _)) hz (fun c => by show zRS n st (zpR p j) c = zRS n st (zpR p j) c + 0; omega) (fun _ => Int.le_refl _) hl hf⟩
/-- row j's value was doubled, and laid into row t -/
theorem zMx_cp {n : Nat} {kz : Int32} {kf gk gc gc2 : Nat → Int32} {gv : Nat → Int64} {fresh ff held dbl dbl2 : Int32} {st st2 : Nat → Int64} {p : Nat → Bool} {sh : Nat → Int32} {sn : Int32} {lv : Nat → Bool} {FL : List Nat} {t : Nat} {v : Int64} {R : Nat → Int} (h : zMx n kz kf gk gc gv fresh ff held dbl st p sh sn (fun _ => 0) lv FL) (hz : zCS (zwd kz kf gk) gc2 gv fresh ff held dbl2 lv R FL [] (-1)) (hR : ∀ c, R c = zRS n st p c + 0 + zr v c) (ht : t < n) (hv : zvk kz kf v) (e : st2 = vp_updL st t v) : zMD n kz kf gk gc2 gv fresh ff held dbl2 st2 (zpA p t) sh sn :=
  ⟨lv, FL, zMx_st (E := fun c => 0 + zr v c) (zMx_cs h hz (fun c => by rw [hR c]; show _ = zRS n st p c + (0 + zr v c); omega) (fun c => by have := zr_0 v c; show 0 ≤ 0 + zr v c; omega) (fun _ h => h) (fun _ h => Or.inl h)) ht hv (fun _ => rfl) (fun _ => Int.le_refl _) e⟩
theorem zli_c {nx : Nat → Int32} : ∀ {L : List Nat} {x : Int32}, zli nx x L → x.toInt ≠ -1 → ∃ (y : Nat) (t : List Nat), L = y :: t ∧ x.toInt = (y : Int) ∧ zli nx (nx y) t
  | [], _, h, hn => (hn h).elim
  | y :: t, _, h, _ => ⟨y, t, rfl, h.1, h.2⟩

end
section
/-! the program as it is worked: where a row leads, which names it needs, the frames of the calls -/
theorem zall_at {S : Nat → Nat → Int32} {G : Nat → Nat → Int} : ∀ {L : List Nat}, zall S G L → ∀ r ∈ L, ∃ (f : Nat) (po : List Nat), zrow S G f r po ∧ ∀ q ∈ r :: po, q ∈ L
  | [], _, r, hr => nomatch hr
  | x :: L, h, r, hr => by
    rcases List.mem_cons.mp hr with g | g
    · obtain ⟨f, z⟩ := h.1
      rw [g]; exact ⟨f, L, z, fun q hq => hq⟩
    · obtain ⟨f, po, z, hq⟩ := zall_at h.2 r g
      exact ⟨f, po, z, fun q h9 => List.mem_cons_of_mem _ (hq q h9)⟩
theorem zeq_at {S : Nat → Nat → Int32} {nd : Nat → Int32} : ∀ {L : List Nat}, zeq S nd L → ∀ r ∈ L, ∀ k, k < 32 → zbit (nd r) k = znb S nd r (zbh S nd r) k (Int32.toNatClampNeg (S 0 r))
  | [], _, r, hr => nomatch hr
  | x :: L, h, r, hr => by
    rcases List.mem_cons.mp hr with g | g
    · rw [g]; exact h.1
    · exact zeq_at h.2 r g
theorem znx_0 {S : Nat → Nat → Int32} {G : Nat → Nat → Int} : ∀ {L : List Nat} {x : Int32} {d : Nat}, zli (S 3) x L → zcc S G L → Int32.toNatClampNeg (S 0 (zla d L)) = 17 ∧ 1000 ≤ G (zla d L) 3 → ∀ q ∈ L, Int32.toNatClampNeg (S 0 q) ≠ 17 ∨ G q 3 < 1000 → ∃ s : Nat, (S 3 q).toInt = (s : Int) ∧ s ∈ L ∧ G s 0 = G q 1 ∧ G s 2 ≤ G q 3 ∧ G s 4 = G q 4
  | [], _, _, _, _, _, q, hq, _ => nomatch hq
  | [r], _, _, _, _, hl, q, hq, ho => by
    have e : q = r := (List.mem_cons.mp hq).elim id (fun g => (nomatch g))
    have hl : Int32.toNatClampNeg (S 0 r) = 17 ∧ 1000 ≤ G r 3 := hl
    rw [e] at ho
    rcases ho with u | u
    · exact (u hl.1).elim
    · omega
  | r :: s :: l, x, d, hi, hc, hl, q, hq, ho => by
    rcases List.mem_cons.mp hq with e | e
    · rw [e] at ho ⊢
      refine ⟨s, hi.2.1, List.mem_cons_of_mem _ List.mem_cons_self, ?_⟩
      rcases hc.1 with u | u
      · rcases ho with v | v
        · exact (v u.1).elim
        · omega
      · exact u
    · obtain ⟨t, h1, h2, h3⟩ := znx_0 (d := r) hi.2 hc.2 hl q e ho
      exact ⟨t, h1, List.mem_cons_of_mem _ h2, h3⟩
/-- how many names the function of row r has -/
def zNm (S : Nat → Nat → Int32) (G : Nat → Nat → Int) (r : Nat) : Int := (S 10 (5 * (G r 4).toNat + 1)).toInt
theorem zab_sc {S : Nat → Nat → Int32} {G : Nat → Nat → Int} {nd : Nat → Int32} {f r k : Nat} {po : List Nat} (hk : k < 32) (bh : ∀ q ∈ r :: po, G q 3 < 1000 → zbit (nd (Int32.toNatClampNeg (S 3 q))) k = true → (S 3 q).toInt ≠ -1 → (k : Int) < G q 3) (h24 : (S 10 (5 * f + 1)).toInt ≤ 24) : ∀ (n : Nat) {AL : List Nat} {x : Int32}, zli (S 5) x AL → (∀ m ∈ AL, zarm S G f r po m) → zab S nd k n x = true → (k : Int) < G r 2
  | 0, _, _, _, _, h => by exact Bool.noConfusion h
  | n + 1, [], x, hl, _, h => by
    have hl : x.toInt = -1 := hl
    unfold zab at h
    rw [if_pos hl] at h; exact Bool.noConfusion h
  | n + 1, y :: AL, x, hl, ha, h => by
    have h1 : x.toInt = (y : Int) := hl.1
    have hn := zn_nat (x := x) (by omega)
    have e : Int32.toNatClampNeg x = y := by omega
    unfold zab at h
    rw [if_neg (by omega), e] at h
    rcases Bool.or_eq_true _ _ |>.mp h with u | u
    · obtain ⟨u1, u2⟩ := Bool.and_eq_true _ _ |>.mp u
      obtain ⟨m1, m2, m3, m4, m5, m6, m7, m8, m9, m10⟩ := ha y List.mem_cons_self
      unfold zbe at u1
      rw [if_neg (by omega)] at u1
      have hlt : (k : Int) < G (Int32.toNatClampNeg (S 6 y)) 3 := by
        by_cases g : (S 3 (Int32.toNatClampNeg (S 6 y))).toInt = -1
        · rw [if_pos g, zbit_z hk] at u1; exact Bool.noConfusion u1
        · rw [if_neg g] at u1
          exact bh _ m7 (by omega) u1 g
      have u3 : ¬ ((S 8 y).toInt ≤ (k : Int) ∧ (k : Int) < (S 8 y).toInt + zfl S (S 4 y)) := fun g => by
        rw [decide_eq_true g.1, decide_eq_true g.2] at u2
        exact Bool.noConfusion u2
      omega
    · exact zab_sc hk bh h24 n hl.2 (fun m hm => ha m (List.mem_cons_of_mem _ hm)) u
/-- the names that a row needs are around it -/
theorem zSL {S : Nat → Nat → Int32} {nd : Nat → Int32} {G : Nat → Nat → Int} : ∀ {po : List Nat} {x : Int32}, zli (S 3) x po → zall S G po → zeq S nd po → (∀ q ∈ po, zNm S G q ≤ 24) → (∀ q ∈ po, Int32.toNatClampNeg (S 0 q) ≠ 17 ∨ G q 3 < 1000 → ∃ s : Nat, (S 3 q).toInt = (s : Int) ∧ G s 2 ≤ G q 3) → ∀ r ∈ po, ∀ k, k < 32 → zbit (nd r) k = true → (k : Int) < G r 2
  | [], _, _, _, _, _, _, r, hr, _, _, _ => nomatch hr
  | r :: po, x, hl, ⟨⟨f, z⟩, ha⟩, he, h24, hn, r', hr', k, hk, hb => by
    have ih := zSL hl.2 ha he.2 (fun q hq => h24 q (List.mem_cons_of_mem _ hq)) (fun q hq => hn q (List.mem_cons_of_mem _ hq))
    rcases List.mem_cons.mp hr' with e | e
    · rw [e] at hb ⊢
      have hch := zli_nx hl
      have bh : ∀ q ∈ r :: po, Int32.toNatClampNeg (S 0 q) ≠ 17 ∨ G q 3 < 1000 → zbit (nd (Int32.toNatClampNeg (S 3 q))) k = true → (S 3 q).toInt ≠ -1 → (k : Int) < G q 3 := fun q hq ho hb g => by
        obtain ⟨s, hs, hs2⟩ := hn q hq ho
        have hsn := zn_nat (x := S 3 q) (by omega)
        have es : Int32.toNatClampNeg (S 3 q) = s := by omega
        have := ih _ ((hch q hq).resolve_left g) k hk hb
        rw [es] at this
        omega
      have h9 := h24 r List.mem_cons_self
      obtain ⟨z1, z2, z3, z4, z5, z6, z7, z8⟩ := z
      have znm : zNm S G r = (S 10 (5 * f + 1)).toInt := by unfold zNm; rw [z7]; rfl
      rw [he.1 k hk] at hb
      have hbh : Int32.toNatClampNeg (S 0 r) ≠ 17 → zbit (zbh S nd r) k = true → (k : Int) < G r 3 := fun ho h => by
        unfold zbh at h
        by_cases g : (S 3 r).toInt = -1
        · rw [if_pos g, zbit_z hk] at h; exact Bool.noConfusion h
        · rw [if_neg g] at h; exact bh r List.mem_cons_self (Or.inl ho) h g
      have htg : ∀ h, ztg S G r po h → zbit (zbe (S 3) nd (S 1 r)) k = true → (k : Int) < G r 2 := fun h t hb => by
        unfold zbe at hb
        rcases t with t | ⟨t1, t2, t3, t4, t5⟩
        · rw [if_pos t, zbit_z hk] at hb; exact Bool.noConfusion hb
        · rw [if_neg (by omega)] at hb
          by_cases g : (S 3 (Int32.toNatClampNeg (S 1 r))).toInt = -1
          · rw [if_pos g, zbit_z hk] at hb; exact Bool.noConfusion hb
          · rw [if_neg g] at hb
            have := bh _ t2 (Or.inr (by omega)) hb g
            omega
      generalize Int32.toNatClampNeg (S 0 r) = n at z8 hb hbh
      match n, z8 with
      | 0, h => simp only [zop] at h; simp only [znb] at hb; have := hbh (by decide) hb; omega
      | 1, h => simp only [zop] at h; simp only [znb] at hb; have := hbh (by decide) hb; omega
      | 2, h => simp only [zop] at h; simp only [znb] at hb; have := hbh (by decide) hb; omega
      | 3, h =>
        simp only [zop] at h; simp only [znb] at hb
        rcases Bool.or_eq_true _ _ |>.mp hb with u | u
        · have := hbh (by decide) u; omega
        · have := eq_of_beq u
          have := zn_nat h.1
          omega
      | 4, h => simp only [zop] at h; simp only [znb] at hb; have := hbh (by decide) hb; omega
      | 5, h => simp only [zop] at h; simp only [znb] at hb; have := hbh (by decide) hb; omega
      | 6, h => simp only [zop] at h; simp only [znb] at hb; have := hbh (by decide) hb; omega
      | 7, h => simp only [zop] at h; simp only [znb] at hb; have := hbh (by decide) hb; omega
      | 8, h => simp only [zop] at h; simp only [znb] at hb; have := hbh (by decide) hb; omega
      | 9, h => simp only [zop] at h; simp only [znb] at hb; have := hbh (by decide) hb; omega
      | 10, h => simp only [zop] at h; simp only [znb] at hb; have := hbh (by decide) hb; omega
      | 11, h => simp only [zop] at h; simp only [znb] at hb; have := hbh (by decide) hb; omega
      | 12, h =>
        simp only [zop] at h; simp only [znb] at hb
        obtain ⟨u1, u2⟩ := Bool.and_eq_true _ _ |>.mp hb
        have := hbh (by decide) u1
        have u3 : k ≠ Int32.toNatClampNeg (S 1 r) := fun g => by
          rw [g, beq_self_eq_true] at u2; exact Bool.noConfusion u2
        have := zn_nat (x := S 1 r) (by omega)
        omega
      | 13, h =>
        simp only [zop] at h; simp only [znb] at hb
        rcases Bool.or_eq_true _ _ |>.mp hb with u | u
        · have := hbh (by decide) u; omega
        · exact htg _ h.2.2.2 u
      | 14, h => simp only [zop] at h; simp only [znb] at hb; exact htg _ h hb
      | 15, h =>
        simp only [zop] at h; simp only [znb] at hb
        obtain ⟨h1, h2, AL, h3, h4, h5⟩ := h
        rcases Bool.or_eq_true _ _ |>.mp hb with u | u
        · have := eq_of_beq u
          have := zn_nat h1
          omega
        · exact zab_sc hk (fun q hq h1000 => bh q hq (Or.inr h1000)) (by omega) 8 h4 h5 u
      | 16, h => simp only [zop] at h; simp only [znb] at hb; exact htg _ h hb
      | 17, h => simp only [znb] at hb; exact Bool.noConfusion hb
      | n + 18, h => exact h.elim
    · exact ih r' e k hk hb
/-- what a program that was read keeps, for its work -/
def zWk (S : Nat → Nat → Int32) (nd en : Nat → Int32) (fz : Int32) (G : Nat → Nat → Int) (L : List Nat) : Prop :=
  (∀ r ∈ L, (r : Int) < (S 11 0).toInt ∧ (∃ (f : Nat) (po : List Nat), zrow S G f r po ∧ ∀ q ∈ r :: po, q ∈ L) ∧ (∃ f : Nat, (f : Int) < fz.toInt ∧ G r 4 = (f : Int)) ∧ 0 ≤ zNm S G r ∧ zNm S G r ≤ 24 ∧ G r 2 ≤ zNm S G r ∧ 0 ≤ G r 0) ∧
  (∀ r ∈ L, ∀ k, k < 32 → zbit (nd r) k = znb S nd r (zbh S nd r) k (Int32.toNatClampNeg (S 0 r))) ∧
  (∀ r ∈ L, ∀ k, k < 32 → zbit (nd r) k = true → (k : Int) < G r 2) ∧
  (∀ q ∈ L, Int32.toNatClampNeg (S 0 q) ≠ 17 ∨ G q 3 < 1000 → ∃ s : Nat, (S 3 q).toInt = (s : Int) ∧ s ∈ L ∧ G s 0 = G q 1 ∧ G s 2 ≤ G q 3 ∧ G s 4 = G q 4) ∧
  (∀ f : Nat, (f : Int) < fz.toInt → 0 ≤ (en f).toInt ∧ Int32.toNatClampNeg (en f) ∈ L ∧ Int32.toNatClampNeg (S 0 (Int32.toNatClampNeg (en f))) = 0 ∧ G (Int32.toNatClampNeg (en f)) 4 = (f : Int)) ∧
  (∀ f : Nat, (f : Int) < fz.toInt → 0 ≤ (S 10 (5 * f)).toInt ∧ (S 10 (5 * f)).toInt ≤ 6 ∧ (S 10 (5 * f)).toInt ≤ (S 10 (5 * f + 1)).toInt ∧ (S 10 (5 * f + 1)).toInt ≤ 24) ∧
  (∀ r ∈ L, Int32.toNatClampNeg (S 0 r) = 6 ∨ Int32.toNatClampNeg (S 0 r) = 7 → 0 ≤ (S 1 r).toInt ∧ (S 1 r).toInt < fz.toInt ∧ S 10 (5 * Int32.toNatClampNeg (S 1 r)) = S 2 r)
theorem zDone_wk {S : Nat → Nat → Int32} {nd en : Nat → Int32} {fz : Int32} {G : Nat → Nat → Int} {L : List Nat} (h : zDone S nd en fz G L) (h0 : 0 ≤ fz.toInt) : zWk S nd en fz G L := by
  obtain ⟨⟨pc, pl, pn, pr, pa, pcc, pe, pf⟩, hne, he, hcall⟩ := h
  have hn := zn_nat h0
  rcases pc with ⟨u, -⟩ | ⟨-, -, hli, -, hl⟩
  · exact (hne u).elim
  have hnx := znx_0 (d := 0) hli pcc hl
  have hnm : ∀ r ∈ L, ∃ f : Nat, (f : Int) < fz.toInt ∧ G r 4 = (f : Int) ∧ zNm S G r = (S 10 (5 * f + 1)).toInt ∧ 0 ≤ zNm S G r ∧ zNm S G r ≤ 24 := fun r hr => by
    obtain ⟨-, f, hf, hG⟩ := pr r hr
    have e : zNm S G r = (S 10 (5 * f + 1)).toInt := by unfold zNm; rw [hG]; rfl
    have := pf f hf
    exact ⟨f, by omega, hG, e, by omega, by omega⟩
  refine ⟨fun r hr => ?_, zeq_at he, zSL hli pa he (fun q hq => by obtain ⟨f, a, b, c, d, e⟩ := hnm q hq; exact e) (fun q hq ho => by obtain ⟨s, a, b, c, d, e⟩ := hnx q hq ho; exact ⟨s, a, d⟩), hnx, fun f hf => pe f (by omega), fun f hf => pf f (by omega), fun r hr => hcall r (pr r hr).1⟩
  obtain ⟨f, a, b, c, d, e⟩ := hnm r hr
  obtain ⟨f', po, z, hq⟩ := zall_at pa r hr
  refine ⟨(pr r hr).1, ⟨f', po, z, hq⟩, ⟨f, a, b⟩, d, e, ?_, z.2.1⟩
  have hf : f' = f := by have := z.2.2.2.2.2.2.1; omega
  have := z.2.2.2.2.2.1
  rw [hf] at this
  omega
/-- a call that waits: frame i, whose callee's frame is i + 1 -/
def zFrm (S : Nat → Nat → Int32) (nd : Nat → Int32) (G : Nat → Nat → Int) (L : List Nat) (p : Nat → Bool) (cb ck : Nat → Int32) (st : Int) (i : Nat) : Prop :=
  ∃ r : Nat, (ck (i + 1)).toInt = (r : Int) ∧ r ∈ L ∧ 1 ≤ G r 0 ∧ 0 ≤ (cb i).toInt ∧ (cb (i + 1)).toInt + 1 = (cb i).toInt + zNm S G r + G r 0 ∧ (cb (i + 1)).toInt + 1 ≤ st + 24 * (i + 1) ∧ (∀ k, k < 32 → zbit (nd r) k = true → p (Int32.toNatClampNeg (cb i) + k) = true) ∧ ∀ k : Nat, (k : Int) + 1 < G r 0 → p (Int32.toNatClampNeg (cb i) + (zNm S G r).toNat + k) = true
def zLow (S : Nat → Nat → Int32) (nd : Nat → Int32) (G : Nat → Nat → Int) (L : List Nat) (p : Nat → Bool) (cb ck : Nat → Int32) (st : Int) (n : Nat) : Prop := ∀ i : Nat, i + 1 < n → zFrm S nd G L p cb ck st i
/-- the machine is about to work row r -/
def zV (S : Nat → Nat → Int32) (nd : Nat → Int32) (G : Nat → Nat → Int) (L : List Nat) (p : Nat → Bool) (cb ck : Nat → Int32) (on ba tp st : Int32) (r : Nat) : Prop :=
  r ∈ L ∧ 1 ≤ on.toInt ∧ on.toInt ≤ 100 ∧ cb (Int32.toNatClampNeg on - 1) = ba ∧ 0 ≤ ba.toInt ∧ tp.toInt = ba.toInt + zNm S G r + G r 0 ∧ tp.toInt ≤ st.toInt + 24 * on.toInt ∧ (0 ≤ st.toInt ∧ st.toInt ≤ 20000) ∧ (∀ k, k < 32 → zbit (nd r) k = true → p (Int32.toNatClampNeg ba + k) = true) ∧ (∀ k : Nat, (k : Int) < G r 0 → p (Int32.toNatClampNeg ba + (zNm S G r).toNat + k) = true) ∧ zLow S nd G L p cb ck st.toInt (Int32.toNatClampNeg on)
/-- frames lie one above the other -/
theorem zLow_le {S : Nat → Nat → Int32} {nd en : Nat → Int32} {fz : Int32} {G : Nat → Nat → Int} {L : List Nat} {p : Nat → Bool} {cb ck : Nat → Int32} {st : Int} {n : Nat} (hw : zWk S nd en fz G L) (h : zLow S nd G L p cb ck st n) : ∀ (d i : Nat), i + d < n → (cb i).toInt ≤ (cb (i + d)).toInt
  | 0, i, _ => Int.le_refl _
  | d + 1, i, hd => by
    have a := zLow_le hw h d i (by omega)
    obtain ⟨r, r1, r2, r3, r4, r5, -⟩ := h (i + d) (by omega)
    have := (hw.1 r r2).2.2.2.1
    show (cb i).toInt ≤ (cb (i + d + 1)).toInt
    omega
theorem zLow_p {S : Nat → Nat → Int32} {nd en : Nat → Int32} {fz : Int32} {G : Nat → Nat → Int} {L : List Nat} {p p2 : Nat → Bool} {cb ck cb2 ck2 : Nat → Int32} {st st2 : Int} {n : Nat} (hw : zWk S nd en fz G L) (h : zLow S nd G L p cb ck st n) (hp : ∀ j : Nat, (j : Int) < (cb (n - 1)).toInt → p j = true → p2 j = true) (hs : st ≤ st2) (hc : ∀ i, i < n → cb2 i = cb i ∧ ck2 i = ck i) : zLow S nd G L p2 cb2 ck2 st2 n := fun i hi => by
  have hl := zLow_le hw h (n - 1 - (i + 1)) (i + 1) (by omega)
  rw [show i + 1 + (n - 1 - (i + 1)) = n - 1 by omega] at hl
  obtain ⟨r, r1, r2, r3, r4, r5, r6, r7, r8⟩ := h i hi
  obtain ⟨w1, w2, w3, w4, w5, w6, w7⟩ := hw.1 r r2
  have hn := zn_nat r4
  refine ⟨r, by rw [(hc (i + 1) hi).2]; exact r1, r2, r3, by rw [(hc i (by omega)).1]; exact r4, by rw [(hc i (by omega)).1, (hc (i + 1) hi).1]; exact r5, by rw [(hc (i + 1) hi).1]; omega, fun k hk hb => ?_, fun k hk => ?_⟩
  · rw [(hc i (by omega)).1]
    have := hw.2.2.1 r r2 k hk hb
    exact hp _ (by omega) (r7 k hk hb)
  · rw [(hc i (by omega)).1]
    exact hp _ (by omega) (r8 k hk)
/-- on to row s of the same function -/
theorem zV_go {S : Nat → Nat → Int32} {nd en : Nat → Int32} {fz : Int32} {G : Nat → Nat → Int} {L : List Nat} {p p2 : Nat → Bool} {cb ck : Nat → Int32} {on ba tp st tp2 st2 : Int32} {r s : Nat} (hw : zWk S nd en fz G L) (h : zV S nd G L p cb ck on ba tp st r) (hs : s ∈ L) (h4 : G s 4 = G r 4) (ht : tp2.toInt = tp.toInt - G r 0 + G s 0) (hg : tp2.toInt - tp.toInt ≤ st2.toInt - st.toInt) (h1 : st.toInt ≤ st2.toInt) (h2 : st2.toInt ≤ 20000) (hb : ∀ k, k < 32 → zbit (nd s) k = true → p2 (Int32.toNatClampNeg ba + k) = true) (ho : ∀ k : Nat, (k : Int) < G s 0 → p2 (Int32.toNatClampNeg ba + (zNm S G r).toNat + k) = true) (hl : ∀ j : Nat, (j : Int) < ba.toInt → p j = true → p2 j = true) : zV S nd G L p2 cb ck on ba tp2 st2 s := by
  obtain ⟨v1, v2, v3, v4, v5, v6, v7, v8, v9, va, vb⟩ := h
  have e : zNm S G s = zNm S G r := by unfold zNm; rw [h4]
  refine ⟨hs, v2, v3, v4, v5, by rw [e]; omega, by omega, ⟨by omega, h2⟩, hb, by rw [e]; exact ho, zLow_p hw vb (fun j hj => hl j (by rw [v4] at hj; exact hj)) h1 (fun _ _ => ⟨rfl, rfl⟩)⟩
/-- the next row -/
theorem zV_nx {S : Nat → Nat → Int32} {nd en : Nat → Int32} {fz : Int32} {G : Nat → Nat → Int} {L : List Nat} {r : Nat} (hw : zWk S nd en fz G L) (hr : r ∈ L) (ho : Int32.toNatClampNeg (S 0 r) ≠ 17) : ∃ s : Nat, (S 3 r).toInt = (s : Int) ∧ s ∈ L ∧ G s 0 = G r 1 ∧ G s 4 = G r 4 ∧ zbh S nd r = nd s := by
  obtain ⟨s, a, b, c, -, d⟩ := hw.2.2.2.1 r hr (Or.inl ho)
  have hn := zn_nat (x := S 3 r) (by omega)
  refine ⟨s, a, b, c, d, ?_⟩
  unfold zbh
  rw [if_neg (by omega), show Int32.toNatClampNeg (S 3 r) = s by omega]
/-- a row that another one leads behind -/
theorem zV_tg {S : Nat → Nat → Int32} {nd en : Nat → Int32} {fz : Int32} {G : Nat → Nat → Int} {L : List Nat} {q : Int32} (hw : zWk S nd en fz G L) (h0 : 0 ≤ q.toInt) (hq : Int32.toNatClampNeg q ∈ L) (h3 : G (Int32.toNatClampNeg q) 3 < 1000) : ∃ s : Nat, (S 3 (Int32.toNatClampNeg q)).toInt = (s : Int) ∧ s ∈ L ∧ G s 0 = G (Int32.toNatClampNeg q) 1 ∧ G s 4 = G (Int32.toNatClampNeg q) 4 ∧ zbe (S 3) nd q = nd s := by
  obtain ⟨s, a, b, c, -, d⟩ := hw.2.2.2.1 _ hq (Or.inr h3)
  have hn := zn_nat (x := S 3 (Int32.toNatClampNeg q)) (by omega)
  refine ⟨s, a, b, c, d, ?_⟩
  unfold zbe
  rw [if_neg (by omega), if_neg (by omega), show Int32.toNatClampNeg (S 3 (Int32.toNatClampNeg q)) = s by omega]
/-- row r's law -/
theorem zV_row {S : Nat → Nat → Int32} {nd en : Nat → Int32} {fz : Int32} {G : Nat → Nat → Int} {L : List Nat} {r n : Nat} (hw : zWk S nd en fz G L) (hr : r ∈ L) (ho : Int32.toNatClampNeg (S 0 r) = n) : ∃ (f : Nat) (po : List Nat), zop S G f r po n ∧ (∀ q ∈ r :: po, q ∈ L) ∧ G r 4 = (f : Int) ∧ (f : Int) < fz.toInt ∧ zNm S G r = (S 10 (5 * f + 1)).toInt ∧ ∀ k, k < 32 → zbit (nd r) k = znb S nd r (zbh S nd r) k n := by
  obtain ⟨-, ⟨f, po, z, hq⟩, ⟨f', hf, hG⟩, -⟩ := hw.1 r hr
  have hb := hw.2.1 r hr
  rw [ho] at hb
  have z8 := z.2.2.2.2.2.2.2
  rw [ho] at z8
  have z7 := z.2.2.2.2.2.2.1
  exact ⟨f, po, z8, hq, z7, by omega, by unfold zNm; rw [z7]; rfl, hb⟩
/-- rows that need just what comes behind them: STEP, NUMBER, KIND ALONE, KIND, the signs -/
theorem zV_pl {S : Nat → Nat → Int32} {nd en : Nat → Int32} {fz : Int32} {G : Nat → Nat → Int} {L : List Nat} {p p2 : Nat → Bool} {cb ck : Nat → Int32} {on ba tp st tp2 st2 : Int32} {r n : Nat} (hw : zWk S nd en fz G L) (h : zV S nd G L p cb ck on ba tp st r) (ho : Int32.toNatClampNeg (S 0 r) = n) (hn : n = 1 ∨ n = 2 ∨ n = 4 ∨ n = 5 ∨ n = 8 ∨ n = 9 ∨ n = 10 ∨ n = 11) (ht : tp2.toInt = tp.toInt - G r 0 + G r 1) (hg : tp2.toInt - tp.toInt ≤ st2.toInt - st.toInt) (h1 : st.toInt ≤ st2.toInt) (h2 : st2.toInt ≤ 20000) (hp : ∀ j : Nat, (j : Int) < ba.toInt + zNm S G r → p j = true → p2 j = true) (hop : ∀ k : Nat, (k : Int) < G r 1 → p2 (Int32.toNatClampNeg ba + (zNm S G r).toNat + k) = true) : ∃ s : Nat, (S 3 r).toInt = (s : Int) ∧ zV S nd G L p2 cb ck on ba tp2 st2 s := by
  have hr := h.1
  have hba := zn_nat h.2.2.2.2.1
  obtain ⟨w1, w2, w3, w4, w5, w6, w7⟩ := hw.1 r hr
  obtain ⟨s, a, b, c, d, e⟩ := zV_nx hw hr (by rw [ho]; omega)
  obtain ⟨f, po, -, -, -, -, -, hb⟩ := zV_row hw hr ho
  refine ⟨s, a, zV_go hw h b d (by omega) hg h1 h2 (fun k hk hk2 => ?_) (fun k hk => hop k (by omega)) (fun j hj => hp j (by omega))⟩
  have hbk : zbit (nd r) k = true := by
    rw [hb k hk, e]
    rcases hn with g | g | g | g | g | g | g | g <;> (rw [g]; exact hk2)
  have := hw.2.2.1 r hr k hk hbk
  exact hp _ (by omega) (h.2.2.2.2.2.2.2.2.1 k hk hbk)
/-- NAME -/
theorem zV_nm {S : Nat → Nat → Int32} {nd en : Nat → Int32} {fz : Int32} {G : Nat → Nat → Int} {L : List Nat} {p p2 : Nat → Bool} {cb ck : Nat → Int32} {on ba tp st tp2 st2 : Int32} {r : Nat} (hw : zWk S nd en fz G L) (h : zV S nd G L p cb ck on ba tp st r) (ho : Int32.toNatClampNeg (S 0 r) = 3) (ht : tp2.toInt = tp.toInt + 1) (h1 : st2.toInt = st.toInt + 1) (h2 : st2.toInt ≤ 20000) (ht2 : p2 (Int32.toNatClampNeg tp) = true) (hp : ∀ j : Nat, p j = true → j ≠ Int32.toNatClampNeg ba + Int32.toNatClampNeg (S 1 r) ∨ zbit (zbh S nd r) (Int32.toNatClampNeg (S 1 r)) = true → p2 j = true) : ∃ s : Nat, (S 3 r).toInt = (s : Int) ∧ zV S nd G L p2 cb ck on ba tp2 st2 s := by
  have hr := h.1
  have hba := zn_nat h.2.2.2.2.1
  obtain ⟨w1, w2, w3, w4, w5, w6, w7⟩ := hw.1 r hr
  have htp := h.2.2.2.2.2.1
  have htn := zn_nat (x := tp) (by omega)
  obtain ⟨s, a, b, c, d, e⟩ := zV_nx hw hr (by rw [ho]; decide)
  obtain ⟨f, po, z, -, -, -, -, hb⟩ := zV_row hw hr ho
  simp only [zop] at z
  obtain ⟨z1, z2, z3, z4⟩ := z
  have zn := zn_nat z1
  refine ⟨s, a, zV_go hw h b d (by omega) (by omega) (by omega) h2 (fun k hk hk2 => ?_) (fun k hk => ?_) (fun j hj hpj => hp j hpj (Or.inl (by omega)))⟩
  · have hbk : zbit (nd r) k = true := by
      rw [hb k hk, e]
      show (zbit (nd s) k || _) = true
      rw [hk2]; rfl
    refine hp _ (h.2.2.2.2.2.2.2.2.1 k hk hbk) ?_
    by_cases g : k = Int32.toNatClampNeg (S 1 r)
    · right; rw [← g, e]; exact hk2
    · left; omega
  · by_cases g : (k : Int) = G r 0
    · rw [show Int32.toNatClampNeg ba + (zNm S G r).toNat + k = Int32.toNatClampNeg tp by omega]; exact ht2
    · exact hp _ (h.2.2.2.2.2.2.2.2.2.1 k (by omega)) (Or.inl (by omega))
/-- LET -/
theorem zV_let {S : Nat → Nat → Int32} {nd en : Nat → Int32} {fz : Int32} {G : Nat → Nat → Int} {L : List Nat} {p p2 : Nat → Bool} {cb ck : Nat → Int32} {on ba tp st tp2 : Int32} {r : Nat} (hw : zWk S nd en fz G L) (h : zV S nd G L p cb ck on ba tp st r) (ho : Int32.toNatClampNeg (S 0 r) = 12) (ht : tp2.toInt = tp.toInt - 1) (hs : zbit (zbh S nd r) (Int32.toNatClampNeg (S 1 r)) = true → p2 (Int32.toNatClampNeg ba + Int32.toNatClampNeg (S 1 r)) = true) (hp : ∀ j : Nat, p j = true → j ≠ Int32.toNatClampNeg ba + Int32.toNatClampNeg (S 1 r) → (j : Int) ≠ tp2.toInt → p2 j = true) : ∃ s : Nat, (S 3 r).toInt = (s : Int) ∧ zV S nd G L p2 cb ck on ba tp2 st s := by
  have hr := h.1
  have hba := zn_nat h.2.2.2.2.1
  obtain ⟨w1, w2, w3, w4, w5, w6, w7⟩ := hw.1 r hr
  have htp := h.2.2.2.2.2.1
  have hst := h.2.2.2.2.2.2.2.1
  obtain ⟨s, a, b, c, d, e⟩ := zV_nx hw hr (by rw [ho]; decide)
  obtain ⟨f, po, z, -, -, -, zf, hb⟩ := zV_row hw hr ho
  simp only [zop] at z
  obtain ⟨z1, z2, z3, z4, z5⟩ := z
  have w4' := (hw.1 r hr).2.1
  have zn := zn_nat (x := S 1 r) (by obtain ⟨f', po', z', -⟩ := w4'; have := z'.2.2.2.1; omega)
  refine ⟨s, a, zV_go hw h b d (by omega) (by omega) (by omega) hst.2 (fun k hk hk2 => ?_) (fun k hk => ?_) (fun j hj hpj => hp j hpj (by omega) (by omega))⟩
  · by_cases g : k = Int32.toNatClampNeg (S 1 r)
    · rw [g]; exact hs (by rw [← g, e]; exact hk2)
    · have hbk : zbit (nd r) k = true := by
        rw [hb k hk, e]
        show (zbit (nd s) k && !(k == Int32.toNatClampNeg (S 1 r))) = true
        rw [hk2, beq_false_of_ne g]; rfl
      have := hw.2.2.1 r hr k hk hbk
      exact hp _ (h.2.2.2.2.2.2.2.2.1 k hk hbk) (by omega) (by omega)
  · exact hp _ (h.2.2.2.2.2.2.2.2.2.1 k (by omega)) (by omega) (by omega)
/-- on to a row that needs no more names: IF, JUMP, LEAVE -/
theorem zV_br {S : Nat → Nat → Int32} {nd en : Nat → Int32} {fz : Int32} {G : Nat → Nat → Int} {L : List Nat} {p p2 : Nat → Bool} {cb ck : Nat → Int32} {on ba tp st tp2 mask : Int32} {r s : Nat} (hw : zWk S nd en fz G L) (h : zV S nd G L p cb ck on ba tp st r) (hs : s ∈ L) (h4 : G s 4 = G r 4) (ht : tp2.toInt = tp.toInt - G r 0 + G s 0) (hle : G s 0 ≤ G r 0) (hsub : ∀ k, k < 32 → zbit (nd s) k = true → zbit (nd r) k = true) (hm : ∀ k, k < 24 → zbit mask k = true → zbit (nd r) k = true ∧ zbit (nd s) k = false) (hp : ∀ j : Nat, p j = true → (∀ k, k < 24 → zbit mask k = true → j ≠ Int32.toNatClampNeg ba + k) → p2 j = true) : zV S nd G L p2 cb ck on ba tp2 st s := by
  have hr := h.1
  have hba := zn_nat h.2.2.2.2.1
  obtain ⟨w1, w2, w3, w4, w5, w6, w7⟩ := hw.1 r hr
  have hst := h.2.2.2.2.2.2.2.1
  refine zV_go hw h hs h4 ht (by omega) (Int.le_refl _) hst.2 (fun k hk hk2 => ?_) (fun k hk => ?_) (fun j hj hpj => hp j hpj (fun k _ _ => by omega))
  · refine hp _ (h.2.2.2.2.2.2.2.2.1 k hk (hsub k hk hk2)) (fun k' hk' hm' e => ?_)
    have : k' = k := by omega
    rw [this] at hm' hk'
    rw [(hm k hk' hm').2] at hk2
    exact Bool.noConfusion hk2
  · refine hp _ (h.2.2.2.2.2.2.2.2.2.1 k (by omega)) (fun k' hk' hm' => ?_)
    have := hw.2.2.1 r hr k' (by omega) (hm k' hk' hm').1
    omega
/-- the machine is about to begin a function -/
def zV0 (S : Nat → Nat → Int32) (nd : Nat → Int32) (G : Nat → Nat → Int) (L : List Nat) (p : Nat → Bool) (cb ck : Nat → Int32) (on ba tp st : Int32) (r : Nat) : Prop :=
  r ∈ L ∧ Int32.toNatClampNeg (S 0 r) = 0 ∧ 1 ≤ on.toInt ∧ on.toInt ≤ 100 ∧ cb (Int32.toNatClampNeg on - 1) = ba ∧ 0 ≤ ba.toInt ∧ tp.toInt = ba.toInt + zNm S G r ∧ tp.toInt ≤ st.toInt + 24 * on.toInt ∧ (0 ≤ st.toInt ∧ st.toInt ≤ 20000) ∧ (∀ k : Nat, (k : Int) < (S 10 (5 * (G r 4).toNat)).toInt → p (Int32.toNatClampNeg ba + k) = true) ∧ zLow S nd G L p cb ck st.toInt (Int32.toNatClampNeg on)
theorem zV_en {S : Nat → Nat → Int32} {nd en : Nat → Int32} {fz : Int32} {G : Nat → Nat → Int} {L : List Nat} {p p2 : Nat → Bool} {cb ck : Nat → Int32} {on ba tp st mask : Int32} {r : Nat} (hw : zWk S nd en fz G L) (h : zV0 S nd G L p cb ck on ba tp st r) (hm : ∀ k, k < 24 → zbit mask k = true → zbit (zbh S nd r) k = false) (hp : ∀ j : Nat, p j = true → (∀ k, k < 24 → zbit mask k = true → j ≠ Int32.toNatClampNeg ba + k) → p2 j = true) : ∃ s : Nat, (S 3 r).toInt = (s : Int) ∧ zV S nd G L p2 cb ck on ba tp st s := by
  obtain ⟨v1, v0, v2, v3, v4, v5, v6, v7, v8, v9, vb⟩ := h
  have hba := zn_nat v5
  obtain ⟨s, a, b, c, d, e⟩ := zV_nx hw v1 (by rw [v0]; decide)
  obtain ⟨s', a', -, -, c', -⟩ := hw.2.2.2.1 _ v1 (Or.inl (by rw [v0]; decide))
  have es : s' = s := by omega
  rw [es] at c'
  obtain ⟨f, po, z, -, zf, -, -, -⟩ := zV_row hw v1 v0
  simp only [zop] at z
  obtain ⟨z1, z2, z3, z4, z5, z6⟩ := z
  have eN : zNm S G s = zNm S G r := by unfold zNm; rw [d]
  have et : (S 10 (5 * (G r 4).toNat)).toInt = (S 10 (5 * f)).toInt := by rw [zf]; rfl
  refine ⟨s, a, b, v2, v3, v4, v5, by rw [eN]; omega, v7, v8, fun k hk hk2 => ?_, fun k hk => by omega, zLow_p hw vb (fun j hj hpj => hp j hpj (fun k _ _ => by rw [v4] at hj; omega)) (Int.le_refl _) (fun _ _ => ⟨rfl, rfl⟩)⟩
  have := hw.2.2.1 s b k hk hk2
  refine hp _ (v9 k (by omega)) (fun k' hk' hm' e' => ?_)
  have ek : k' = k := by omega
  rw [ek] at hm' hk'
  have := hm k hk' hm'
  rw [e, hk2] at this
  exact Bool.noConfusion this
/-- a call -/
theorem zV_call {S : Nat → Nat → Int32} {nd en : Nat → Int32} {fz : Int32} {G : Nat → Nat → Int} {L : List Nat} {p : Nat → Bool} {cb ck cb2 ck2 : Nat → Int32} {on ba tp st on2 ba2 tp2 : Int32} {r : Nat} (hw : zWk S nd en fz G L) (h : zV S nd G L p cb ck on ba tp st r) (ho : Int32.toNatClampNeg (S 0 r) = 6 ∨ Int32.toNatClampNeg (S 0 r) = 7) (hg : Int32.toNatClampNeg (S 0 r) = 7 ∨ tp.toInt + 1 ≤ st.toInt + 24 * on.toInt) (hon : on.toInt < 100) (hb2 : ba2.toInt = tp.toInt - (S 2 r).toInt) (ht2 : tp2.toInt = ba2.toInt + (S 10 (5 * Int32.toNatClampNeg (S 1 r) + 1)).toInt) (hon2 : on2.toInt = on.toInt + 1) (ecb : cb2 = upd cb (Int32.toNatClampNeg on) ba2) (eck : ck2 = upd ck (Int32.toNatClampNeg on) (S 3 r)) : 0 ≤ (en (Int32.toNatClampNeg (S 1 r))).toInt ∧ zV0 S nd G L p cb2 ck2 on2 ba2 tp2 st (Int32.toNatClampNeg (en (Int32.toNatClampNeg (S 1 r)))) := by
  obtain ⟨v1, v2, v3, v4, v5, v6, v7, v8, v9, va, vb⟩ := h
  have hba := zn_nat v5
  have hn := zn_nat (x := on) (by omega)
  have hn2 := zn_nat (x := on2) (by omega)
  obtain ⟨w1, w2, w3, w4, w5, w6, w7⟩ := hw.1 r v1
  obtain ⟨c1, c2, c3⟩ := hw.2.2.2.2.2.2 r v1 ho
  have hf2 := zn_nat c1
  obtain ⟨e1, e2, e3, e4⟩ := hw.2.2.2.2.1 (Int32.toNatClampNeg (S 1 r)) (by omega)
  obtain ⟨t1, t2, t3, t4⟩ := hw.2.2.2.2.2.1 (Int32.toNatClampNeg (S 1 r)) (by omega)
  obtain ⟨s, a, b, c, d, e⟩ := zV_nx hw v1 (by rcases ho with g | g <;> (rw [g]; decide))
  have hz : 0 ≤ (S 2 r).toInt ∧ (S 2 r).toInt ≤ G r 0 ∧ G r 1 = G r 0 - (S 2 r).toInt + 1 ∧ (Int32.toNatClampNeg (S 0 r) = 7 → 1 ≤ (S 2 r).toInt) ∧ ∀ k, k < 32 → zbit (nd s) k = true → zbit (nd r) k = true := by
    rcases ho with g | g
    · obtain ⟨f, po, z, -, -, -, -, hb⟩ := zV_row hw v1 g
      simp only [zop] at z
      exact ⟨z.1, z.2.1, z.2.2.1, fun u => by omega, fun k hk hk2 => by rw [hb k hk, e]; exact hk2⟩
    · obtain ⟨f, po, z, -, -, -, -, hb⟩ := zV_row hw v1 g
      simp only [zop] at z
      exact ⟨by omega, z.2.1, z.2.2.1, fun _ => z.1, fun k hk hk2 => by rw [hb k hk, e]; exact hk2⟩
  obtain ⟨z1, z2, z3, z4, z5⟩ := hz
  have eN : zNm S G s = zNm S G r := by unfold zNm; rw [d]
  have eM : zNm S G (Int32.toNatClampNeg (en (Int32.toNatClampNeg (S 1 r)))) = (S 10 (5 * Int32.toNatClampNeg (S 1 r) + 1)).toInt := by unfold zNm; rw [e4]; rfl
  have eT : (S 10 (5 * (G (Int32.toNatClampNeg (en (Int32.toNatClampNeg (S 1 r)))) 4).toNat)).toInt = (S 2 r).toInt := by rw [e4]; show (S 10 (5 * Int32.toNatClampNeg (S 1 r))).toInt = _; rw [c3]
  have hgr : ba2.toInt + 1 ≤ st.toInt + 24 * on.toInt := by
    rcases hg with g | g
    · have := z4 g; omega
    · omega
  have hb2n := zn_nat (x := ba2) (by omega)
  refine ⟨e1, e2, e3, by omega, by omega, by rw [ecb, show Int32.toNatClampNeg on2 - 1 = Int32.toNatClampNeg on by omega, zu_s], by omega, by rw [eM]; exact ht2, by omega, v8, fun k hk => ?_, fun i hi => ?_⟩
  · rw [eT] at hk
    have := va ((G r 0).toNat - Int32.toNatClampNeg (S 2 r) + k) (by have := zn_nat z1; omega)
    rw [show Int32.toNatClampNeg ba + (zNm S G r).toNat + ((G r 0).toNat - Int32.toNatClampNeg (S 2 r) + k) = Int32.toNatClampNeg ba2 + k by have := zn_nat z1; omega] at this
    exact this
  · by_cases g : i + 1 < Int32.toNatClampNeg on
    · exact zLow_p hw vb (fun _ _ h => h) (Int.le_refl _) (fun j hj => ⟨by rw [ecb, zu_n (by omega)], by rw [eck, zu_n (by omega)]⟩) i g
    · have ei : i = Int32.toNatClampNeg on - 1 := by omega
      have ei1 : i + 1 = Int32.toNatClampNeg on := by omega
      have k1 : cb2 i = ba := by rw [ecb, zu_n (by omega), ei]; exact v4
      have k2 : cb2 (i + 1) = ba2 := by rw [ecb, ei1, zu_s]
      have k3 : ck2 (i + 1) = S 3 r := by rw [eck, ei1, zu_s]
      refine ⟨s, by rw [k3]; exact a, b, by omega, by rw [k1]; exact v5, by rw [k1, k2, eN]; omega, by rw [k2]; omega, fun k hk hk2 => by rw [k1]; exact v9 k hk (z5 k hk hk2), fun k hk => by rw [k1, eN]; exact va k (by omega)⟩
/-- a call ends, and another one goes on -/
theorem zV_ret {S : Nat → Nat → Int32} {nd en : Nat → Int32} {fz : Int32} {G : Nat → Nat → Int} {L : List Nat} {p p2 : Nat → Bool} {cb ck : Nat → Int32} {on ba tp st on2 ba2 tp2 : Int32} {r : Nat} (hw : zWk S nd en fz G L) (h : zV S nd G L p cb ck on ba tp st r) (hon2 : on2.toInt = on.toInt - 1) (h1 : 1 ≤ on2.toInt) (hb : ba2 = cb (Int32.toNatClampNeg on2 - 1)) (ht : tp2.toInt = ba.toInt + 1) (hp : ∀ j : Nat, (j : Int) < ba.toInt → p j = true → p2 j = true) (hpb : p2 (Int32.toNatClampNeg ba) = true) : ∃ s : Nat, (ck (Int32.toNatClampNeg on2)).toInt = (s : Int) ∧ zV S nd G L p2 cb ck on2 ba2 tp2 st s := by
  obtain ⟨v1, v2, v3, v4, v5, v6, v7, v8, v9, va, vb⟩ := h
  have hn := zn_nat (x := on) (by omega)
  have hn2 := zn_nat (x := on2) (by omega)
  have hba := zn_nat v5
  obtain ⟨s, a, b, c, d, e, f, g, k⟩ := vb (Int32.toNatClampNeg on2 - 1) (by omega)
  rw [show Int32.toNatClampNeg on2 - 1 + 1 = Int32.toNatClampNeg on2 by omega] at a e f
  rw [show Int32.toNatClampNeg on - 1 = Int32.toNatClampNeg on2 by omega] at v4
  rw [v4] at e f
  rw [← hb] at d e g k
  obtain ⟨w1, w2, w3, w4, w5, w6, w7⟩ := hw.1 s b
  have hb2 := zn_nat d
  refine ⟨s, a, b, h1, by omega, hb.symm, d, by omega, by omega, v8, fun i hi hi2 => ?_, fun i hi => ?_, ?_⟩
  · have := hw.2.2.1 s b i hi hi2
    exact hp _ (by omega) (g i hi hi2)
  · by_cases q : (i : Int) + 1 < G s 0
    · exact hp _ (by omega) (k i q)
    · rw [show Int32.toNatClampNeg ba2 + (zNm S G s).toNat + i = Int32.toNatClampNeg ba by omega]; exact hpb
  · have vb2 : zLow S nd G L p cb ck st.toInt (Int32.toNatClampNeg on2) := fun i hi => vb i (by omega)
    exact zLow_p hw vb2 (fun j hj => hp j (by rw [← hb] at hj; omega)) (Int.le_refl _) (fun _ _ => ⟨rfl, rfl⟩)
theorem zab_in {S : Nat → Nat → Int32} {nd : Nat → Int32} {k m : Nat} : ∀ (n : Nat) {AL : List Nat} {x : Int32}, zli (S 5) x AL → AL.length ≤ n → m ∈ AL → zbit (zbe (S 3) nd (S 6 m)) k = true → ¬ ((S 8 m).toInt ≤ (k : Int) ∧ (k : Int) < (S 8 m).toInt + zfl S (S 4 m)) → zab S nd k n x = true
  | 0, [], _, _, _, hm, _, _ => nomatch hm
  | 0, _ :: _, _, _, hn, _, _, _ => absurd hn (by simp)
  | n + 1, [], _, _, _, hm, _, _ => nomatch hm
  | n + 1, y :: AL, x, hl, hn, hm, hb, hf => by
    have h1 : x.toInt = (y : Int) := hl.1
    have hx := zn_nat (x := x) (by omega)
    have e : Int32.toNatClampNeg x = y := by omega
    unfold zab
    rw [if_neg (by omega), e]
    rcases List.mem_cons.mp hm with g | g
    · rw [g] at hb hf
      have hd : (decide ((S 8 y).toInt ≤ (k : Int)) && decide ((k : Int) < (S 8 y).toInt + zfl S (S 4 y))) = false := by
        cases q : (decide ((S 8 y).toInt ≤ (k : Int)) && decide ((k : Int) < (S 8 y).toInt + zfl S (S 4 y))) with
        | false => rfl
        | true =>
          obtain ⟨q1, q2⟩ := Bool.and_eq_true _ _ |>.mp q
          exact (hf ⟨of_decide_eq_true q1, of_decide_eq_true q2⟩).elim
      rw [hb, hd]; rfl
    · rw [zab_in n hl.2 (by rw [List.length_cons] at hn; omega) g hb hf, Bool.or_true]
/-- MATCH: its names and arms -/
theorem zV_mr {S : Nat → Nat → Int32} {nd en : Nat → Int32} {fz : Int32} {G : Nat → Nat → Int} {L : List Nat} {p : Nat → Bool} {cb ck : Nat → Int32} {on ba tp st : Int32} {r : Nat} (hw : zWk S nd en fz G L) (h : zV S nd G L p cb ck on ba tp st r) (ho : Int32.toNatClampNeg (S 0 r) = 15) : 0 ≤ (S 1 r).toInt ∧ (S 1 r).toInt < G r 2 ∧ G r 2 ≤ 24 ∧ zbit (nd r) (Int32.toNatClampNeg (S 1 r)) = true ∧ ∃ AL : List Nat, AL.length ≤ 8 ∧ zli (S 5) (S 2 r) AL ∧ ∀ m ∈ AL, (m : Int) < (S 13 0).toInt ∧ zkd S (S 4 m) ∧ (S 8 m).toInt = G r 2 ∧ G r 2 + zfl S (S 4 m) ≤ zNm S G r ∧ 0 ≤ (S 6 m).toInt ∧ ∃ s : Nat, (S 3 (Int32.toNatClampNeg (S 6 m))).toInt = (s : Int) ∧ s ∈ L ∧ G s 0 = G r 0 ∧ G s 4 = G r 4 ∧ zbe (S 3) nd (S 6 m) = nd s := by
  have hr := h.1
  obtain ⟨w1, w2, w3, w4, w5, w6, w7⟩ := hw.1 r hr
  obtain ⟨f, po, z, hq, zf, -, zn, hb⟩ := zV_row hw hr ho
  simp only [zop] at z
  obtain ⟨z1, z2, AL, z3, z4, z5⟩ := z
  have za := zn_nat z1
  refine ⟨z1, z2, by omega, ?_, AL, z3, z4, fun m hm => ?_⟩
  · rw [hb _ (by omega)]
    show (Int32.toNatClampNeg (S 1 r) == Int32.toNatClampNeg (S 1 r) || _) = true
    rw [beq_self_eq_true]; rfl
  · obtain ⟨m1, m2, m3, m4, m5, m6, m7, m8, m9, m10⟩ := z5 m hm
    obtain ⟨s, a, b, c, d, e⟩ := zV_tg hw m6 (hq _ m7) (by omega)
    exact ⟨m1, m3, m4, by omega, m6, s, a, b, by omega, by omega, e⟩
theorem zV_mt {S : Nat → Nat → Int32} {nd en : Nat → Int32} {fz : Int32} {G : Nat → Nat → Int} {L : List Nat} {p p2 : Nat → Bool} {cb ck : Nat → Int32} {on ba tp st mask : Int32} {r s m : Nat} {AL : List Nat} (hw : zWk S nd en fz G L) (h : zV S nd G L p cb ck on ba tp st r) (ho : Int32.toNatClampNeg (S 0 r) = 15) (hA : AL.length ≤ 8) (hli : zli (S 5) (S 2 r) AL) (hmA : m ∈ AL) (h8 : (S 8 m).toInt = G r 2) (hs : s ∈ L) (h0 : G s 0 = G r 0) (h4 : G s 4 = G r 4) (he : zbe (S 3) nd (S 6 m) = nd s) (hm : ∀ k, k < 24 → zbit mask k = true → zbit (nd r) k = true ∧ zbit (nd s) k = false) (hp : ∀ j : Nat, p j = true → j ≠ Int32.toNatClampNeg ba + Int32.toNatClampNeg (S 1 r) ∨ zbit (nd s) (Int32.toNatClampNeg (S 1 r)) = true → (∀ k, k < 24 → zbit mask k = true → j ≠ Int32.toNatClampNeg ba + k) → p2 j = true) (hf : ∀ i : Nat, (i : Int) < zfl S (S 4 m) → zbit (nd s) (Int32.toNatClampNeg (S 8 m) + i) = true → p2 (Int32.toNatClampNeg ba + Int32.toNatClampNeg (S 8 m) + i) = true) : zV S nd G L p2 cb ck on ba tp st s := by
  have hr := h.1
  have hba := zn_nat h.2.2.2.2.1
  obtain ⟨w1, w2, w3, w4, w5, w6, w7⟩ := hw.1 r hr
  obtain ⟨q1, q2, q3, q4, -⟩ := zV_mr hw h ho
  have hst := h.2.2.2.2.2.2.2.1
  have za := zn_nat q1
  have z8 := zn_nat (x := S 8 m) (by omega)
  obtain ⟨f, po, z, -, -, -, -, hb⟩ := zV_row hw hr ho
  refine zV_go hw h hs h4 (by omega) (by omega) (Int.le_refl _) hst.2 (fun k hk hk2 => ?_) (fun k hk => ?_) (fun j hj hpj => hp j hpj (Or.inl (by omega)) (fun k _ _ => by omega))
  · by_cases g : (S 8 m).toInt ≤ (k : Int) ∧ (k : Int) < (S 8 m).toInt + zfl S (S 4 m)
    · have := hf (k - Int32.toNatClampNeg (S 8 m)) (by omega) (by rw [show Int32.toNatClampNeg (S 8 m) + (k - Int32.toNatClampNeg (S 8 m)) = k by omega]; exact hk2)
      rw [show Int32.toNatClampNeg ba + Int32.toNatClampNeg (S 8 m) + (k - Int32.toNatClampNeg (S 8 m)) = Int32.toNatClampNeg ba + k by omega] at this
      exact this
    · have hbk : zbit (nd r) k = true := by
        rw [hb k hk]
        show (k == Int32.toNatClampNeg (S 1 r) || zab S nd k 8 (S 2 r)) = true
        rw [zab_in 8 hli hA hmA (by rw [he]; exact hk2) g, Bool.or_true]
      refine hp _ (h.2.2.2.2.2.2.2.2.1 k hk hbk) ?_ (fun k' hk' hm' e' => ?_)
      · by_cases u : k = Int32.toNatClampNeg (S 1 r)
        · right; rw [← u]; exact hk2
        · left; omega
      · have ek : k' = k := by omega
        rw [ek] at hm' hk'
        rw [(hm k hk' hm').2] at hk2
        exact Bool.noConfusion hk2
  · refine hp _ (h.2.2.2.2.2.2.2.2.2.1 k (by omega)) (Or.inl (by omega)) (fun k' hk' hm' => ?_)
    have := hw.2.2.1 r hr k' (by omega) (hm k' hk' hm').1
    omega

end
section
theorem zbit_t : ∀ (w : Fin 7) (k : Fin 32), zbit ((1 : Int32) <<< (Int32.ofInt (w.val : Int) &&& 31) - 1) k.val = decide (k.val < w.val) := by decide +kernel
theorem zbit_td {x : Int32} (h0 : 0 ≤ x.toInt) (h1 : x.toInt ≤ 6) {k : Nat} (hk : k < 32) : zbit ((1 : Int32) <<< (x &&& 31) - 1) k = decide ((k : Int) < x.toInt) := by
  have hx := zn_nat h0
  have ex := zi_of (y := x) (j := Int32.toNatClampNeg x) hx.symm
  have t := zbit_t ⟨Int32.toNatClampNeg x, by omega⟩ ⟨k, hk⟩
  have t : zbit ((1 : Int32) <<< (Int32.ofInt ((Int32.toNatClampNeg x : Nat) : Int) &&& 31) - 1) k = decide (k < Int32.toNatClampNeg x) := t
  rw [← ex] at t
  rw [t]
  exact decide_eq_decide.mpr (by omega)
/-- the one bit y, but for what is in z -/
theorem zbit_an {x z : Int32} {k : Nat} (hk : k < 32) : zbit (x &&& (z ^^^ (-1))) k = (zbit x k && !zbit z k) := by rw [zbit_and, zbit_xor1 z hk]
theorem zan_t {x z : Int32} {k : Nat} (hk : k < 32) (h : zbit (x &&& (z ^^^ (-1))) k = true) : zbit x k = true ∧ zbit z k = false := by
  rw [zbit_an hk] at h
  obtain ⟨a, b⟩ := Bool.and_eq_true _ _ |>.mp h
  refine ⟨a, ?_⟩
  cases g : zbit z k with
  | false => rfl
  | true => rw [g] at b; exact Bool.noConfusion b

end
section
theorem wi_489 : Cond.fieldLink RX5 19 "ReuseHouse$Machine" "top" "I" ∈ zw := zw_in (List.mem_of_getElem? (i := 489) (by decide +kernel)) (by decide +kernel)
theorem wi_488 : Cond.fieldLink RX5 15 "ReuseHouse$Machine" "stack" "[J" ∈ zw := zw_in (List.mem_of_getElem? (i := 488) (by decide +kernel)) (by decide +kernel)
theorem wi_503 : Cond.fieldLink RX5 57 "ReuseHouse$Machine" "how" "I" ∈ zw := zw_in (List.mem_of_getElem? (i := 503) (by decide +kernel)) (by decide +kernel)
theorem wi_485 : Cond.fieldLink RX5 77 "ReuseHouse$Machine" "code" "LReuseHouse$Code;" ∈ zw := zw_in (List.mem_of_getElem? (i := 485) (by decide +kernel)) (by decide +kernel)
theorem wi_189 : Cond.fieldLink RX5 159 "ReuseHouse$Code" "place" "[I" ∈ zw := zw_in (List.mem_of_getElem? (i := 189) (by decide +kernel)) (by decide +kernel)
theorem wi_505 : Cond.fieldLink RX5 60 "ReuseHouse$Machine" "stopPlace" "I" ∈ zw := zw_in (List.mem_of_getElem? (i := 505) (by decide +kernel)) (by decide +kernel)
theorem wi_499 : Cond.fieldLink RX5 51 "ReuseHouse$Machine" "steps" "I" ∈ zw := zw_in (List.mem_of_getElem? (i := 499) (by decide +kernel)) (by decide +kernel)
theorem wi_498 : Cond.fieldLink RX5 48 "ReuseHouse$Machine" "allowed" "I" ∈ zw := zw_in (List.mem_of_getElem? (i := 498) (by decide +kernel)) (by decide +kernel)
theorem wi_1170 : Cond.code yX5_stop cX5_stop 3 none ∈ zw := zw_in (List.mem_of_getElem? (i := 1170) (by decide +kernel)) (by decide +kernel)
theorem wi_1167 : Cond.methodLink RX5 162 yX5_stop ∈ zw := zw_in (List.mem_of_getElem? (i := 1167) (by decide +kernel)) (by decide +kernel)
theorem wi_1169 : Cond.instanceMethod yX5_stop ∈ zw := zw_in (List.mem_of_getElem? (i := 1169) (by decide +kernel)) (by decide +kernel)
theorem wi_47 : Cond.selects RX5 yX5_stop yX5_stop ∈ zw := zw_in (List.mem_of_getElem? (i := 47) (by decide +kernel)) (by decide +kernel)
theorem wi_139 : Cond.initialized RX5 ∈ zw := zw_in (List.mem_of_getElem? (i := 139) (by decide +kernel)) (by decide +kernel)
theorem wi_193 : Cond.fieldLink RX5 95 "ReuseHouse$Code" "next" "[I" ∈ zw := zw_in (List.mem_of_getElem? (i := 193) (by decide +kernel)) (by decide +kernel)
theorem wi_497 : Cond.fieldLink RX5 45 "ReuseHouse$Machine" "at" "I" ∈ zw := zw_in (List.mem_of_getElem? (i := 497) (by decide +kernel)) (by decide +kernel)
theorem wi_484 : Cond.fieldLink RX5 67 "ReuseHouse$Machine" "program" "LReuseHouse$Program;" ∈ zw := zw_in (List.mem_of_getElem? (i := 484) (by decide +kernel)) (by decide +kernel)
theorem wi_324 : Cond.fieldLink RX5 165 "ReuseHouse$Program" "functions" "LReuseHouse$Functions;" ∈ zw := zw_in (List.mem_of_getElem? (i := 324) (by decide +kernel)) (by decide +kernel)
theorem wi_1118 : Cond.methodLink RX5 169 yX3_fact ∈ zw := zw_in (List.mem_of_getElem? (i := 1118) (by decide +kernel)) (by decide +kernel)
theorem dX5_goBehind_0 : decode cX5_goBehind 0 = .ok (.aload_n 0, 1) := by decide +kernel
theorem dX5_goBehind_1 : decode cX5_goBehind 1 = .ok (.iload_n 1, 1) := by decide +kernel
theorem dX5_goBehind_2 : decode cX5_goBehind 2 = .ok (.iconst (-1), 1) := by decide +kernel
theorem dX5_goBehind_3 : decode cX5_goBehind 3 = .ok (.if_icmp .ne 7, 3) := by decide +kernel
theorem dX5_goBehind_6 : decode cX5_goBehind 6 = .ok (.iconst (-1), 1) := by decide +kernel
theorem dX5_goBehind_7 : decode cX5_goBehind 7 = .ok (.goto 12, 3) := by decide +kernel
theorem dX5_goBehind_10 : decode cX5_goBehind 10 = .ok (.aload_n 0, 1) := by decide +kernel
theorem dX5_goBehind_11 : decode cX5_goBehind 11 = .ok (.getfield 77, 3) := by decide +kernel
theorem dX5_goBehind_14 : decode cX5_goBehind 14 = .ok (.getfield 95, 3) := by decide +kernel
theorem dX5_goBehind_17 : decode cX5_goBehind 17 = .ok (.iload_n 1, 1) := by decide +kernel
theorem dX5_goBehind_18 : decode cX5_goBehind 18 = .ok (.iaload, 1) := by decide +kernel
theorem dX5_goBehind_19 : decode cX5_goBehind 19 = .ok (.putfield 45, 3) := by decide +kernel
theorem dX5_goBehind_22 : decode cX5_goBehind 22 = .ok (.return_, 1) := by decide +kernel
theorem dX5_has_0 : decode cX5_has 0 = .ok (.iload_n 0, 1) := by decide +kernel
theorem dX5_has_1 : decode cX5_has 1 = .ok (.iload_n 1, 1) := by decide +kernel
theorem dX5_has_2 : decode cX5_has 2 = .ok (.ishr, 1) := by decide +kernel
theorem dX5_has_3 : decode cX5_has 3 = .ok (.iconst 1, 1) := by decide +kernel
theorem dX5_has_4 : decode cX5_has 4 = .ok (.iand, 1) := by decide +kernel
theorem dX5_has_5 : decode cX5_has 5 = .ok (.iconst 1, 1) := by decide +kernel
theorem dX5_has_6 : decode cX5_has 6 = .ok (.if_icmp .ne 7, 3) := by decide +kernel
theorem dX5_has_9 : decode cX5_has 9 = .ok (.iconst 1, 1) := by decide +kernel
theorem dX5_has_10 : decode cX5_has 10 = .ok (.goto 4, 3) := by decide +kernel
theorem dX5_has_13 : decode cX5_has 13 = .ok (.iconst 0, 1) := by decide +kernel
theorem dX5_has_14 : decode cX5_has 14 = .ok (.ireturn, 1) := by decide +kernel
theorem dX5_pop_0 : decode cX5_pop 0 = .ok (.aload_n 0, 1) := by decide +kernel
theorem dX5_pop_1 : decode cX5_pop 1 = .ok (.getfield 19, 3) := by decide +kernel
theorem dX5_pop_4 : decode cX5_pop 4 = .ok (.ifCond .le 13, 3) := by decide +kernel
theorem dX5_pop_7 : decode cX5_pop 7 = .ok (.aload_n 0, 1) := by decide +kernel
theorem dX5_pop_8 : decode cX5_pop 8 = .ok (.dup, 1) := by decide +kernel
theorem dX5_pop_9 : decode cX5_pop 9 = .ok (.getfield 19, 3) := by decide +kernel
theorem dX5_pop_12 : decode cX5_pop 12 = .ok (.iconst 1, 1) := by decide +kernel
theorem dX5_pop_13 : decode cX5_pop 13 = .ok (.isub, 1) := by decide +kernel
theorem dX5_pop_14 : decode cX5_pop 14 = .ok (.putfield 19, 3) := by decide +kernel
theorem dX5_pop_17 : decode cX5_pop 17 = .ok (.aload_n 0, 1) := by decide +kernel
theorem dX5_pop_18 : decode cX5_pop 18 = .ok (.getfield 15, 3) := by decide +kernel
theorem dX5_pop_21 : decode cX5_pop 21 = .ok (.aload_n 0, 1) := by decide +kernel
theorem dX5_pop_22 : decode cX5_pop 22 = .ok (.getfield 19, 3) := by decide +kernel
theorem dX5_pop_25 : decode cX5_pop 25 = .ok (.laload, 1) := by decide +kernel
theorem dX5_pop_26 : decode cX5_pop 26 = .ok (.lreturn, 1) := by decide +kernel
theorem dX5_push_0 : decode cX5_push 0 = .ok (.aload_n 0, 1) := by decide +kernel
theorem dX5_push_1 : decode cX5_push 1 = .ok (.getfield 19, 3) := by decide +kernel
theorem dX5_push_4 : decode cX5_push 4 = .ok (.sipush 22424, 3) := by decide +kernel
theorem dX5_push_7 : decode cX5_push 7 = .ok (.if_icmp .ge 23, 3) := by decide +kernel
theorem dX5_push_10 : decode cX5_push 10 = .ok (.aload_n 0, 1) := by decide +kernel
theorem dX5_push_11 : decode cX5_push 11 = .ok (.getfield 15, 3) := by decide +kernel
theorem dX5_push_14 : decode cX5_push 14 = .ok (.aload_n 0, 1) := by decide +kernel
theorem dX5_push_15 : decode cX5_push 15 = .ok (.getfield 19, 3) := by decide +kernel
theorem dX5_push_18 : decode cX5_push 18 = .ok (.lload_n 1, 1) := by decide +kernel
theorem dX5_push_19 : decode cX5_push 19 = .ok (.lastore, 1) := by decide +kernel
theorem dX5_push_20 : decode cX5_push 20 = .ok (.aload_n 0, 1) := by decide +kernel
theorem dX5_push_21 : decode cX5_push 21 = .ok (.dup, 1) := by decide +kernel
theorem dX5_push_22 : decode cX5_push 22 = .ok (.getfield 19, 3) := by decide +kernel
theorem dX5_push_25 : decode cX5_push 25 = .ok (.iconst 1, 1) := by decide +kernel
theorem dX5_push_26 : decode cX5_push 26 = .ok (.iadd, 1) := by decide +kernel
theorem dX5_push_27 : decode cX5_push 27 = .ok (.putfield 19, 3) := by decide +kernel
theorem dX5_push_30 : decode cX5_push 30 = .ok (.return_, 1) := by decide +kernel
theorem dX5_step_0 : decode cX5_step 0 = .ok (.aload_n 0, 1) := by decide +kernel
theorem dX5_step_1 : decode cX5_step 1 = .ok (.getfield 51, 3) := by decide +kernel
theorem dX5_step_4 : decode cX5_step 4 = .ok (.aload_n 0, 1) := by decide +kernel
theorem dX5_step_5 : decode cX5_step 5 = .ok (.getfield 48, 3) := by decide +kernel
theorem dX5_step_8 : decode cX5_step 8 = .ok (.if_icmp .lt 11, 3) := by decide +kernel
theorem dX5_step_11 : decode cX5_step 11 = .ok (.aload_n 0, 1) := by decide +kernel
theorem dX5_step_12 : decode cX5_step 12 = .ok (.iconst 5, 1) := by decide +kernel
theorem dX5_step_13 : decode cX5_step 13 = .ok (.iload_n 1, 1) := by decide +kernel
theorem dX5_step_14 : decode cX5_step 14 = .ok (.invokevirtual 162, 3) := by decide +kernel
theorem dX5_step_17 : decode cX5_step 17 = .ok (.iconst 0, 1) := by decide +kernel
theorem dX5_step_18 : decode cX5_step 18 = .ok (.ireturn, 1) := by decide +kernel
theorem dX5_step_19 : decode cX5_step 19 = .ok (.aload_n 0, 1) := by decide +kernel
theorem dX5_step_20 : decode cX5_step 20 = .ok (.dup, 1) := by decide +kernel
theorem dX5_step_21 : decode cX5_step 21 = .ok (.getfield 51, 3) := by decide +kernel
theorem dX5_step_24 : decode cX5_step 24 = .ok (.iconst 1, 1) := by decide +kernel
theorem dX5_step_25 : decode cX5_step 25 = .ok (.iadd, 1) := by decide +kernel
theorem dX5_step_26 : decode cX5_step 26 = .ok (.putfield 51, 3) := by decide +kernel
theorem dX5_step_29 : decode cX5_step 29 = .ok (.iconst 1, 1) := by decide +kernel
theorem dX5_step_30 : decode cX5_step 30 = .ok (.ireturn, 1) := by decide +kernel
theorem dX5_stop_0 : decode cX5_stop 0 = .ok (.aload_n 0, 1) := by decide +kernel
theorem dX5_stop_1 : decode cX5_stop 1 = .ok (.iload_n 1, 1) := by decide +kernel
theorem dX5_stop_2 : decode cX5_stop 2 = .ok (.putfield 57, 3) := by decide +kernel
theorem dX5_stop_5 : decode cX5_stop 5 = .ok (.aload_n 0, 1) := by decide +kernel
theorem dX5_stop_6 : decode cX5_stop 6 = .ok (.aload_n 0, 1) := by decide +kernel
theorem dX5_stop_7 : decode cX5_stop 7 = .ok (.getfield 77, 3) := by decide +kernel
theorem dX5_stop_10 : decode cX5_stop 10 = .ok (.getfield 159, 3) := by decide +kernel
theorem dX5_stop_13 : decode cX5_stop 13 = .ok (.iload_n 2, 1) := by decide +kernel
theorem dX5_stop_14 : decode cX5_stop 14 = .ok (.iaload, 1) := by decide +kernel
theorem dX5_stop_15 : decode cX5_stop 15 = .ok (.putfield 60, 3) := by decide +kernel
theorem dX5_stop_18 : decode cX5_stop 18 = .ok (.return_, 1) := by decide +kernel
theorem dX5_toldBits_0 : decode cX5_toldBits 0 = .ok (.iconst 1, 1) := by decide +kernel
theorem dX5_toldBits_1 : decode cX5_toldBits 1 = .ok (.aload_n 0, 1) := by decide +kernel
theorem dX5_toldBits_2 : decode cX5_toldBits 2 = .ok (.getfield 67, 3) := by decide +kernel
theorem dX5_toldBits_5 : decode cX5_toldBits 5 = .ok (.getfield 165, 3) := by decide +kernel
theorem dX5_toldBits_8 : decode cX5_toldBits 8 = .ok (.iload_n 1, 1) := by decide +kernel
theorem dX5_toldBits_9 : decode cX5_toldBits 9 = .ok (.iconst 0, 1) := by decide +kernel
theorem dX5_toldBits_10 : decode cX5_toldBits 10 = .ok (.invokevirtual 169, 3) := by decide +kernel
theorem dX5_toldBits_13 : decode cX5_toldBits 13 = .ok (.ishl, 1) := by decide +kernel
theorem dX5_toldBits_14 : decode cX5_toldBits 14 = .ok (.iconst 1, 1) := by decide +kernel
theorem dX5_toldBits_15 : decode cX5_toldBits 15 = .ok (.isub, 1) := by decide +kernel
theorem dX5_toldBits_16 : decode cX5_toldBits 16 = .ok (.ireturn, 1) := by decide +kernel
theorem zbf {b : Bool} (h : ¬ b = true) : b = false := by
  cases b with
  | false => rfl
  | true => exact (h rfl).elim
/-- what a method that may stop a run says of the place: it has stopped at pl, or nothing is stopped -/
def cSpl (pl sp mh sp2 mh2 : Int32) : Prop := (mh2.toInt ≠ 0 ∧ mh2.toInt ≠ 1 ∧ sp2 = pl) ∨ (mh2 = mh ∧ sp2 = sp)
theorem cSpl_0 {pl sp mh : Int32} : cSpl pl sp mh sp mh := Or.inr ⟨rfl, rfl⟩
theorem cSpl_t {pl sp mh sp1 mh1 sp2 mh2 : Int32} (a : cSpl pl sp mh sp1 mh1) (b : cSpl pl sp1 mh1 sp2 mh2) : cSpl pl sp mh sp2 mh2 := by
  rcases b with b | ⟨b1, b2⟩
  · exact Or.inl b
  · rw [b1, b2]; exact a
/-- what a turn says of it -/
def cSq (pl sp sp2 mh2 : Int32) : Prop := (mh2.toInt ≠ 0 ∧ mh2.toInt ≠ 1 ∧ sp2 = pl) ∨ ((mh2.toInt = 0 ∨ mh2.toInt = 1) ∧ sp2 = sp)
theorem cSq_of {pl sp mh sp2 mh2 : Int32} (a : cSpl pl sp mh sp2 mh2) (h : mh.toInt = 0) : cSq pl sp sp2 mh2 := by
  rcases a with a | ⟨b1, b2⟩
  · exact Or.inl a
  · exact Or.inr ⟨Or.inl (by rw [b1]; exact h), b2⟩
set_option maxHeartbeats 4000000 in
set_option maxRecDepth 100000 in
theorem c_X5_push (l : Launch) (dC : Nat → ClassId) (dI : Nat → Nat → Nat) (aK aV : Nat → Nat) (h0 : Nat) (mp : Nat) (gco : Nat) (mce : Nat) (sk : Nat) (kb : Nat) (kk : Nat) (ks : Nat) (sh : Nat) (mcn : Int32) (tp : Int32) (ba : Int32) (on : Int32) (sn : Int32) (mat : Int32) (alw : Int32) (st : Int32) (mo : Int32) (mh : Int32) (sp : Int32) (re : Int64) (sk1 : ClassId) (gs : Nat → Int64) (va : Int64) (sz : Nat) (ht0 : 0 ≤ tp.toInt) (ht1 : tp.toInt < 22424) : Met l yX5_push (Cond.code yX5_push cX5_push 3 none :: zw) ({ frames := 8, cells := 0, slots := 0, locals := 200 }) (va_Pc [.ref h0, .long va] (zP dC dI aK aV sz [(sk1, .long)] [(h0, .inr (5, [.ref mp, .ref gco, .ref mce, .int mcn, .ref sk, .int tp, .int ba, .ref kb, .ref kk, .ref ks, .int on, .ref sh, .int sn, .int mat, .int alw, .int st, .int mo, .int mh, .int sp, .long re])), (sk, .inl (sk1, 22424, .inr (.inl gs)))])) (va_Qv (fun u : Int32 × (Nat → Int64) => match u with | (tp2, gs2) => (tp2.toInt = tp.toInt + 1) ∧ (gs2 = vp_updL gs (Int32.toNatClampNeg tp) va)) (fun u => match u with | (tp2, gs2) => zQ dC dI (va_A [(h0, .inr (5, [.ref mp, .ref gco, .ref mce, .int mcn, .ref sk, .int tp, .int ba, .ref kb, .ref kk, .ref ks, .int on, .ref sh, .int sn, .int mat, .int alw, .int st, .int mo, .int mh, .int sp, .long re])), (sk, .inl (sk1, 22424, .inr (.inl gs)))] sz) [(sk1, .long)] [(h0, .inr (5, [.ref mp, .ref gco, .ref mce, .int mcn, .ref sk, .int tp2, .int ba, .ref kb, .ref kk, .ref ks, .int on, .ref sh, .int sn, .int mat, .int alw, .int st, .int mo, .int mh, .int sp, .long re])), (sk, .inl (sk1, 22424, .inr (.inl gs2)))]) (va_A [(h0, .inr (5, [.ref mp, .ref gco, .ref mce, .int mcn, .ref sk, .int tp, .int ba, .ref kb, .ref kk, .ref ks, .int on, .ref sh, .int sn, .int mat, .int alw, .int st, .int mo, .int mh, .int sp, .long re])), (sk, .inl (sk1, 22424, .inr (.inl gs)))] sz)) 0 0 (va_A [(h0, .inr (5, [.ref mp, .ref gco, .ref mce, .int mcn, .ref sk, .int tp, .int ba, .ref kb, .ref kk, .ref ks, .int on, .ref sh, .int sn, .int mat, .int alw, .int st, .int mo, .int mh, .int sp, .long re])), (sk, .inl (sk1, 22424, .inr (.inl gs)))] sz) := by
  refine Met.ofW (cc := cX5_push) (maxL := 3) (ret := none) (by decide) rfl ?_
  intro p e s m args below meth c s₁ B hml hv
  obtain ⟨rfl, hsz, hP, hK, hD0, hN, hT⟩ := hv
  have hx := B.exec
  have hb := B.bytes
  have hr := B.returns
  have hts := atoms_spec (ws := Cond.code yX5_push cX5_push 3 none :: zw) B.pre
  have hA : ∀ w ∈ zw, w.before _ s = true := fun w h => hts w (List.mem_cons_of_mem _ h)
  have hown : s.vm.findClass RX5 = some m.cls := findClass_of_methodNamed B.named
  have hlocks := B.notSynchronized
  subst hsz
  have hD := hD0.self (sz := s.heap.size)
  generalize hAe : va_A [(h0, .inr (5, [.ref mp, .ref gco, .ref mce, .int mcn, .ref sk, .int tp, .int ba, .ref kb, .ref kk, .ref ks, .int on, .ref sh, .int sn, .int mat, .int alw, .int st, .int mo, .int mh, .int sp, .long re])), (sk, .inl (sk1, 22424, .inr (.inl gs)))] s.heap.size = A at hD hT ⊢
  have hAA : ∀ q : Nat, s.heap.size ≤ q → A q := fun q h => by rw [← hAe]; exact Or.inr h
  have hS : va_S A s.heap s.heap [] := va_S.rf
  have hl := lv_entry ([.ref h0, .long va]) (n := 3) (Nat.le_of_ble_eq_true rfl)
  rw [lg_entry_eq]
  generalize (lg_sl ([.ref h0, .long va]) ++ List.replicate (3 - (lg_sl ([.ref h0, .long va])).length) Slot.unset).toArray = ls at hl ⊢
  have hl : lv_has ls 3 [(0, .ref h0), (1, .long va)] := hl
  refine lv_aload_n hx hb dX5_push_0 rfl (lv_at hl 0 rfl) ?_
  refine va_get (D := (dC, dI)) (ci := 5) (v := .int tp) (C := RX5) (T := TX5) (N := 20) hx hb hA zin_X5 hown hK hP 0 rfl rfl 5 (by decide) (hA _ wi_489) (fun _ h9 => h9) rfl dX5_push_1 ?_
  refine lv_sipush (v := 22424) hx hb dX5_push_4 (by decide) ?_
  refine lv_icmp_ge (tgt := 30) hx hb dX5_push_7 (by decide) (fun c_1 => ?_) (fun c_1 => ?_)
  · have ic_1 : 22424 ≤ tp.toInt := zi_le c_1
    exfalso
    omega
  · have ic_1 : tp.toInt < 22424 := zi_nle c_1
    refine lv_aload_n hx hb dX5_push_10 rfl (lv_at hl 0 rfl) ?_
    refine va_get (D := (dC, dI)) (ci := 5) (v := .ref sk) (C := RX5) (T := TX5) (N := 20) hx hb hA zin_X5 hown hK hP 0 rfl rfl 4 (by decide) (hA _ wi_488) (fun _ h9 => h9) rfl dX5_push_11 ?_
    refine lv_aload_n hx hb dX5_push_14 rfl (lv_at hl 0 rfl) ?_
    refine va_get (D := (dC, dI)) (ci := 5) (v := .int tp) (C := RX5) (T := TX5) (N := 20) hx hb hA zin_X5 hown hK hP 0 rfl rfl 5 (by decide) (hA _ wi_489) (fun _ h9 => h9) rfl dX5_push_15 ?_
    refine lv_lload_n hx hb dX5_push_18 rfl (lv_at hl 1 rfl) ?_
    refine va_last hx hb hK hP hD hS 1 0 rfl rfl (vp_in_iff.mpr ⟨by omega, by omega⟩) dX5_push_19 (fun H locs hP hD hS => ?_)
    obtain ⟨f_2, ef_2⟩ : ∃ gz9 : Nat → Int64, gz9 = vp_updL gs (Int32.toNatClampNeg tp) va := ⟨_, rfl⟩
    rw [← ef_2] at hP hD
    have hP : va_P (dC, dI) vwCl [(h0, .inr (5, [.ref mp, .ref gco, .ref mce, .int mcn, .ref sk, .int tp, .int ba, .ref kb, .ref kk, .ref ks, .int on, .ref sh, .int sn, .int mat, .int alw, .int st, .int mo, .int mh, .int sp, .long re])), (sk, .inl (sk1, 22424, .inr (.inl f_2)))] H := hP
    have hD : va_D A [(h0, .inr (5, [.ref mp, .ref gco, .ref mce, .int mcn, .ref sk, .int tp, .int ba, .ref kb, .ref kk, .ref ks, .int on, .ref sh, .int sn, .int mat, .int alw, .int st, .int mo, .int mh, .int sp, .long re])), (sk, .inl (sk1, 22424, .inr (.inl f_2)))] := hD
    refine lv_aload_n hx hb dX5_push_20 rfl (lv_at hl 0 rfl) ?_
    refine lv_dup hx hb dX5_push_21 rfl ?_
    refine va_get (D := (dC, dI)) (ci := 5) (v := .int tp) (C := RX5) (T := TX5) (N := 20) hx hb hA zin_X5 hown hK hP 0 rfl rfl 5 (by decide) (hA _ wi_489) (fun _ h9 => h9) rfl dX5_push_22 ?_
    refine lv_iconst (v := 1) hx hb dX5_push_25 (by decide) ?_
    refine lv_iadd hx hb dX5_push_26 ?_
    refine lv_topi (fun x_3 ex_3 => ?_)
    have ix_3 : x_3.toInt = tp.toInt + 1 := by rw [ex_3]; exact zi_addc (by decide) (by omega) (by omega)
    refine va_put (D := (dC, dI)) (ci := 5) (v := .int x_3) (ty := .int) (C := RX5) (T := TX5) (N := 20) hx hb hA zin_X5 tyX5 tyX5_ok nmX5 hown hK hP hD hS 0 rfl rfl 5 (by decide) (hA _ wi_489) (fun _ h9 => h9) rfl (by decide +kernel) rfl rfl (Nat.le_of_ble_eq_true rfl) dX5_push_27 (fun H locs hP hD hS => ?_)
    have hP : va_P (dC, dI) vwCl [(h0, .inr (5, [.ref mp, .ref gco, .ref mce, .int mcn, .ref sk, .int x_3, .int ba, .ref kb, .ref kk, .ref ks, .int on, .ref sh, .int sn, .int mat, .int alw, .int st, .int mo, .int mh, .int sp, .long re])), (sk, .inl (sk1, 22424, .inr (.inl f_2)))] H := hP
    have hD : va_D A [(h0, .inr (5, [.ref mp, .ref gco, .ref mce, .int mcn, .ref sk, .int x_3, .int ba, .ref kb, .ref kk, .ref ks, .int on, .ref sh, .int sn, .int mat, .int alw, .int st, .int mo, .int mh, .int sp, .long re])), (sk, .inl (sk1, 22424, .inr (.inl f_2)))] := hD
    have hP9 := hP.sub (ws' := [(h0, .inr (5, [.ref mp, .ref gco, .ref mce, .int mcn, .ref sk, .int x_3, .int ba, .ref kb, .ref kk, .ref ks, .int on, .ref sh, .int sn, .int mat, .int alw, .int st, .int mo, .int mh, .int sp, .long re])), (sk, .inl (sk1, 22424, .inr (.inl f_2)))]) [0, 1] rfl
    have hD9 := hD.sub (ws' := [(h0, .inr (5, [.ref mp, .ref gco, .ref mce, .int mcn, .ref sk, .int x_3, .int ba, .ref kb, .ref kk, .ref ks, .int on, .ref sh, .int sn, .int mat, .int alw, .int st, .int mo, .int mh, .int sp, .long re])), (sk, .inl (sk1, 22424, .inr (.inl f_2)))]) [0, 1] (by decide) rfl
    have hK9 := hK.sub (tys' := [(sk1, .long)]) [0] rfl
    exact W.vret hx hb hr (fun t ht hW => ⟨⟨(x_3, f_2), rfl, ⟨by omega, ef_2⟩, by rw [ht]; exact hP9, va_K.moved hW.alike hK9, hD9⟩, hS.F ht⟩) hS.2.2 dX5_push_30
set_option maxHeartbeats 4000000 in
set_option maxRecDepth 100000 in
theorem c_X5_pop (l : Launch) (dC : Nat → ClassId) (dI : Nat → Nat → Nat) (aK aV : Nat → Nat) (h0 : Nat) (mp : Nat) (gco : Nat) (mce : Nat) (sk : Nat) (kb : Nat) (kk : Nat) (ks : Nat) (sh : Nat) (mcn : Int32) (tp : Int32) (ba : Int32) (on : Int32) (sn : Int32) (mat : Int32) (alw : Int32) (st : Int32) (mo : Int32) (mh : Int32) (sp : Int32) (re : Int64) (sk1 : ClassId) (gs : Nat → Int64) (sz : Nat) (ht0 : 1 ≤ tp.toInt) (ht1 : tp.toInt ≤ 22424) : Met l yX5_pop (Cond.code yX5_pop cX5_pop 1 (some .long) :: zw) ({ frames := 8, cells := 0, slots := 0, locals := 200 }) (va_Pc [.ref h0] (zP dC dI aK aV sz [(sk1, .long)] [(h0, .inr (5, [.ref mp, .ref gco, .ref mce, .int mcn, .ref sk, .int tp, .int ba, .ref kb, .ref kk, .ref ks, .int on, .ref sh, .int sn, .int mat, .int alw, .int st, .int mo, .int mh, .int sp, .long re])), (sk, .inl (sk1, 22424, .inr (.inl gs)))])) (va_Ql (fun (r : Int64) (u : Int32) => match u with | tp2 => (tp2.toInt = tp.toInt - 1) ∧ (r = gs (Int32.toNatClampNeg tp2))) (fun u => match u with | tp2 => zQ dC dI (va_A [(h0, .inr (5, [.ref mp, .ref gco, .ref mce, .int mcn, .ref sk, .int tp, .int ba, .ref kb, .ref kk, .ref ks, .int on, .ref sh, .int sn, .int mat, .int alw, .int st, .int mo, .int mh, .int sp, .long re])), (sk, .inl (sk1, 22424, .inr (.inl gs)))] sz) [(sk1, .long)] [(h0, .inr (5, [.ref mp, .ref gco, .ref mce, .int mcn, .ref sk, .int tp2, .int ba, .ref kb, .ref kk, .ref ks, .int on, .ref sh, .int sn, .int mat, .int alw, .int st, .int mo, .int mh, .int sp, .long re])), (sk, .inl (sk1, 22424, .inr (.inl gs)))]) (va_A [(h0, .inr (5, [.ref mp, .ref gco, .ref mce, .int mcn, .ref sk, .int tp, .int ba, .ref kb, .ref kk, .ref ks, .int on, .ref sh, .int sn, .int mat, .int alw, .int st, .int mo, .int mh, .int sp, .long re])), (sk, .inl (sk1, 22424, .inr (.inl gs)))] sz)) 0 0 (va_A [(h0, .inr (5, [.ref mp, .ref gco, .ref mce, .int mcn, .ref sk, .int tp, .int ba, .ref kb, .ref kk, .ref ks, .int on, .ref sh, .int sn, .int mat, .int alw, .int st, .int mo, .int mh, .int sp, .long re])), (sk, .inl (sk1, 22424, .inr (.inl gs)))] sz) := by
  refine Met.ofW (cc := cX5_pop) (maxL := 1) (ret := (some .long)) (by decide) rfl ?_
  intro p e s m args below meth c s₁ B hml hv
  obtain ⟨rfl, hsz, hP, hK, hD0, hN, hT⟩ := hv
  have hx := B.exec
  have hb := B.bytes
  have hr := B.returns
  have hts := atoms_spec (ws := Cond.code yX5_pop cX5_pop 1 (some .long) :: zw) B.pre
  have hA : ∀ w ∈ zw, w.before _ s = true := fun w h => hts w (List.mem_cons_of_mem _ h)
  have hown : s.vm.findClass RX5 = some m.cls := findClass_of_methodNamed B.named
  have hlocks := B.notSynchronized
  subst hsz
  have hD := hD0.self (sz := s.heap.size)
  generalize hAe : va_A [(h0, .inr (5, [.ref mp, .ref gco, .ref mce, .int mcn, .ref sk, .int tp, .int ba, .ref kb, .ref kk, .ref ks, .int on, .ref sh, .int sn, .int mat, .int alw, .int st, .int mo, .int mh, .int sp, .long re])), (sk, .inl (sk1, 22424, .inr (.inl gs)))] s.heap.size = A at hD hT ⊢
  have hAA : ∀ q : Nat, s.heap.size ≤ q → A q := fun q h => by rw [← hAe]; exact Or.inr h
  have hS : va_S A s.heap s.heap [] := va_S.rf
  have hl := lv_entry ([.ref h0]) (n := 1) (Nat.le_of_ble_eq_true rfl)
  rw [lg_entry_eq]
  generalize (lg_sl ([.ref h0]) ++ List.replicate (1 - (lg_sl ([.ref h0])).length) Slot.unset).toArray = ls at hl ⊢
  have hl : lv_has ls 1 [(0, .ref h0)] := hl
  refine lv_aload_n hx hb dX5_pop_0 rfl (lv_at hl 0 rfl) ?_
  refine va_get (D := (dC, dI)) (ci := 5) (v := .int tp) (C := RX5) (T := TX5) (N := 20) hx hb hA zin_X5 hown hK hP 0 rfl rfl 5 (by decide) (hA _ wi_489) (fun _ h9 => h9) rfl dX5_pop_1 ?_
  refine lv_if_le (tgt := 17) hx hb dX5_pop_4 (by decide) (fun c_1 => ?_) (fun c_1 => ?_)
  · have ic_1 : tp.toInt ≤ 0 := zi_le c_1
    exfalso
    omega
  · have ic_1 : 0 < tp.toInt := zi_nle c_1
    refine lv_aload_n hx hb dX5_pop_7 rfl (lv_at hl 0 rfl) ?_
    refine lv_dup hx hb dX5_pop_8 rfl ?_
    refine va_get (D := (dC, dI)) (ci := 5) (v := .int tp) (C := RX5) (T := TX5) (N := 20) hx hb hA zin_X5 hown hK hP 0 rfl rfl 5 (by decide) (hA _ wi_489) (fun _ h9 => h9) rfl dX5_pop_9 ?_
    refine lv_iconst (v := 1) hx hb dX5_pop_12 (by decide) ?_
    refine lv_isub hx hb dX5_pop_13 ?_
    refine lv_topi (fun x_2 ex_2 => ?_)
    have ix_2 : x_2.toInt = tp.toInt - 1 := by rw [ex_2]; exact zi_subc (by decide) (by omega) (by omega)
    refine va_put (D := (dC, dI)) (ci := 5) (v := .int x_2) (ty := .int) (C := RX5) (T := TX5) (N := 20) hx hb hA zin_X5 tyX5 tyX5_ok nmX5 hown hK hP hD hS 0 rfl rfl 5 (by decide) (hA _ wi_489) (fun _ h9 => h9) rfl (by decide +kernel) rfl rfl (Nat.le_of_ble_eq_true rfl) dX5_pop_14 (fun H locs hP hD hS => ?_)
    have hP : va_P (dC, dI) vwCl [(h0, .inr (5, [.ref mp, .ref gco, .ref mce, .int mcn, .ref sk, .int x_2, .int ba, .ref kb, .ref kk, .ref ks, .int on, .ref sh, .int sn, .int mat, .int alw, .int st, .int mo, .int mh, .int sp, .long re])), (sk, .inl (sk1, 22424, .inr (.inl gs)))] H := hP
    have hD : va_D A [(h0, .inr (5, [.ref mp, .ref gco, .ref mce, .int mcn, .ref sk, .int x_2, .int ba, .ref kb, .ref kk, .ref ks, .int on, .ref sh, .int sn, .int mat, .int alw, .int st, .int mo, .int mh, .int sp, .long re])), (sk, .inl (sk1, 22424, .inr (.inl gs)))] := hD
    refine lv_aload_n hx hb dX5_pop_17 rfl (lv_at hl 0 rfl) ?_
    refine va_get (D := (dC, dI)) (ci := 5) (v := .ref sk) (C := RX5) (T := TX5) (N := 20) hx hb hA zin_X5 hown hK hP 0 rfl rfl 4 (by decide) (hA _ wi_488) (fun _ h9 => h9) rfl dX5_pop_18 ?_
    refine lv_aload_n hx hb dX5_pop_21 rfl (lv_at hl 0 rfl) ?_
    refine va_get (D := (dC, dI)) (ci := 5) (v := .int x_2) (C := RX5) (T := TX5) (N := 20) hx hb hA zin_X5 hown hK hP 0 rfl rfl 5 (by decide) (hA _ wi_489) (fun _ h9 => h9) rfl dX5_pop_22 ?_
    refine va_lald hx hb hK hP 1 0 rfl rfl (vp_in_iff.mpr ⟨by omega, by omega⟩) dX5_pop_25 ?_
    refine lv_topl (fun x_3 ex_3 => ?_)
    have hP9 := hP.sub (ws' := [(h0, .inr (5, [.ref mp, .ref gco, .ref mce, .int mcn, .ref sk, .int x_2, .int ba, .ref kb, .ref kk, .ref ks, .int on, .ref sh, .int sn, .int mat, .int alw, .int st, .int mo, .int mh, .int sp, .long re])), (sk, .inl (sk1, 22424, .inr (.inl gs)))]) [0, 1] rfl
    have hD9 := hD.sub (ws' := [(h0, .inr (5, [.ref mp, .ref gco, .ref mce, .int mcn, .ref sk, .int x_2, .int ba, .ref kb, .ref kk, .ref ks, .int on, .ref sh, .int sn, .int mat, .int alw, .int st, .int mo, .int mh, .int sp, .long re])), (sk, .inl (sk1, 22424, .inr (.inl gs)))]) [0, 1] (by decide) rfl
    have hK9 := hK.sub (tys' := [(sk1, .long)]) [0] rfl
    exact W.lret (v := x_3) hx hb hr (fun t ht hW => ⟨⟨x_3, (x_2), rfl, ⟨by omega, ex_3⟩, by rw [ht]; exact hP9, va_K.moved hW.alike hK9, hD9⟩, hS.F ht⟩) hS.2.2 dX5_pop_26
set_option maxHeartbeats 4000000 in
set_option maxRecDepth 100000 in
theorem c_X5_stop (l : Launch) (dC : Nat → ClassId) (dI : Nat → Nat → Nat) (aK aV : Nat → Nat) (h0 : Nat) (mp : Nat) (gco : Nat) (mce : Nat) (sk : Nat) (kb : Nat) (kk : Nat) (ks : Nat) (sh : Nat) (mcn : Int32) (tp : Int32) (ba : Int32) (on : Int32) (sn : Int32) (mat : Int32) (alw : Int32) (st : Int32) (mo : Int32) (mh : Int32) (sp : Int32) (re : Int64) (cop : Nat) (ca : Nat) (cb : Nat) (cplace : Nat) (cnext : Nat) (cneeded : Nat) (cz : Int32) (ct : Int32) (ckplace : ClassId) (cgplace : Nat → Int32) (ou : Int32) (ro : Int32) (sz : Nat) (hr0 : 0 ≤ ro.toInt) (hr1 : ro.toInt < 3000) (hou : ou.toInt ≠ 0) (hou1 : ou.toInt ≠ 1) : Met l yX5_stop (Cond.code yX5_stop cX5_stop 3 none :: zw) ({ frames := 8, cells := 0, slots := 0, locals := 200 }) (va_Pc [.ref h0, .int ou, .int ro] (zP dC dI aK aV sz [(ckplace, .int)] [(h0, .inr (5, [.ref mp, .ref gco, .ref mce, .int mcn, .ref sk, .int tp, .int ba, .ref kb, .ref kk, .ref ks, .int on, .ref sh, .int sn, .int mat, .int alw, .int st, .int mo, .int mh, .int sp, .long re])), (gco, .inr (2, [.ref cop, .ref ca, .ref cb, .ref cplace, .ref cnext, .ref cneeded, .int cz, .int ct])), (cplace, .inl (ckplace, 3000, .inl cgplace))])) (va_Qv (fun u : Int32 => match u with | sp2 => (cSpl (cgplace (Int32.toNatClampNeg ro)) sp mh sp2 ou)) (fun u => match u with | sp2 => zQ dC dI (va_A [(h0, .inr (5, [.ref mp, .ref gco, .ref mce, .int mcn, .ref sk, .int tp, .int ba, .ref kb, .ref kk, .ref ks, .int on, .ref sh, .int sn, .int mat, .int alw, .int st, .int mo, .int mh, .int sp, .long re])), (gco, .inr (2, [.ref cop, .ref ca, .ref cb, .ref cplace, .ref cnext, .ref cneeded, .int cz, .int ct])), (cplace, .inl (ckplace, 3000, .inl cgplace))] sz) [(ckplace, .int)] [(h0, .inr (5, [.ref mp, .ref gco, .ref mce, .int mcn, .ref sk, .int tp, .int ba, .ref kb, .ref kk, .ref ks, .int on, .ref sh, .int sn, .int mat, .int alw, .int st, .int mo, .int ou, .int sp2, .long re])), (gco, .inr (2, [.ref cop, .ref ca, .ref cb, .ref cplace, .ref cnext, .ref cneeded, .int cz, .int ct])), (cplace, .inl (ckplace, 3000, .inl cgplace))]) (va_A [(h0, .inr (5, [.ref mp, .ref gco, .ref mce, .int mcn, .ref sk, .int tp, .int ba, .ref kb, .ref kk, .ref ks, .int on, .ref sh, .int sn, .int mat, .int alw, .int st, .int mo, .int mh, .int sp, .long re])), (gco, .inr (2, [.ref cop, .ref ca, .ref cb, .ref cplace, .ref cnext, .ref cneeded, .int cz, .int ct])), (cplace, .inl (ckplace, 3000, .inl cgplace))] sz)) 0 0 (va_A [(h0, .inr (5, [.ref mp, .ref gco, .ref mce, .int mcn, .ref sk, .int tp, .int ba, .ref kb, .ref kk, .ref ks, .int on, .ref sh, .int sn, .int mat, .int alw, .int st, .int mo, .int mh, .int sp, .long re])), (gco, .inr (2, [.ref cop, .ref ca, .ref cb, .ref cplace, .ref cnext, .ref cneeded, .int cz, .int ct])), (cplace, .inl (ckplace, 3000, .inl cgplace))] sz) := by
  refine Met.ofW (cc := cX5_stop) (maxL := 3) (ret := none) (by decide) rfl ?_
  intro p e s m args below meth c s₁ B hml hv
  obtain ⟨rfl, hsz, hP, hK, hD0, hN, hT⟩ := hv
  have hx := B.exec
  have hb := B.bytes
  have hr := B.returns
  have hts := atoms_spec (ws := Cond.code yX5_stop cX5_stop 3 none :: zw) B.pre
  have hA : ∀ w ∈ zw, w.before _ s = true := fun w h => hts w (List.mem_cons_of_mem _ h)
  have hown : s.vm.findClass RX5 = some m.cls := findClass_of_methodNamed B.named
  have hlocks := B.notSynchronized
  subst hsz
  have hD := hD0.self (sz := s.heap.size)
  generalize hAe : va_A [(h0, .inr (5, [.ref mp, .ref gco, .ref mce, .int mcn, .ref sk, .int tp, .int ba, .ref kb, .ref kk, .ref ks, .int on, .ref sh, .int sn, .int mat, .int alw, .int st, .int mo, .int mh, .int sp, .long re])), (gco, .inr (2, [.ref cop, .ref ca, .ref cb, .ref cplace, .ref cnext, .ref cneeded, .int cz, .int ct])), (cplace, .inl (ckplace, 3000, .inl cgplace))] s.heap.size = A at hD hT ⊢
  have hAA : ∀ q : Nat, s.heap.size ≤ q → A q := fun q h => by rw [← hAe]; exact Or.inr h
  have hS : va_S A s.heap s.heap [] := va_S.rf
  have hl := lv_entry ([.ref h0, .int ou, .int ro]) (n := 3) (Nat.le_of_ble_eq_true rfl)
  rw [lg_entry_eq]
  generalize (lg_sl ([.ref h0, .int ou, .int ro]) ++ List.replicate (3 - (lg_sl ([.ref h0, .int ou, .int ro])).length) Slot.unset).toArray = ls at hl ⊢
  have hl : lv_has ls 3 [(0, .ref h0), (1, .int ou), (2, .int ro)] := hl
  refine lv_aload_n hx hb dX5_stop_0 rfl (lv_at hl 0 rfl) ?_
  refine lv_iload_n hx hb dX5_stop_1 rfl (lv_at hl 1 rfl) ?_
  refine va_put (D := (dC, dI)) (ci := 5) (v := .int ou) (ty := .int) (C := RX5) (T := TX5) (N := 20) hx hb hA zin_X5 tyX5 tyX5_ok nmX5 hown hK hP hD hS 0 rfl rfl 17 (by decide) (hA _ wi_503) (fun _ h9 => h9) rfl (by decide +kernel) rfl rfl (Nat.le_of_ble_eq_true rfl) dX5_stop_2 (fun H locs hP hD hS => ?_)
  have hP : va_P (dC, dI) vwCl [(h0, .inr (5, [.ref mp, .ref gco, .ref mce, .int mcn, .ref sk, .int tp, .int ba, .ref kb, .ref kk, .ref ks, .int on, .ref sh, .int sn, .int mat, .int alw, .int st, .int mo, .int ou, .int sp, .long re])), (gco, .inr (2, [.ref cop, .ref ca, .ref cb, .ref cplace, .ref cnext, .ref cneeded, .int cz, .int ct])), (cplace, .inl (ckplace, 3000, .inl cgplace))] H := hP
  have hD : va_D A [(h0, .inr (5, [.ref mp, .ref gco, .ref mce, .int mcn, .ref sk, .int tp, .int ba, .ref kb, .ref kk, .ref ks, .int on, .ref sh, .int sn, .int mat, .int alw, .int st, .int mo, .int ou, .int sp, .long re])), (gco, .inr (2, [.ref cop, .ref ca, .ref cb, .ref cplace, .ref cnext, .ref cneeded, .int cz, .int ct])), (cplace, .inl (ckplace, 3000, .inl cgplace))] := hD
  refine lv_aload_n hx hb dX5_stop_5 rfl (lv_at hl 0 rfl) ?_
  refine lv_aload_n hx hb dX5_stop_6 rfl (lv_at hl 0 rfl) ?_
  refine va_get (D := (dC, dI)) (ci := 5) (v := .ref gco) (C := RX5) (T := TX5) (N := 20) hx hb hA zin_X5 hown hK hP 0 rfl rfl 1 (by decide) (hA _ wi_485) (fun _ h9 => h9) rfl dX5_stop_7 ?_
  refine va_get (D := (dC, dI)) (ci := 2) (v := .ref cplace) (C := RX2) (T := TX2) (N := 8) hx hb hA zin_X2 hown hK hP 1 rfl rfl 3 (by decide) (hA _ wi_189) (fun _ h9 => h9) rfl dX5_stop_10 ?_
  refine lv_iload_n hx hb dX5_stop_13 rfl (lv_at hl 2 rfl) ?_
  refine va_iald hx hb hK hP 2 0 rfl rfl (vp_in_iff.mpr ⟨by omega, by omega⟩) dX5_stop_14 ?_
  refine lv_topi (fun x_1 ex_1 => ?_)
  refine va_put (D := (dC, dI)) (ci := 5) (v := .int x_1) (ty := .int) (C := RX5) (T := TX5) (N := 20) hx hb hA zin_X5 tyX5 tyX5_ok nmX5 hown hK hP hD hS 0 rfl rfl 18 (by decide) (hA _ wi_505) (fun _ h9 => h9) rfl (by decide +kernel) rfl rfl (Nat.le_of_ble_eq_true rfl) dX5_stop_15 (fun H locs hP hD hS => ?_)
  have hP : va_P (dC, dI) vwCl [(h0, .inr (5, [.ref mp, .ref gco, .ref mce, .int mcn, .ref sk, .int tp, .int ba, .ref kb, .ref kk, .ref ks, .int on, .ref sh, .int sn, .int mat, .int alw, .int st, .int mo, .int ou, .int x_1, .long re])), (gco, .inr (2, [.ref cop, .ref ca, .ref cb, .ref cplace, .ref cnext, .ref cneeded, .int cz, .int ct])), (cplace, .inl (ckplace, 3000, .inl cgplace))] H := hP
  have hD : va_D A [(h0, .inr (5, [.ref mp, .ref gco, .ref mce, .int mcn, .ref sk, .int tp, .int ba, .ref kb, .ref kk, .ref ks, .int on, .ref sh, .int sn, .int mat, .int alw, .int st, .int mo, .int ou, .int x_1, .long re])), (gco, .inr (2, [.ref cop, .ref ca, .ref cb, .ref cplace, .ref cnext, .ref cneeded, .int cz, .int ct])), (cplace, .inl (ckplace, 3000, .inl cgplace))] := hD
  have hP9 := hP.sub (ws' := [(h0, .inr (5, [.ref mp, .ref gco, .ref mce, .int mcn, .ref sk, .int tp, .int ba, .ref kb, .ref kk, .ref ks, .int on, .ref sh, .int sn, .int mat, .int alw, .int st, .int mo, .int ou, .int x_1, .long re])), (gco, .inr (2, [.ref cop, .ref ca, .ref cb, .ref cplace, .ref cnext, .ref cneeded, .int cz, .int ct])), (cplace, .inl (ckplace, 3000, .inl cgplace))]) [0, 1, 2] rfl
  have hD9 := hD.sub (ws' := [(h0, .inr (5, [.ref mp, .ref gco, .ref mce, .int mcn, .ref sk, .int tp, .int ba, .ref kb, .ref kk, .ref ks, .int on, .ref sh, .int sn, .int mat, .int alw, .int st, .int mo, .int ou, .int x_1, .long re])), (gco, .inr (2, [.ref cop, .ref ca, .ref cb, .ref cplace, .ref cnext, .ref cneeded, .int cz, .int ct])), (cplace, .inl (ckplace, 3000, .inl cgplace))]) [0, 1, 2] (by decide) rfl
  have hK9 := hK.sub (tys' := [(ckplace, .int)]) [0] rfl
  exact W.vret hx hb hr (fun t ht hW => ⟨⟨(x_1), rfl, (Or.inl ⟨hou, hou1, ex_1⟩), by rw [ht]; exact hP9, va_K.moved hW.alike hK9, hD9⟩, hS.F ht⟩) hS.2.2 dX5_stop_18
set_option maxHeartbeats 4000000 in
set_option maxRecDepth 100000 in
theorem c_X5_step (l : Launch) (dC : Nat → ClassId) (dI : Nat → Nat → Nat) (aK aV : Nat → Nat) (h0 : Nat) (mp : Nat) (gco : Nat) (mce : Nat) (sk : Nat) (kb : Nat) (kk : Nat) (ks : Nat) (sh : Nat) (mcn : Int32) (tp : Int32) (ba : Int32) (on : Int32) (sn : Int32) (mat : Int32) (alw : Int32) (st : Int32) (mo : Int32) (mh : Int32) (sp : Int32) (re : Int64) (cop : Nat) (ca : Nat) (cb : Nat) (cplace : Nat) (cnext : Nat) (cneeded : Nat) (cz : Int32) (ct : Int32) (ckplace : ClassId) (cgplace : Nat → Int32) (ro : Int32) (sz : Nat) (hr0 : 0 ≤ ro.toInt) (hr1 : ro.toInt < 3000) (hst : 0 ≤ st.toInt) (hal : alw.toInt ≤ 20000) : Met l yX5_step (Cond.code yX5_step cX5_step 2 (some .boolean) :: zw) ({ frames := 10, cells := 0, slots := 0, locals := 300 }) (va_Pc [.ref h0, .int ro] (zP dC dI aK aV sz [(ckplace, .int)] [(h0, .inr (5, [.ref mp, .ref gco, .ref mce, .int mcn, .ref sk, .int tp, .int ba, .ref kb, .ref kk, .ref ks, .int on, .ref sh, .int sn, .int mat, .int alw, .int st, .int mo, .int mh, .int sp, .long re])), (gco, .inr (2, [.ref cop, .ref ca, .ref cb, .ref cplace, .ref cnext, .ref cneeded, .int cz, .int ct])), (cplace, .inl (ckplace, 3000, .inl cgplace))])) (va_Qi (fun (r : Int32) (u : Int32 × Int32 × Int32) => match u with | (st2, mh2, sp2) => (r.toInt = 1 ∧ st2.toInt = st.toInt + 1 ∧ st2.toInt ≤ alw.toInt ∧ mh2.toInt = mh.toInt ∨ r.toInt = 0 ∧ mh2.toInt = 5 ∧ alw.toInt ≤ st.toInt) ∧ (cSpl (cgplace (Int32.toNatClampNeg ro)) sp mh sp2 mh2)) (fun u => match u with | (st2, mh2, sp2) => zQ dC dI (va_A [(h0, .inr (5, [.ref mp, .ref gco, .ref mce, .int mcn, .ref sk, .int tp, .int ba, .ref kb, .ref kk, .ref ks, .int on, .ref sh, .int sn, .int mat, .int alw, .int st, .int mo, .int mh, .int sp, .long re])), (gco, .inr (2, [.ref cop, .ref ca, .ref cb, .ref cplace, .ref cnext, .ref cneeded, .int cz, .int ct])), (cplace, .inl (ckplace, 3000, .inl cgplace))] sz) [(ckplace, .int)] [(h0, .inr (5, [.ref mp, .ref gco, .ref mce, .int mcn, .ref sk, .int tp, .int ba, .ref kb, .ref kk, .ref ks, .int on, .ref sh, .int sn, .int mat, .int alw, .int st2, .int mo, .int mh2, .int sp2, .long re])), (gco, .inr (2, [.ref cop, .ref ca, .ref cb, .ref cplace, .ref cnext, .ref cneeded, .int cz, .int ct])), (cplace, .inl (ckplace, 3000, .inl cgplace))]) (va_A [(h0, .inr (5, [.ref mp, .ref gco, .ref mce, .int mcn, .ref sk, .int tp, .int ba, .ref kb, .ref kk, .ref ks, .int on, .ref sh, .int sn, .int mat, .int alw, .int st, .int mo, .int mh, .int sp, .long re])), (gco, .inr (2, [.ref cop, .ref ca, .ref cb, .ref cplace, .ref cnext, .ref cneeded, .int cz, .int ct])), (cplace, .inl (ckplace, 3000, .inl cgplace))] sz)) 0 0 (va_A [(h0, .inr (5, [.ref mp, .ref gco, .ref mce, .int mcn, .ref sk, .int tp, .int ba, .ref kb, .ref kk, .ref ks, .int on, .ref sh, .int sn, .int mat, .int alw, .int st, .int mo, .int mh, .int sp, .long re])), (gco, .inr (2, [.ref cop, .ref ca, .ref cb, .ref cplace, .ref cnext, .ref cneeded, .int cz, .int ct])), (cplace, .inl (ckplace, 3000, .inl cgplace))] sz) := by
  refine Met.ofW (cc := cX5_step) (maxL := 2) (ret := (some .boolean)) (by decide) rfl ?_
  intro p e s m args below meth c s₁ B hml hv
  obtain ⟨rfl, hsz, hP, hK, hD0, hN, hT⟩ := hv
  have hx := B.exec
  have hb := B.bytes
  have hr := B.returns
  have hts := atoms_spec (ws := Cond.code yX5_step cX5_step 2 (some .boolean) :: zw) B.pre
  have hA : ∀ w ∈ zw, w.before _ s = true := fun w h => hts w (List.mem_cons_of_mem _ h)
  have hown : s.vm.findClass RX5 = some m.cls := findClass_of_methodNamed B.named
  have hlocks := B.notSynchronized
  subst hsz
  have hD := hD0.self (sz := s.heap.size)
  generalize hAe : va_A [(h0, .inr (5, [.ref mp, .ref gco, .ref mce, .int mcn, .ref sk, .int tp, .int ba, .ref kb, .ref kk, .ref ks, .int on, .ref sh, .int sn, .int mat, .int alw, .int st, .int mo, .int mh, .int sp, .long re])), (gco, .inr (2, [.ref cop, .ref ca, .ref cb, .ref cplace, .ref cnext, .ref cneeded, .int cz, .int ct])), (cplace, .inl (ckplace, 3000, .inl cgplace))] s.heap.size = A at hD hT ⊢
  have hAA : ∀ q : Nat, s.heap.size ≤ q → A q := fun q h => by rw [← hAe]; exact Or.inr h
  have hS : va_S A s.heap s.heap [] := va_S.rf
  have hl := lv_entry ([.ref h0, .int ro]) (n := 2) (Nat.le_of_ble_eq_true rfl)
  rw [lg_entry_eq]
  generalize (lg_sl ([.ref h0, .int ro]) ++ List.replicate (2 - (lg_sl ([.ref h0, .int ro])).length) Slot.unset).toArray = ls at hl ⊢
  have hl : lv_has ls 2 [(0, .ref h0), (1, .int ro)] := hl
  refine lv_aload_n hx hb dX5_step_0 rfl (lv_at hl 0 rfl) ?_
  refine va_get (D := (dC, dI)) (ci := 5) (v := .int st) (C := RX5) (T := TX5) (N := 20) hx hb hA zin_X5 hown hK hP 0 rfl rfl 15 (by decide) (hA _ wi_499) (fun _ h9 => h9) rfl dX5_step_1 ?_
  refine lv_aload_n hx hb dX5_step_4 rfl (lv_at hl 0 rfl) ?_
  refine va_get (D := (dC, dI)) (ci := 5) (v := .int alw) (C := RX5) (T := TX5) (N := 20) hx hb hA zin_X5 hown hK hP 0 rfl rfl 14 (by decide) (hA _ wi_498) (fun _ h9 => h9) rfl dX5_step_5 ?_
  refine lv_icmp_lt (tgt := 19) hx hb dX5_step_8 (by decide) (fun c_1 => ?_) (fun c_1 => ?_)
  · have ic_1 : st.toInt < alw.toInt := zi_lt c_1
    refine lv_aload_n hx hb dX5_step_19 rfl (lv_at hl 0 rfl) ?_
    refine lv_dup hx hb dX5_step_20 rfl ?_
    refine va_get (D := (dC, dI)) (ci := 5) (v := .int st) (C := RX5) (T := TX5) (N := 20) hx hb hA zin_X5 hown hK hP 0 rfl rfl 15 (by decide) (hA _ wi_499) (fun _ h9 => h9) rfl dX5_step_21 ?_
    refine lv_iconst (v := 1) hx hb dX5_step_24 (by decide) ?_
    refine lv_iadd hx hb dX5_step_25 ?_
    refine lv_topi (fun x_2 ex_2 => ?_)
    have ix_2 : x_2.toInt = st.toInt + 1 := by rw [ex_2]; exact zi_addc (by decide) (by omega) (by omega)
    refine va_put (D := (dC, dI)) (ci := 5) (v := .int x_2) (ty := .int) (C := RX5) (T := TX5) (N := 20) hx hb hA zin_X5 tyX5 tyX5_ok nmX5 hown hK hP hD hS 0 rfl rfl 15 (by decide) (hA _ wi_499) (fun _ h9 => h9) rfl (by decide +kernel) rfl rfl (Nat.le_of_ble_eq_true rfl) dX5_step_26 (fun H locs hP hD hS => ?_)
    have hP : va_P (dC, dI) vwCl [(h0, .inr (5, [.ref mp, .ref gco, .ref mce, .int mcn, .ref sk, .int tp, .int ba, .ref kb, .ref kk, .ref ks, .int on, .ref sh, .int sn, .int mat, .int alw, .int x_2, .int mo, .int mh, .int sp, .long re])), (gco, .inr (2, [.ref cop, .ref ca, .ref cb, .ref cplace, .ref cnext, .ref cneeded, .int cz, .int ct])), (cplace, .inl (ckplace, 3000, .inl cgplace))] H := hP
    have hD : va_D A [(h0, .inr (5, [.ref mp, .ref gco, .ref mce, .int mcn, .ref sk, .int tp, .int ba, .ref kb, .ref kk, .ref ks, .int on, .ref sh, .int sn, .int mat, .int alw, .int x_2, .int mo, .int mh, .int sp, .long re])), (gco, .inr (2, [.ref cop, .ref ca, .ref cb, .ref cplace, .ref cnext, .ref cneeded, .int cz, .int ct])), (cplace, .inl (ckplace, 3000, .inl cgplace))] := hD
    refine lv_iconst (v := 1) hx hb dX5_step_29 (by decide) ?_
    have hlit : Int32.toInt 1 = 1 := by decide
    have hP9 := hP.sub (ws' := [(h0, .inr (5, [.ref mp, .ref gco, .ref mce, .int mcn, .ref sk, .int tp, .int ba, .ref kb, .ref kk, .ref ks, .int on, .ref sh, .int sn, .int mat, .int alw, .int x_2, .int mo, .int mh, .int sp, .long re])), (gco, .inr (2, [.ref cop, .ref ca, .ref cb, .ref cplace, .ref cnext, .ref cneeded, .int cz, .int ct])), (cplace, .inl (ckplace, 3000, .inl cgplace))]) [0, 1, 2] rfl
    have hD9 := hD.sub (ws' := [(h0, .inr (5, [.ref mp, .ref gco, .ref mce, .int mcn, .ref sk, .int tp, .int ba, .ref kb, .ref kk, .ref ks, .int on, .ref sh, .int sn, .int mat, .int alw, .int x_2, .int mo, .int mh, .int sp, .long re])), (gco, .inr (2, [.ref cop, .ref ca, .ref cb, .ref cplace, .ref cnext, .ref cneeded, .int cz, .int ct])), (cplace, .inl (ckplace, 3000, .inl cgplace))]) [0, 1, 2] (by decide) rfl
    have hK9 := hK.sub (tys' := [(ckplace, .int)]) [0] rfl
    exact W.zret (v := 1) hx hb hr rfl (fun t ht hW => ⟨⟨1, (x_2, mh, sp), rfl, ⟨by omega, cSpl_0⟩, by rw [ht]; exact hP9, va_K.moved hW.alike hK9, hD9⟩, hS.F ht⟩) hS.2.2 dX5_step_30
  · have ic_1 : alw.toInt ≤ st.toInt := zi_nlt c_1
    refine lv_aload_n hx hb dX5_step_11 rfl (lv_at hl 0 rfl) ?_
    refine lv_iconst (v := 5) hx hb dX5_step_12 (by decide) ?_
    refine lv_iload_n hx hb dX5_step_13 rfl (lv_at hl 1 rfl) ?_
    have hPc := hP.sub (ws' := [(h0, .inr (5, [.ref mp, .ref gco, .ref mce, .int mcn, .ref sk, .int tp, .int ba, .ref kb, .ref kk, .ref ks, .int on, .ref sh, .int sn, .int mat, .int alw, .int st, .int mo, .int mh, .int sp, .long re])), (gco, .inr (2, [.ref cop, .ref ca, .ref cb, .ref cplace, .ref cnext, .ref cneeded, .int cz, .int ct])), (cplace, .inl (ckplace, 3000, .inl cgplace))]) [0, 1, 2] rfl
    have hDc := hD.sub (ws' := [(h0, .inr (5, [.ref mp, .ref gco, .ref mce, .int mcn, .ref sk, .int tp, .int ba, .ref kb, .ref kk, .ref ks, .int on, .ref sh, .int sn, .int mat, .int alw, .int st, .int mo, .int mh, .int sp, .long re])), (gco, .inr (2, [.ref cop, .ref ca, .ref cb, .ref cplace, .ref cnext, .ref cneeded, .int cz, .int ct])), (cplace, .inl (ckplace, 3000, .inl cgplace))]) [0, 1, 2] (by decide) rfl
    have hKc := hK.sub (tys' := [(ckplace, .int)]) [0] rfl
    have hFc := va_free (wc := [(h0, .inr (5, [.ref mp, .ref gco, .ref mce, .int mcn, .ref sk, .int tp, .int ba, .ref kb, .ref kk, .ref ks, .int on, .ref sh, .int sn, .int mat, .int alw, .int st, .int mo, .int mh, .int sp, .long re])), (gco, .inr (2, [.ref cop, .ref ca, .ref cb, .ref cplace, .ref cnext, .ref cneeded, .int cz, .int ct])), (cplace, .inl (ckplace, 3000, .inl cgplace))]) hD hS hAA [0, 1, 2] rfl
    refine va_callv (va_runV (As := [.int 5, .int ro]) (rest := []) ⟨hx, hb, hml, hown, hA⟩ (c_X5_stop l dC dI aK aV h0 mp gco mce sk kb kk ks sh mcn tp ba on sn mat alw st mo mh sp re cop ca cb cplace cnext cneeded cz ct ckplace cgplace 5 ro s.heap.size (by omega) (by omega) (by have h9_0 : Int32.toInt 5 = 5 := (by decide); omega) (by have h9_0 : Int32.toInt 5 = 5 := (by decide); omega)) (cwV 2 hA (zw_V wi_1167 wi_1169 wi_47 wi_139 (zw_good wi_1170)) rfl rfl rfl (by decide +kernel) ⟨(Nat.le_of_ble_eq_true rfl), (Nat.le_of_ble_eq_true rfl)⟩) ⟨zP_blind, va_recv hKc hPc (ci := 5) (q0 := 0) rfl rfl, zz_pre hKc hPc hDc hN hT hS hFc⟩ rfl rfl hl.1 rfl (lv_room (Nat.le_of_ble_eq_true rfl)) dX5_step_14 ⟨(Nat.le_of_ble_eq_true rfl), (Nat.le_of_ble_eq_true rfl)⟩) hS (fun q _ h => hFc q h) hFc (fun u t H1 locs ht hvm hw hB hz1 hk1 hS => ?_)
    obtain ⟨sp_4, rfl⟩ : ∃ z, z = u := ⟨_, rfl⟩
    obtain ⟨hP1, hK1, hD1⟩ := hB
    rw [ht] at hP1
    have hK1 := va_K.moved hvm.symm hK1
    obtain ⟨hP, hD⟩ := va_join (wr := []) (w1 := [(h0, .inr (5, [.ref mp, .ref gco, .ref mce, .int mcn, .ref sk, .int tp, .int ba, .ref kb, .ref kk, .ref ks, .int on, .ref sh, .int sn, .int mat, .int alw, .int st, .int mo, .int 5, .int sp_4, .long re])), (gco, .inr (2, [.ref cop, .ref ca, .ref cb, .ref cplace, .ref cnext, .ref cneeded, .int cz, .int ct])), (cplace, .inl (ckplace, 3000, .inl cgplace))]) hP hD [0, 1, 2] [] rfl rfl (by decide) (by decide) hk1 hFc hP1 hD1
    have hK := (hK.sub (tys' := []) [] rfl).app hK1
    generalize H1 = H at hP hS ⊢
    have hP : va_P (dC, dI) vwCl [(h0, .inr (5, [.ref mp, .ref gco, .ref mce, .int mcn, .ref sk, .int tp, .int ba, .ref kb, .ref kk, .ref ks, .int on, .ref sh, .int sn, .int mat, .int alw, .int st, .int mo, .int 5, .int sp_4, .long re])), (gco, .inr (2, [.ref cop, .ref ca, .ref cb, .ref cplace, .ref cnext, .ref cneeded, .int cz, .int ct])), (cplace, .inl (ckplace, 3000, .inl cgplace))] H := hP
    have hD : va_D A [(h0, .inr (5, [.ref mp, .ref gco, .ref mce, .int mcn, .ref sk, .int tp, .int ba, .ref kb, .ref kk, .ref ks, .int on, .ref sh, .int sn, .int mat, .int alw, .int st, .int mo, .int 5, .int sp_4, .long re])), (gco, .inr (2, [.ref cop, .ref ca, .ref cb, .ref cplace, .ref cnext, .ref cneeded, .int cz, .int ct])), (cplace, .inl (ckplace, 3000, .inl cgplace))] := hD
    have hK : va_K (dC, dI) vwCl [(ckplace, .int)] s := hK
    have hq_5 := hw
    have h95 : Int32.toInt 5 = 5 := by decide
    refine lv_iconst (v := 0) hx hb dX5_step_17 (by decide) ?_
    have hlit : Int32.toInt 0 = 0 := by decide
    have hP9 := hP.sub (ws' := [(h0, .inr (5, [.ref mp, .ref gco, .ref mce, .int mcn, .ref sk, .int tp, .int ba, .ref kb, .ref kk, .ref ks, .int on, .ref sh, .int sn, .int mat, .int alw, .int st, .int mo, .int 5, .int sp_4, .long re])), (gco, .inr (2, [.ref cop, .ref ca, .ref cb, .ref cplace, .ref cnext, .ref cneeded, .int cz, .int ct])), (cplace, .inl (ckplace, 3000, .inl cgplace))]) [0, 1, 2] rfl
    have hD9 := hD.sub (ws' := [(h0, .inr (5, [.ref mp, .ref gco, .ref mce, .int mcn, .ref sk, .int tp, .int ba, .ref kb, .ref kk, .ref ks, .int on, .ref sh, .int sn, .int mat, .int alw, .int st, .int mo, .int 5, .int sp_4, .long re])), (gco, .inr (2, [.ref cop, .ref ca, .ref cb, .ref cplace, .ref cnext, .ref cneeded, .int cz, .int ct])), (cplace, .inl (ckplace, 3000, .inl cgplace))]) [0, 1, 2] (by decide) rfl
    have hK9 := hK.sub (tys' := [(ckplace, .int)]) [0] rfl
    exact W.zret (v := 0) hx hb hr rfl (fun t ht hW => ⟨⟨0, (st, 5, sp_4), rfl, ⟨by omega, hq_5⟩, by rw [ht]; exact hP9, va_K.moved hW.alike hK9, hD9⟩, hS.F ht⟩) hS.2.2 dX5_step_18
set_option maxHeartbeats 4000000 in
set_option maxRecDepth 100000 in
theorem c_X5_goBehind (l : Launch) (dC : Nat → ClassId) (dI : Nat → Nat → Nat) (aK aV : Nat → Nat) (h0 : Nat) (mp : Nat) (gco : Nat) (mce : Nat) (sk : Nat) (kb : Nat) (kk : Nat) (ks : Nat) (sh : Nat) (mcn : Int32) (tp : Int32) (ba : Int32) (on : Int32) (sn : Int32) (mat : Int32) (alw : Int32) (st : Int32) (mo : Int32) (mh : Int32) (sp : Int32) (re : Int64) (cop : Nat) (ca : Nat) (cb : Nat) (cplace : Nat) (cnext : Nat) (cneeded : Nat) (cz : Int32) (ct : Int32) (cknext : ClassId) (cgnext : Nat → Int32) (qr : Int32) (sz : Nat) (hq0 : -1 ≤ qr.toInt) (hq1 : qr.toInt < 3000) : Met l yX5_goBehind (Cond.code yX5_goBehind cX5_goBehind 2 none :: zw) ({ frames := 8, cells := 0, slots := 0, locals := 200 }) (va_Pc [.ref h0, .int qr] (zP dC dI aK aV sz [(cknext, .int)] [(h0, .inr (5, [.ref mp, .ref gco, .ref mce, .int mcn, .ref sk, .int tp, .int ba, .ref kb, .ref kk, .ref ks, .int on, .ref sh, .int sn, .int mat, .int alw, .int st, .int mo, .int mh, .int sp, .long re])), (gco, .inr (2, [.ref cop, .ref ca, .ref cb, .ref cplace, .ref cnext, .ref cneeded, .int cz, .int ct])), (cnext, .inl (cknext, 3000, .inl cgnext))])) (va_Qv (fun u : Int32 => match u with | mat2 => (qr.toInt = -1 ∧ mat2.toInt = -1 ∨ qr.toInt ≠ -1 ∧ mat2 = cgnext (Int32.toNatClampNeg qr))) (fun u => match u with | mat2 => zQ dC dI (va_A [(h0, .inr (5, [.ref mp, .ref gco, .ref mce, .int mcn, .ref sk, .int tp, .int ba, .ref kb, .ref kk, .ref ks, .int on, .ref sh, .int sn, .int mat, .int alw, .int st, .int mo, .int mh, .int sp, .long re])), (gco, .inr (2, [.ref cop, .ref ca, .ref cb, .ref cplace, .ref cnext, .ref cneeded, .int cz, .int ct])), (cnext, .inl (cknext, 3000, .inl cgnext))] sz) [(cknext, .int)] [(h0, .inr (5, [.ref mp, .ref gco, .ref mce, .int mcn, .ref sk, .int tp, .int ba, .ref kb, .ref kk, .ref ks, .int on, .ref sh, .int sn, .int mat2, .int alw, .int st, .int mo, .int mh, .int sp, .long re])), (gco, .inr (2, [.ref cop, .ref ca, .ref cb, .ref cplace, .ref cnext, .ref cneeded, .int cz, .int ct])), (cnext, .inl (cknext, 3000, .inl cgnext))]) (va_A [(h0, .inr (5, [.ref mp, .ref gco, .ref mce, .int mcn, .ref sk, .int tp, .int ba, .ref kb, .ref kk, .ref ks, .int on, .ref sh, .int sn, .int mat, .int alw, .int st, .int mo, .int mh, .int sp, .long re])), (gco, .inr (2, [.ref cop, .ref ca, .ref cb, .ref cplace, .ref cnext, .ref cneeded, .int cz, .int ct])), (cnext, .inl (cknext, 3000, .inl cgnext))] sz)) 0 0 (va_A [(h0, .inr (5, [.ref mp, .ref gco, .ref mce, .int mcn, .ref sk, .int tp, .int ba, .ref kb, .ref kk, .ref ks, .int on, .ref sh, .int sn, .int mat, .int alw, .int st, .int mo, .int mh, .int sp, .long re])), (gco, .inr (2, [.ref cop, .ref ca, .ref cb, .ref cplace, .ref cnext, .ref cneeded, .int cz, .int ct])), (cnext, .inl (cknext, 3000, .inl cgnext))] sz) := by
  refine Met.ofW (cc := cX5_goBehind) (maxL := 2) (ret := none) (by decide) rfl ?_
  intro p e s m args below meth c s₁ B hml hv
  obtain ⟨rfl, hsz, hP, hK, hD0, hN, hT⟩ := hv
  have hx := B.exec
  have hb := B.bytes
  have hr := B.returns
  have hts := atoms_spec (ws := Cond.code yX5_goBehind cX5_goBehind 2 none :: zw) B.pre
  have hA : ∀ w ∈ zw, w.before _ s = true := fun w h => hts w (List.mem_cons_of_mem _ h)
  have hown : s.vm.findClass RX5 = some m.cls := findClass_of_methodNamed B.named
  have hlocks := B.notSynchronized
  subst hsz
  have hD := hD0.self (sz := s.heap.size)
  generalize hAe : va_A [(h0, .inr (5, [.ref mp, .ref gco, .ref mce, .int mcn, .ref sk, .int tp, .int ba, .ref kb, .ref kk, .ref ks, .int on, .ref sh, .int sn, .int mat, .int alw, .int st, .int mo, .int mh, .int sp, .long re])), (gco, .inr (2, [.ref cop, .ref ca, .ref cb, .ref cplace, .ref cnext, .ref cneeded, .int cz, .int ct])), (cnext, .inl (cknext, 3000, .inl cgnext))] s.heap.size = A at hD hT ⊢
  have hAA : ∀ q : Nat, s.heap.size ≤ q → A q := fun q h => by rw [← hAe]; exact Or.inr h
  have hS : va_S A s.heap s.heap [] := va_S.rf
  have hl := lv_entry ([.ref h0, .int qr]) (n := 2) (Nat.le_of_ble_eq_true rfl)
  rw [lg_entry_eq]
  generalize (lg_sl ([.ref h0, .int qr]) ++ List.replicate (2 - (lg_sl ([.ref h0, .int qr])).length) Slot.unset).toArray = ls at hl ⊢
  have hl : lv_has ls 2 [(0, .ref h0), (1, .int qr)] := hl
  refine lv_aload_n hx hb dX5_goBehind_0 rfl (lv_at hl 0 rfl) ?_
  refine lv_iload_n hx hb dX5_goBehind_1 rfl (lv_at hl 1 rfl) ?_
  refine lv_iconst (v := (-1)) hx hb dX5_goBehind_2 (by decide) ?_
  refine lv_icmp_ne (tgt := 10) hx hb dX5_goBehind_3 (by decide) (fun c_1 => ?_) (fun c_1 => ?_)
  · have ic_1 : qr.toInt ≠ (-1) := zi_ne c_1
    refine lv_aload_n hx hb dX5_goBehind_10 rfl (lv_at hl 0 rfl) ?_
    refine va_get (D := (dC, dI)) (ci := 5) (v := .ref gco) (C := RX5) (T := TX5) (N := 20) hx hb hA zin_X5 hown hK hP 0 rfl rfl 1 (by decide) (hA _ wi_485) (fun _ h9 => h9) rfl dX5_goBehind_11 ?_
    refine va_get (D := (dC, dI)) (ci := 2) (v := .ref cnext) (C := RX2) (T := TX2) (N := 8) hx hb hA zin_X2 hown hK hP 1 rfl rfl 4 (by decide) (hA _ wi_193) (fun _ h9 => h9) rfl dX5_goBehind_14 ?_
    refine lv_iload_n hx hb dX5_goBehind_17 rfl (lv_at hl 1 rfl) ?_
    refine va_iald hx hb hK hP 2 0 rfl rfl (vp_in_iff.mpr ⟨by omega, by omega⟩) dX5_goBehind_18 ?_
    refine lv_topi (fun x_2 ex_2 => ?_)
    refine va_put (D := (dC, dI)) (ci := 5) (v := .int x_2) (ty := .int) (C := RX5) (T := TX5) (N := 20) hx hb hA zin_X5 tyX5 tyX5_ok nmX5 hown hK hP hD hS 0 rfl rfl 13 (by decide) (hA _ wi_497) (fun _ h9 => h9) rfl (by decide +kernel) rfl rfl (Nat.le_of_ble_eq_true rfl) dX5_goBehind_19 (fun H locs hP hD hS => ?_)
    have hP : va_P (dC, dI) vwCl [(h0, .inr (5, [.ref mp, .ref gco, .ref mce, .int mcn, .ref sk, .int tp, .int ba, .ref kb, .ref kk, .ref ks, .int on, .ref sh, .int sn, .int x_2, .int alw, .int st, .int mo, .int mh, .int sp, .long re])), (gco, .inr (2, [.ref cop, .ref ca, .ref cb, .ref cplace, .ref cnext, .ref cneeded, .int cz, .int ct])), (cnext, .inl (cknext, 3000, .inl cgnext))] H := hP
    have hD : va_D A [(h0, .inr (5, [.ref mp, .ref gco, .ref mce, .int mcn, .ref sk, .int tp, .int ba, .ref kb, .ref kk, .ref ks, .int on, .ref sh, .int sn, .int x_2, .int alw, .int st, .int mo, .int mh, .int sp, .long re])), (gco, .inr (2, [.ref cop, .ref ca, .ref cb, .ref cplace, .ref cnext, .ref cneeded, .int cz, .int ct])), (cnext, .inl (cknext, 3000, .inl cgnext))] := hD
    have hP9 := hP.sub (ws' := [(h0, .inr (5, [.ref mp, .ref gco, .ref mce, .int mcn, .ref sk, .int tp, .int ba, .ref kb, .ref kk, .ref ks, .int on, .ref sh, .int sn, .int x_2, .int alw, .int st, .int mo, .int mh, .int sp, .long re])), (gco, .inr (2, [.ref cop, .ref ca, .ref cb, .ref cplace, .ref cnext, .ref cneeded, .int cz, .int ct])), (cnext, .inl (cknext, 3000, .inl cgnext))]) [0, 1, 2] rfl
    have hD9 := hD.sub (ws' := [(h0, .inr (5, [.ref mp, .ref gco, .ref mce, .int mcn, .ref sk, .int tp, .int ba, .ref kb, .ref kk, .ref ks, .int on, .ref sh, .int sn, .int x_2, .int alw, .int st, .int mo, .int mh, .int sp, .long re])), (gco, .inr (2, [.ref cop, .ref ca, .ref cb, .ref cplace, .ref cnext, .ref cneeded, .int cz, .int ct])), (cnext, .inl (cknext, 3000, .inl cgnext))]) [0, 1, 2] (by decide) rfl
    have hK9 := hK.sub (tys' := [(cknext, .int)]) [0] rfl
    exact W.vret hx hb hr (fun t ht hW => ⟨⟨(x_2), rfl, (Or.inr ⟨by omega, ex_2⟩), by rw [ht]; exact hP9, va_K.moved hW.alike hK9, hD9⟩, hS.F ht⟩) hS.2.2 dX5_goBehind_22
  · have ic_1 : qr.toInt = (-1) := zi_eq c_1
    refine lv_iconst (v := (-1)) hx hb dX5_goBehind_6 (by decide) ?_
    refine lv_goto (tgt := 19) hx hb dX5_goBehind_7 (by decide) ?_
    refine va_put (D := (dC, dI)) (ci := 5) (v := .int (-1)) (ty := .int) (C := RX5) (T := TX5) (N := 20) hx hb hA zin_X5 tyX5 tyX5_ok nmX5 hown hK hP hD hS 0 rfl rfl 13 (by decide) (hA _ wi_497) (fun _ h9 => h9) rfl (by decide +kernel) rfl rfl (Nat.le_of_ble_eq_true rfl) dX5_goBehind_19 (fun H locs hP hD hS => ?_)
    have hP : va_P (dC, dI) vwCl [(h0, .inr (5, [.ref mp, .ref gco, .ref mce, .int mcn, .ref sk, .int tp, .int ba, .ref kb, .ref kk, .ref ks, .int on, .ref sh, .int sn, .int (-1), .int alw, .int st, .int mo, .int mh, .int sp, .long re])), (gco, .inr (2, [.ref cop, .ref ca, .ref cb, .ref cplace, .ref cnext, .ref cneeded, .int cz, .int ct])), (cnext, .inl (cknext, 3000, .inl cgnext))] H := hP
    have hD : va_D A [(h0, .inr (5, [.ref mp, .ref gco, .ref mce, .int mcn, .ref sk, .int tp, .int ba, .ref kb, .ref kk, .ref ks, .int on, .ref sh, .int sn, .int (-1), .int alw, .int st, .int mo, .int mh, .int sp, .long re])), (gco, .inr (2, [.ref cop, .ref ca, .ref cb, .ref cplace, .ref cnext, .ref cneeded, .int cz, .int ct])), (cnext, .inl (cknext, 3000, .inl cgnext))] := hD
    have hP9 := hP.sub (ws' := [(h0, .inr (5, [.ref mp, .ref gco, .ref mce, .int mcn, .ref sk, .int tp, .int ba, .ref kb, .ref kk, .ref ks, .int on, .ref sh, .int sn, .int (-1), .int alw, .int st, .int mo, .int mh, .int sp, .long re])), (gco, .inr (2, [.ref cop, .ref ca, .ref cb, .ref cplace, .ref cnext, .ref cneeded, .int cz, .int ct])), (cnext, .inl (cknext, 3000, .inl cgnext))]) [0, 1, 2] rfl
    have hD9 := hD.sub (ws' := [(h0, .inr (5, [.ref mp, .ref gco, .ref mce, .int mcn, .ref sk, .int tp, .int ba, .ref kb, .ref kk, .ref ks, .int on, .ref sh, .int sn, .int (-1), .int alw, .int st, .int mo, .int mh, .int sp, .long re])), (gco, .inr (2, [.ref cop, .ref ca, .ref cb, .ref cplace, .ref cnext, .ref cneeded, .int cz, .int ct])), (cnext, .inl (cknext, 3000, .inl cgnext))]) [0, 1, 2] (by decide) rfl
    have hK9 := hK.sub (tys' := [(cknext, .int)]) [0] rfl
    exact W.vret hx hb hr (fun t ht hW => ⟨⟨((-1)), rfl, (Or.inl ⟨by omega, by decide⟩), by rw [ht]; exact hP9, va_K.moved hW.alike hK9, hD9⟩, hS.F ht⟩) hS.2.2 dX5_goBehind_22
set_option maxHeartbeats 4000000 in
set_option maxRecDepth 100000 in
theorem c_X5_has (l : Launch) (dC : Nat → ClassId) (dI : Nat → Nat → Nat) (aK aV : Nat → Nat) (na : Int32) (sl : Int32) (sz : Nat) (hs0 : 0 ≤ sl.toInt) (hs1 : sl.toInt < 32) : Met l yX5_has (Cond.code yX5_has cX5_has 2 (some .boolean) :: zw) ({ frames := 8, cells := 0, slots := 0, locals := 200 }) (va_Pc [.int na, .int sl] (zP dC dI aK aV sz [] [])) (va_Qi (fun (r : Int32) (u : Unit) => (r.toInt = 1 ∧ zbit na (Int32.toNatClampNeg sl) = true ∨ r.toInt = 0 ∧ zbit na (Int32.toNatClampNeg sl) = false)) (fun u => zQ dC dI (va_A [] sz) [] []) (va_A [] sz)) 0 0 (va_A [] sz) := by
  refine Met.ofW (cc := cX5_has) (maxL := 2) (ret := (some .boolean)) (by decide) rfl ?_
  intro p e s m args below meth c s₁ B hml hv
  obtain ⟨rfl, hsz, hP, hK, hD0, hN, hT⟩ := hv
  have hx := B.exec
  have hb := B.bytes
  have hr := B.returns
  have hts := atoms_spec (ws := Cond.code yX5_has cX5_has 2 (some .boolean) :: zw) B.pre
  have hA : ∀ w ∈ zw, w.before _ s = true := fun w h => hts w (List.mem_cons_of_mem _ h)
  have hown : s.vm.findClass RX5 = some m.cls := findClass_of_methodNamed B.named
  have hlocks := B.notSynchronized
  subst hsz
  have hD := hD0.self (sz := s.heap.size)
  generalize hAe : va_A [] s.heap.size = A at hD hT ⊢
  have hAA : ∀ q : Nat, s.heap.size ≤ q → A q := fun q h => by rw [← hAe]; exact Or.inr h
  have hS : va_S A s.heap s.heap [] := va_S.rf
  have hl := lv_entry ([.int na, .int sl]) (n := 2) (Nat.le_of_ble_eq_true rfl)
  rw [lg_entry_eq]
  generalize (lg_sl ([.int na, .int sl]) ++ List.replicate (2 - (lg_sl ([.int na, .int sl])).length) Slot.unset).toArray = ls at hl ⊢
  have hl : lv_has ls 2 [(0, .int na), (1, .int sl)] := hl
  refine lv_iload_n hx hb dX5_has_0 rfl (lv_at hl 0 rfl) ?_
  refine lv_iload_n hx hb dX5_has_1 rfl (lv_at hl 1 rfl) ?_
  refine lv_ishr hx hb dX5_has_2 ?_
  refine lv_topi (fun x_1 ex_1 => ?_)
  refine lv_iconst (v := 1) hx hb dX5_has_3 (by decide) ?_
  refine lv_iand hx hb dX5_has_4 ?_
  refine lv_topi (fun x_2 ex_2 => ?_)
  refine lv_iconst (v := 1) hx hb dX5_has_5 (by decide) ?_
  refine lv_icmp_ne (tgt := 13) hx hb dX5_has_6 (by decide) (fun c_3 => ?_) (fun c_3 => ?_)
  · have ic_3 : x_2.toInt ≠ 1 := zi_ne c_3
    refine lv_iconst (v := 0) hx hb dX5_has_13 (by decide) ?_
    have hlit : Int32.toInt 0 = 0 := by decide
    have hP9 := hP.sub (ws' := []) [] rfl
    have hD9 := hD.sub (ws' := []) [] (by decide) rfl
    have hK9 := hK.sub (tys' := []) [] rfl
    exact W.zret (v := 0) hx hb hr rfl (fun t ht hW => ⟨⟨0, (), rfl, (Or.inr ⟨by decide, by rw [← zbit_sr (x := na) hs0 hs1, ← ex_1]; exact zbf (fun g => by have h8 := zi_eq (zbit_and1.mpr g); have h9 : Int32.toInt 1 = 1 := (by decide); rw [← ex_2] at h8; omega)⟩), by rw [ht]; exact hP9, va_K.moved hW.alike hK9, hD9⟩, hS.F ht⟩) hS.2.2 dX5_has_14
  · have ic_3 : x_2.toInt = 1 := zi_eq c_3
    refine lv_iconst (v := 1) hx hb dX5_has_9 (by decide) ?_
    refine lv_goto (tgt := 14) hx hb dX5_has_10 (by decide) ?_
    have hlit : Int32.toInt 1 = 1 := by decide
    have hP9 := hP.sub (ws' := []) [] rfl
    have hD9 := hD.sub (ws' := []) [] (by decide) rfl
    have hK9 := hK.sub (tys' := []) [] rfl
    exact W.zret (v := 1) hx hb hr rfl (fun t ht hW => ⟨⟨1, (), rfl, (Or.inl ⟨by decide, by rw [← zbit_sr (x := na) hs0 hs1]; exact zbit_and1.mp (by rw [← ex_1, ← ex_2]; exact Int32.toInt_inj.mp (by have h9 : Int32.toInt 1 = 1 := (by decide); omega))⟩), by rw [ht]; exact hP9, va_K.moved hW.alike hK9, hD9⟩, hS.F ht⟩) hS.2.2 dX5_has_14
set_option maxHeartbeats 4000000 in
set_option maxRecDepth 100000 in
theorem c_X5_toldBits (l : Launch) (dC : Nat → ClassId) (dI : Nat → Nat → Nat) (aK aV : Nat → Nat) (h0 : Nat) (mp : Nat) (gco : Nat) (mce : Nat) (sk : Nat) (kb : Nat) (kk : Nat) (ks : Nat) (sh : Nat) (mcn : Int32) (tp : Int32) (ba : Int32) (on : Int32) (sn : Int32) (mat : Int32) (alw : Int32) (st : Int32) (mo : Int32) (mh : Int32) (sp : Int32) (re : Int64) (gar : Nat) (gki : Nat) (gfu : Nat) (fw : Nat) (fe : Nat) (ff : Nat) (f1 : ClassId) (f2 : ClassId) (f3 : ClassId) (fz : Int32) (fgw : Nat → Int64) (fge : Nat → Int32) (fgf : Nat → Int32) (fu : Int32) (sz : Nat) (hf0 : 0 ≤ fz.toInt) (hf1 : fz.toInt ≤ 30) (hu0 : 0 ≤ fu.toInt) (hu1 : fu.toInt < fz.toInt) (htd : 0 ≤ (fgf (5 * Int32.toNatClampNeg fu)).toInt ∧ (fgf (5 * Int32.toNatClampNeg fu)).toInt ≤ 6) : Met l yX5_toldBits (Cond.code yX5_toldBits cX5_toldBits 2 (some .int) :: zw) ({ frames := 12, cells := 0, slots := 0, locals := 400 }) (va_Pc [.ref h0, .int fu] (zP dC dI aK aV sz [(f1, .long), (f2, .int), (f3, .int)] [(h0, .inr (5, [.ref mp, .ref gco, .ref mce, .int mcn, .ref sk, .int tp, .int ba, .ref kb, .ref kk, .ref ks, .int on, .ref sh, .int sn, .int mat, .int alw, .int st, .int mo, .int mh, .int sp, .long re])), (mp, .inr (9, [.ref gco, .ref gar, .ref gki, .ref gfu])), (gfu, .inr (3, [.ref fw, .ref fe, .ref ff, .int fz])), (fw, .inl (f1, 30, .inr (.inl fgw))), (fe, .inl (f2, 30, .inl fge)), (ff, .inl (f3, 150, .inl fgf))])) (va_Qi (fun (r : Int32) (u : Unit) => (∀ k, k < 32 → zbit r k = decide ((k : Int) < (fgf (5 * Int32.toNatClampNeg fu)).toInt))) (fun u => zQ dC dI (va_A [(h0, .inr (5, [.ref mp, .ref gco, .ref mce, .int mcn, .ref sk, .int tp, .int ba, .ref kb, .ref kk, .ref ks, .int on, .ref sh, .int sn, .int mat, .int alw, .int st, .int mo, .int mh, .int sp, .long re])), (mp, .inr (9, [.ref gco, .ref gar, .ref gki, .ref gfu])), (gfu, .inr (3, [.ref fw, .ref fe, .ref ff, .int fz])), (fw, .inl (f1, 30, .inr (.inl fgw))), (fe, .inl (f2, 30, .inl fge)), (ff, .inl (f3, 150, .inl fgf))] sz) [(f1, .long), (f2, .int), (f3, .int)] [(h0, .inr (5, [.ref mp, .ref gco, .ref mce, .int mcn, .ref sk, .int tp, .int ba, .ref kb, .ref kk, .ref ks, .int on, .ref sh, .int sn, .int mat, .int alw, .int st, .int mo, .int mh, .int sp, .long re])), (mp, .inr (9, [.ref gco, .ref gar, .ref gki, .ref gfu])), (gfu, .inr (3, [.ref fw, .ref fe, .ref ff, .int fz])), (fw, .inl (f1, 30, .inr (.inl fgw))), (fe, .inl (f2, 30, .inl fge)), (ff, .inl (f3, 150, .inl fgf))]) (va_A [(h0, .inr (5, [.ref mp, .ref gco, .ref mce, .int mcn, .ref sk, .int tp, .int ba, .ref kb, .ref kk, .ref ks, .int on, .ref sh, .int sn, .int mat, .int alw, .int st, .int mo, .int mh, .int sp, .long re])), (mp, .inr (9, [.ref gco, .ref gar, .ref gki, .ref gfu])), (gfu, .inr (3, [.ref fw, .ref fe, .ref ff, .int fz])), (fw, .inl (f1, 30, .inr (.inl fgw))), (fe, .inl (f2, 30, .inl fge)), (ff, .inl (f3, 150, .inl fgf))] sz)) 0 0 (va_A [(h0, .inr (5, [.ref mp, .ref gco, .ref mce, .int mcn, .ref sk, .int tp, .int ba, .ref kb, .ref kk, .ref ks, .int on, .ref sh, .int sn, .int mat, .int alw, .int st, .int mo, .int mh, .int sp, .long re])), (mp, .inr (9, [.ref gco, .ref gar, .ref gki, .ref gfu])), (gfu, .inr (3, [.ref fw, .ref fe, .ref ff, .int fz])), (fw, .inl (f1, 30, .inr (.inl fgw))), (fe, .inl (f2, 30, .inl fge)), (ff, .inl (f3, 150, .inl fgf))] sz) := by
  refine Met.ofW (cc := cX5_toldBits) (maxL := 2) (ret := (some .int)) (by decide) rfl ?_
  intro p e s m args below meth c s₁ B hml hv
  obtain ⟨rfl, hsz, hP, hK, hD0, hN, hT⟩ := hv
  have hx := B.exec
  have hb := B.bytes
  have hr := B.returns
  have hts := atoms_spec (ws := Cond.code yX5_toldBits cX5_toldBits 2 (some .int) :: zw) B.pre
  have hA : ∀ w ∈ zw, w.before _ s = true := fun w h => hts w (List.mem_cons_of_mem _ h)
  have hown : s.vm.findClass RX5 = some m.cls := findClass_of_methodNamed B.named
  have hlocks := B.notSynchronized
  subst hsz
  have hD := hD0.self (sz := s.heap.size)
  generalize hAe : va_A [(h0, .inr (5, [.ref mp, .ref gco, .ref mce, .int mcn, .ref sk, .int tp, .int ba, .ref kb, .ref kk, .ref ks, .int on, .ref sh, .int sn, .int mat, .int alw, .int st, .int mo, .int mh, .int sp, .long re])), (mp, .inr (9, [.ref gco, .ref gar, .ref gki, .ref gfu])), (gfu, .inr (3, [.ref fw, .ref fe, .ref ff, .int fz])), (fw, .inl (f1, 30, .inr (.inl fgw))), (fe, .inl (f2, 30, .inl fge)), (ff, .inl (f3, 150, .inl fgf))] s.heap.size = A at hD hT ⊢
  have hAA : ∀ q : Nat, s.heap.size ≤ q → A q := fun q h => by rw [← hAe]; exact Or.inr h
  have hS : va_S A s.heap s.heap [] := va_S.rf
  have hl := lv_entry ([.ref h0, .int fu]) (n := 2) (Nat.le_of_ble_eq_true rfl)
  rw [lg_entry_eq]
  generalize (lg_sl ([.ref h0, .int fu]) ++ List.replicate (2 - (lg_sl ([.ref h0, .int fu])).length) Slot.unset).toArray = ls at hl ⊢
  have hl : lv_has ls 2 [(0, .ref h0), (1, .int fu)] := hl
  refine lv_iconst (v := 1) hx hb dX5_toldBits_0 (by decide) ?_
  refine lv_aload_n hx hb dX5_toldBits_1 rfl (lv_at hl 0 rfl) ?_
  refine va_get (D := (dC, dI)) (ci := 5) (v := .ref mp) (C := RX5) (T := TX5) (N := 20) hx hb hA zin_X5 hown hK hP 0 rfl rfl 0 (by decide) (hA _ wi_484) (fun _ h9 => h9) rfl dX5_toldBits_2 ?_
  refine va_get (D := (dC, dI)) (ci := 9) (v := .ref gfu) (C := RX9) (T := TX9) (N := 4) hx hb hA zin_X9 hown hK hP 1 rfl rfl 3 (by decide) (hA _ wi_324) (fun _ h9 => h9) rfl dX5_toldBits_5 ?_
  refine lv_iload_n hx hb dX5_toldBits_8 rfl (lv_at hl 1 rfl) ?_
  refine lv_iconst (v := 0) hx hb dX5_toldBits_9 (by decide) ?_
  have hPc := hP.sub (ws' := [(gfu, .inr (3, [.ref fw, .ref fe, .ref ff, .int fz])), (fw, .inl (f1, 30, .inr (.inl fgw))), (fe, .inl (f2, 30, .inl fge)), (ff, .inl (f3, 150, .inl fgf))]) [2, 3, 4, 5] rfl
  have hDc := hD.sub (ws' := [(gfu, .inr (3, [.ref fw, .ref fe, .ref ff, .int fz])), (fw, .inl (f1, 30, .inr (.inl fgw))), (fe, .inl (f2, 30, .inl fge)), (ff, .inl (f3, 150, .inl fgf))]) [2, 3, 4, 5] (by decide) rfl
  have hKc := hK.sub (tys' := [(f1, .long), (f2, .int), (f3, .int)]) [0, 1, 2] rfl
  have hFc := va_free (wc := [(gfu, .inr (3, [.ref fw, .ref fe, .ref ff, .int fz])), (fw, .inl (f1, 30, .inr (.inl fgw))), (fe, .inl (f2, 30, .inl fge)), (ff, .inl (f3, 150, .inl fgf))]) hD hS hAA [2, 3, 4, 5] rfl
  refine va_calli (va_runV (As := [.int fu, .int 0]) (rest := [.int 1]) ⟨hx, hb, hml, hown, hA⟩ (c_X3_fact_x l dC dI aK aV gfu fw fe ff f1 f2 f3 fz fgw fge fgf fu 0 s.heap.size (by omega) (by omega) (by omega) (by omega) (by have h9_0 : Int32.toInt 0 = 0 := (by decide); omega) (by have h9_0 : Int32.toInt 0 = 0 := (by decide); omega)) (cwV 2 hA (zw_V wi_1118 wi_907 wi_908 wi_135 (zw_good wi_909)) rfl rfl rfl (by decide +kernel) ⟨(Nat.le_of_ble_eq_true rfl), (Nat.le_of_ble_eq_true rfl)⟩) ⟨zP_blind, va_recv hKc hPc (ci := 3) (q0 := 0) rfl rfl, zz_pre hKc hPc hDc hN hT hS hFc⟩ rfl rfl hl.1 rfl (lv_room (Nat.le_of_ble_eq_true rfl)) dX5_toldBits_10 ⟨(Nat.le_of_ble_eq_true rfl), (Nat.le_of_ble_eq_true rfl)⟩) hS (fun q _ h => hFc q h) hFc (fun r_1 u t H1 locs ht hvm hw hB hz1 hk1 hS => ?_)
  obtain ⟨hP1, hK1, hD1⟩ := hB
  rw [ht] at hP1
  have hK1 := va_K.moved hvm.symm hK1
  obtain ⟨hP, hD⟩ := va_join (wr := [(h0, .inr (5, [.ref mp, .ref gco, .ref mce, .int mcn, .ref sk, .int tp, .int ba, .ref kb, .ref kk, .ref ks, .int on, .ref sh, .int sn, .int mat, .int alw, .int st, .int mo, .int mh, .int sp, .long re])), (mp, .inr (9, [.ref gco, .ref gar, .ref gki, .ref gfu]))]) (w1 := [(gfu, .inr (3, [.ref fw, .ref fe, .ref ff, .int fz])), (fw, .inl (f1, 30, .inr (.inl fgw))), (fe, .inl (f2, 30, .inl fge)), (ff, .inl (f3, 150, .inl fgf))]) hP hD [2, 3, 4, 5] [0, 1] rfl rfl (by decide) (by decide) hk1 hFc hP1 hD1
  have hK := (hK.sub (tys' := []) [] rfl).app hK1
  generalize H1 = H at hP hS ⊢
  have hP : va_P (dC, dI) vwCl [(h0, .inr (5, [.ref mp, .ref gco, .ref mce, .int mcn, .ref sk, .int tp, .int ba, .ref kb, .ref kk, .ref ks, .int on, .ref sh, .int sn, .int mat, .int alw, .int st, .int mo, .int mh, .int sp, .long re])), (mp, .inr (9, [.ref gco, .ref gar, .ref gki, .ref gfu])), (gfu, .inr (3, [.ref fw, .ref fe, .ref ff, .int fz])), (fw, .inl (f1, 30, .inr (.inl fgw))), (fe, .inl (f2, 30, .inl fge)), (ff, .inl (f3, 150, .inl fgf))] H := hP
  have hD : va_D A [(h0, .inr (5, [.ref mp, .ref gco, .ref mce, .int mcn, .ref sk, .int tp, .int ba, .ref kb, .ref kk, .ref ks, .int on, .ref sh, .int sn, .int mat, .int alw, .int st, .int mo, .int mh, .int sp, .long re])), (mp, .inr (9, [.ref gco, .ref gar, .ref gki, .ref gfu])), (gfu, .inr (3, [.ref fw, .ref fe, .ref ff, .int fz])), (fw, .inl (f1, 30, .inr (.inl fgw))), (fe, .inl (f2, 30, .inl fge)), (ff, .inl (f3, 150, .inl fgf))] := hD
  have hK : va_K (dC, dI) vwCl [(f1, .long), (f2, .int), (f3, .int)] s := hK
  have hw_r_1 := hw
  try dsimp only at hw_r_1
  have hq_2 := hw
  have htf9 : r_1 = fgf (5 * Int32.toNatClampNeg fu) := by rw [hq_2]; exact congrArg fgf (by have h9 : Int32.toNatClampNeg 0 = 0 := (by decide); omega)
  refine lv_ishl hx hb dX5_toldBits_13 ?_
  refine lv_topi (fun x_3 ex_3 => ?_)
  refine lv_iconst (v := 1) hx hb dX5_toldBits_14 (by decide) ?_
  refine lv_isub hx hb dX5_toldBits_15 ?_
  refine lv_topi (fun x_4 ex_4 => ?_)
  have hP9 := hP.sub (ws' := [(h0, .inr (5, [.ref mp, .ref gco, .ref mce, .int mcn, .ref sk, .int tp, .int ba, .ref kb, .ref kk, .ref ks, .int on, .ref sh, .int sn, .int mat, .int alw, .int st, .int mo, .int mh, .int sp, .long re])), (mp, .inr (9, [.ref gco, .ref gar, .ref gki, .ref gfu])), (gfu, .inr (3, [.ref fw, .ref fe, .ref ff, .int fz])), (fw, .inl (f1, 30, .inr (.inl fgw))), (fe, .inl (f2, 30, .inl fge)), (ff, .inl (f3, 150, .inl fgf))]) [0, 1, 2, 3, 4, 5] rfl
  have hD9 := hD.sub (ws' := [(h0, .inr (5, [.ref mp, .ref gco, .ref mce, .int mcn, .ref sk, .int tp, .int ba, .ref kb, .ref kk, .ref ks, .int on, .ref sh, .int sn, .int mat, .int alw, .int st, .int mo, .int mh, .int sp, .long re])), (mp, .inr (9, [.ref gco, .ref gar, .ref gki, .ref gfu])), (gfu, .inr (3, [.ref fw, .ref fe, .ref ff, .int fz])), (fw, .inl (f1, 30, .inr (.inl fgw))), (fe, .inl (f2, 30, .inl fge)), (ff, .inl (f3, 150, .inl fgf))]) [0, 1, 2, 3, 4, 5] (by decide) rfl
  have hK9 := hK.sub (tys' := [(f1, .long), (f2, .int), (f3, .int)]) [0, 1, 2] rfl
  exact W.iret (v := x_4) hx hb hr (fun t ht hW => ⟨⟨x_4, (), rfl, (fun k hk => by rw [ex_4, ex_3, htf9]; exact zbit_td htd.1 htd.2 hk), by rw [ht]; exact hP9, va_K.moved hW.alike hK9, hD9⟩, hS.F ht⟩) hS.2.2 dX5_toldBits_16

end
